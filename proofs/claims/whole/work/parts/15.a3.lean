/-! ===== Archive: the methods that write ===== -/
def addCopyS (st : Ar) (p f sp : Nat) : Ar := aF (aF (aF st 6 (va_up (st.2.2 6) p (st.2.2 6 p ||| 2 ^ f))) 8 (va_up (st.2.2 8) (10 * p + f) sp)) 4 (va_up (st.2.2 4) f (st.2.2 4 f + 1))
def addFamS (st : Ar) (nm : Int64) (r : Nat) : Ar := aI (aF (aL st 0 (vp_updL (st.2.1 0) (st.1 1) nm)) 0 (va_up (st.2.2 0) (st.1 1) r)) 1 (st.1 1 + 1)
def addPicS (st : Ar) (nm : Int64) (r : Nat) : Ar := aI (aF (aL st 1 (vp_updL (st.2.1 1) (st.1 2) nm)) 5 (va_up (st.2.2 5) (st.1 2) r)) 2 (st.1 2 + 1)
def nbS1 (st : Ar) (a b : Nat) : Ar := aF st 1 (va_up (st.2.2 1) a (st.2.2 1 a ||| 2 ^ b))
def nbS (st : Ar) (a b : Nat) : Ar := nbS1 (nbS1 st a b) b a
def spoilS (st : Ar) (f t : Nat) : Nat → Ar
  | 0 => st
  | n + 1 => if hasB (spoilS st f t n) n f then aF (spoilS st f t n) 8 (va_up ((spoilS st f t n).2.2 8) (10 * n + f) ((spoilS st f t n).2.2 8 (10 * n + f) ||| t)) else spoilS st f t n
def rightB (st : Ar) (p f t : Nat) : Bool := !(st.2.2 8 (10 * p + f)).testBit t
def ansS (st : Ar) (p f t : Nat) : Ar := if rightB st p f t then aF (aI st 3 (st.1 3 + 1)) 2 (va_up (st.2.2 2) f (st.2.2 2 f + 1)) else aF (aF (aF (aI st 3 (st.1 3 + 1)) 3 (va_up (st.2.2 3) f (st.2.2 3 f + 1))) 6 (va_up (st.2.2 6) p (andn (st.2.2 6 p) (2 ^ f)))) 7 (va_up (st.2.2 7) p (st.2.2 7 p ||| 2 ^ f))
def nxtX (x : Nat) : Nat := (1103515245 * x + 12345) % 2 ^ 31
def rndI (s : Ar × Nat) (p : Nat) : Nat → Ar × Nat
  | 0 => s
  | n + 1 => if heldB (rndI s p n).1 p n then (ansS (rndI s p n).1 p n (nxtX (rndI s p n).2 / 65536 % (rndI s p n).1.1 0), nxtX (rndI s p n).2) else rndI s p n
def rndO (s : Ar × Nat) : Nat → Ar × Nat
  | 0 => s
  | n + 1 => rndI (rndO s n) n (s.1.1 1)
def mendS (st : Ar) (p f s : Nat) : Ar := aI (aF (aF (aF st 8 (va_up (st.2.2 8) (10 * p + f) (spAll st p s (st.1 1)))) 6 (va_up (st.2.2 6) p (st.2.2 6 p ||| 2 ^ f))) 7 (va_up (st.2.2 7) p (andn (st.2.2 7 p) (2 ^ f)))) 4 (st.1 4 + 1)
def repI (s : Ar × Nat) (p hb : Nat) : Nat → Ar × Nat
  | 0 => s
  | n + 1 => if brkB (repI s p hb n).1 p n && decide ((repI s p hb n).1.2.2 1 n &&& hb ≠ 0) then (mendS (repI s p hb n).1 p n ((repI s p hb n).1.2.2 1 n &&& hb), (repI s p hb n).2 + 1) else repI s p hb n
def repO (st : Ar) : Nat → Ar × Nat
  | 0 => (st, 0)
  | n + 1 => repI (repO st n) n ((repO st n).1.2.2 6 n) (st.1 1)
/-! what stays as it was -/
theorem ansS_const {st : Ar} {p f t i : Nat} (hi : i ≠ 3) : (ansS st p f t).1 i = st.1 i := by
  unfold ansS
  split <;> simp [aF, aI, va_up, hi]
theorem rndI_const {s : Ar × Nat} {p i : Nat} (hi : i ≠ 3) : ∀ n, (rndI s p n).1.1 i = s.1.1 i := by
  intro n
  induction n with
  | zero => rfl
  | succ n ih =>
    rw [rndI]
    split
    · exact (ansS_const hi).trans ih
    · exact ih
theorem rndO_const {s : Ar × Nat} {i : Nat} (hi : i ≠ 3) : ∀ n, (rndO s n).1.1 i = s.1.1 i := by
  intro n
  induction n with
  | zero => rfl
  | succ n ih => exact (rndI_const hi _).trans ih
theorem mendS_const {st : Ar} {p f s i : Nat} (hi : i ≠ 4) : (mendS st p f s).1 i = st.1 i := by
  simp [mendS, aF, aI, va_up, hi]
theorem repI_const {s : Ar × Nat} {p hb i : Nat} (hi : i ≠ 4) : ∀ n, (repI s p hb n).1.1 i = s.1.1 i := by
  intro n
  induction n with
  | zero => rfl
  | succ n ih =>
    rw [repI]
    split
    · exact (mendS_const hi).trans ih
    · exact ih
theorem repO_const {st : Ar} {i : Nat} (hi : i ≠ 4) : ∀ n, (repO st n).1.1 i = st.1 i := by
  intro n
  induction n with
  | zero => rfl
  | succ n ih => exact (repI_const hi _).trans ih
theorem spoilS_1 {st : Ar} {f t : Nat} : ∀ n, (spoilS st f t n).1 = st.1 := by
  intro n
  induction n with
  | zero => rfl
  | succ n ih =>
    rw [spoilS]
    split
    · exact ih
    · exact ih
theorem spoilS_ne {st : Ar} {f t j : Nat} (hj : j ≠ 8) : ∀ n, (spoilS st f t n).2.2 j = st.2.2 j := by
  intro n
  induction n with
  | zero => rfl
  | succ n ih =>
    rw [spoilS]
    split
    · simp [aF, va_up, hj, ih]
    · exact ih
/-! the ranges stay -/
theorem or_lt {a f n : Nat} (ha : a < 2 ^ n) (hf : f < n) : a ||| 2 ^ f < 2 ^ n := Nat.or_lt_two_pow ha (Nat.pow_lt_pow_right (by decide) hf)
theorem aOk.cells {st : Ar} (hw : aOk st) {f : Nat → Nat} (h : ∀ i, i < 120 → f i < 2 ^ st.1 0) : aOk (aF st 8 f) := by
  obtain ⟨h1, h2, h3, h4, h5, h6, h7, h8⟩ := hw
  exact ⟨h1, h2, h3, h4, h5, h, h7, h8⟩
theorem aOk.heldS {st : Ar} (hw : aOk st) {f : Nat → Nat} (h : ∀ i, i < 12 → f i < 2 ^ st.1 1) : aOk (aF st 6 f) := by
  obtain ⟨h1, h2, h3, h4, h5, h6, h7, h8⟩ := hw
  exact ⟨h1, h2, h3, fun p hp => ⟨h p hp, (h4 p hp).2⟩, h5, h6, h7, h8⟩
theorem aOk.brkS {st : Ar} (hw : aOk st) {f : Nat → Nat} (h : ∀ i, i < 12 → f i < 2 ^ st.1 1) : aOk (aF st 7 f) := by
  obtain ⟨h1, h2, h3, h4, h5, h6, h7, h8⟩ := hw
  exact ⟨h1, h2, h3, fun p hp => ⟨(h4 p hp).1, h p hp⟩, h5, h6, h7, h8⟩
theorem aOk.spoil {st : Ar} (hw : aOk st) {f t : Nat} (ht : t < 2 ^ st.1 0) (hf : f < 10) : ∀ n, n ≤ 12 → aOk (spoilS st f t n) := by
  intro n
  induction n with
  | zero => intro _; exact hw
  | succ n ih =>
    intro hn
    have hi := ih (by omega)
    rw [spoilS]
    split
    · refine hi.cells fun i hi9 => ?_
      unfold va_up
      split
      · exact Nat.or_lt_two_pow (hi.2.2.2.2.2.1 _ (by omega)) (by rw [spoilS_1]; exact ht)
      · exact hi.2.2.2.2.2.1 i hi9
    · exact hi
section A3
variable {g : xG} {l : Launch} {h : xH} {o : Nat} {st : Ar}
theorem c_addFamily (nm : Int64) {r : Nat} (hN : st.1 1 < 10) : xDet g l mX0_addFamily 0 0 0 [.ref o, .long nm, .int (nI r)] (putArch h o st) none (putArch h o (addFamS st nm r)) := by
  refine xMet.of (V := [some (.ref o), some (.long nm), none, some (.int (nI r))]) moX0_addFamily (Nat.le_of_ble_eq_true rfl) rfl ?_
  refine x_aload_n dX0_addFamily_0 rfl ?_
  refine x_getf dX0_addFamily_1 f_X0_50 putArch_at.o rfl ?_
  refine x_bipush (nI 10) dX0_addFamily_4 (by decide) ?_
  refine x_icmp_lt_n 10 dX0_addFamily_6 (by decide) (by omega) (by omega) (fun c => ?_) (fun c => ?_)
  · refine x_aload_n dX0_addFamily_10 rfl ?_
    refine x_getf dX0_addFamily_11 f_X0_9 putArch_at.o rfl ?_
    refine x_aload_n dX0_addFamily_14 rfl ?_
    refine x_getf dX0_addFamily_15 f_X0_50 putArch_at.o rfl ?_
    refine x_lload_n dX0_addFamily_18 rfl ?_
    refine xq_X0_familyNames dX0_addFamily_19 (by omega) ?_
    refine x_aload_n dX0_addFamily_20 rfl ?_
    refine x_getf dX0_addFamily_21 f_X0_15 putArch_at.o rfl ?_
    refine x_aload_n dX0_addFamily_24 rfl ?_
    refine x_getf dX0_addFamily_25 f_X0_50 putArch_at.o rfl ?_
    refine x_iload_n dX0_addFamily_28 rfl ?_
    refine xq_X0_rooms dX0_addFamily_29 (hN) ?_
    refine x_aload_n dX0_addFamily_30 rfl ?_
    refine x_dup dX0_addFamily_31 rfl ?_
    refine x_getf dX0_addFamily_32 f_X0_50 putArch_at.o rfl ?_
    refine x_iconst (nI 1) dX0_addFamily_35 (by decide) ?_
    refine x_iadd_n dX0_addFamily_36 ?_
    refine xq_X0_families dX0_addFamily_37 f_X0_50 ?_
    exact x_vret dX0_addFamily_40 rfl (by decide) (by decide) rfl (rfl)
  · omega
theorem c_addPicture (nm : Int64) {r : Nat} (hN : st.1 2 < 12) : xDet g l mX0_addPicture 0 0 0 [.ref o, .long nm, .int (nI r)] (putArch h o st) none (putArch h o (addPicS st nm r)) := by
  refine xMet.of (V := [some (.ref o), some (.long nm), none, some (.int (nI r))]) moX0_addPicture (Nat.le_of_ble_eq_true rfl) rfl ?_
  refine x_aload_n dX0_addPicture_0 rfl ?_
  refine x_getf dX0_addPicture_1 f_X0_53 putArch_at.o rfl ?_
  refine x_bipush (nI 12) dX0_addPicture_4 (by decide) ?_
  refine x_icmp_lt_n 10 dX0_addPicture_6 (by decide) (by omega) (by omega) (fun c => ?_) (fun c => ?_)
  · refine x_aload_n dX0_addPicture_10 rfl ?_
    refine x_getf dX0_addPicture_11 f_X0_31 putArch_at.o rfl ?_
    refine x_aload_n dX0_addPicture_14 rfl ?_
    refine x_getf dX0_addPicture_15 f_X0_53 putArch_at.o rfl ?_
    refine x_lload_n dX0_addPicture_18 rfl ?_
    refine xq_X0_pictureNames dX0_addPicture_19 (by omega) ?_
    refine x_aload_n dX0_addPicture_20 rfl ?_
    refine x_getf dX0_addPicture_21 f_X0_34 putArch_at.o rfl ?_
    refine x_aload_n dX0_addPicture_24 rfl ?_
    refine x_getf dX0_addPicture_25 f_X0_53 putArch_at.o rfl ?_
    refine x_iload_n dX0_addPicture_28 rfl ?_
    refine xq_X0_pledges dX0_addPicture_29 (hN) ?_
    refine x_aload_n dX0_addPicture_30 rfl ?_
    refine x_dup dX0_addPicture_31 rfl ?_
    refine x_getf dX0_addPicture_32 f_X0_53 putArch_at.o rfl ?_
    refine x_iconst (nI 1) dX0_addPicture_35 (by decide) ?_
    refine x_iadd_n dX0_addPicture_36 ?_
    refine xq_X0_pictures dX0_addPicture_37 f_X0_53 ?_
    exact x_vret dX0_addPicture_40 rfl (by decide) (by decide) rfl (rfl)
  · omega
theorem c_addCopy {p f sp : Nat} (hp : p < 12) (hf : f < 10) : xDet g l mX0_addCopy 1 0 0 [.ref o, .int (nI p), .int (nI f), .int (nI sp)] (putArch h o st) none (putArch h o (addCopyS st p f sp)) := by
  refine xMet.of (V := [some (.ref o), some (.int (nI p)), some (.int (nI f)), some (.int (nI sp))]) moX0_addCopy (Nat.le_of_ble_eq_true rfl) rfl ?_
  refine x_aload_n dX0_addCopy_0 rfl ?_
  refine x_getf dX0_addCopy_1 f_X0_37 putArch_at.o rfl ?_
  refine x_iload_n dX0_addCopy_4 rfl ?_
  refine x_dup2 dX0_addCopy_5 rfl rfl ?_
  refine x_iald_n dX0_addCopy_6 putArch_at.held (by omega) (by decide) ?_
  refine x_iconst (nI 1) dX0_addCopy_7 (by decide) ?_
  refine x_iload_n dX0_addCopy_8 rfl ?_
  refine x_ishl1_n dX0_addCopy_9 (by omega) ?_
  refine x_ior_n dX0_addCopy_10 ?_
  refine xq_X0_held dX0_addCopy_11 (by omega) ?_
  refine x_aload_n dX0_addCopy_12 rfl ?_
  refine x_getf dX0_addCopy_13 f_X0_43 putArch_at.o rfl ?_
  refine x_iload_n dX0_addCopy_16 rfl ?_
  refine x_iload_n dX0_addCopy_17 rfl ?_
  refine x_si0 dX0_addCopy_18 cS_X0_77 (c_cell p f) rfl rfl ⟨⟨by decide, by decide⟩, by decide, by decide⟩ (Nat.le_of_ble_eq_true rfl) ?_
  refine x_iload_n dX0_addCopy_21 rfl ?_
  refine xq_X0_spoiled dX0_addCopy_22 (by omega) ?_
  refine x_aload_n dX0_addCopy_23 rfl ?_
  refine x_getf dX0_addCopy_24 f_X0_28 putArch_at.o rfl ?_
  refine x_iload_n dX0_addCopy_27 rfl ?_
  refine x_dup2 dX0_addCopy_28 rfl rfl ?_
  refine x_iald_n dX0_addCopy_29 putArch_at.copies (by omega) (by decide) ?_
  refine x_iconst (nI 1) dX0_addCopy_30 (by decide) ?_
  refine x_iadd_n dX0_addCopy_31 ?_
  refine xq_X0_copies dX0_addCopy_32 (by omega) ?_
  exact x_vret dX0_addCopy_33 rfl (by decide) (by decide) rfl (rfl)
theorem c_makeNeighbours {a b : Nat} (ha : a < 10) (hb : b < 10) : xDet g l mX0_makeNeighbours 0 0 0 [.ref o, .int (nI a), .int (nI b)] (putArch h o st) none (putArch h o (nbS st a b)) := by
  refine xMet.of (V := [some (.ref o), some (.int (nI a)), some (.int (nI b))]) moX0_makeNeighbours (Nat.le_of_ble_eq_true rfl) rfl ?_
  refine x_aload_n dX0_makeNeighbours_0 rfl ?_
  refine x_getf dX0_makeNeighbours_1 f_X0_19 putArch_at.o rfl ?_
  refine x_iload_n dX0_makeNeighbours_4 rfl ?_
  refine x_dup2 dX0_makeNeighbours_5 rfl rfl ?_
  refine x_iald_n dX0_makeNeighbours_6 putArch_at.near (by omega) (by decide) ?_
  refine x_iconst (nI 1) dX0_makeNeighbours_7 (by decide) ?_
  refine x_iload_n dX0_makeNeighbours_8 rfl ?_
  refine x_ishl1_n dX0_makeNeighbours_9 (by omega) ?_
  refine x_ior_n dX0_makeNeighbours_10 ?_
  refine xq_X0_near dX0_makeNeighbours_11 (by omega) ?_
  refine x_aload_n dX0_makeNeighbours_12 rfl ?_
  refine x_getf dX0_makeNeighbours_13 f_X0_19 putArch_at.o rfl ?_
  refine x_iload_n dX0_makeNeighbours_16 rfl ?_
  refine x_dup2 dX0_makeNeighbours_17 rfl rfl ?_
  refine x_iald_n dX0_makeNeighbours_18 putArch_at.near (by omega) (by decide) ?_
  refine x_iconst (nI 1) dX0_makeNeighbours_19 (by decide) ?_
  refine x_iload_n dX0_makeNeighbours_20 rfl ?_
  refine x_ishl1_n dX0_makeNeighbours_21 (by omega) ?_
  refine x_ior_n dX0_makeNeighbours_22 ?_
  refine xq_X0_near dX0_makeNeighbours_23 (by omega) ?_
  exact x_vret dX0_makeNeighbours_24 rfl (by decide) (by decide) rfl (rfl)
theorem c_spoilCopiesOf (hw : aOk st) {f t : Nat} (hf : f < 10) (ht : t < 2 ^ st.1 0) : xDet g l mX0_spoilCopiesOf 1 0 0 [.ref o, .int (nI f), .int (nI t)] (putArch h o st) none (putArch h o (spoilS st f t (st.1 2))) := by
  have hN : st.1 2 ≤ 12 := hw.2.2.1
  refine xMet.of (V := [some (.ref o), some (.int (nI f)), some (.int (nI t)), none]) moX0_spoilCopiesOf (Nat.le_of_ble_eq_true rfl) rfl ?_
  refine x_iconst (nI 0) dX0_spoilCopiesOf_0 (by decide) ?_
  refine x_istore_n dX0_spoilCopiesOf_1 (by decide) rfl rfl ?_
  refine xP.loop (fun i => [some (.ref o), some (.int (nI f)), some (.int (nI t)), some (.int (nI i))]) (fun i => putArch h o (spoilS st f t i)) (st.1 2) ?_ ?_
  · intro i hi ih
    have e1 := spoilS_1 (st := st) (f := f) (t := t) i
    refine x_iload_n dX0_spoilCopiesOf_2 rfl ?_
    refine x_aload_n dX0_spoilCopiesOf_3 rfl ?_
    refine x_getf dX0_spoilCopiesOf_4 f_X0_53 putArch_at.o rfl ?_
    rw [e1]
    refine x_icmp_ge_n 39 dX0_spoilCopiesOf_7 (by decide) (by omega) (by omega) (fun c => ?_) (fun c => ?_)
    · omega
    · refine x_aload_n dX0_spoilCopiesOf_10 rfl ?_
      refine x_iload_n dX0_spoilCopiesOf_11 rfl ?_
      refine x_iload_n dX0_spoilCopiesOf_12 rfl ?_
      refine x_vi0 dX0_spoilCopiesOf_13 cV_X0_118 (c_hasCopy putArch_at (hw.spoil ht hf i (by omega)) (by omega) (by omega)) rfl rfl ⟨⟨by decide, by decide⟩, by decide, by decide⟩ (Nat.le_of_ble_eq_true rfl) (xrecv putArch_at.o rfl xcl0) ?_
      refine x_if_eq_b 33 dX0_spoilCopiesOf_16 (by decide) (fun c => ?_) (fun c => ?_)
      · refine x_iinc_n (k := 1) dX0_spoilCopiesOf_33 rfl (by decide) (by decide) rfl rfl ?_
        refine x_goto 2 dX0_spoilCopiesOf_36 (by decide) ?_
        refine xP.weak (V' := [some (.ref o), some (.int (nI f)), some (.int (nI t)), some (.int (nI (i + 1)))]) (by simp [xle, xset1, fin3]) ?_
        rw [spoilS, c] at ih
        exact ih
      · refine x_aload_n dX0_spoilCopiesOf_19 rfl ?_
        refine x_getf dX0_spoilCopiesOf_20 f_X0_43 putArch_at.o rfl ?_
        refine x_iload_n dX0_spoilCopiesOf_23 rfl ?_
        refine x_iload_n dX0_spoilCopiesOf_24 rfl ?_
        refine x_si0 dX0_spoilCopiesOf_25 cS_X0_77 (c_cell i f) rfl rfl ⟨⟨by decide, by decide⟩, by decide, by decide⟩ (Nat.le_of_ble_eq_true rfl) ?_
        refine x_dup2 dX0_spoilCopiesOf_28 rfl rfl ?_
        refine x_iald_n dX0_spoilCopiesOf_29 putArch_at.spoiled (by omega) (by decide) ?_
        refine x_iload_n dX0_spoilCopiesOf_30 rfl ?_
        refine x_ior_n dX0_spoilCopiesOf_31 ?_
        refine xq_X0_spoiled dX0_spoilCopiesOf_32 (by omega) ?_
        refine x_iinc_n (k := 1) dX0_spoilCopiesOf_33 rfl (by decide) (by decide) rfl rfl ?_
        refine x_goto 2 dX0_spoilCopiesOf_36 (by decide) ?_
        refine xP.weak (V' := [some (.ref o), some (.int (nI f)), some (.int (nI t)), some (.int (nI (i + 1)))]) (by simp [xle, xset1, fin3]) ?_
        rw [spoilS, if_pos c] at ih
        exact ih
  · have e1 := spoilS_1 (st := st) (f := f) (t := t) (st.1 2)
    refine x_iload_n dX0_spoilCopiesOf_2 rfl ?_
    refine x_aload_n dX0_spoilCopiesOf_3 rfl ?_
    refine x_getf dX0_spoilCopiesOf_4 f_X0_53 putArch_at.o rfl ?_
    rw [e1]
    refine x_icmp_ge_n 39 dX0_spoilCopiesOf_7 (by decide) (by omega) (by omega) (fun c => ?_) (fun c => ?_)
    · exact x_vret dX0_spoilCopiesOf_39 rfl (by decide) (by decide) rfl (rfl)
    · omega
theorem c_answersRight (hw : aOk st) {p f t : Nat} (hp : p < 12) (hf : f < 10) (ht : t < 16) : xDet g l mX0_answersRight 2 0 0 [.ref o, .int (nI p), .int (nI f), .int (nI t)] (putArch h o st) (some (.int (xb (rightB st p f t)))) (putArch h o (ansS st p f t)) := by
  have hsp := hw.cell (i := 10 * p + f) (by omega)
  have hb := bit_lt (st.2.2 8 (10 * p + f)) t
  have hf2 : 2 ^ f < 4294967296 := Nat.pow_lt_pow_right (n := 32) (by decide) (by omega)
  refine xMet.of (V := [some (.ref o), some (.int (nI p)), some (.int (nI f)), some (.int (nI t))]) moX0_answersRight (Nat.le_of_ble_eq_true rfl) rfl ?_
  refine x_aload_n dX0_answersRight_0 rfl ?_
  refine x_dup dX0_answersRight_1 rfl ?_
  refine x_getf dX0_answersRight_2 f_X0_56 putArch_at.o rfl ?_
  refine x_iconst (nI 1) dX0_answersRight_5 (by decide) ?_
  refine x_iadd_n dX0_answersRight_6 ?_
  refine xq_X0_questions dX0_answersRight_7 f_X0_56 ?_
  refine x_aload_n dX0_answersRight_10 rfl ?_
  refine x_iload_n dX0_answersRight_11 rfl ?_
  refine x_iload_n dX0_answersRight_12 rfl ?_
  refine x_vi0 dX0_answersRight_13 cV_X0_108 (c_spoiledTiles putArch_at p f hp hf) rfl rfl ⟨⟨by decide, by decide⟩, by decide, by decide⟩ (Nat.le_of_ble_eq_true rfl) (xrecv putArch_at.o rfl xcl0) ?_
  change xP _ _ _ _ _ _ _ _ [.int (nI (st.2.2 8 (10 * p + f)))] _ _ _
  refine x_iload_n dX0_answersRight_16 rfl ?_
  refine x_iushr_n dX0_answersRight_17 (by omega) (by omega) ?_
  refine x_iconst (nI 1) dX0_answersRight_18 (by decide) ?_
  refine x_iand_n dX0_answersRight_19 ?_
  refine x_if_ne_n 35 dX0_answersRight_20 (by decide) (by omega) (fun c => ?_) (fun c => ?_)
  · have e : rightB st p f t = false := by unfold rightB; rw [bit1 c]; rfl
    rw [e, show ansS st p f t = _ from if_neg (by rw [e]; decide)]
    refine x_aload_n dX0_answersRight_35 rfl ?_
    refine x_getf dX0_answersRight_36 f_X0_25 putArch_at.o rfl ?_
    refine x_iload_n dX0_answersRight_39 rfl ?_
    refine x_dup2 dX0_answersRight_40 rfl rfl ?_
    refine x_iald_n dX0_answersRight_41 putArch_at.wrong (by omega) (by decide) ?_
    refine x_iconst (nI 1) dX0_answersRight_42 (by decide) ?_
    refine x_iadd_n dX0_answersRight_43 ?_
    refine xq_X0_wrong dX0_answersRight_44 (by omega) ?_
    refine x_aload_n dX0_answersRight_45 rfl ?_
    refine x_getf dX0_answersRight_46 f_X0_37 putArch_at.o rfl ?_
    refine x_iload_n dX0_answersRight_49 rfl ?_
    refine x_dup2 dX0_answersRight_50 rfl rfl ?_
    refine x_iald_n dX0_answersRight_51 putArch_at.held (by omega) (by decide) ?_
    refine x_iconst (nI 1) dX0_answersRight_52 (by decide) ?_
    refine x_iload_n dX0_answersRight_53 rfl ?_
    refine x_ishl1_n dX0_answersRight_54 (by omega) ?_
    refine x_iconst (-1) dX0_answersRight_55 (by decide) ?_
    refine x_inot_n dX0_answersRight_56 (by omega) ?_
    refine x_iand_n dX0_answersRight_57 ?_
    refine xq_X0_held dX0_answersRight_58 (by omega) ?_
    refine x_aload_n dX0_answersRight_59 rfl ?_
    refine x_getf dX0_answersRight_60 f_X0_40 putArch_at.o rfl ?_
    refine x_iload_n dX0_answersRight_63 rfl ?_
    refine x_dup2 dX0_answersRight_64 rfl rfl ?_
    refine x_iald_n dX0_answersRight_65 putArch_at.broken (by omega) (by decide) ?_
    refine x_iconst (nI 1) dX0_answersRight_66 (by decide) ?_
    refine x_iload_n dX0_answersRight_67 rfl ?_
    refine x_ishl1_n dX0_answersRight_68 (by omega) ?_
    refine x_ior_n dX0_answersRight_69 ?_
    refine xq_X0_broken dX0_answersRight_70 (by omega) ?_
    refine x_iconst (nI 0) dX0_answersRight_71 (by decide) ?_
    exact x_iret .boolean dX0_answersRight_72 rfl rfl (by decide) (by decide) (rfl) (rfl)
  · have e : rightB st p f t = true := by unfold rightB; rw [bit0 c]; rfl
    rw [e, show ansS st p f t = _ from if_pos e]
    refine x_aload_n dX0_answersRight_23 rfl ?_
    refine x_getf dX0_answersRight_24 f_X0_22 putArch_at.o rfl ?_
    refine x_iload_n dX0_answersRight_27 rfl ?_
    refine x_dup2 dX0_answersRight_28 rfl rfl ?_
    refine x_iald_n dX0_answersRight_29 putArch_at.right (by omega) (by decide) ?_
    refine x_iconst (nI 1) dX0_answersRight_30 (by decide) ?_
    refine x_iadd_n dX0_answersRight_31 ?_
    refine xq_X0_right dX0_answersRight_32 (by omega) ?_
    refine x_iconst (nI 1) dX0_answersRight_33 (by decide) ?_
    exact x_iret .boolean dX0_answersRight_34 rfl rfl (by decide) (by decide) (rfl) (rfl)
theorem aOk.ans {st : Ar} (hw : aOk st) {p f t : Nat} (hp : p < 12) (hf : f < st.1 1) : aOk (ansS st p f t) := by
  have h1 := hw.2.2.2.1
  unfold ansS
  split
  · obtain ⟨h1, h2, h3, h4, h5, h6, h7, h8⟩ := hw
    exact ⟨h1, h2, h3, h4, h5, h6, h7, h8⟩
  · have hw2 : aOk (aF (aI st 3 (st.1 3 + 1)) 3 (va_up (st.2.2 3) f (st.2.2 3 f + 1))) := by
      obtain ⟨h1, h2, h3, h4, h5, h6, h7, h8⟩ := hw
      exact ⟨h1, h2, h3, h4, h5, h6, h7, h8⟩
    refine (hw2.heldS fun i hi => ?_).brkS fun i hi => ?_
    · unfold va_up
      split
      · exact Nat.lt_of_le_of_lt (andn_le _ _) (h1 p hp).1
      · exact (h1 i hi).1
    · unfold va_up
      split
      · exact or_lt (h1 p hp).2 hf
      · exact (h1 i hi).2
theorem rndI_ok {s : Ar × Nat} (hw : aOk s.1) {p : Nat} (hp : p < 12) : ∀ n, n ≤ s.1.1 1 → aOk (rndI s p n).1 := by
  intro n
  induction n with
  | zero => intro _; exact hw
  | succ n ih =>
    intro hn
    have hi := ih (by omega)
    have hN : (rndI s p n).1.1 1 = s.1.1 1 := rndI_const (by decide) n
    rw [rndI]
    split
    · exact hi.ans hp (by rw [hN]; omega)
    · exact hi
theorem rndO_ok {s : Ar × Nat} (hw : aOk s.1) : ∀ n, n ≤ 12 → aOk (rndO s n).1 := by
  intro n
  induction n with
  | zero => intro _; exact hw
  | succ n ih =>
    intro hn
    have e : (rndO s n).1.1 1 = s.1.1 1 := rndO_const (by decide) n
    exact rndI_ok (ih (by omega)) (by omega) _ (by rw [e]; exact Nat.le_refl _)
theorem nxtX_lt (x : Nat) : nxtX x < 2 ^ 31 := Nat.mod_lt _ (by decide)
theorem rndI_x {s : Ar × Nat} {p : Nat} (hx : s.2 < 2 ^ 31) : ∀ n, (rndI s p n).2 < 2 ^ 31 := by
  intro n
  induction n with
  | zero => exact hx
  | succ n ih =>
    rw [rndI]
    split
    · exact nxtX_lt _
    · exact ih
theorem rndO_x {s : Ar × Nat} (hx : s.2 < 2 ^ 31) : ∀ n, (rndO s n).2 < 2 ^ 31 := by
  intro n
  induction n with
  | zero => exact hx
  | succ n ih => exact rndI_x ih _
theorem nxt_n (x : Nat) : (1103515245 * x + 12345) &&& 2147483647 = nxtX x := by
  show (1103515245 * x + 12345) &&& (2 ^ 31 - 1) = _
  rw [Nat.and_two_pow_sub_one_eq_mod]
  rfl
theorem c_askRound (hw : aOk st) {x : Nat} (hx : x < 2 ^ 31) : xDet g l mX0_askRound 3 0 0 [.ref o, .int (nI x)] (putArch h o st) (some (.int (nI (rndO (st, x) (st.1 2)).2))) (putArch h o (rndO (st, x) (st.1 2)).1) := by
  have hK : st.1 2 ≤ 12 := hw.2.2.1
  have hN : st.1 1 ≤ 10 := hw.2.1
  refine xMet.of (V := [some (.ref o), some (.int (nI x)), none, none, none]) moX0_askRound (Nat.le_of_ble_eq_true rfl) rfl ?_
  refine x_iload_n dX0_askRound_0 rfl ?_
  refine x_istore_n dX0_askRound_1 (by decide) rfl rfl ?_
  refine x_iconst (nI 0) dX0_askRound_2 (by decide) ?_
  refine x_istore_n dX0_askRound_3 (by decide) rfl rfl ?_
  refine xP.loop (fun i => [some (.ref o), some (.int (nI x)), some (.int (nI (rndO (st, x) i).2)), some (.int (nI i)), none]) (fun i => putArch h o (rndO (st, x) i).1) (st.1 2) ?_ ?_
  · intro i hi ih
    have e1 : (rndO (st, x) i).1.1 2 = st.1 2 := rndO_const (by decide) i
    have hwi := rndO_ok (s := (st, x)) hw i (by omega)
    have hxi := rndO_x (s := (st, x)) hx i
    refine x_iload_n dX0_askRound_4 rfl ?_
    refine x_aload_n dX0_askRound_5 rfl ?_
    refine x_getf dX0_askRound_6 f_X0_53 putArch_at.o rfl ?_
    rw [e1]
    refine x_icmp_ge_n 71 dX0_askRound_9 (by decide) (by omega) (by omega) (fun c => ?_) (fun c => ?_)
    · omega
    · refine x_iconst (nI 0) dX0_askRound_12 (by decide) ?_
      refine x_istore dX0_askRound_13 (by decide) rfl rfl ?_
      refine xP.weak (V' := [some (.ref o), some (.int (nI x)), some (.int (nI (rndO (st, x) i).2)), some (.int (nI i)), some (.int (nI 0))]) (by simp [xle, xset1, fin3]) ?_
      refine xP.loop (fun k => [some (.ref o), some (.int (nI x)), some (.int (nI (rndI (rndO (st, x) i) i k).2)), some (.int (nI i)), some (.int (nI k))]) (fun k => putArch h o (rndI (rndO (st, x) i) i k).1) (st.1 1) ?_ ?_
      · intro k hk ih
        have e2 : (rndI (rndO (st, x) i) i k).1.1 1 = st.1 1 := (rndI_const (by decide) k).trans (rndO_const (by decide) i)
        have hwk := rndI_ok hwi (p := i) (by omega) k (by rw [rndO_const (by decide) i]; exact Nat.le_of_lt hk)
        have hxk := rndI_x (p := i) hxi k
        refine x_iload dX0_askRound_15 rfl ?_
        refine x_aload_n dX0_askRound_17 rfl ?_
        refine x_getf dX0_askRound_18 f_X0_50 putArch_at.o rfl ?_
        rw [e2]
        refine x_icmp_ge_n 65 dX0_askRound_21 (by decide) (by omega) (by omega) (fun c => ?_) (fun c => ?_)
        · omega
        · refine x_aload_n dX0_askRound_24 rfl ?_
          refine x_iload_n dX0_askRound_25 rfl ?_
          refine x_iload dX0_askRound_26 rfl ?_
          refine x_vi0 dX0_askRound_28 cV_X0_104 (c_isHeld putArch_at i k (by omega) (by omega) (hwk.held (by omega))) rfl rfl ⟨⟨by decide, by decide⟩, by decide, by decide⟩ (Nat.le_of_ble_eq_true rfl) (xrecv putArch_at.o rfl xcl0) ?_
          refine x_if_eq_b 59 dX0_askRound_31 (by decide) (fun c => ?_) (fun c => ?_)
          · refine x_iinc_n (k := 1) dX0_askRound_59 rfl (by decide) (by decide) rfl rfl ?_
            refine x_goto 15 dX0_askRound_62 (by decide) ?_
            rw [rndI, if_neg (by unfold heldB; rw [c]; decide)] at ih
            exact xP.weak (by simp [xle, xset1, fin3]) ih
          · refine x_ldc (v := nI 1103515245) dX0_askRound_34 k_X0_121 ?_
            refine x_iload_n dX0_askRound_36 rfl ?_
            refine x_imul_n dX0_askRound_37 ?_
            refine x_sipush (nI 12345) dX0_askRound_38 (by decide) ?_
            refine x_iadd_n dX0_askRound_41 ?_
            refine x_ldc (v := nI 2147483647) dX0_askRound_42 k_X0_122 ?_
            refine x_iand_n dX0_askRound_44 ?_
            rw [nxt_n]
            have hx2 := nxtX_lt (rndI (rndO (st, x) i) i k).2
            have ht : nxtX (rndI (rndO (st, x) i) i k).2 / 65536 % (rndI (rndO (st, x) i) i k).1.1 0 < 16 := by
              have h1 := hwk.1
              unfold aT at h1
              exact Nat.lt_of_lt_of_le (Nat.mod_lt _ (by omega)) h1.2
            refine x_istore_n dX0_askRound_45 (by decide) rfl rfl ?_
            refine x_aload_n dX0_askRound_46 rfl ?_
            refine x_iload_n dX0_askRound_47 rfl ?_
            refine x_iload dX0_askRound_48 rfl ?_
            refine x_aload_n dX0_askRound_50 rfl ?_
            refine x_iload_n dX0_askRound_51 rfl ?_
            refine x_vi0 dX0_askRound_52 cV_X0_123 (c_tileFor putArch_at hwk hx2) rfl rfl ⟨⟨by decide, by decide⟩, by decide, by decide⟩ (Nat.le_of_ble_eq_true rfl) (xrecv putArch_at.o rfl xcl0) ?_
            refine x_vi0 dX0_askRound_55 cV_X0_126 (c_answersRight hwk (by omega) (by omega) ht) rfl rfl ⟨⟨by decide, by decide⟩, by decide, by decide⟩ (Nat.le_of_ble_eq_true rfl) (xrecv putArch_at.o rfl xcl0) ?_
            refine x_pop dX0_askRound_58 rfl ?_
            refine x_iinc_n (k := 1) dX0_askRound_59 rfl (by decide) (by decide) rfl rfl ?_
            refine x_goto 15 dX0_askRound_62 (by decide) ?_
            rw [rndI, if_pos (by unfold heldB; exact c)] at ih
            exact xP.weak (by simp [xle, xset1, fin3]) ih
      · have e2 : (rndI (rndO (st, x) i) i (st.1 1)).1.1 1 = st.1 1 := (rndI_const (by decide) _).trans (rndO_const (by decide) i)
        refine x_iload dX0_askRound_15 rfl ?_
        refine x_aload_n dX0_askRound_17 rfl ?_
        refine x_getf dX0_askRound_18 f_X0_50 putArch_at.o rfl ?_
        rw [e2]
        refine x_icmp_ge_n 65 dX0_askRound_21 (by decide) (by omega) (by omega) (fun c => ?_) (fun c => ?_)
        · refine x_iinc_n (k := 1) dX0_askRound_65 rfl (by decide) (by decide) rfl rfl ?_
          refine x_goto 4 dX0_askRound_68 (by decide) ?_
          exact xP.weak (by simp [xle, xset1, fin3, rndO]) ih
        · omega
  · have e1 : (rndO (st, x) (st.1 2)).1.1 2 = st.1 2 := rndO_const (by decide) _
    refine x_iload_n dX0_askRound_4 rfl ?_
    refine x_aload_n dX0_askRound_5 rfl ?_
    refine x_getf dX0_askRound_6 f_X0_53 putArch_at.o rfl ?_
    rw [e1]
    refine x_icmp_ge_n 71 dX0_askRound_9 (by decide) (by omega) (by omega) (fun c => ?_) (fun c => ?_)
    · refine x_iload_n dX0_askRound_71 rfl ?_
      exact x_iret .int dX0_askRound_72 rfl rfl (by decide) (by decide) (rfl) (rfl)
    · omega
theorem c_mendCopy (hw : aOk st) {p f s : Nat} (hp : p < 12) (hf : f < 10) (hs : s < 1024) : xDet g l mX0_mendCopy 3 0 0 [.ref o, .int (nI p), .int (nI f), .int (nI s)] (putArch h o st) none (putArch h o (mendS st p f s)) := by
  have hf2 : 2 ^ f < 4294967296 := Nat.pow_lt_pow_right (n := 32) (by decide) (by omega)
  refine xMet.of (V := [some (.ref o), some (.int (nI p)), some (.int (nI f)), some (.int (nI s))]) moX0_mendCopy (Nat.le_of_ble_eq_true rfl) rfl ?_
  refine x_aload_n dX0_mendCopy_0 rfl ?_
  refine x_getf dX0_mendCopy_1 f_X0_43 putArch_at.o rfl ?_
  refine x_iload_n dX0_mendCopy_4 rfl ?_
  refine x_iload_n dX0_mendCopy_5 rfl ?_
  refine x_si0 dX0_mendCopy_6 cS_X0_77 (c_cell p f) rfl rfl ⟨⟨by decide, by decide⟩, by decide, by decide⟩ (Nat.le_of_ble_eq_true rfl) ?_
  refine x_aload_n dX0_mendCopy_9 rfl ?_
  refine x_iload_n dX0_mendCopy_10 rfl ?_
  refine x_iload_n dX0_mendCopy_11 rfl ?_
  refine x_vi0 dX0_mendCopy_12 cV_X0_137 (c_spoiledInAll putArch_at hw hp hs) rfl rfl ⟨⟨by decide, by decide⟩, by decide, by decide⟩ (Nat.le_of_ble_eq_true rfl) (xrecv putArch_at.o rfl xcl0) ?_
  refine xq_X0_spoiled dX0_mendCopy_15 (by omega) ?_
  refine x_aload_n dX0_mendCopy_16 rfl ?_
  refine x_getf dX0_mendCopy_17 f_X0_37 putArch_at.o rfl ?_
  refine x_iload_n dX0_mendCopy_20 rfl ?_
  refine x_dup2 dX0_mendCopy_21 rfl rfl ?_
  refine x_iald_n dX0_mendCopy_22 putArch_at.held (by omega) (by decide) ?_
  refine x_iconst (nI 1) dX0_mendCopy_23 (by decide) ?_
  refine x_iload_n dX0_mendCopy_24 rfl ?_
  refine x_ishl1_n dX0_mendCopy_25 (by omega) ?_
  refine x_ior_n dX0_mendCopy_26 ?_
  refine xq_X0_held dX0_mendCopy_27 (by omega) ?_
  refine x_aload_n dX0_mendCopy_28 rfl ?_
  refine x_getf dX0_mendCopy_29 f_X0_40 putArch_at.o rfl ?_
  refine x_iload_n dX0_mendCopy_32 rfl ?_
  refine x_dup2 dX0_mendCopy_33 rfl rfl ?_
  refine x_iald_n dX0_mendCopy_34 putArch_at.broken (by omega) (by decide) ?_
  refine x_iconst (nI 1) dX0_mendCopy_35 (by decide) ?_
  refine x_iload_n dX0_mendCopy_36 rfl ?_
  refine x_ishl1_n dX0_mendCopy_37 (by omega) ?_
  refine x_iconst (-1) dX0_mendCopy_38 (by decide) ?_
  refine x_inot_n dX0_mendCopy_39 (by omega) ?_
  refine x_iand_n dX0_mendCopy_40 ?_
  refine xq_X0_broken dX0_mendCopy_41 (by omega) ?_
  refine x_aload_n dX0_mendCopy_42 rfl ?_
  refine x_dup dX0_mendCopy_43 rfl ?_
  refine x_getf dX0_mendCopy_44 f_X0_59 putArch_at.o rfl ?_
  refine x_iconst (nI 1) dX0_mendCopy_47 (by decide) ?_
  refine x_iadd_n dX0_mendCopy_48 ?_
  refine xq_X0_repairs dX0_mendCopy_49 f_X0_59 ?_
  exact x_vret dX0_mendCopy_52 rfl (by decide) (by decide) rfl (rfl)
theorem spAll_lt (st : Ar) (p s : Nat) : ∀ n, spAll st p s n < 2 ^ st.1 0 := by
  intro n
  induction n with
  | zero =>
    have h1 : 0 < 2 ^ st.1 0 := Nat.two_pow_pos _
    show 2 ^ st.1 0 - 1 < 2 ^ st.1 0
    omega
  | succ n ih =>
    rw [spAll]
    split
    · exact Nat.lt_of_le_of_lt Nat.and_le_left ih
    · exact ih
theorem mendS_ok (hw : aOk st) {p f s : Nat} (hp : p < 12) (hf : f < st.1 1) : aOk (mendS st p f s) := by
  have h1 := hw.2.2.2.1
  have h6 := hw.2.2.2.2.2.1
  have hw2 : aOk (aF (aF (aF st 8 (va_up (st.2.2 8) (10 * p + f) (spAll st p s (st.1 1)))) 6 (va_up (st.2.2 6) p (st.2.2 6 p ||| 2 ^ f))) 7 (va_up (st.2.2 7) p (andn (st.2.2 7 p) (2 ^ f)))) := by
    refine ((hw.cells fun i hi => ?_).heldS fun i hi => ?_).brkS fun i hi => ?_
    · unfold va_up
      split
      · exact spAll_lt st p s _
      · exact h6 i hi
    · unfold va_up
      split
      · exact or_lt (h1 p hp).1 hf
      · exact (h1 i hi).1
    · unfold va_up
      split
      · exact Nat.lt_of_le_of_lt (andn_le _ _) (h1 p hp).2
      · exact (h1 i hi).2
  obtain ⟨h1, h2, h3, h4, h5, h6, h7, h8⟩ := hw2
  exact ⟨h1, h2, h3, h4, h5, h6, h7, h8⟩
theorem repI_ok {s : Ar × Nat} (hw : aOk s.1) {p hb : Nat} (hp : p < 12) : ∀ n, n ≤ s.1.1 1 → aOk (repI s p hb n).1 := by
  intro n
  induction n with
  | zero => intro _; exact hw
  | succ n ih =>
    intro hn
    have hi := ih (by omega)
    have hN : (repI s p hb n).1.1 1 = s.1.1 1 := repI_const (by decide) n
    rw [repI]
    split
    · exact mendS_ok hi hp (by rw [hN]; omega)
    · exact hi
theorem repO_ok (hw : aOk st) : ∀ n, n ≤ 12 → aOk (repO st n).1 := by
  intro n
  induction n with
  | zero => intro _; exact hw
  | succ n ih =>
    intro hn
    have e : (repO st n).1.1 1 = st.1 1 := repO_const (by decide) n
    exact repI_ok (ih (by omega)) (by omega) _ (by rw [e]; exact Nat.le_refl _)
theorem repI_cnt {s : Ar × Nat} {p hb : Nat} : ∀ n, (repI s p hb n).2 ≤ s.2 + n := by
  intro n
  induction n with
  | zero => exact Nat.le_refl _
  | succ n ih =>
    rw [repI]
    split
    · show _ + 1 ≤ _; omega
    · omega
theorem repO_cnt (hw : aOk st) : ∀ n, (repO st n).2 ≤ 10 * n := by
  intro n
  induction n with
  | zero => exact Nat.le_refl _
  | succ n ih =>
    have := repI_cnt (s := repO st n) (p := n) (hb := (repO st n).1.2.2 6 n) (st.1 1)
    have hN : st.1 1 ≤ 10 := hw.2.1
    show (repI _ _ _ _).2 ≤ _
    omega
theorem c_repairAtOnce (hw : aOk st) : xDet g l mX0_repairAtOnce 4 0 0 [.ref o] (putArch h o st) (some (.int (nI (repO st (st.1 2)).2))) (putArch h o (repO st (st.1 2)).1) := by
  have hK : st.1 2 ≤ 12 := hw.2.2.1
  have hN : st.1 1 ≤ 10 := hw.2.1
  refine xMet.of (V := [some (.ref o), none, none, none, none, none]) moX0_repairAtOnce (Nat.le_of_ble_eq_true rfl) rfl ?_
  refine x_iconst (nI 0) dX0_repairAtOnce_0 (by decide) ?_
  refine x_istore_n dX0_repairAtOnce_1 (by decide) rfl rfl ?_
  refine x_iconst (nI 0) dX0_repairAtOnce_2 (by decide) ?_
  refine x_istore_n dX0_repairAtOnce_3 (by decide) rfl rfl ?_
  refine xP.loop (fun i => [some (.ref o), some (.int (nI (repO st i).2)), some (.int (nI i)), none, none, none]) (fun i => putArch h o (repO st i).1) (st.1 2) ?_ ?_
  · intro i hi ih
    have e1 : (repO st i).1.1 2 = st.1 2 := repO_const (by decide) i
    have hwi := repO_ok hw i (by omega)
    refine x_iload_n dX0_repairAtOnce_4 rfl ?_
    refine x_aload_n dX0_repairAtOnce_5 rfl ?_
    refine x_getf dX0_repairAtOnce_6 f_X0_53 putArch_at.o rfl ?_
    rw [e1]
    refine x_icmp_ge_n 85 dX0_repairAtOnce_9 (by decide) (by omega) (by omega) (fun c => ?_) (fun c => ?_)
    · omega
    · refine x_aload_n dX0_repairAtOnce_12 rfl ?_
      refine x_getf dX0_repairAtOnce_13 f_X0_37 putArch_at.o rfl ?_
      refine x_iload_n dX0_repairAtOnce_16 rfl ?_
      refine x_iald_n dX0_repairAtOnce_17 putArch_at.held (by omega) (by decide) ?_
      refine x_istore_n dX0_repairAtOnce_18 (by decide) rfl rfl ?_
      refine x_iconst (nI 0) dX0_repairAtOnce_19 (by decide) ?_
      refine x_istore dX0_repairAtOnce_20 (by decide) rfl rfl ?_
      obtain ⟨hb, ehb⟩ : ∃ hb, hb = (repO st i).1.2.2 6 i := ⟨_, rfl⟩
      have hhb : hb < 1024 := by rw [ehb]; exact hwi.held (by omega)
      refine xP.weak (V' := [some (.ref o), some (.int (nI (repO st i).2)), some (.int (nI i)), some (.int (nI hb)), some (.int (nI 0)), none]) (by simp [xle, xset1, fin3, ehb]) ?_
      refine xP.loop (fun k => [some (.ref o), some (.int (nI (repI (repO st i) i hb k).2)), some (.int (nI i)), some (.int (nI hb)), some (.int (nI k)), none]) (fun k => putArch h o (repI (repO st i) i hb k).1) (st.1 1) ?_ ?_
      · intro k hk ih
        have e2 : (repI (repO st i) i hb k).1.1 1 = st.1 1 := (repI_const (by decide) k).trans (repO_const (by decide) i)
        have hwk := repI_ok hwi (p := i) (hb := hb) (by omega) k (by rw [repO_const (by decide) i]; omega)
        have hbk := hwk.brk (p := i) (by omega)
        have hnk := hwk.near (f := k) (by omega)
        have hbb := bit_lt ((repI (repO st i) i hb k).1.2.2 7 i) k
        have hfr : (repI (repO st i) i hb k).1.2.2 1 k &&& hb ≤ hb := Nat.and_le_right
        refine x_iload dX0_repairAtOnce_22 rfl ?_
        refine x_aload_n dX0_repairAtOnce_24 rfl ?_
        refine x_getf dX0_repairAtOnce_25 f_X0_50 putArch_at.o rfl ?_
        rw [e2]
        refine x_icmp_ge_n 79 dX0_repairAtOnce_28 (by decide) (by omega) (by omega) (fun c => ?_) (fun c => ?_)
        · omega
        · refine x_aload_n dX0_repairAtOnce_31 rfl ?_
          refine x_getf dX0_repairAtOnce_32 f_X0_19 putArch_at.o rfl ?_
          refine x_iload dX0_repairAtOnce_35 rfl ?_
          refine x_iald_n dX0_repairAtOnce_37 putArch_at.near (by omega) (by decide) ?_
          refine x_iload_n dX0_repairAtOnce_38 rfl ?_
          refine x_iand_n dX0_repairAtOnce_39 ?_
          refine x_istore dX0_repairAtOnce_40 (by decide) rfl rfl ?_
          refine x_aload_n dX0_repairAtOnce_42 rfl ?_
          refine x_getf dX0_repairAtOnce_43 f_X0_40 putArch_at.o rfl ?_
          refine x_iload_n dX0_repairAtOnce_46 rfl ?_
          refine x_iald_n dX0_repairAtOnce_47 putArch_at.broken (by omega) (by decide) ?_
          refine x_iload dX0_repairAtOnce_48 rfl ?_
          refine x_iushr_n dX0_repairAtOnce_50 (by omega) (by omega) ?_
          refine x_iconst (nI 1) dX0_repairAtOnce_51 (by decide) ?_
          refine x_iand_n dX0_repairAtOnce_52 ?_
          refine x_if_eq_n 73 dX0_repairAtOnce_53 (by decide) (by omega) (fun c => ?_) (fun c => ?_)
          · refine x_iinc_n (k := 1) dX0_repairAtOnce_73 rfl (by decide) (by decide) rfl rfl ?_
            refine x_goto 22 dX0_repairAtOnce_76 (by decide) ?_
            rw [repI, if_neg (by unfold brkB; rw [bit0 c]; simp)] at ih
            exact xP.weak (by simp [xle, xset1, fin3]) ih
          · refine x_iload dX0_repairAtOnce_56 rfl ?_
            refine x_if_eq_n 73 dX0_repairAtOnce_58 (by decide) (by omega) (fun c2 => ?_) (fun c2 => ?_)
            · refine x_iinc_n (k := 1) dX0_repairAtOnce_73 rfl (by decide) (by decide) rfl rfl ?_
              refine x_goto 22 dX0_repairAtOnce_76 (by decide) ?_
              rw [repI, if_neg (by rw [c2]; simp)] at ih
              exact xP.weak (by simp [xle, xset1, fin3]) ih
            · refine x_aload_n dX0_repairAtOnce_61 rfl ?_
              refine x_iload_n dX0_repairAtOnce_62 rfl ?_
              refine x_iload dX0_repairAtOnce_63 rfl ?_
              refine x_iload dX0_repairAtOnce_65 rfl ?_
              refine x_vv0 dX0_repairAtOnce_67 cV_X0_140 (c_mendCopy hwk (by omega) (by omega) (by omega)) rfl rfl ⟨⟨by decide, by decide⟩, by decide, by decide⟩ (Nat.le_of_ble_eq_true rfl) (xrecv putArch_at.o rfl xcl0) ?_
              refine x_iinc_n (k := 1) dX0_repairAtOnce_70 rfl (by decide) (by decide) rfl rfl ?_
              refine x_iinc_n (k := 1) dX0_repairAtOnce_73 rfl (by decide) (by decide) rfl rfl ?_
              refine x_goto 22 dX0_repairAtOnce_76 (by decide) ?_
              rw [repI, if_pos (by unfold brkB; rw [bit1 c]; simp; omega)] at ih
              exact xP.weak (by simp [xle, xset1, fin3]) ih
      · have e2 : (repI (repO st i) i hb (st.1 1)).1.1 1 = st.1 1 := (repI_const (by decide) _).trans (repO_const (by decide) i)
        refine x_iload dX0_repairAtOnce_22 rfl ?_
        refine x_aload_n dX0_repairAtOnce_24 rfl ?_
        refine x_getf dX0_repairAtOnce_25 f_X0_50 putArch_at.o rfl ?_
        rw [e2]
        refine x_icmp_ge_n 79 dX0_repairAtOnce_28 (by decide) (by omega) (by omega) (fun c => ?_) (fun c => ?_)
        · refine x_iinc_n (k := 1) dX0_repairAtOnce_79 rfl (by decide) (by decide) rfl rfl ?_
          refine x_goto 4 dX0_repairAtOnce_82 (by decide) ?_
          rw [repO, ← ehb] at ih
          exact xP.weak (by simp [xle, xset1, fin3]) ih
        · omega
  · have e1 : (repO st (st.1 2)).1.1 2 = st.1 2 := repO_const (by decide) _
    refine x_iload_n dX0_repairAtOnce_4 rfl ?_
    refine x_aload_n dX0_repairAtOnce_5 rfl ?_
    refine x_getf dX0_repairAtOnce_6 f_X0_53 putArch_at.o rfl ?_
    rw [e1]
    refine x_icmp_ge_n 85 dX0_repairAtOnce_9 (by decide) (by omega) (by omega) (fun c => ?_) (fun c => ?_)
    · refine x_iload_n dX0_repairAtOnce_85 rfl ?_
      exact x_iret .int dX0_repairAtOnce_86 rfl rfl (by decide) (by decide) (rfl) (rfl)
    · omega
end A3
