/-! ===== names as numbers; the written text ===== -/
def codeV (c : Nat) : Nat := if c = 45 then 27 else c - 96
def sgnV (d : Nat) : Nat := if d = 0 then 0 else if d = 27 then 45 else d + 96
def digV (n k : Nat) : Nat := n / 2 ^ (5 * k) % 32
/-- the signs of a name, from place k - 1 down to 0 -/
def nmL (n : Nat) : Nat → List Nat
  | 0 => []
  | k + 1 => (if digV n k = 0 then [] else [sgnV (digV n k)]) ++ nmL n k
theorem nmL_len (n : Nat) : ∀ k, (nmL n k).length ≤ k := by
  intro k
  induction k with
  | zero => exact Nat.le_refl _
  | succ k ih =>
    rw [nmL, List.length_append]
    split <;> simp <;> omega
theorem sgnV_lt (d : Nat) (hd : d < 32) : sgnV d < 128 := by
  unfold sgnV
  split
  · omega
  · split <;> omega
/-- the writer at w: its bytes hold T and, behind it, what f holds -/
def wrF (f : Nat → Int32) (T : List Nat) : Nat → Int32 := fun k => if k < T.length then nI (T.getD k 0) else f k
def wrE (w : Nat) (f : Nat → Int32) (T : List Nat) (k : Nat) : xE := if k = 0 then .inr (2, [.ref (w + 1), .int (nI T.length)]) else .inl (1, 1332, .inl (wrF f T))
def WrAt (h : xH) (w : Nat) (f : Nat → Int32) (T : List Nat) : Prop := h.1 w = some (wrE w f T 0) ∧ h.1 (w + 1) = some (wrE w f T 1)
def putWr (h : xH) (w : Nat) (f : Nat → Int32) (T : List Nat) : xH := (fun a => if a = w then some (wrE w f T 0) else if a = w + 1 then some (wrE w f T 1) else h.1 a, h.2)
theorem putWr_at {h : xH} {w : Nat} {f : Nat → Int32} {T : List Nat} : WrAt (putWr h w f T) w f T := by
  constructor
  · simp [putWr]
  · simp [putWr]
theorem WrAt.o {h : xH} {w : Nat} {f : Nat → Int32} {T : List Nat} (hW : WrAt h w f T) : h.1 w = some (.inr (2, [.ref (w + 1), .int (nI T.length)])) := hW.1
theorem WrAt.bytes {h : xH} {w : Nat} {f : Nat → Int32} {T : List Nat} (hW : WrAt h w f T) : h.1 (w + 1) = some (.inl (1, 1332, .inl (wrF f T))) := hW.2
theorem putWr_self {h : xH} {w : Nat} {f : Nat → Int32} {T : List Nat} (hW : WrAt h w f T) : putWr h w f T = h := by
  refine xH_ext (fun a => ?_) rfl
  unfold putWr
  dsimp only
  split
  · rename_i e; rw [e]; exact hW.1.symm
  · split
    · rename_i e; rw [e]; exact hW.2.symm
    · rfl
theorem putWr_out {h : xH} {w : Nat} {f : Nat → Int32} {T : List Nat} {a : Nat} (h1 : a ≠ w) (h2 : a ≠ w + 1) : (putWr h w f T).1 a = h.1 a := by
  unfold putWr
  dsimp only
  rw [if_neg h1, if_neg h2]
theorem wrF_nil (f : Nat → Int32) : wrF f [] = f := by
  funext k
  simp [wrF]
theorem wrF_put (f : Nat → Int32) (T : List Nat) (c : Nat) : upd (wrF f T) T.length (nI c) = wrF f (T ++ [c]) := by
  funext k
  unfold upd wrF
  by_cases h1 : k = T.length
  · subst h1; simp
  · rw [if_neg h1]
    by_cases h2 : k < T.length
    · rw [if_pos h2, if_pos (by simp; omega)]
      congr 1
      simp only [List.getD_eq_getElem?_getD]
      rw [List.getElem?_append_left h2]
    · rw [if_neg h2, if_neg (by simp; omega)]
theorem byte_n {c : Nat} (hc : c < 128) : vp_nar .byte (nI c).toInt8.toInt32 = nI c := by
  rw [vp_nar_byte]
  have : ∀ c, c < 128 → (nI c).toInt8.toInt32.toInt8.toInt32 = nI c := by decide +kernel
  exact this c hc
theorem ArchAt.wr {h : xH} {o w : Nat} {st : Ar} {f : Nat → Int32} {T : List Nat} (hA : ArchAt h o st) (hd : w + 2 ≤ o ∨ o + 12 ≤ w) : ArchAt (putWr h w f T) o st := by
  intro k hk
  rw [putWr_out (by omega) (by omega)]
  exact hA k hk
def dn (i : Nat) : Int32 := if i = 8 then -1 else nI (7 - i)
theorem dn_step : ∀ i, i < 8 → dn i + Int32.ofInt (-1) = dn (i + 1) := by decide
def hTx (st : Ar) (p : Nat) (T : List Nat) : Nat → List Nat × Bool
  | 0 => (T, true)
  | n + 1 => if hasB st p n then ((hTx st p T n).1 ++ (if (hTx st p T n).2 then [] else [44]) ++ nmL (st.2.1 0 n).toBitVec.toNat 8 ++ (if heldB st p n then [] else [33]), false) else hTx st p T n
def wTx (st : Ar) : Nat → List Nat
  | 0 => []
  | p + 1 => (hTx st p (wTx st p ++ (if p = 0 then [] else [32]) ++ nmL (st.2.1 1 p).toBitVec.toNat 8 ++ [58]) (st.1 1)).1 ++ (if inDB st p then [42] else [])
theorem hTx_len (st : Ar) (p : Nat) (T : List Nat) : ∀ n, (hTx st p T n).1.length ≤ T.length + 10 * n := by
  intro n
  induction n with
  | zero => exact Nat.le_refl _
  | succ n ih =>
    rw [hTx]
    split
    · have := nmL_len (st.2.1 0 n).toBitVec.toNat 8
      simp only [List.length_append]
      split <;> split <;> simp <;> omega
    · omega
theorem wTx_len {st : Ar} (hw : aOk st) : ∀ n, n ≤ 12 → (wTx st n).length ≤ 111 * n := by
  intro n
  induction n with
  | zero => intro _; exact Nat.le_refl _
  | succ n ih =>
    intro hn
    have h1 := ih (by omega)
    have h2 := hTx_len st n (wTx st n ++ (if n = 0 then [] else [32]) ++ nmL (st.2.1 1 n).toBitVec.toNat 8 ++ [58]) (st.1 1)
    have h3 := nmL_len (st.2.1 1 n).toBitVec.toNat 8
    have hN : st.1 1 ≤ 10 := hw.2.1
    rw [wTx, List.length_append]
    have h4 : (wTx st n ++ (if n = 0 then [] else [32]) ++ nmL (st.2.1 1 n).toBitVec.toNat 8 ++ [58]).length ≤ (wTx st n).length + 1 + 8 + 1 := by
      simp only [List.length_append]
      split <;> simp <;> omega
    have h5 : (if inDB st n then [42] else [] : List Nat).length ≤ 1 := by split <;> simp
    omega
theorem lN_of (x : Int64) : x = lN x.toBitVec.toNat := by
  obtain ⟨n, hn, e⟩ := wb_of x
  rw [e, wb_tn hn]
section W1
variable {g : xG} {l : Launch} {h : xH} {w : Nat} {f : Nat → Int32} {T : List Nat}
theorem c_withSign {n c : Nat} (hn : n < 2 ^ 50) (hc : c = 45 ∨ 97 ≤ c ∧ c ≤ 122) : xDet g l mX2_withSign 0 0 0 [.long (lN n), .int (nI c)] h (some (.long (lN (n * 32 + codeV c)))) h := by
  have e1 : lN n <<< ((nI 5).toInt64 &&& 63) = lN (n * 32) := wb_shl n (by decide)
  refine xMet.of (V := [some (.long (lN n)), none, some (.int (nI c)), none]) moX2_withSign (Nat.le_of_ble_eq_true rfl) rfl ?_
  refine x_iload_n dX2_withSign_0 rfl ?_
  refine x_bipush (nI 45) dX2_withSign_1 (by decide) ?_
  refine x_icmp_ne_n 11 dX2_withSign_3 (by decide) (by omega) (by omega) (fun q => ?_) (fun q => ?_)
  · refine x_iload_n dX2_withSign_11 rfl ?_
    refine x_bipush (nI 97) dX2_withSign_12 (by decide) ?_
    refine x_isub_n dX2_withSign_14 (by omega) ?_
    refine x_iconst (nI 1) dX2_withSign_15 (by decide) ?_
    refine x_iadd_n dX2_withSign_16 ?_
    refine x_istore_n dX2_withSign_17 (by decide) rfl rfl ?_
    refine x_lload_n dX2_withSign_18 rfl ?_
    refine x_iconst (nI 5) dX2_withSign_19 (by decide) ?_
    refine x_lshl _ dX2_withSign_20 e1 ?_
    refine x_iload_n dX2_withSign_21 rfl ?_
    refine x_i2l_n dX2_withSign_22 (by omega) ?_
    refine x_lor dX2_withSign_23 ?_
    rw [g_or (k := 5) (p := 32) (a := c - 97 + 1) (b := n) rfl (by omega) (by omega)]
    exact x_lreturn dX2_withSign_24 rfl (by decide) (by decide) ⟨by unfold codeV; rw [if_neg q, show c - 97 + 1 = c - 96 by omega], rfl⟩
  · refine x_bipush (nI 27) dX2_withSign_6 (by decide) ?_
    refine x_goto 17 dX2_withSign_8 (by decide) ?_
    refine x_istore_n dX2_withSign_17 (by decide) rfl rfl ?_
    refine x_lload_n dX2_withSign_18 rfl ?_
    refine x_iconst (nI 5) dX2_withSign_19 (by decide) ?_
    refine x_lshl _ dX2_withSign_20 e1 ?_
    refine x_iload_n dX2_withSign_21 rfl ?_
    refine x_i2l_n dX2_withSign_22 (by omega) ?_
    refine x_lor dX2_withSign_23 ?_
    rw [g_or (k := 5) (p := 32) (a := 27) (b := n) rfl (by omega) (by omega)]
    exact x_lreturn dX2_withSign_24 rfl (by decide) (by decide) ⟨by unfold codeV; rw [if_pos q], rfl⟩
theorem c_signFromEnd {n k : Nat} (hn : n < 2 ^ 64) (hk : k < 8) : xDet g l mX2_signFromEnd 0 0 0 [.long (lN n), .int (nI k)] h (some (.int (nI (sgnV (digV n k))))) h := by
  have e1 : ((lN n).toUInt64 >>> ((nI (5 * k)).toInt64.toUInt64 &&& Int64.toUInt64 63)).toInt64 = lN (n / 2 ^ (5 * k)) := wb_shr hn (by omega)
  have hd : digV n k < 32 := Nat.mod_lt _ (by decide)
  refine xMet.of (V := [some (.long (lN n)), none, some (.int (nI k)), none]) moX2_signFromEnd (Nat.le_of_ble_eq_true rfl) rfl ?_
  refine x_lload_n dX2_signFromEnd_0 rfl ?_
  refine x_iconst (nI 5) dX2_signFromEnd_1 (by decide) ?_
  refine x_iload_n dX2_signFromEnd_2 rfl ?_
  refine x_imul_n dX2_signFromEnd_3 ?_
  refine x_lushr _ dX2_signFromEnd_4 e1 ?_
  refine x_l2i _ dX2_signFromEnd_5 (lN_i _) ?_
  refine x_bipush (nI 31) dX2_signFromEnd_6 (by decide) ?_
  refine x_iand_n dX2_signFromEnd_8 ?_
  have e2 : n / 2 ^ (5 * k) &&& 31 = digV n k := Nat.and_two_pow_sub_one_eq_mod (n := 5) _
  rw [e2]
  refine x_istore_n dX2_signFromEnd_9 (by decide) rfl rfl ?_
  refine x_iload_n dX2_signFromEnd_10 rfl ?_
  refine x_if_ne_n 16 dX2_signFromEnd_11 (by decide) (by omega) (fun c1 => ?_) (fun c1 => ?_)
  · refine x_iload_n dX2_signFromEnd_16 rfl ?_
    refine x_bipush (nI 27) dX2_signFromEnd_17 (by decide) ?_
    refine x_icmp_ne_n 27 dX2_signFromEnd_19 (by decide) (by omega) (by omega) (fun c2 => ?_) (fun c2 => ?_)
    · refine x_iload_n dX2_signFromEnd_27 rfl ?_
      refine x_bipush (nI 97) dX2_signFromEnd_28 (by decide) ?_
      refine x_iadd_n dX2_signFromEnd_30 ?_
      refine x_iconst (nI 1) dX2_signFromEnd_31 (by decide) ?_
      refine x_isub_n dX2_signFromEnd_32 (by omega) ?_
      exact x_iret .int dX2_signFromEnd_33 rfl rfl (by decide) (by decide) (by unfold sgnV; rw [if_neg (by omega), if_neg c2]; congr 3) (rfl)
    · refine x_bipush (nI 45) dX2_signFromEnd_22 (by decide) ?_
      refine x_goto 33 dX2_signFromEnd_24 (by decide) ?_
      exact x_iret .int dX2_signFromEnd_33 rfl rfl (by decide) (by decide) (by unfold sgnV; rw [if_neg (by omega), if_pos c2]) (rfl)
  · refine x_iconst (nI 0) dX2_signFromEnd_14 (by decide) ?_
    exact x_iret .int dX2_signFromEnd_15 rfl rfl (by decide) (by decide) (by unfold sgnV; rw [if_pos c1]) (rfl)
theorem c_putSign {c : Nat} (hc : c < 128) (hT : T.length < 1332) : xDet g l mX3_putSign 0 0 0 [.ref w, .int (nI c)] (putWr h w f T) none (putWr h w f (T ++ [c])) := by
  refine xMet.of (V := [some (.ref w), some (.int (nI c))]) moX3_putSign (Nat.le_of_ble_eq_true rfl) rfl ?_
  refine x_aload_n dX3_putSign_0 rfl ?_
  refine x_getf dX3_putSign_1 f_X3_17 putWr_at.o rfl ?_
  refine x_sipush (nI 1332) dX3_putSign_4 (by decide) ?_
  refine x_icmp_ge_n 31 dX3_putSign_7 (by decide) (by omega) (by omega) (fun q => ?_) (fun q => ?_)
  · omega
  · refine x_aload_n dX3_putSign_10 rfl ?_
    refine x_getf dX3_putSign_11 f_X3_13 putWr_at.o rfl ?_
    refine x_aload_n dX3_putSign_14 rfl ?_
    refine x_getf dX3_putSign_15 f_X3_17 putWr_at.o rfl ?_
    refine x_iload_n dX3_putSign_18 rfl ?_
    refine x_i2b _ dX3_putSign_19 rfl ?_
    refine x_bast dX3_putSign_20 putWr_at.bytes hT (by decide) ?_
    rw [byte_n hc, wrF_put]
    have h1 : (hset (putWr h w f T) (w + 1) (.inl (1, 1332, .inl (wrF f (T ++ [c]))))).1 w = some (.inr (2, [.ref (w + 1), .int (nI T.length)])) := by
      simp [hset, putWr, wrE]
    refine x_aload_n dX3_putSign_21 rfl ?_
    refine x_dup dX3_putSign_22 rfl ?_
    refine x_getf dX3_putSign_23 f_X3_17 h1 rfl ?_
    refine x_iconst (nI 1) dX3_putSign_26 (by decide) ?_
    refine x_iadd_n dX3_putSign_27 ?_
    refine x_putf dX3_putSign_28 f_X3_17 h1 rfl rfl rfl (Nat.le_of_ble_eq_true rfl) ?_
    have e : hset (hset (putWr h w f T) (w + 1) (.inl (1, 1332, .inl (wrF f (T ++ [c]))))) w (.inr (2, [.ref (w + 1), .int (nI (T.length + 1))])) = putWr h w f (T ++ [c]) := by
      refine xH_ext (fun a => ?_) rfl
      unfold hset putWr
      dsimp only
      split
      · simp [wrE]
      · split
        · rename_i e1; subst e1; simp [wrE]
        · rfl
    refine xP.eq rfl rfl rfl e.symm ?_
    exact x_vret dX3_putSign_31 rfl (by decide) (by decide) rfl (rfl)
theorem c_putName {n : Nat} (hn : n < 2 ^ 64) (hT : T.length + 8 ≤ 1332) : xDet g l mX3_putName 1 0 0 [.ref w, .long (lN n)] (putWr h w f T) none (putWr h w f (T ++ nmL n 8)) := by
  refine xMet.of (V := [some (.ref w), some (.long (lN n)), none, none, none]) moX3_putName (Nat.le_of_ble_eq_true rfl) rfl ?_
  refine x_bipush (nI 7) dX3_putName_0 (by decide) ?_
  refine x_istore_n dX3_putName_2 (by decide) rfl rfl ?_
  have key : ∀ (k : Nat) (T : List Nat), k ≤ 8 → T.length + k ≤ 1332 → xP g l mX3_putName [] (xR 1 0 0) (xZ g (fun r' h' => r' = none ∧ h' = putWr h w f (T ++ nmL n k)) xno 0 0) 3 [some (.ref w), some (.long (lN n)), none, some (.int (dn (8 - k))), none] [] (putWr h w f T) 0 0 := by
    intro k
    induction k with
    | zero =>
      intro T _ hT
      rw [nmL, List.append_nil]
      refine x_iload_n dX3_putName_3 rfl ?_
      refine x_if_lt 31 dX3_putName_4 (by decide) (fun c => ?_) (fun c => ?_)
      · exact x_vret dX3_putName_31 rfl (by decide) (by decide) rfl (rfl)
      · exact absurd (by decide) c
    | succ k ih =>
      intro T hk hT
      have e1 : dn (8 - (k + 1)) = nI k := by unfold dn; rw [if_neg (by omega)]; congr 1; omega
      have hs := sgnV_lt (digV n k) (Nat.mod_lt _ (by decide))
      have e2 : dn (8 - (k + 1)) + Int32.ofInt (-1) = dn (8 - k) := by rw [dn_step _ (by omega), show 8 - (k + 1) + 1 = 8 - k by omega]
      rw [e1] at e2 ⊢
      refine x_iload_n dX3_putName_3 rfl ?_
      refine x_if_lt_n (tgt := 31) dX3_putName_4 (by decide) (by omega) ?_
      refine x_lload_n dX3_putName_7 rfl ?_
      refine x_iload_n dX3_putName_8 rfl ?_
      refine x_si0 dX3_putName_9 cS_X3_59 (c_signFromEnd hn (k := k) (by omega)) rfl rfl ⟨⟨by decide, by decide⟩, by decide, by decide⟩ (Nat.le_of_ble_eq_true rfl) ?_
      refine x_istore dX3_putName_12 (by decide) rfl rfl ?_
      refine x_iload dX3_putName_14 rfl ?_
      refine x_if_eq_n 25 dX3_putName_16 (by decide) (by omega) (fun c => ?_) (fun c => ?_)
      · have hz : digV n k = 0 := by
          unfold sgnV at c
          split at c
          · assumption
          · split at c <;> omega
        refine x_iinc dX3_putName_25 rfl e2 (by decide) rfl rfl ?_
        refine x_goto 3 dX3_putName_28 (by decide) ?_
        have := ih T (by omega) (by omega)
        rw [nmL, if_pos hz, List.nil_append]
        exact xP.weak (by simp [xle, xset1, fin3]) this
      · have hz : digV n k ≠ 0 := by
          intro q
          unfold sgnV at c
          rw [if_pos q] at c
          omega
        refine x_aload_n dX3_putName_19 rfl ?_
        refine x_iload dX3_putName_20 rfl ?_
        refine x_vv0 dX3_putName_22 cV_X3_26 (c_putSign hs (by omega)) rfl rfl ⟨⟨by decide, by decide⟩, by decide, by decide⟩ (Nat.le_of_ble_eq_true rfl) (xrecv putWr_at.o rfl xcl2) ?_
        refine x_iinc dX3_putName_25 rfl e2 (by decide) rfl rfl ?_
        refine x_goto 3 dX3_putName_28 (by decide) ?_
        have := ih (T ++ [sgnV (digV n k)]) (by omega) (by simp; omega)
        rw [nmL, if_neg hz, ← List.append_assoc]
        exact xP.weak (by simp [xle, xset1, fin3]) this
  exact key 8 T (Nat.le_refl _) hT
theorem hTx_step1 {st : Ar} {p n : Nat} {T : List Nat} (h : hasB st p n = true) : hTx st p T (n + 1) = ((hTx st p T n).1 ++ (if (hTx st p T n).2 then [] else [44]) ++ nmL (st.2.1 0 n).toBitVec.toNat 8 ++ (if heldB st p n then [] else [33]), false) := by rw [hTx, if_pos h]
theorem hTx_step0 {st : Ar} {p n : Nat} {T : List Nat} (h : hasB st p n = false) : hTx st p T (n + 1) = hTx st p T n := by rw [hTx, if_neg (by rw [h]; decide)]
theorem c_putHolders {o : Nat} {st : Ar} (hA : ArchAt h o st) (hd : w + 2 ≤ o ∨ o + 12 ≤ w) (hw : aOk st) {p : Nat} (hp : p < 12) (hT : T.length + 10 * st.1 1 ≤ 1332) : xDet g l mX3_putHolders 2 0 0 [.ref w, .ref o, .int (nI p)] (putWr h w f T) none (putWr h w f (hTx st p T (st.1 1)).1) := by
  have hN : st.1 1 ≤ 10 := hw.2.1
  have hA' : ∀ T', ArchAt (putWr h w f T') o st := fun T' => hA.wr hd
  refine xMet.of (V := [some (.ref w), some (.ref o), some (.int (nI p)), none, none]) moX3_putHolders (Nat.le_of_ble_eq_true rfl) rfl ?_
  refine x_iconst (nI 1) dX3_putHolders_0 (by decide) ?_
  refine x_istore_n dX3_putHolders_1 (by decide) rfl rfl ?_
  refine x_iconst (nI 0) dX3_putHolders_2 (by decide) ?_
  refine x_istore dX3_putHolders_3 (by decide) rfl rfl ?_
  refine xP.weak (V' := [some (.ref w), some (.ref o), some (.int (nI p)), some (.int (xb true)), some (.int (nI 0))]) (by simp [xle, xset1, fin3]; rfl) ?_
  refine xP.loop (fun i => [some (.ref w), some (.ref o), some (.int (nI p)), some (.int (xb (hTx st p T i).2)), some (.int (nI i))]) (fun i => putWr h w f (hTx st p T i).1) (st.1 1) ?_ ?_
  · intro i hi ih
    have hlen := hTx_len st p T i
    have hn8 := nmL_len (st.2.1 0 i).toBitVec.toNat 8
    obtain ⟨T0, b0, hq⟩ : ∃ T0 b0, hTx st p T i = (T0, b0) := ⟨_, _, rfl⟩
    rw [hq] at hlen ⊢
    dsimp only at hlen ⊢
    refine x_iload dX3_putHolders_5 rfl ?_
    refine x_aload_n dX3_putHolders_7 rfl ?_
    refine x_getf dX3_putHolders_8 f_X3_46 (hA' _).o rfl ?_
    refine x_icmp_ge_n 72 dX3_putHolders_11 (by decide) (by omega) (by omega) (fun c9 => ?_) (fun c9 => ?_)
    · omega
    · refine x_aload_n dX3_putHolders_14 rfl ?_
      refine x_iload_n dX3_putHolders_15 rfl ?_
      refine x_iload dX3_putHolders_16 rfl ?_
      refine x_vi0 dX3_putHolders_18 cV_X3_49 (c_hasCopy (hA' _) hw hp (f := i) (by omega)) rfl rfl ⟨⟨by decide, by decide⟩, by decide, by decide⟩ (Nat.le_of_ble_eq_true rfl) (xrecv (hA' _).o rfl xcl0) ?_
      refine x_if_ne_b 27 dX3_putHolders_21 (by decide) (fun c => ?_) (fun c => ?_)
      · have tail : ∀ T1, T1.length ≤ T0.length + 1 → T1 = T0 ++ (if b0 then [] else [44]) → xP g l mX3_putHolders [] (xR 2 0 0) (xZ g (fun r' h' => r' = none ∧ h' = putWr h w f (hTx st p T (st.1 1)).1) xno 0 0) 37 [some (.ref w), some (.ref o), some (.int (nI p)), none, some (.int (nI i))] [] (putWr h w f T1) 0 0 := by
          intro T1 h1 e1
          refine x_iconst (nI 0) dX3_putHolders_37 (by decide) ?_
          refine x_istore_n dX3_putHolders_38 (by decide) rfl rfl ?_
          refine x_aload_n dX3_putHolders_39 rfl ?_
          refine x_aload_n dX3_putHolders_40 rfl ?_
          refine x_getf dX3_putHolders_41 f_X3_53 (hA' _).o rfl ?_
          refine x_iload dX3_putHolders_44 rfl ?_
          refine x_lald dX3_putHolders_46 (hA' _).familyNames (by omega) (by decide) ?_
          rw [lN_of (st.2.1 0 i)]
          refine x_vv0 dX3_putHolders_47 cV_X3_34 (c_putName (Int64.toBitVec _).isLt (by omega)) rfl rfl ⟨⟨by decide, by decide⟩, by decide, by decide⟩ (Nat.le_of_ble_eq_true rfl) (xrecv putWr_at.o rfl xcl2) ?_
          refine x_aload_n dX3_putHolders_50 rfl ?_
          refine x_iload_n dX3_putHolders_51 rfl ?_
          refine x_iload dX3_putHolders_52 rfl ?_
          refine x_vi0 dX3_putHolders_54 cV_X3_56 (c_isHeld (hA' _) p i hp (by omega) (hw.held hp)) rfl rfl ⟨⟨by decide, by decide⟩, by decide, by decide⟩ (Nat.le_of_ble_eq_true rfl) (xrecv (hA' _).o rfl xcl0) ?_
          refine x_if_ne_b 66 dX3_putHolders_57 (by decide) (fun c2 => ?_) (fun c2 => ?_)
          · rw [hTx_step1 c, hq, ← e1] at ih
            refine x_iinc_n (k := 1) dX3_putHolders_66 rfl (by decide) (by decide) rfl rfl ?_
            refine x_goto 5 dX3_putHolders_69 (by decide) ?_
            refine xP.weak ?_ (xP.eq rfl rfl rfl (by simp only [heldB, c2]; simp) ih)
            simp [xle, xset1, fin3]
            rfl
          · rw [hTx_step1 c, hq, ← e1] at ih
            refine x_aload_n dX3_putHolders_60 rfl ?_
            refine x_bipush (nI 33) dX3_putHolders_61 (by decide) ?_
            refine x_vv0 dX3_putHolders_63 cV_X3_26 (c_putSign (by decide) (by simp; omega)) rfl rfl ⟨⟨by decide, by decide⟩, by decide, by decide⟩ (Nat.le_of_ble_eq_true rfl) (xrecv putWr_at.o rfl xcl2) ?_
            refine x_iinc_n (k := 1) dX3_putHolders_66 rfl (by decide) (by decide) rfl rfl ?_
            refine x_goto 5 dX3_putHolders_69 (by decide) ?_
            refine xP.weak ?_ (xP.eq rfl rfl rfl (by simp only [heldB, c2]; simp) ih)
            simp [xle, xset1, fin3]
            rfl
        refine x_iload_n dX3_putHolders_27 rfl ?_
        refine x_if_ne_b 37 dX3_putHolders_28 (by decide) (fun c3 => ?_) (fun c3 => ?_)
        · exact xP.weak (by simp [xle]) (tail T0 (by omega) (by rw [c3]; simp))
        · refine x_aload_n dX3_putHolders_31 rfl ?_
          refine x_bipush (nI 44) dX3_putHolders_32 (by decide) ?_
          refine x_vv0 dX3_putHolders_34 cV_X3_26 (c_putSign (by decide) (by omega)) rfl rfl ⟨⟨by decide, by decide⟩, by decide, by decide⟩ (Nat.le_of_ble_eq_true rfl) (xrecv putWr_at.o rfl xcl2) ?_
          exact xP.weak (by simp [xle]) (tail (T0 ++ [44]) (by simp) (by rw [c3]; simp))
      · rw [hTx_step0 c, hq] at ih
        refine x_goto 66 dX3_putHolders_24 (by decide) ?_
        refine x_iinc_n (k := 1) dX3_putHolders_66 rfl (by decide) (by decide) rfl rfl ?_
        refine x_goto 5 dX3_putHolders_69 (by decide) ?_
        exact xP.weak (by simp [xle, xset1, fin3]) ih
  · refine x_iload dX3_putHolders_5 rfl ?_
    refine x_aload_n dX3_putHolders_7 rfl ?_
    refine x_getf dX3_putHolders_8 f_X3_46 (hA' _).o rfl ?_
    refine x_icmp_ge_n 72 dX3_putHolders_11 (by decide) (by omega) (by omega) (fun c => ?_) (fun c => ?_)
    · exact x_vret dX3_putHolders_72 rfl (by decide) (by decide) rfl (rfl)
    · omega
theorem c_writeAll {o : Nat} {st : Ar} (hA : ArchAt h o st) (hd : w + 2 ≤ o ∨ o + 12 ≤ w) (hw : aOk st) : xDet g l mX3_writeAll 3 0 0 [.ref w, .ref o] (putWr h w f T) (some (.int (nI (wTx st (st.1 2)).length))) (putWr h w (wrF f T) (wTx st (st.1 2))) := by
  have hN : st.1 1 ≤ 10 := hw.2.1
  have hK : st.1 2 ≤ 12 := hw.2.2.1
  have hA' : ∀ f' T', ArchAt (putWr h w f' T') o st := fun f' T' => hA.wr hd
  refine xMet.of (V := [some (.ref w), some (.ref o), none]) moX3_writeAll (Nat.le_of_ble_eq_true rfl) rfl ?_
  refine x_aload_n dX3_writeAll_0 rfl ?_
  refine x_iconst (nI 0) dX3_writeAll_1 (by decide) ?_
  refine x_putf dX3_writeAll_2 f_X3_17 putWr_at.o rfl rfl rfl (Nat.le_of_ble_eq_true rfl) ?_
  refine x_iconst (nI 0) dX3_writeAll_5 (by decide) ?_
  refine x_istore_n dX3_writeAll_6 (by decide) rfl rfl ?_
  have e : hset (putWr h w f T) w (.inr (2, List.set [.ref (w + 1), .int (nI T.length)] 1 (.int (nI 0)))) = putWr h w (wrF f T) [] := by
    refine xH_ext (fun a => ?_) rfl
    unfold hset putWr
    dsimp only
    split
    · simp [wrE]
    · split
      · simp [wrE, wrF_nil]
      · rfl
  refine xP.eq rfl rfl rfl e.symm ?_
  refine xP.loop (fun i => [some (.ref w), some (.ref o), some (.int (nI i))]) (fun i => putWr h w (wrF f T) (wTx st i)) (st.1 2) ?_ ?_
  · intro i hi ih
    have hlen := wTx_len hw i (by omega)
    have hn8 := nmL_len (st.2.1 1 i).toBitVec.toNat 8
    refine x_iload_n dX3_writeAll_7 rfl ?_
    refine x_aload_n dX3_writeAll_8 rfl ?_
    refine x_getf dX3_writeAll_9 f_X3_21 (hA' _ _).o rfl ?_
    refine x_icmp_ge_n 67 dX3_writeAll_12 (by decide) (by omega) (by omega) (fun c => ?_) (fun c => ?_)
    · omega
    · have tail : ∀ T1, T1.length ≤ 111 * i + 1 → T1 = wTx st i ++ (if i = 0 then [] else [32]) → xP g l mX3_writeAll [] (xR 3 0 0) (xZ g (fun r' h' => r' = some (.int (nI (wTx st (st.1 2)).length)) ∧ h' = putWr h w (wrF f T) (wTx st (st.1 2))) xno 0 0) 25 [some (.ref w), some (.ref o), some (.int (nI i))] [] (putWr h w (wrF f T) T1) 0 0 := by
        intro T1 h1 e1
        refine x_aload_n dX3_writeAll_25 rfl ?_
        refine x_aload_n dX3_writeAll_26 rfl ?_
        refine x_getf dX3_writeAll_27 f_X3_30 (hA' _ _).o rfl ?_
        refine x_iload_n dX3_writeAll_30 rfl ?_
        refine x_lald dX3_writeAll_31 (hA' _ _).pictureNames (by omega) (by decide) ?_
        rw [lN_of (st.2.1 1 i)]
        refine x_vv0 dX3_writeAll_32 cV_X3_34 (c_putName (Int64.toBitVec _).isLt (by omega)) rfl rfl ⟨⟨by decide, by decide⟩, by decide, by decide⟩ (Nat.le_of_ble_eq_true rfl) (xrecv putWr_at.o rfl xcl2) ?_
        refine x_aload_n dX3_writeAll_35 rfl ?_
        refine x_bipush (nI 58) dX3_writeAll_36 (by decide) ?_
        refine x_vv0 dX3_writeAll_38 cV_X3_26 (c_putSign (by decide) (by simp; omega)) rfl rfl ⟨⟨by decide, by decide⟩, by decide, by decide⟩ (Nat.le_of_ble_eq_true rfl) (xrecv putWr_at.o rfl xcl2) ?_
        rw [wTx, ← e1] at ih
        have h5 := hTx_len st i (T1 ++ nmL (st.2.1 1 i).toBitVec.toNat 8 ++ [58]) (st.1 1)
        simp only [List.length_append, List.length_singleton] at h5
        refine x_aload_n dX3_writeAll_41 rfl ?_
        refine x_aload_n dX3_writeAll_42 rfl ?_
        refine x_iload_n dX3_writeAll_43 rfl ?_
        refine x_vv0 dX3_writeAll_44 cV_X3_38 (c_putHolders hA hd hw (p := i) (by omega) (by simp; omega)) rfl rfl ⟨⟨by decide, by decide⟩, by decide, by decide⟩ (Nat.le_of_ble_eq_true rfl) (xrecv putWr_at.o rfl xcl2) ?_
        refine x_aload_n dX3_writeAll_47 rfl ?_
        refine x_iload_n dX3_writeAll_48 rfl ?_
        refine x_vi0 dX3_writeAll_49 cV_X3_42 (c_isInDanger (hA' _ _) hw (p := i) (by omega)) rfl rfl ⟨⟨by decide, by decide⟩, by decide, by decide⟩ (Nat.le_of_ble_eq_true rfl) (xrecv (hA' _ _).o rfl xcl0) ?_
        refine x_if_eq_b 61 dX3_writeAll_52 (by decide) (fun c2 => ?_) (fun c2 => ?_)
        · refine x_iinc_n (k := 1) dX3_writeAll_61 rfl (by decide) (by decide) rfl rfl ?_
          refine x_goto 7 dX3_writeAll_64 (by decide) ?_
          exact xP.weak (by simp [xle, xset1, fin3]) (xP.eq rfl rfl rfl (by rw [c2]; simp) ih)
        · refine x_aload_n dX3_writeAll_55 rfl ?_
          refine x_bipush (nI 42) dX3_writeAll_56 (by decide) ?_
          refine x_vv0 dX3_writeAll_58 cV_X3_26 (c_putSign (by decide) (by omega)) rfl rfl ⟨⟨by decide, by decide⟩, by decide, by decide⟩ (Nat.le_of_ble_eq_true rfl) (xrecv putWr_at.o rfl xcl2) ?_
          refine x_iinc_n (k := 1) dX3_writeAll_61 rfl (by decide) (by decide) rfl rfl ?_
          refine x_goto 7 dX3_writeAll_64 (by decide) ?_
          exact xP.weak (by simp [xle, xset1, fin3]) (xP.eq rfl rfl rfl (by rw [c2]; simp) ih)
      refine x_iload_n dX3_writeAll_15 rfl ?_
      refine x_if_le_n 25 dX3_writeAll_16 (by decide) (by omega) (fun c3 => ?_) (fun c3 => ?_)
      · exact tail _ (by omega) (by rw [if_pos c3]; simp)
      · refine x_aload_n dX3_writeAll_19 rfl ?_
        refine x_bipush (nI 32) dX3_writeAll_20 (by decide) ?_
        refine x_vv0 dX3_writeAll_22 cV_X3_26 (c_putSign (by decide) (by omega)) rfl rfl ⟨⟨by decide, by decide⟩, by decide, by decide⟩ (Nat.le_of_ble_eq_true rfl) (xrecv putWr_at.o rfl xcl2) ?_
        exact tail _ (by simp; omega) (by rw [if_neg (by omega)])
  · refine x_iload_n dX3_writeAll_7 rfl ?_
    refine x_aload_n dX3_writeAll_8 rfl ?_
    refine x_getf dX3_writeAll_9 f_X3_21 (hA' _ _).o rfl ?_
    refine x_icmp_ge_n 67 dX3_writeAll_12 (by decide) (by omega) (by omega) (fun c => ?_) (fun c => ?_)
    · refine x_aload_n dX3_writeAll_67 rfl ?_
      refine x_getf dX3_writeAll_68 f_X3_17 putWr_at.o rfl ?_
      exact x_iret .int dX3_writeAll_71 rfl rfl (by decide) (by decide) (rfl) (rfl)
    · omega
end W1
