/-! ===== Archive: waves, the next holder, spreading ===== -/
def waveS (st : Ar) : Nat → Ar
  | 0 => st
  | n + 1 => (repO (waveS st n) (st.1 2)).1
def wavC (st : Ar) (k : Nat) : Nat := (repO (waveS st k) (st.1 2)).2
def wavN (st : Ar) : Nat := fa_first (fun k => wavC st k == 0) 120
def wavE (st : Ar) : Ar := if wavN st < 120 then waveS st (wavN st + 1) else waveS st 120
theorem waveS_const {st : Ar} {i : Nat} (hi : i ≠ 4) : ∀ n, (waveS st n).1 i = st.1 i := by
  intro n
  induction n with
  | zero => rfl
  | succ n ih => exact (repO_const hi _).trans ih
theorem waveS_ok {st : Ar} (hw : aOk st) : ∀ n, aOk (waveS st n) := by
  intro n
  induction n with
  | zero => exact hw
  | succ n ih => exact repO_ok ih _ hw.2.2.1
def mcStep (s : Ar × Nat) (p : Nat) : Option (Ar × Nat) := if inDB s.1 p then (match nextH s.1 p (s.1.1 1) with
  | none => none
  | some f => some (addCopyS s.1 p f (spAll s.1 p (srcV s.1 p f) (s.1.1 1)), s.2 + 1)) else none
def mcI (s : Ar × Nat) (p : Nat) : Nat → Ar × Nat
  | 0 => s
  | n + 1 => match mcStep s p with
    | none => s
    | some s' => mcI s' p n
def mcO (st : Ar) : Nat → Ar × Nat
  | 0 => (st, 0)
  | n + 1 => mcI (mcO st n) n 10
theorem mcI_stop {s : Ar × Nat} {p n : Nat} (q : mcStep s p = none) : mcI s p (n + 1) = s := by rw [mcI, q]
theorem mcI_go {s s' : Ar × Nat} {p n : Nat} (q : mcStep s p = some s') : mcI s p (n + 1) = mcI s' p n := by rw [mcI, q]
theorem nextH_may {st : Ar} {p : Nat} : ∀ {n b : Nat}, nextH st p n = some b → mayB st p b = true := by
  intro n
  induction n with
  | zero => intro b h; cases h
  | succ n ih =>
    intro b h
    cases hm : mayB st p n
    · have e : nextH st p (n + 1) = nextH st p n := by rw [nextH, hm]; rfl
      rw [e] at h
      exact ih h
    · have e : nextH st p (n + 1) = some n ∨ nextH st p (n + 1) = nextH st p n := by
        rw [nextH]
        generalize (mayB st p n && _) = q
        cases q
        · exact Or.inr rfl
        · exact Or.inl rfl
      rcases e with e | e
      · rw [e] at h; cases h; exact hm
      · rw [e] at h; exact ih h
/-- the same numbers of tiles, families and pictures, in range, with the same answers -/
def mcInv (st s : Ar) : Prop := aOk s ∧ s.1 = st.1 ∧ s.2.2 2 = st.2.2 2 ∧ s.2.2 3 = st.2.2 3
theorem srcV_lt {st : Ar} (hw : aOk st) {p f : Nat} (hp : p < 12) : srcV st p f < 1024 := Nat.lt_of_le_of_lt Nat.and_le_right (hw.held hp)
theorem addCopyS_ok {st : Ar} (hw : aOk st) {p f sp : Nat} (hp : p < 12) (hf : f < st.1 1) (hsp : sp < 2 ^ st.1 0) (hl : st.2.2 4 f + 1 ≤ st.2.2 0 f) : aOk (addCopyS st p f sp) := by
  obtain ⟨h1, h2, h3, h4, h5, h6, h7, h8⟩ := hw
  refine ⟨h1, h2, h3, fun q hq => ⟨?_, (h4 q hq).2⟩, h5, fun i hi => ?_, fun k hk => ?_, h8⟩
  · show va_up (st.2.2 6) p (st.2.2 6 p ||| 2 ^ f) q < 2 ^ st.1 1
    unfold va_up
    split
    · exact or_lt (h4 p hp).1 hf
    · exact (h4 q hq).1
  · show va_up (st.2.2 8) (10 * p + f) sp i < 2 ^ st.1 0
    unfold va_up
    split
    · exact hsp
    · exact h6 i hi
  · show st.2.2 0 k ≤ 20 ∧ va_up (st.2.2 4) f (st.2.2 4 f + 1) k ≤ st.2.2 0 k
    unfold va_up
    refine ⟨(h7 k hk).1, ?_⟩
    split
    · rename_i e; subst e; exact hl
    · exact (h7 k hk).2
theorem mcStep_inv {st : Ar} {s s' : Ar × Nat} {p : Nat} (hp : p < 12) (h : mcInv st s.1) (e : mcStep s p = some s') : mcInv st s'.1 := by
  unfold mcStep at e
  split at e
  · cases hn : nextH s.1 p (s.1.1 1) with
    | none => rw [hn] at e; cases e
    | some f =>
      rw [hn] at e
      cases e
      obtain ⟨hw, h1, h2, h3⟩ := h
      have hm := nextH_may hn
      have hl : 0 < leftV s.1 f := by
        unfold mayB at hm
        simp only [Bool.and_eq_true, decide_eq_true_eq] at hm
        exact hm.1.2
      unfold leftV at hl
      exact ⟨addCopyS_ok hw hp (nextH_lt hn) (spAll_lt _ _ _ _) (by omega), h1, h2, h3⟩
  · cases e
theorem mcI_inv {st : Ar} {p : Nat} (hp : p < 12) : ∀ (n : Nat) (s : Ar × Nat), mcInv st s.1 → mcInv st (mcI s p n).1 := by
  intro n
  induction n with
  | zero => intro s h; exact h
  | succ n ih =>
    intro s h
    rw [mcI]
    cases e : mcStep s p with
    | none => exact h
    | some s' => exact ih s' (mcStep_inv hp h e)
theorem mcO_inv {st : Ar} (hw : aOk st) : ∀ n, n ≤ 12 → mcInv st (mcO st n).1 := by
  intro n
  induction n with
  | zero => intro _; exact ⟨hw, rfl, rfl, rfl⟩
  | succ n ih => intro hn; exact mcI_inv (by omega) _ _ (ih (by omega))
theorem mcInv.cn {st s : Ar} {B : Nat} (h : mcInv st s) (hc : aCn st B) : aCn s B := by
  intro f hf
  rw [h.2.2.1, h.2.2.2]
  exact hc f hf
theorem nI_m1 {b : Nat} (hb : b < 2 ^ 31) : ¬ nI b = -1 := by
  intro h
  have h1 := congrArg Int32.toInt h
  rw [nI_toInt hb] at h1
  have h2 : (-1 : Int32).toInt = -1 := by decide
  omega
section A4
variable {g : xG} {l : Launch} {h : xH} {o : Nat} {st : Ar}
theorem c_repairInWaves (hw : aOk st) : xDet g l mX0_repairInWaves 5 0 0 [.ref o] (putArch h o st) (some (.int (nI (wavN st)))) (putArch h o (wavE st)) := by
  have hle : wavN st ≤ 120 := fa_first_le _ _
  have hK : ∀ k, (waveS st k).1 2 = st.1 2 := waveS_const (by decide)
  have step : ∀ k, xDet g l mX0_repairAtOnce 4 0 0 [.ref o] (putArch h o (waveS st k)) (some (.int (nI (wavC st k)))) (putArch h o (waveS st (k + 1))) := fun k => by
    have := c_repairAtOnce (g := g) (l := l) (h := h) (o := o) (waveS_ok hw k)
    rw [hK] at this
    exact this
  have hcn : ∀ k, wavC st k < 2 ^ 31 := fun k => by
    have h1 := repO_cnt (waveS_ok hw k) (st.1 2)
    have h2 : st.1 2 ≤ 12 := hw.2.2.1
    unfold wavC
    omega
  refine xMet.of (V := [some (.ref o), none]) moX0_repairInWaves (Nat.le_of_ble_eq_true rfl) rfl ?_
  refine x_iconst (nI 0) dX0_repairInWaves_0 (by decide) ?_
  refine x_istore_n dX0_repairInWaves_1 (by decide) rfl rfl ?_
  refine xP.loop (fun i => [some (.ref o), some (.int (nI i))]) (fun i => putArch h o (waveS st i)) (wavN st) ?_ ?_
  · intro i hi ih
    have hne : wavC st i ≠ 0 := by
      have := fa_first_no (fun k => wavC st k == 0) 120 i hi
      intro e
      simp [e] at this
    have hc2 := hcn i
    refine x_iload_n dX0_repairInWaves_2 rfl ?_
    refine x_bipush (nI 120) dX0_repairInWaves_3 (by decide) ?_
    refine x_icmp_ge_n 23 dX0_repairInWaves_5 (by decide) (by omega) (by omega) (fun c => ?_) (fun c => ?_)
    · omega
    · refine x_aload_n dX0_repairInWaves_8 rfl ?_
      refine x_vi0 dX0_repairInWaves_9 cV_X0_144 (step i) rfl rfl ⟨⟨by decide, by decide⟩, by decide, by decide⟩ (Nat.le_of_ble_eq_true rfl) (xrecv putArch_at.o rfl xcl0) ?_
      refine x_if_ne_n 17 dX0_repairInWaves_12 (by decide) (by omega) (fun c2 => ?_) (fun c2 => ?_)
      · refine x_iinc_n (k := 1) dX0_repairInWaves_17 rfl (by decide) (by decide) rfl rfl ?_
        refine x_goto 2 dX0_repairInWaves_20 (by decide) ?_
        exact xP.weak (by simp [xle, xset1, fin3]) ih
      · omega
  · have hc2 := hcn (wavN st)
    refine x_iload_n dX0_repairInWaves_2 rfl ?_
    refine x_bipush (nI 120) dX0_repairInWaves_3 (by decide) ?_
    refine x_icmp_ge_n 23 dX0_repairInWaves_5 (by decide) (by omega) (by omega) (fun c => ?_) (fun c => ?_)
    · refine x_bipush (nI 120) dX0_repairInWaves_23 (by decide) ?_
      exact x_iret .int dX0_repairInWaves_25 rfl rfl (by decide) (by decide) (by rw [show wavN st = 120 by omega]) (by unfold wavE; rw [if_neg (by omega), show wavN st = 120 by omega])
    · have hz : wavC st (wavN st) = 0 := by
        have := fa_first_yes (fun k => wavC st k == 0) 120 c
        exact eq_of_beq this
      refine x_aload_n dX0_repairInWaves_8 rfl ?_
      refine x_vi0 dX0_repairInWaves_9 cV_X0_144 (step (wavN st)) rfl rfl ⟨⟨by decide, by decide⟩, by decide, by decide⟩ (Nat.le_of_ble_eq_true rfl) (xrecv putArch_at.o rfl xcl0) ?_
      refine x_if_ne_n 17 dX0_repairInWaves_12 (by decide) (by omega) (fun c2 => ?_) (fun c2 => ?_)
      · omega
      · refine x_iload_n dX0_repairInWaves_15 rfl ?_
        exact x_iret .int dX0_repairInWaves_16 rfl rfl (by decide) (by decide) (rfl) (by unfold wavE; rw [if_pos c])
theorem c_bestNewHolder (hA : ArchAt h o st) (hw : aOk st) (hcn : aCn st 10000000) {p : Nat} (hp : p < 12) : xDet g l mX0_bestNewHolder 2 0 0 [.ref o, .int (nI p)] h (some (.int (oI (nextH st p (st.1 1))))) h := by
  have hN : st.1 1 ≤ 10 := hw.2.1
  refine xMet.of (V := [some (.ref o), some (.int (nI p)), none, none, none]) moX0_bestNewHolder (Nat.le_of_ble_eq_true rfl) rfl ?_
  refine x_iconst (-1) dX0_bestNewHolder_0 (by decide) ?_
  refine x_istore_n dX0_bestNewHolder_1 (by decide) rfl rfl ?_
  refine x_iconst (nI 0) dX0_bestNewHolder_2 (by decide) ?_
  refine x_istore_n dX0_bestNewHolder_3 (by decide) rfl rfl ?_
  refine xP.loop0 (fun i => [some (.ref o), some (.int (nI p)), some (.int (oI (nextH st p i))), some (.int (nI i)), none]) (st.1 1) ?_ ?_
  · intro i hi ih
    have hleft := leftV_le hw (f := i) (by omega)
    have hsrc := srcV_lt hw (f := i) hp
    have no : mayB st p i = false → nextH st p (i + 1) = nextH st p i := fun q => by rw [nextH, q]; rfl
    refine x_iload_n dX0_bestNewHolder_4 rfl ?_
    refine x_aload_n dX0_bestNewHolder_5 rfl ?_
    refine x_getf dX0_bestNewHolder_6 f_X0_50 hA.o rfl ?_
    refine x_icmp_ge_n 72 dX0_bestNewHolder_9 (by decide) (by omega) (by omega) (fun c => ?_) (fun c => ?_)
    · omega
    · refine x_aload_n dX0_bestNewHolder_12 rfl ?_
      refine x_iload_n dX0_bestNewHolder_13 rfl ?_
      refine x_iload_n dX0_bestNewHolder_14 rfl ?_
      refine x_vi0 dX0_bestNewHolder_15 cV_X0_118 (c_hasCopy hA hw hp (f := i) (by omega)) rfl rfl ⟨⟨by decide, by decide⟩, by decide, by decide⟩ (Nat.le_of_ble_eq_true rfl) (xrecv hA.o rfl xcl0) ?_
      refine x_if_ne_b 42 dX0_bestNewHolder_18 (by decide) (fun c => ?_) (fun c => ?_)
      · have hn := no (by unfold mayB; rw [c]; rfl)
        refine x_iconst (nI 0) dX0_bestNewHolder_42 (by decide) ?_
        refine x_istore dX0_bestNewHolder_43 (by decide) rfl rfl ?_
        refine x_iload dX0_bestNewHolder_45 rfl ?_
        refine x_if_eq_n 66 dX0_bestNewHolder_47 (by decide) (by omega) (fun c9 => ?_) (fun c9 => ?_)
        · refine x_iinc_n (k := 1) dX0_bestNewHolder_66 rfl (by decide) (by decide) rfl rfl ?_
          refine x_goto 4 dX0_bestNewHolder_69 (by decide) ?_
          exact xP.weak (by simp [xle, xset1, xset2, fin3, hn]) ih
        · omega
      · refine x_aload_n dX0_bestNewHolder_21 rfl ?_
        refine x_iload_n dX0_bestNewHolder_22 rfl ?_
        refine x_vi0 dX0_bestNewHolder_23 cV_X0_165 (c_roomLeft hA hw (f := i) (by omega)) rfl rfl ⟨⟨by decide, by decide⟩, by decide, by decide⟩ (Nat.le_of_ble_eq_true rfl) (xrecv hA.o rfl xcl0) ?_
        refine x_if_le_n 42 dX0_bestNewHolder_26 (by decide) (by omega) (fun c2 => ?_) (fun c2 => ?_)
        · have hn := no (by unfold mayB; rw [c2, c]; rfl)
          refine x_iconst (nI 0) dX0_bestNewHolder_42 (by decide) ?_
          refine x_istore dX0_bestNewHolder_43 (by decide) rfl rfl ?_
          refine x_iload dX0_bestNewHolder_45 rfl ?_
          refine x_if_eq_n 66 dX0_bestNewHolder_47 (by decide) (by omega) (fun c9 => ?_) (fun c9 => ?_)
          · refine x_iinc_n (k := 1) dX0_bestNewHolder_66 rfl (by decide) (by decide) rfl rfl ?_
            refine x_goto 4 dX0_bestNewHolder_69 (by decide) ?_
            exact xP.weak (by simp [xle, xset1, xset2, fin3, hn]) ih
          · omega
        · refine x_aload_n dX0_bestNewHolder_29 rfl ?_
          refine x_iload_n dX0_bestNewHolder_30 rfl ?_
          refine x_iload_n dX0_bestNewHolder_31 rfl ?_
          refine x_vi0 dX0_bestNewHolder_32 cV_X0_153 (c_sourcesOf hA hp (f := i) (by omega)) rfl rfl ⟨⟨by decide, by decide⟩, by decide, by decide⟩ (Nat.le_of_ble_eq_true rfl) (xrecv hA.o rfl xcl0) ?_
          refine x_if_eq_n 42 dX0_bestNewHolder_35 (by decide) (by omega) (fun c3 => ?_) (fun c3 => ?_)
          · have hn := no (by unfold mayB; rw [c3]; simp)
            refine x_iconst (nI 0) dX0_bestNewHolder_42 (by decide) ?_
            refine x_istore dX0_bestNewHolder_43 (by decide) rfl rfl ?_
            refine x_iload dX0_bestNewHolder_45 rfl ?_
            refine x_if_eq_n 66 dX0_bestNewHolder_47 (by decide) (by omega) (fun c9 => ?_) (fun c9 => ?_)
            · refine x_iinc_n (k := 1) dX0_bestNewHolder_66 rfl (by decide) (by decide) rfl rfl ?_
              refine x_goto 4 dX0_bestNewHolder_69 (by decide) ?_
              exact xP.weak (by simp [xle, xset1, xset2, fin3, hn]) ih
            · omega
          · have hm : mayB st p i = true := by
              unfold mayB
              rw [c, dT c2, dT (by omega)]
              rfl
            refine x_iconst (nI 1) dX0_bestNewHolder_38 (by decide) ?_
            refine x_goto 43 dX0_bestNewHolder_39 (by decide) ?_
            refine x_istore dX0_bestNewHolder_43 (by decide) rfl rfl ?_
            refine x_iload dX0_bestNewHolder_45 rfl ?_
            refine x_if_eq_n 66 dX0_bestNewHolder_47 (by decide) (by omega) (fun c9 => ?_) (fun c9 => ?_)
            · omega
            · cases hq : nextH st p i with
              | none =>
                have hn : nextH st p (i + 1) = some i := by rw [nextH, hq, hm]; rfl
                refine x_iload_n dX0_bestNewHolder_50 rfl ?_
                refine x_iconst (-1) dX0_bestNewHolder_51 (by decide) ?_
                refine x_icmp_eq 64 dX0_bestNewHolder_52 (by decide) (fun c4 => ?_) (fun c4 => ?_)
                · refine x_iload_n dX0_bestNewHolder_64 rfl ?_
                  refine x_istore_n dX0_bestNewHolder_65 (by decide) rfl rfl ?_
                  refine x_iinc_n (k := 1) dX0_bestNewHolder_66 rfl (by decide) (by decide) rfl rfl ?_
                  refine x_goto 4 dX0_bestNewHolder_69 (by decide) ?_
                  exact xP.weak (by simp [xle, xset1, xset2, fin3, hn, oI]) ih
                · exact absurd rfl c4
              | some b =>
                have hb := nextH_lt hq
                refine x_iload_n dX0_bestNewHolder_50 rfl ?_
                refine x_iconst (-1) dX0_bestNewHolder_51 (by decide) ?_
                refine x_icmp_eq 64 dX0_bestNewHolder_52 (by decide) (fun c4 => ?_) (fun c4 => ?_)
                · exact absurd c4 (nI_m1 (by omega))
                · refine x_aload_n dX0_bestNewHolder_55 rfl ?_
                  refine x_iload_n dX0_bestNewHolder_56 rfl ?_
                  refine x_iload_n dX0_bestNewHolder_57 rfl ?_
                  refine x_vi0 dX0_bestNewHolder_58 cV_X0_168 (c_isBetterHolder hA hw hcn (f := i) (b := b) (by omega) (by omega)) rfl rfl ⟨⟨by decide, by decide⟩, by decide, by decide⟩ (Nat.le_of_ble_eq_true rfl) (xrecv hA.o rfl xcl0) ?_
                  refine x_if_eq_b 66 dX0_bestNewHolder_61 (by decide) (fun c5 => ?_) (fun c5 => ?_)
                  · have hn : nextH st p (i + 1) = some b := by rw [nextH, hq, hm]; simp [c5]
                    refine x_iinc_n (k := 1) dX0_bestNewHolder_66 rfl (by decide) (by decide) rfl rfl ?_
                    refine x_goto 4 dX0_bestNewHolder_69 (by decide) ?_
                    exact xP.weak (by simp [xle, xset1, xset2, fin3, hn, oI]) ih
                  · have hn : nextH st p (i + 1) = some i := by rw [nextH, hq, hm]; simp [c5]
                    refine x_iload_n dX0_bestNewHolder_64 rfl ?_
                    refine x_istore_n dX0_bestNewHolder_65 (by decide) rfl rfl ?_
                    refine x_iinc_n (k := 1) dX0_bestNewHolder_66 rfl (by decide) (by decide) rfl rfl ?_
                    refine x_goto 4 dX0_bestNewHolder_69 (by decide) ?_
                    exact xP.weak (by simp [xle, xset1, xset2, fin3, hn, oI]) ih
  · refine x_iload_n dX0_bestNewHolder_4 rfl ?_
    refine x_aload_n dX0_bestNewHolder_5 rfl ?_
    refine x_getf dX0_bestNewHolder_6 f_X0_50 hA.o rfl ?_
    refine x_icmp_ge_n 72 dX0_bestNewHolder_9 (by decide) (by omega) (by omega) (fun c => ?_) (fun c => ?_)
    · refine x_iload_n dX0_bestNewHolder_72 rfl ?_
      exact x_iret .int dX0_bestNewHolder_73 rfl rfl (by decide) (by decide) (rfl) (rfl)
    · omega
theorem c_makeCopies (hw : aOk st) (hcn : aCn st 10000000) : xDet g l mX0_makeCopies 3 0 0 [.ref o] (putArch h o st) (some (.int (nI (mcO st (st.1 2)).2))) (putArch h o (mcO st (st.1 2)).1) := by
  have hK : st.1 2 ≤ 12 := hw.2.2.1
  refine xMet.of (V := [some (.ref o), none, none, none, none]) moX0_makeCopies (Nat.le_of_ble_eq_true rfl) rfl ?_
  refine x_iconst (nI 0) dX0_makeCopies_0 (by decide) ?_
  refine x_istore_n dX0_makeCopies_1 (by decide) rfl rfl ?_
  refine x_iconst (nI 0) dX0_makeCopies_2 (by decide) ?_
  refine x_istore_n dX0_makeCopies_3 (by decide) rfl rfl ?_
  refine xP.loop (fun i => [some (.ref o), some (.int (nI (mcO st i).2)), some (.int (nI i)), none, none]) (fun i => putArch h o (mcO st i).1) (st.1 2) ?_ ?_
  · intro i hi ih
    have hinv := mcO_inv hw i (by omega)
    refine x_iload_n dX0_makeCopies_4 rfl ?_
    refine x_aload_n dX0_makeCopies_5 rfl ?_
    refine x_getf dX0_makeCopies_6 f_X0_53 putArch_at.o rfl ?_
    rw [hinv.2.1]
    refine x_icmp_ge_n 78 dX0_makeCopies_9 (by decide) (by omega) (by omega) (fun c => ?_) (fun c => ?_)
    · omega
    · refine x_iconst (nI 0) dX0_makeCopies_12 (by decide) ?_
      refine x_istore_n dX0_makeCopies_13 (by decide) rfl rfl ?_
      have inner : ∀ (m : Nat) (s : Ar × Nat), m ≤ 10 → mcInv st s.1 → mcI (mcO st i) i 10 = mcI s i m → xP g l mX0_makeCopies [] (xR 3 0 0) (xZ g (fun r' h' => r' = some (.int (nI (mcO st (st.1 2)).2)) ∧ h' = putArch h o (mcO st (st.1 2)).1) xno 0 0) 14 [some (.ref o), some (.int (nI s.2)), some (.int (nI i)), some (.int (nI (10 - m))), none] [] (putArch h o s.1) 0 0 := by
        intro m
        induction m with
        | zero =>
          intro s hm hs e
          have e : mcI (mcO st i) i 10 = s := e
          rw [mcO, e] at ih
          refine x_iload_n dX0_makeCopies_14 rfl ?_
          refine x_bipush (nI 10) dX0_makeCopies_15 (by decide) ?_
          refine x_icmp_ge_n 72 dX0_makeCopies_17 (by decide) (by omega) (by omega) (fun c => ?_) (fun c => ?_)
          · refine x_iinc_n (k := 1) dX0_makeCopies_72 rfl (by decide) (by decide) rfl rfl ?_
            refine x_goto 4 dX0_makeCopies_75 (by decide) ?_
            exact xP.weak (by simp [xle, xset1, fin3]) ih
          · omega
        | succ m ihm =>
          intro s hm hs e
          have hN : s.1.1 1 ≤ 10 := hs.1.2.1
          have stop : mcStep s i = none → xP g l mX0_makeCopies [] (xR 3 0 0) (xZ g (fun r' h' => r' = some (.int (nI (mcO st (st.1 2)).2)) ∧ h' = putArch h o (mcO st (st.1 2)).1) xno 0 0) 72 [some (.ref o), some (.int (nI s.2)), some (.int (nI i)), some (.int (nI (10 - (m + 1)))), none] [] (putArch h o s.1) 0 0 := by
            intro q
            rw [mcI_stop q] at e
            rw [mcO, e] at ih
            refine x_iinc_n (k := 1) dX0_makeCopies_72 rfl (by decide) (by decide) rfl rfl ?_
            refine x_goto 4 dX0_makeCopies_75 (by decide) ?_
            exact xP.weak (by simp [xle, xset1, fin3]) ih
          refine x_iload_n dX0_makeCopies_14 rfl ?_
          refine x_bipush (nI 10) dX0_makeCopies_15 (by decide) ?_
          refine x_icmp_ge_n 72 dX0_makeCopies_17 (by decide) (by omega) (by omega) (fun c => ?_) (fun c => ?_)
          · omega
          · refine x_aload_n dX0_makeCopies_20 rfl ?_
            refine x_iload_n dX0_makeCopies_21 rfl ?_
            refine x_vi0 dX0_makeCopies_22 cV_X0_111 (c_isInDanger putArch_at hs.1 (p := i) (by omega)) rfl rfl ⟨⟨by decide, by decide⟩, by decide, by decide⟩ (Nat.le_of_ble_eq_true rfl) (xrecv putArch_at.o rfl xcl0) ?_
            refine x_if_eq_b 72 dX0_makeCopies_25 (by decide) (fun c2 => ?_) (fun c2 => ?_)
            · exact stop (by unfold mcStep; rw [c2]; rfl)
            · refine x_aload_n dX0_makeCopies_28 rfl ?_
              refine x_iload_n dX0_makeCopies_29 rfl ?_
              refine x_vi0 dX0_makeCopies_30 cV_X0_150 (c_bestNewHolder putArch_at hs.1 (hs.cn hcn) (p := i) (by omega)) rfl rfl ⟨⟨by decide, by decide⟩, by decide, by decide⟩ (Nat.le_of_ble_eq_true rfl) (xrecv putArch_at.o rfl xcl0) ?_
              refine x_istore dX0_makeCopies_33 (by decide) rfl rfl ?_
              refine x_iload dX0_makeCopies_35 rfl ?_
              refine x_iconst (-1) dX0_makeCopies_37 (by decide) ?_
              refine x_icmp_ne 44 dX0_makeCopies_38 (by decide) (fun c3 => ?_) (fun c3 => ?_)
              · cases hq : nextH s.1 i (s.1.1 1) with
                | none => rw [hq] at c3; exact absurd rfl c3
                | some f =>
                  have hf := nextH_lt hq
                  have hst : mcStep s i = some (addCopyS s.1 i f (spAll s.1 i (srcV s.1 i f) (s.1.1 1)), s.2 + 1) := by unfold mcStep; rw [if_pos c2, hq]
                  refine xP.weak (V' := [some (.ref o), some (.int (nI s.2)), some (.int (nI i)), some (.int (nI (10 - (m + 1)))), some (.int (nI f))]) (by simp [xle, xset1, fin3, hq, oI]) ?_
                  have hso := srcV_lt hs.1 (p := i) (f := f) (by omega)
                  refine x_aload_n dX0_makeCopies_44 rfl ?_
                  refine x_iload_n dX0_makeCopies_45 rfl ?_
                  refine x_iload dX0_makeCopies_46 rfl ?_
                  refine x_aload_n dX0_makeCopies_48 rfl ?_
                  refine x_iload_n dX0_makeCopies_49 rfl ?_
                  refine x_aload_n dX0_makeCopies_50 rfl ?_
                  refine x_iload_n dX0_makeCopies_51 rfl ?_
                  refine x_iload dX0_makeCopies_52 rfl ?_
                  refine x_vi0 dX0_makeCopies_54 cV_X0_153 (c_sourcesOf putArch_at (p := i) (f := f) (by omega) (by omega)) rfl rfl ⟨⟨by decide, by decide⟩, by decide, by decide⟩ (Nat.le_of_ble_eq_true rfl) (xrecv putArch_at.o rfl xcl0) ?_
                  refine x_vi0 dX0_makeCopies_57 cV_X0_137 (c_spoiledInAll putArch_at hs.1 (p := i) (by omega) hso) rfl rfl ⟨⟨by decide, by decide⟩, by decide, by decide⟩ (Nat.le_of_ble_eq_true rfl) (xrecv putArch_at.o rfl xcl0) ?_
                  refine x_vv0 dX0_makeCopies_60 cV_X0_156 (c_addCopy (by omega) (by omega)) rfl rfl ⟨⟨by decide, by decide⟩, by decide, by decide⟩ (Nat.le_of_ble_eq_true rfl) (xrecv putArch_at.o rfl xcl0) ?_
                  refine x_iinc_n (k := 1) dX0_makeCopies_63 rfl (by decide) (by decide) rfl rfl ?_
                  refine x_iinc_n (k := 1) dX0_makeCopies_66 rfl (by decide) (by decide) rfl rfl ?_
                  refine x_goto 14 dX0_makeCopies_69 (by decide) ?_
                  have hi2 := mcStep_inv (by omega) hs hst
                  rw [mcI_go hst] at e
                  have k := ihm _ (by omega) hi2 e
                  rw [show 10 - m = 10 - (m + 1) + 1 by omega] at k
                  exact xP.weak (by simp [xle, xset1, fin3]) k
              · cases hq : nextH s.1 i (s.1.1 1) with
                | some f => rw [hq] at c3; exact absurd c3 (nI_m1 (by have := nextH_lt hq; omega))
                | none =>
                  refine x_goto 72 dX0_makeCopies_41 (by decide) ?_
                  refine xP.weak (V' := [some (.ref o), some (.int (nI s.2)), some (.int (nI i)), some (.int (nI (10 - (m + 1)))), none]) (by simp [xle, xset1, fin3]) ?_
                  exact stop (by unfold mcStep; rw [if_pos c2, hq])
      refine xP.weak (V' := [some (.ref o), some (.int (nI (mcO st i).2)), some (.int (nI i)), some (.int (nI (10 - 10))), none]) (by simp [xle, xset1, fin3]) ?_
      exact inner 10 (mcO st i) (by omega) hinv rfl
  · have hinv := mcO_inv hw (st.1 2) hK
    refine x_iload_n dX0_makeCopies_4 rfl ?_
    refine x_aload_n dX0_makeCopies_5 rfl ?_
    refine x_getf dX0_makeCopies_6 f_X0_53 putArch_at.o rfl ?_
    rw [hinv.2.1]
    refine x_icmp_ge_n 78 dX0_makeCopies_9 (by decide) (by omega) (by omega) (fun c => ?_) (fun c => ?_)
    · refine x_iload_n dX0_makeCopies_78 rfl ?_
      exact x_iret .int dX0_makeCopies_79 rfl rfl (by decide) (by decide) (rfl) (rfl)
    · omega
theorem c_dangerBehindCopies (hw : aOk st) (hcn : aCn st 10000000) : xDet g l mX0_dangerBehindCopies 4 0 0 [.ref o] (putArch h o st) (some (.int (nI (fb_ct (inDB (mcO st (st.1 2)).1) (st.1 2))))) (putArch h o (mcO st (st.1 2)).1) := by
  have hinv := mcO_inv hw (st.1 2) hw.2.2.1
  have hp := c_picturesInDanger (g := g) (l := l) (h := putArch h o (mcO st (st.1 2)).1) putArch_at hinv.1
  rw [hinv.2.1] at hp
  refine xMet.of (V := [some (.ref o)]) moX0_dangerBehindCopies (Nat.le_of_ble_eq_true rfl) rfl ?_
  refine x_aload_n dX0_dangerBehindCopies_0 rfl ?_
  refine x_vi0 dX0_dangerBehindCopies_1 cV_X0_159 (c_makeCopies hw hcn) rfl rfl ⟨⟨by decide, by decide⟩, by decide, by decide⟩ (Nat.le_of_ble_eq_true rfl) (xrecv putArch_at.o rfl xcl0) ?_
  refine x_pop dX0_dangerBehindCopies_4 rfl ?_
  refine x_aload_n dX0_dangerBehindCopies_5 rfl ?_
  refine x_vi0 dX0_dangerBehindCopies_6 cV_X0_162 (hp) rfl rfl ⟨⟨by decide, by decide⟩, by decide, by decide⟩ (Nat.le_of_ble_eq_true rfl) (xrecv putArch_at.o rfl xcl0) ?_
  exact x_iret .int dX0_dangerBehindCopies_9 rfl rfl (by decide) (by decide) (rfl) (rfl)
end A4
