/-! ===== Archive: the methods that read ===== -/
theorem fin3 : ((3 : Fin 4) : Nat) = 3 := rfl
theorem pow_ok {i : Nat} (h : i < 32) : 1 * 2 ^ i < 2 ^ 32 := by
  rw [Nat.one_mul]
  exact Nat.pow_lt_pow_right (by decide) h
theorem dF {c : Prop} [Decidable c] (h : ¬ c) : decide c = false := decide_eq_false h
theorem dT {c : Prop} [Decidable c] (h : c) : decide c = true := decide_eq_true h
def heldB (st : Ar) (p f : Nat) : Bool := (st.2.2 6 p).testBit f
def brkB (st : Ar) (p f : Nat) : Bool := (st.2.2 7 p).testBit f
def hasB (st : Ar) (p f : Nat) : Bool := heldB st p f || brkB st p f
def soundB (st : Ar) (p f : Nat) : Bool := heldB st p f && (st.2.2 8 (10 * p + f) == 0)
def soundM (st : Ar) (p : Nat) : Nat := mk (soundB st p) (st.1 1)
def pairsV (st : Ar) : Nat := fb_sm (fun f => popc (st.2.2 1 f)) (st.1 1) / 2
def heldV (st : Ar) : Nat := fb_sm (fun p => popc (st.2.2 6 p)) (st.1 2)
def brkV (st : Ar) : Nat := fb_sm (fun p => popc (st.2.2 7 p)) (st.1 2)
def unsV (st : Ar) : Nat := fb_sm (fun p => popc (andn (st.2.2 6 p) (soundM st p))) (st.1 2)
def brkOfV (st : Ar) (f : Nat) : Nat := fb_sm (fun p => st.2.2 7 p / 2 ^ f &&& 1) (st.1 2)
def inDB (st : Ar) (p : Nat) : Bool := decide (popc (st.2.2 6 p) < st.2.2 5 p)
def trulyB (st : Ar) (p : Nat) : Bool := decide (popc (soundM st p) < st.2.2 5 p)
def trustV (st : Ar) (f : Nat) : Nat := 100 * (st.2.2 2 f + 1) / (st.2.2 2 f + st.2.2 3 f + 2)
def spAtV (st : Ar) (p t : Nat) : Nat := fb_sm (fun f => if heldB st p f then st.2.2 8 (10 * p + f) / 2 ^ t &&& 1 else 0) (st.1 1)
/-- the first place where F is greatest, if it is anywhere above 0 -/
def amax (F : Nat → Nat) : Nat → Nat × Int32
  | 0 => (0, -1)
  | n + 1 => if (amax F n).1 < F n then (F n, nI n) else amax F n
def srcV (st : Ar) (p f : Nat) : Nat := st.2.2 1 f &&& st.2.2 6 p
def spAll (st : Ar) (p s : Nat) : Nat → Nat
  | 0 => 2 ^ st.1 0 - 1
  | n + 1 => if s.testBit n then spAll st p s n &&& st.2.2 8 (10 * p + n) else spAll st p s n
def needV (st : Ar) (p : Nat) : Nat := if popc (st.2.2 6 p) = st.2.2 5 p then st.2.2 6 p else 0
def needOfV (st : Ar) (f : Nat) : Nat := fb_sm (fun p => needV st p / 2 ^ f &&& 1) (st.1 2)
def rin (st : Ar) (s : Nat) : Nat → Nat
  | 0 => s
  | n + 1 => if (rin st s n).testBit n then rin st s n ||| st.2.2 1 n else rin st s n
def rAll (st : Ar) (s : Nat) : Nat → Nat
  | 0 => s
  | n + 1 => rin st (rAll st s n) (st.1 1)
def leftV (st : Ar) (f : Nat) : Nat := st.2.2 0 f - st.2.2 4 f
def betterB (st : Ar) (f b : Nat) : Bool := if leftV st f = leftV st b then decide (trustV st b < trustV st f) else decide (leftV st b < leftV st f)
def oI (x : Option Nat) : Int32 := match x with
  | none => -1
  | some f => nI f
def mayB (st : Ar) (p f : Nat) : Bool := !hasB st p f && decide (0 < leftV st f) && decide (srcV st p f ≠ 0)
def nextH (st : Ar) (p : Nat) : Nat → Option Nat
  | 0 => none
  | n + 1 => if mayB st p n && (match nextH st p n with | none => true | some b => betterB st n b) then some n else nextH st p n
theorem rin_lt {st : Ar} (hw : aOk st) {s : Nat} (hs : s < 1024) : ∀ n, n ≤ 10 → rin st s n < 1024 := by
  intro n
  induction n with
  | zero => intro _; exact hs
  | succ n ih =>
    intro hn
    rw [rin]
    split
    · exact Nat.or_lt_two_pow (n := 10) (ih (by omega)) (hw.near (by omega))
    · exact ih (by omega)
theorem rAll_lt {st : Ar} (hw : aOk st) {s : Nat} (hs : s < 1024) : ∀ n, rAll st s n < 1024 := by
  intro n
  induction n with
  | zero => exact hs
  | succ n ih => exact rin_lt hw ih _ hw.2.1
theorem soundM_lt {st : Ar} (hw : aOk st) (p : Nat) : soundM st p < 1024 := Nat.lt_of_lt_of_le (mk_lt _ _) (Nat.pow_le_pow_right (by decide) hw.2.1)
theorem trustV_lt {st : Ar} (hc : aCn st 10000000) {f : Nat} (hf : f < 10) : trustV st f < 2 ^ 31 := by
  have h1 := hc f hf
  have : trustV st f ≤ 100 * (st.2.2 2 f + 1) := Nat.div_le_self _ _
  omega
theorem nextH_lt {st : Ar} {p : Nat} : ∀ {n b : Nat}, nextH st p n = some b → b < n := by
  intro n
  induction n with
  | zero => intro b h; cases h
  | succ n ih =>
    intro b h
    have e : nextH st p (n + 1) = some n ∨ nextH st p (n + 1) = nextH st p n := by
      rw [nextH]
      generalize (mayB st p n && _) = q
      cases q
      · exact Or.inr rfl
      · exact Or.inl rfl
    rcases e with e | e
    · rw [e] at h; cases h; omega
    · rw [e] at h; have := ih h; omega
section A2
variable {g : xG} {l : Launch} {h : xH} {o : Nat} {st : Ar}
theorem c_hasCopy (hA : ArchAt h o st) (hw : aOk st) {p f : Nat} (hp : p < 12) (hf : f < 32) : xDet g l mX0_hasCopy 0 0 0 [.ref o, .int (nI p), .int (nI f)] h (some (.int (xb (hasB st p f)))) h := by
  have h1 : st.2.2 6 p < 1024 := hw.held hp
  have h2 : st.2.2 7 p < 1024 := hw.brk hp
  have h3 : st.2.2 6 p ||| st.2.2 7 p < 2 ^ 10 := Nat.or_lt_two_pow h1 h2
  have hb := bit_lt (st.2.2 6 p ||| st.2.2 7 p) f
  have e : hasB st p f = (st.2.2 6 p ||| st.2.2 7 p).testBit f := by rw [Nat.testBit_or]; rfl
  refine xMet.of (V := [some (.ref o), some (.int (nI p)), some (.int (nI f))]) moX0_hasCopy (Nat.le_of_ble_eq_true rfl) rfl ?_
  refine x_aload_n dX0_hasCopy_0 rfl ?_
  refine x_getf dX0_hasCopy_1 f_X0_37 hA.o rfl ?_
  refine x_iload_n dX0_hasCopy_4 rfl ?_
  refine x_iald_n dX0_hasCopy_5 hA.held (by omega) (by decide) ?_
  refine x_aload_n dX0_hasCopy_6 rfl ?_
  refine x_getf dX0_hasCopy_7 f_X0_40 hA.o rfl ?_
  refine x_iload_n dX0_hasCopy_10 rfl ?_
  refine x_iald_n dX0_hasCopy_11 hA.broken (by omega) (by decide) ?_
  refine x_ior_n dX0_hasCopy_12 ?_
  refine x_iload_n dX0_hasCopy_13 rfl ?_
  refine x_iushr_n dX0_hasCopy_14 (by omega) (by omega) ?_
  refine x_iconst (nI 1) dX0_hasCopy_15 (by decide) ?_
  refine x_iand_n dX0_hasCopy_16 ?_
  refine x_if_eq_n 24 dX0_hasCopy_17 (by decide) (by omega) (fun c1 => ?_) (fun c1 => ?_)
  · refine x_iconst (nI 0) dX0_hasCopy_24 (by decide) ?_
    exact x_iret .boolean dX0_hasCopy_25 rfl rfl (by decide) (by decide) (bool0 (e.trans (bit0 c1))) (rfl)
  · refine x_iconst (nI 1) dX0_hasCopy_20 (by decide) ?_
    refine x_goto 25 dX0_hasCopy_21 (by decide) ?_
    exact x_iret .boolean dX0_hasCopy_25 rfl rfl (by decide) (by decide) (bool1 (e.trans (bit1 c1))) (rfl)
theorem c_areNeighbours (hA : ArchAt h o st) (hw : aOk st) {p f : Nat} (hp : p < 10) (hf : f < 32) : xDet g l mX0_areNeighbours 0 0 0 [.ref o, .int (nI p), .int (nI f)] h (some (.int (xb ((st.2.2 1 p).testBit f)))) h := by
  have h1 : st.2.2 1 p < 1024 := hw.near hp
  have hb := bit_lt (st.2.2 1 p) f
  refine xMet.of (V := [some (.ref o), some (.int (nI p)), some (.int (nI f))]) moX0_areNeighbours (Nat.le_of_ble_eq_true rfl) rfl ?_
  refine x_aload_n dX0_areNeighbours_0 rfl ?_
  refine x_getf dX0_areNeighbours_1 f_X0_19 hA.o rfl ?_
  refine x_iload_n dX0_areNeighbours_4 rfl ?_
  refine x_iald_n dX0_areNeighbours_5 hA.near (by omega) (by decide) ?_
  refine x_iload_n dX0_areNeighbours_6 rfl ?_
  refine x_iushr_n dX0_areNeighbours_7 (by omega) (by omega) ?_
  refine x_iconst (nI 1) dX0_areNeighbours_8 (by decide) ?_
  refine x_iand_n dX0_areNeighbours_9 ?_
  refine x_if_eq_n 17 dX0_areNeighbours_10 (by decide) (by omega) (fun c1 => ?_) (fun c1 => ?_)
  · refine x_iconst (nI 0) dX0_areNeighbours_17 (by decide) ?_
    exact x_iret .boolean dX0_areNeighbours_18 rfl rfl (by decide) (by decide) (bool0 (bit0 c1)) (rfl)
  · refine x_iconst (nI 1) dX0_areNeighbours_13 (by decide) ?_
    refine x_goto 18 dX0_areNeighbours_14 (by decide) ?_
    exact x_iret .boolean dX0_areNeighbours_18 rfl rfl (by decide) (by decide) (bool1 (bit1 c1)) (rfl)
theorem c_neighbourPairs (hA : ArchAt h o st) (hw : aOk st) : xDet g l mX0_neighbourPairs 1 0 0 [.ref o] h (some (.int (nI (pairsV st)))) h := by
  have hN : st.1 1 ≤ 10 := hw.2.1
  have hb : fb_sm (fun f => popc (st.2.2 1 f)) (st.1 1) ≤ st.1 1 * 10 := fb_sm_bound fun k hk => popc_le (n := 10) (hw.near (by omega)) (by decide)
  refine xMet.of (V := [some (.ref o), none, none]) moX0_neighbourPairs (Nat.le_of_ble_eq_true rfl) rfl ?_
  refine x_iconst (nI 0) dX0_neighbourPairs_0 (by decide) ?_
  refine x_istore_n dX0_neighbourPairs_1 (by decide) rfl rfl ?_
  refine x_iconst (nI 0) dX0_neighbourPairs_2 (by decide) ?_
  refine x_istore_n dX0_neighbourPairs_3 (by decide) rfl rfl ?_
  refine xP.loop0 (fun i => [some (.ref o), some (.int (nI (fb_sm (fun f => popc (st.2.2 1 f)) i))), some (.int (nI i))]) (st.1 1) ?_ ?_
  · intro i hi ih
    refine x_iload_n dX0_neighbourPairs_4 rfl ?_
    refine x_aload_n dX0_neighbourPairs_5 rfl ?_
    refine x_getf dX0_neighbourPairs_6 f_X0_50 hA.o rfl ?_
    refine x_icmp_ge_n 30 dX0_neighbourPairs_9 (by decide) (by omega) (by omega) (fun c => ?_) (fun c => ?_)
    · omega
    · refine x_iload_n dX0_neighbourPairs_12 rfl ?_
      refine x_aload_n dX0_neighbourPairs_13 rfl ?_
      refine x_getf dX0_neighbourPairs_14 f_X0_19 hA.o rfl ?_
      refine x_iload_n dX0_neighbourPairs_17 rfl ?_
      refine x_iald_n dX0_neighbourPairs_18 hA.near (by omega) (by decide) ?_
      refine x_si0 dX0_neighbourPairs_19 cS_X0_88 (c_bitCount (x := st.2.2 1 i) (by have := hw.near (f := i) (by omega); omega)) rfl rfl ⟨⟨by decide, by decide⟩, by decide, by decide⟩ (Nat.le_of_ble_eq_true rfl) ?_
      refine x_iadd_n dX0_neighbourPairs_22 ?_
      refine x_istore_n dX0_neighbourPairs_23 (by decide) rfl rfl ?_
      refine x_iinc_n (k := 1) dX0_neighbourPairs_24 rfl (by decide) (by decide) rfl rfl ?_
      refine x_goto 4 dX0_neighbourPairs_27 (by decide) ?_
      exact xP.weak (by simp [xle, xset1, xset2, fin3, fb_sm_succ]) ih
  · refine x_iload_n dX0_neighbourPairs_4 rfl ?_
    refine x_aload_n dX0_neighbourPairs_5 rfl ?_
    refine x_getf dX0_neighbourPairs_6 f_X0_50 hA.o rfl ?_
    refine x_icmp_ge_n 30 dX0_neighbourPairs_9 (by decide) (by omega) (by omega) (fun c => ?_) (fun c => ?_)
    · refine x_iload_n dX0_neighbourPairs_30 rfl ?_
      refine x_iconst (nI 2) dX0_neighbourPairs_31 (by decide) ?_
      refine x_idiv_n dX0_neighbourPairs_32 (by omega) (by omega) (by omega) ?_
      exact x_iret .int dX0_neighbourPairs_33 rfl rfl (by decide) (by decide) (rfl) (rfl)
    · omega
theorem c_heldCopies (hA : ArchAt h o st) (hw : aOk st) : xDet g l mX0_heldCopies 1 0 0 [.ref o] h (some (.int (nI (heldV st)))) h := by
  have hN : st.1 2 ≤ 12 := hw.2.2.1
  refine xMet.of (V := [some (.ref o), none, none]) moX0_heldCopies (Nat.le_of_ble_eq_true rfl) rfl ?_
  refine x_iconst (nI 0) dX0_heldCopies_0 (by decide) ?_
  refine x_istore_n dX0_heldCopies_1 (by decide) rfl rfl ?_
  refine x_iconst (nI 0) dX0_heldCopies_2 (by decide) ?_
  refine x_istore_n dX0_heldCopies_3 (by decide) rfl rfl ?_
  refine xP.loop0 (fun i => [some (.ref o), some (.int (nI (fb_sm (fun p => popc (st.2.2 6 p)) i))), some (.int (nI i))]) (st.1 2) ?_ ?_
  · intro i hi ih
    refine x_iload_n dX0_heldCopies_4 rfl ?_
    refine x_aload_n dX0_heldCopies_5 rfl ?_
    refine x_getf dX0_heldCopies_6 f_X0_53 hA.o rfl ?_
    refine x_icmp_ge_n 30 dX0_heldCopies_9 (by decide) (by omega) (by omega) (fun c => ?_) (fun c => ?_)
    · omega
    · refine x_iload_n dX0_heldCopies_12 rfl ?_
      refine x_aload_n dX0_heldCopies_13 rfl ?_
      refine x_getf dX0_heldCopies_14 f_X0_37 hA.o rfl ?_
      refine x_iload_n dX0_heldCopies_17 rfl ?_
      refine x_iald_n dX0_heldCopies_18 hA.held (by omega) (by decide) ?_
      refine x_si0 dX0_heldCopies_19 cS_X0_88 (c_bitCount (x := st.2.2 6 i) (by have := hw.held (p := i) (by omega); omega)) rfl rfl ⟨⟨by decide, by decide⟩, by decide, by decide⟩ (Nat.le_of_ble_eq_true rfl) ?_
      refine x_iadd_n dX0_heldCopies_22 ?_
      refine x_istore_n dX0_heldCopies_23 (by decide) rfl rfl ?_
      refine x_iinc_n (k := 1) dX0_heldCopies_24 rfl (by decide) (by decide) rfl rfl ?_
      refine x_goto 4 dX0_heldCopies_27 (by decide) ?_
      exact xP.weak (by simp [xle, xset1, xset2, fin3, fb_sm_succ]) ih
  · refine x_iload_n dX0_heldCopies_4 rfl ?_
    refine x_aload_n dX0_heldCopies_5 rfl ?_
    refine x_getf dX0_heldCopies_6 f_X0_53 hA.o rfl ?_
    refine x_icmp_ge_n 30 dX0_heldCopies_9 (by decide) (by omega) (by omega) (fun c => ?_) (fun c => ?_)
    · refine x_iload_n dX0_heldCopies_30 rfl ?_
      exact x_iret .int dX0_heldCopies_31 rfl rfl (by decide) (by decide) (rfl) (rfl)
    · omega
theorem c_brokenCopies (hA : ArchAt h o st) (hw : aOk st) : xDet g l mX0_brokenCopies 1 0 0 [.ref o] h (some (.int (nI (brkV st)))) h := by
  have hN : st.1 2 ≤ 12 := hw.2.2.1
  refine xMet.of (V := [some (.ref o), none, none]) moX0_brokenCopies (Nat.le_of_ble_eq_true rfl) rfl ?_
  refine x_iconst (nI 0) dX0_brokenCopies_0 (by decide) ?_
  refine x_istore_n dX0_brokenCopies_1 (by decide) rfl rfl ?_
  refine x_iconst (nI 0) dX0_brokenCopies_2 (by decide) ?_
  refine x_istore_n dX0_brokenCopies_3 (by decide) rfl rfl ?_
  refine xP.loop0 (fun i => [some (.ref o), some (.int (nI (fb_sm (fun p => popc (st.2.2 7 p)) i))), some (.int (nI i))]) (st.1 2) ?_ ?_
  · intro i hi ih
    refine x_iload_n dX0_brokenCopies_4 rfl ?_
    refine x_aload_n dX0_brokenCopies_5 rfl ?_
    refine x_getf dX0_brokenCopies_6 f_X0_53 hA.o rfl ?_
    refine x_icmp_ge_n 30 dX0_brokenCopies_9 (by decide) (by omega) (by omega) (fun c => ?_) (fun c => ?_)
    · omega
    · refine x_iload_n dX0_brokenCopies_12 rfl ?_
      refine x_aload_n dX0_brokenCopies_13 rfl ?_
      refine x_getf dX0_brokenCopies_14 f_X0_40 hA.o rfl ?_
      refine x_iload_n dX0_brokenCopies_17 rfl ?_
      refine x_iald_n dX0_brokenCopies_18 hA.broken (by omega) (by decide) ?_
      refine x_si0 dX0_brokenCopies_19 cS_X0_88 (c_bitCount (x := st.2.2 7 i) (by have := hw.brk (p := i) (by omega); omega)) rfl rfl ⟨⟨by decide, by decide⟩, by decide, by decide⟩ (Nat.le_of_ble_eq_true rfl) ?_
      refine x_iadd_n dX0_brokenCopies_22 ?_
      refine x_istore_n dX0_brokenCopies_23 (by decide) rfl rfl ?_
      refine x_iinc_n (k := 1) dX0_brokenCopies_24 rfl (by decide) (by decide) rfl rfl ?_
      refine x_goto 4 dX0_brokenCopies_27 (by decide) ?_
      exact xP.weak (by simp [xle, xset1, xset2, fin3, fb_sm_succ]) ih
  · refine x_iload_n dX0_brokenCopies_4 rfl ?_
    refine x_aload_n dX0_brokenCopies_5 rfl ?_
    refine x_getf dX0_brokenCopies_6 f_X0_53 hA.o rfl ?_
    refine x_icmp_ge_n 30 dX0_brokenCopies_9 (by decide) (by omega) (by omega) (fun c => ?_) (fun c => ?_)
    · refine x_iload_n dX0_brokenCopies_30 rfl ?_
      exact x_iret .int dX0_brokenCopies_31 rfl rfl (by decide) (by decide) (rfl) (rfl)
    · omega
theorem c_allCopies (hA : ArchAt h o st) (hw : aOk st) : xDet g l mX0_allCopies 2 0 0 [.ref o] h (some (.int (nI (heldV st + brkV st)))) h := by
  refine xMet.of (V := [some (.ref o)]) moX0_allCopies (Nat.le_of_ble_eq_true rfl) rfl ?_
  refine x_aload_n dX0_allCopies_0 rfl ?_
  refine x_vi0 dX0_allCopies_1 cV_X0_94 (c_heldCopies hA hw) rfl rfl ⟨⟨by decide, by decide⟩, by decide, by decide⟩ (Nat.le_of_ble_eq_true rfl) (xrecv hA.o rfl xcl0) ?_
  refine x_aload_n dX0_allCopies_4 rfl ?_
  refine x_vi0 dX0_allCopies_5 cV_X0_98 (c_brokenCopies hA hw) rfl rfl ⟨⟨by decide, by decide⟩, by decide, by decide⟩ (Nat.le_of_ble_eq_true rfl) (xrecv hA.o rfl xcl0) ?_
  refine x_iadd_n dX0_allCopies_8 ?_
  exact x_iret .int dX0_allCopies_9 rfl rfl (by decide) (by decide) (rfl) (rfl)
theorem c_soundHolders (hA : ArchAt h o st) (hw : aOk st) {p : Nat} (hp : p < 12) : xDet g l mX0_soundHolders 2 0 0 [.ref o, .int (nI p)] h (some (.int (nI (soundM st p)))) h := by
  have hN : st.1 1 ≤ 10 := hw.2.1
  refine xMet.of (V := [some (.ref o), some (.int (nI p)), none, none]) moX0_soundHolders (Nat.le_of_ble_eq_true rfl) rfl ?_
  refine x_iconst (nI 0) dX0_soundHolders_0 (by decide) ?_
  refine x_istore_n dX0_soundHolders_1 (by decide) rfl rfl ?_
  refine x_iconst (nI 0) dX0_soundHolders_2 (by decide) ?_
  refine x_istore_n dX0_soundHolders_3 (by decide) rfl rfl ?_
  refine xP.loop0 (fun i => [some (.ref o), some (.int (nI p)), some (.int (nI (mk (soundB st p) i))), some (.int (nI i))]) (st.1 1) ?_ ?_
  · intro i hi ih
    have hsp := hw.cell (i := 10 * p + i) (by omega)
    refine x_iload_n dX0_soundHolders_4 rfl ?_
    refine x_aload_n dX0_soundHolders_5 rfl ?_
    refine x_getf dX0_soundHolders_6 f_X0_50 hA.o rfl ?_
    refine x_icmp_ge_n 42 dX0_soundHolders_9 (by decide) (by omega) (by omega) (fun c => ?_) (fun c => ?_)
    · omega
    · refine x_aload_n dX0_soundHolders_12 rfl ?_
      refine x_iload_n dX0_soundHolders_13 rfl ?_
      refine x_iload_n dX0_soundHolders_14 rfl ?_
      refine x_vi0 dX0_soundHolders_15 cV_X0_104 (c_isHeld hA p i hp (by omega) (hw.held hp)) rfl rfl ⟨⟨by decide, by decide⟩, by decide, by decide⟩ (Nat.le_of_ble_eq_true rfl) (xrecv hA.o rfl xcl0) ?_
      refine x_if_eq_b 36 dX0_soundHolders_18 (by decide) (fun c => ?_) (fun c => ?_)
      · have hs : soundB st p i = false := by unfold soundB heldB; rw [c]; rfl
        refine x_iinc_n (k := 1) dX0_soundHolders_36 rfl (by decide) (by decide) rfl rfl ?_
        refine x_goto 4 dX0_soundHolders_39 (by decide) ?_
        exact xP.weak (by simp [xle, xset1, xset2, fin3, mk, hs]) ih
      · refine x_aload_n dX0_soundHolders_21 rfl ?_
        refine x_iload_n dX0_soundHolders_22 rfl ?_
        refine x_iload_n dX0_soundHolders_23 rfl ?_
        refine x_vi0 dX0_soundHolders_24 cV_X0_108 (c_spoiledTiles hA p i hp (by omega)) rfl rfl ⟨⟨by decide, by decide⟩, by decide, by decide⟩ (Nat.le_of_ble_eq_true rfl) (xrecv hA.o rfl xcl0) ?_
        refine x_if_ne_n 36 dX0_soundHolders_27 (by decide) (by omega) (fun c2 => ?_) (fun c2 => ?_)
        · have hs : soundB st p i = false := by unfold soundB; rw [Bool.and_eq_false_iff]; right; exact beq_false_of_ne (by omega)
          refine x_iinc_n (k := 1) dX0_soundHolders_36 rfl (by decide) (by decide) rfl rfl ?_
          refine x_goto 4 dX0_soundHolders_39 (by decide) ?_
          exact xP.weak (by simp [xle, xset1, xset2, fin3, mk, hs]) ih
        · have hs : soundB st p i = true := by unfold soundB heldB; rw [c, c2]; rfl
          refine x_iload_n dX0_soundHolders_30 rfl ?_
          refine x_iconst (nI 1) dX0_soundHolders_31 (by decide) ?_
          refine x_iload_n dX0_soundHolders_32 rfl ?_
          refine x_ishl1_n dX0_soundHolders_33 (by omega) ?_
          refine x_ior_n dX0_soundHolders_34 ?_
          refine x_istore_n dX0_soundHolders_35 (by decide) rfl rfl ?_
          refine x_iinc_n (k := 1) dX0_soundHolders_36 rfl (by decide) (by decide) rfl rfl ?_
          refine x_goto 4 dX0_soundHolders_39 (by decide) ?_
          exact xP.weak (by simp [xle, xset1, xset2, fin3, mk, hs]) ih
  · refine x_iload_n dX0_soundHolders_4 rfl ?_
    refine x_aload_n dX0_soundHolders_5 rfl ?_
    refine x_getf dX0_soundHolders_6 f_X0_50 hA.o rfl ?_
    refine x_icmp_ge_n 42 dX0_soundHolders_9 (by decide) (by omega) (by omega) (fun c => ?_) (fun c => ?_)
    · refine x_iload_n dX0_soundHolders_42 rfl ?_
      exact x_iret .int dX0_soundHolders_43 rfl rfl (by decide) (by decide) (rfl) (rfl)
    · omega
theorem c_unsoundCopies (hA : ArchAt h o st) (hw : aOk st) : xDet g l mX0_unsoundCopies 3 0 0 [.ref o] h (some (.int (nI (unsV st)))) h := by
  have hN : st.1 2 ≤ 12 := hw.2.2.1
  refine xMet.of (V := [some (.ref o), none, none]) moX0_unsoundCopies (Nat.le_of_ble_eq_true rfl) rfl ?_
  refine x_iconst (nI 0) dX0_unsoundCopies_0 (by decide) ?_
  refine x_istore_n dX0_unsoundCopies_1 (by decide) rfl rfl ?_
  refine x_iconst (nI 0) dX0_unsoundCopies_2 (by decide) ?_
  refine x_istore_n dX0_unsoundCopies_3 (by decide) rfl rfl ?_
  refine xP.loop0 (fun i => [some (.ref o), some (.int (nI (fb_sm (fun p => popc (andn (st.2.2 6 p) (soundM st p))) i))), some (.int (nI i))]) (st.1 2) ?_ ?_
  · intro i hi ih
    have h1 := soundM_lt hw i
    have h2 : andn (st.2.2 6 i) (soundM st i) ≤ st.2.2 6 i := andn_le _ _
    have h3 : st.2.2 6 i < 1024 := hw.held (p := i) (by omega)
    refine x_iload_n dX0_unsoundCopies_4 rfl ?_
    refine x_aload_n dX0_unsoundCopies_5 rfl ?_
    refine x_getf dX0_unsoundCopies_6 f_X0_53 hA.o rfl ?_
    refine x_icmp_ge_n 38 dX0_unsoundCopies_9 (by decide) (by omega) (by omega) (fun c => ?_) (fun c => ?_)
    · omega
    · refine x_iload_n dX0_unsoundCopies_12 rfl ?_
      refine x_aload_n dX0_unsoundCopies_13 rfl ?_
      refine x_getf dX0_unsoundCopies_14 f_X0_37 hA.o rfl ?_
      refine x_iload_n dX0_unsoundCopies_17 rfl ?_
      refine x_iald_n dX0_unsoundCopies_18 hA.held (by omega) (by decide) ?_
      refine x_aload_n dX0_unsoundCopies_19 rfl ?_
      refine x_iload_n dX0_unsoundCopies_20 rfl ?_
      refine x_vi0 dX0_unsoundCopies_21 cV_X0_101 (c_soundHolders hA hw (p := i) (by omega)) rfl rfl ⟨⟨by decide, by decide⟩, by decide, by decide⟩ (Nat.le_of_ble_eq_true rfl) (xrecv hA.o rfl xcl0) ?_
      refine x_iconst (-1) dX0_unsoundCopies_24 (by decide) ?_
      refine x_inot_n dX0_unsoundCopies_25 (by omega) ?_
      refine x_iand_n dX0_unsoundCopies_26 ?_
      refine x_si0 dX0_unsoundCopies_27 cS_X0_88 (c_bitCount (x := andn (st.2.2 6 i) (soundM st i)) (by omega)) rfl rfl ⟨⟨by decide, by decide⟩, by decide, by decide⟩ (Nat.le_of_ble_eq_true rfl) ?_
      refine x_iadd_n dX0_unsoundCopies_30 ?_
      refine x_istore_n dX0_unsoundCopies_31 (by decide) rfl rfl ?_
      refine x_iinc_n (k := 1) dX0_unsoundCopies_32 rfl (by decide) (by decide) rfl rfl ?_
      refine x_goto 4 dX0_unsoundCopies_35 (by decide) ?_
      exact xP.weak (by simp [xle, xset1, xset2, fin3, fb_sm_succ]) ih
  · refine x_iload_n dX0_unsoundCopies_4 rfl ?_
    refine x_aload_n dX0_unsoundCopies_5 rfl ?_
    refine x_getf dX0_unsoundCopies_6 f_X0_53 hA.o rfl ?_
    refine x_icmp_ge_n 38 dX0_unsoundCopies_9 (by decide) (by omega) (by omega) (fun c => ?_) (fun c => ?_)
    · refine x_iload_n dX0_unsoundCopies_38 rfl ?_
      exact x_iret .int dX0_unsoundCopies_39 rfl rfl (by decide) (by decide) (rfl) (rfl)
    · omega
theorem c_brokenCopiesOf (hA : ArchAt h o st) (hw : aOk st) {f : Nat} (hf : f < 10) : xDet g l mX0_brokenCopiesOf 0 0 0 [.ref o, .int (nI f)] h (some (.int (nI (brkOfV st f)))) h := by
  have hN : st.1 2 ≤ 12 := hw.2.2.1
  refine xMet.of (V := [some (.ref o), some (.int (nI f)), none, none]) moX0_brokenCopiesOf (Nat.le_of_ble_eq_true rfl) rfl ?_
  refine x_iconst (nI 0) dX0_brokenCopiesOf_0 (by decide) ?_
  refine x_istore_n dX0_brokenCopiesOf_1 (by decide) rfl rfl ?_
  refine x_iconst (nI 0) dX0_brokenCopiesOf_2 (by decide) ?_
  refine x_istore_n dX0_brokenCopiesOf_3 (by decide) rfl rfl ?_
  refine xP.loop0 (fun i => [some (.ref o), some (.int (nI f)), some (.int (nI (fb_sm (fun p => st.2.2 7 p / 2 ^ f &&& 1) i))), some (.int (nI i))]) (st.1 2) ?_ ?_
  · intro i hi ih
    have h3 : st.2.2 7 i < 1024 := hw.brk (p := i) (by omega)
    refine x_iload_n dX0_brokenCopiesOf_4 rfl ?_
    refine x_aload_n dX0_brokenCopiesOf_5 rfl ?_
    refine x_getf dX0_brokenCopiesOf_6 f_X0_53 hA.o rfl ?_
    refine x_icmp_ge_n 31 dX0_brokenCopiesOf_9 (by decide) (by omega) (by omega) (fun c => ?_) (fun c => ?_)
    · omega
    · refine x_iload_n dX0_brokenCopiesOf_12 rfl ?_
      refine x_aload_n dX0_brokenCopiesOf_13 rfl ?_
      refine x_getf dX0_brokenCopiesOf_14 f_X0_40 hA.o rfl ?_
      refine x_iload_n dX0_brokenCopiesOf_17 rfl ?_
      refine x_iald_n dX0_brokenCopiesOf_18 hA.broken (by omega) (by decide) ?_
      refine x_iload_n dX0_brokenCopiesOf_19 rfl ?_
      refine x_iushr_n dX0_brokenCopiesOf_20 (by omega) (by omega) ?_
      refine x_iconst (nI 1) dX0_brokenCopiesOf_21 (by decide) ?_
      refine x_iand_n dX0_brokenCopiesOf_22 ?_
      refine x_iadd_n dX0_brokenCopiesOf_23 ?_
      refine x_istore_n dX0_brokenCopiesOf_24 (by decide) rfl rfl ?_
      refine x_iinc_n (k := 1) dX0_brokenCopiesOf_25 rfl (by decide) (by decide) rfl rfl ?_
      refine x_goto 4 dX0_brokenCopiesOf_28 (by decide) ?_
      exact xP.weak (by simp [xle, xset1, xset2, fin3, fb_sm_succ]) ih
  · refine x_iload_n dX0_brokenCopiesOf_4 rfl ?_
    refine x_aload_n dX0_brokenCopiesOf_5 rfl ?_
    refine x_getf dX0_brokenCopiesOf_6 f_X0_53 hA.o rfl ?_
    refine x_icmp_ge_n 31 dX0_brokenCopiesOf_9 (by decide) (by omega) (by omega) (fun c => ?_) (fun c => ?_)
    · refine x_iload_n dX0_brokenCopiesOf_31 rfl ?_
      exact x_iret .int dX0_brokenCopiesOf_32 rfl rfl (by decide) (by decide) (rfl) (rfl)
    · omega
theorem c_isInDanger (hA : ArchAt h o st) (hw : aOk st) {p : Nat} (hp : p < 12) : xDet g l mX0_isInDanger 1 0 0 [.ref o, .int (nI p)] h (some (.int (xb (inDB st p)))) h := by
  have h3 : st.2.2 6 p < 1024 := hw.held hp
  have h4 : popc (st.2.2 6 p) ≤ 10 := popc_le (n := 10) h3 (by decide)
  have h5 := hw.2.2.2.2.2.2.2 p hp
  refine xMet.of (V := [some (.ref o), some (.int (nI p))]) moX0_isInDanger (Nat.le_of_ble_eq_true rfl) rfl ?_
  refine x_aload_n dX0_isInDanger_0 rfl ?_
  refine x_getf dX0_isInDanger_1 f_X0_37 hA.o rfl ?_
  refine x_iload_n dX0_isInDanger_4 rfl ?_
  refine x_iald_n dX0_isInDanger_5 hA.held (by omega) (by decide) ?_
  refine x_si0 dX0_isInDanger_6 cS_X0_88 (c_bitCount (x := st.2.2 6 p) (by omega)) rfl rfl ⟨⟨by decide, by decide⟩, by decide, by decide⟩ (Nat.le_of_ble_eq_true rfl) ?_
  refine x_aload_n dX0_isInDanger_9 rfl ?_
  refine x_getf dX0_isInDanger_10 f_X0_34 hA.o rfl ?_
  refine x_iload_n dX0_isInDanger_13 rfl ?_
  refine x_iald_n dX0_isInDanger_14 hA.pledges (by omega) (by decide) ?_
  refine x_icmp_ge_n 22 dX0_isInDanger_15 (by decide) (by omega) (by omega) (fun c1 => ?_) (fun c1 => ?_)
  · refine x_iconst (nI 0) dX0_isInDanger_22 (by decide) ?_
    exact x_iret .boolean dX0_isInDanger_23 rfl rfl (by decide) (by decide) (bool0 (dF (by omega))) (rfl)
  · refine x_iconst (nI 1) dX0_isInDanger_18 (by decide) ?_
    refine x_goto 23 dX0_isInDanger_19 (by decide) ?_
    exact x_iret .boolean dX0_isInDanger_23 rfl rfl (by decide) (by decide) (bool1 (dT c1)) (rfl)
theorem c_isTrulyInDanger (hA : ArchAt h o st) (hw : aOk st) {p : Nat} (hp : p < 12) : xDet g l mX0_isTrulyInDanger 3 0 0 [.ref o, .int (nI p)] h (some (.int (xb (trulyB st p)))) h := by
  have h3 := soundM_lt hw p
  have h4 : popc (soundM st p) ≤ 10 := popc_le (n := 10) h3 (by decide)
  have h5 := hw.2.2.2.2.2.2.2 p hp
  refine xMet.of (V := [some (.ref o), some (.int (nI p))]) moX0_isTrulyInDanger (Nat.le_of_ble_eq_true rfl) rfl ?_
  refine x_aload_n dX0_isTrulyInDanger_0 rfl ?_
  refine x_iload_n dX0_isTrulyInDanger_1 rfl ?_
  refine x_vi0 dX0_isTrulyInDanger_2 cV_X0_101 (c_soundHolders hA hw hp) rfl rfl ⟨⟨by decide, by decide⟩, by decide, by decide⟩ (Nat.le_of_ble_eq_true rfl) (xrecv hA.o rfl xcl0) ?_
  refine x_si0 dX0_isTrulyInDanger_5 cS_X0_88 (c_bitCount (x := soundM st p) (by omega)) rfl rfl ⟨⟨by decide, by decide⟩, by decide, by decide⟩ (Nat.le_of_ble_eq_true rfl) ?_
  refine x_aload_n dX0_isTrulyInDanger_8 rfl ?_
  refine x_getf dX0_isTrulyInDanger_9 f_X0_34 hA.o rfl ?_
  refine x_iload_n dX0_isTrulyInDanger_12 rfl ?_
  refine x_iald_n dX0_isTrulyInDanger_13 hA.pledges (by omega) (by decide) ?_
  refine x_icmp_ge_n 21 dX0_isTrulyInDanger_14 (by decide) (by omega) (by omega) (fun c1 => ?_) (fun c1 => ?_)
  · refine x_iconst (nI 0) dX0_isTrulyInDanger_21 (by decide) ?_
    exact x_iret .boolean dX0_isTrulyInDanger_22 rfl rfl (by decide) (by decide) (bool0 (dF (by omega))) (rfl)
  · refine x_iconst (nI 1) dX0_isTrulyInDanger_17 (by decide) ?_
    refine x_goto 22 dX0_isTrulyInDanger_18 (by decide) ?_
    exact x_iret .boolean dX0_isTrulyInDanger_22 rfl rfl (by decide) (by decide) (bool1 (dT c1)) (rfl)
theorem c_picturesInDanger (hA : ArchAt h o st) (hw : aOk st) : xDet g l mX0_picturesInDanger 2 0 0 [.ref o] h (some (.int (nI (fb_ct (inDB st) (st.1 2))))) h := by
  have hN : st.1 2 ≤ 12 := hw.2.2.1
  refine xMet.of (V := [some (.ref o), none, none]) moX0_picturesInDanger (Nat.le_of_ble_eq_true rfl) rfl ?_
  refine x_iconst (nI 0) dX0_picturesInDanger_0 (by decide) ?_
  refine x_istore_n dX0_picturesInDanger_1 (by decide) rfl rfl ?_
  refine x_iconst (nI 0) dX0_picturesInDanger_2 (by decide) ?_
  refine x_istore_n dX0_picturesInDanger_3 (by decide) rfl rfl ?_
  refine xP.loop0 (fun i => [some (.ref o), some (.int (nI (fb_ct (inDB st) i))), some (.int (nI i))]) (st.1 2) ?_ ?_
  · intro i hi ih
    refine x_iload_n dX0_picturesInDanger_4 rfl ?_
    refine x_aload_n dX0_picturesInDanger_5 rfl ?_
    refine x_getf dX0_picturesInDanger_6 f_X0_53 hA.o rfl ?_
    refine x_icmp_ge_n 29 dX0_picturesInDanger_9 (by decide) (by omega) (by omega) (fun c => ?_) (fun c => ?_)
    · omega
    · refine x_aload_n dX0_picturesInDanger_12 rfl ?_
      refine x_iload_n dX0_picturesInDanger_13 rfl ?_
      refine x_vi0 dX0_picturesInDanger_14 cV_X0_111 (c_isInDanger hA hw (p := i) (by omega)) rfl rfl ⟨⟨by decide, by decide⟩, by decide, by decide⟩ (Nat.le_of_ble_eq_true rfl) (xrecv hA.o rfl xcl0) ?_
      refine x_if_eq_b 23 dX0_picturesInDanger_17 (by decide) (fun c => ?_) (fun c => ?_)
      · refine x_iinc_n (k := 1) dX0_picturesInDanger_23 rfl (by decide) (by decide) rfl rfl ?_
        refine x_goto 4 dX0_picturesInDanger_26 (by decide) ?_
        exact xP.weak (by simp [xle, xset1, xset2, fin3, fb_ct_succ, c]) ih
      · refine x_iinc_n (k := 1) dX0_picturesInDanger_20 rfl (by decide) (by decide) rfl rfl ?_
        refine x_iinc_n (k := 1) dX0_picturesInDanger_23 rfl (by decide) (by decide) rfl rfl ?_
        refine x_goto 4 dX0_picturesInDanger_26 (by decide) ?_
        exact xP.weak (by simp [xle, xset1, xset2, fin3, fb_ct_succ, c]) ih
  · refine x_iload_n dX0_picturesInDanger_4 rfl ?_
    refine x_aload_n dX0_picturesInDanger_5 rfl ?_
    refine x_getf dX0_picturesInDanger_6 f_X0_53 hA.o rfl ?_
    refine x_icmp_ge_n 29 dX0_picturesInDanger_9 (by decide) (by omega) (by omega) (fun c => ?_) (fun c => ?_)
    · refine x_iload_n dX0_picturesInDanger_29 rfl ?_
      exact x_iret .int dX0_picturesInDanger_30 rfl rfl (by decide) (by decide) (rfl) (rfl)
    · omega
theorem c_picturesTrulyInDanger (hA : ArchAt h o st) (hw : aOk st) : xDet g l mX0_picturesTrulyInDanger 4 0 0 [.ref o] h (some (.int (nI (fb_ct (trulyB st) (st.1 2))))) h := by
  have hN : st.1 2 ≤ 12 := hw.2.2.1
  refine xMet.of (V := [some (.ref o), none, none]) moX0_picturesTrulyInDanger (Nat.le_of_ble_eq_true rfl) rfl ?_
  refine x_iconst (nI 0) dX0_picturesTrulyInDanger_0 (by decide) ?_
  refine x_istore_n dX0_picturesTrulyInDanger_1 (by decide) rfl rfl ?_
  refine x_iconst (nI 0) dX0_picturesTrulyInDanger_2 (by decide) ?_
  refine x_istore_n dX0_picturesTrulyInDanger_3 (by decide) rfl rfl ?_
  refine xP.loop0 (fun i => [some (.ref o), some (.int (nI (fb_ct (trulyB st) i))), some (.int (nI i))]) (st.1 2) ?_ ?_
  · intro i hi ih
    refine x_iload_n dX0_picturesTrulyInDanger_4 rfl ?_
    refine x_aload_n dX0_picturesTrulyInDanger_5 rfl ?_
    refine x_getf dX0_picturesTrulyInDanger_6 f_X0_53 hA.o rfl ?_
    refine x_icmp_ge_n 29 dX0_picturesTrulyInDanger_9 (by decide) (by omega) (by omega) (fun c => ?_) (fun c => ?_)
    · omega
    · refine x_aload_n dX0_picturesTrulyInDanger_12 rfl ?_
      refine x_iload_n dX0_picturesTrulyInDanger_13 rfl ?_
      refine x_vi0 dX0_picturesTrulyInDanger_14 cV_X0_115 (c_isTrulyInDanger hA hw (p := i) (by omega)) rfl rfl ⟨⟨by decide, by decide⟩, by decide, by decide⟩ (Nat.le_of_ble_eq_true rfl) (xrecv hA.o rfl xcl0) ?_
      refine x_if_eq_b 23 dX0_picturesTrulyInDanger_17 (by decide) (fun c => ?_) (fun c => ?_)
      · refine x_iinc_n (k := 1) dX0_picturesTrulyInDanger_23 rfl (by decide) (by decide) rfl rfl ?_
        refine x_goto 4 dX0_picturesTrulyInDanger_26 (by decide) ?_
        exact xP.weak (by simp [xle, xset1, xset2, fin3, fb_ct_succ, c]) ih
      · refine x_iinc_n (k := 1) dX0_picturesTrulyInDanger_20 rfl (by decide) (by decide) rfl rfl ?_
        refine x_iinc_n (k := 1) dX0_picturesTrulyInDanger_23 rfl (by decide) (by decide) rfl rfl ?_
        refine x_goto 4 dX0_picturesTrulyInDanger_26 (by decide) ?_
        exact xP.weak (by simp [xle, xset1, xset2, fin3, fb_ct_succ, c]) ih
  · refine x_iload_n dX0_picturesTrulyInDanger_4 rfl ?_
    refine x_aload_n dX0_picturesTrulyInDanger_5 rfl ?_
    refine x_getf dX0_picturesTrulyInDanger_6 f_X0_53 hA.o rfl ?_
    refine x_icmp_ge_n 29 dX0_picturesTrulyInDanger_9 (by decide) (by omega) (by omega) (fun c => ?_) (fun c => ?_)
    · refine x_iload_n dX0_picturesTrulyInDanger_29 rfl ?_
      exact x_iret .int dX0_picturesTrulyInDanger_30 rfl rfl (by decide) (by decide) (rfl) (rfl)
    · omega
theorem c_trustOf (hA : ArchAt h o st) (hc : aCn st 10000000) {f : Nat} (hf : f < 10) : xDet g l mX0_trustOf 0 0 0 [.ref o, .int (nI f)] h (some (.int (nI (trustV st f)))) h := by
  obtain ⟨h3, h4⟩ := hc f hf
  refine xMet.of (V := [some (.ref o), some (.int (nI f)), none]) moX0_trustOf (Nat.le_of_ble_eq_true rfl) rfl ?_
  refine x_aload_n dX0_trustOf_0 rfl ?_
  refine x_getf dX0_trustOf_1 f_X0_22 hA.o rfl ?_
  refine x_iload_n dX0_trustOf_4 rfl ?_
  refine x_iald_n dX0_trustOf_5 hA.right (by omega) (by decide) ?_
  refine x_aload_n dX0_trustOf_6 rfl ?_
  refine x_getf dX0_trustOf_7 f_X0_25 hA.o rfl ?_
  refine x_iload_n dX0_trustOf_10 rfl ?_
  refine x_iald_n dX0_trustOf_11 hA.wrong (by omega) (by decide) ?_
  refine x_iadd_n dX0_trustOf_12 ?_
  refine x_iconst (nI 2) dX0_trustOf_13 (by decide) ?_
  refine x_iadd_n dX0_trustOf_14 ?_
  refine x_istore_n dX0_trustOf_15 (by decide) rfl rfl ?_
  refine x_iload_n dX0_trustOf_16 rfl ?_
  refine x_if_le_n 36 dX0_trustOf_17 (by decide) (by omega) (fun c => ?_) (fun c => ?_)
  · omega
  · refine x_bipush (nI 100) dX0_trustOf_20 (by decide) ?_
    refine x_aload_n dX0_trustOf_22 rfl ?_
    refine x_getf dX0_trustOf_23 f_X0_22 hA.o rfl ?_
    refine x_iload_n dX0_trustOf_26 rfl ?_
    refine x_iald_n dX0_trustOf_27 hA.right (by omega) (by decide) ?_
    refine x_iconst (nI 1) dX0_trustOf_28 (by decide) ?_
    refine x_iadd_n dX0_trustOf_29 ?_
    refine x_imul_n dX0_trustOf_30 ?_
    refine x_iload_n dX0_trustOf_31 rfl ?_
    refine x_idiv_n dX0_trustOf_32 (by omega) (by omega) (by omega) ?_
    refine x_goto 37 dX0_trustOf_33 (by decide) ?_
    exact x_iret .int dX0_trustOf_37 rfl rfl (by decide) (by decide) (rfl) (rfl)
theorem c_tileFor (hA : ArchAt h o st) (hw : aOk st) {x : Nat} (hx : x < 2 ^ 31) : xDet g l mX0_tileFor 0 0 0 [.ref o, .int (nI x)] h (some (.int (nI (x / 65536 % st.1 0)))) h := by
  have h1 := hw.1
  unfold aT at h1
  refine xMet.of (V := [some (.ref o), some (.int (nI x))]) moX0_tileFor (Nat.le_of_ble_eq_true rfl) rfl ?_
  refine x_aload_n dX0_tileFor_0 rfl ?_
  refine x_getf dX0_tileFor_1 f_X0_46 hA.o rfl ?_
  refine x_if_le_n 19 dX0_tileFor_4 (by decide) (by omega) (fun c => ?_) (fun c => ?_)
  · omega
  · refine x_iload_n dX0_tileFor_7 rfl ?_
    refine x_ldc (v := nI 65536) dX0_tileFor_8 k_X0_130 ?_
    refine x_idiv_n dX0_tileFor_10 (by omega) (by omega) (by omega) ?_
    refine x_aload_n dX0_tileFor_11 rfl ?_
    refine x_getf dX0_tileFor_12 f_X0_46 hA.o rfl ?_
    refine x_irem_n dX0_tileFor_15 (by omega) (by omega) (by omega) ?_
    refine x_goto 20 dX0_tileFor_16 (by decide) ?_
    exact x_iret .int dX0_tileFor_20 rfl rfl (by decide) (by decide) (rfl) (rfl)
theorem c_heldCopiesSpoiledAt (hA : ArchAt h o st) (hw : aOk st) {p t : Nat} (hp : p < 12) (ht : t < 16) : xDet g l mX0_heldCopiesSpoiledAt 2 0 0 [.ref o, .int (nI p), .int (nI t)] h (some (.int (nI (spAtV st p t)))) h := by
  have hN : st.1 1 ≤ 10 := hw.2.1
  refine xMet.of (V := [some (.ref o), some (.int (nI p)), some (.int (nI t)), none, none]) moX0_heldCopiesSpoiledAt (Nat.le_of_ble_eq_true rfl) rfl ?_
  refine x_iconst (nI 0) dX0_heldCopiesSpoiledAt_0 (by decide) ?_
  refine x_istore_n dX0_heldCopiesSpoiledAt_1 (by decide) rfl rfl ?_
  refine x_iconst (nI 0) dX0_heldCopiesSpoiledAt_2 (by decide) ?_
  refine x_istore dX0_heldCopiesSpoiledAt_3 (by decide) rfl rfl ?_
  refine xP.loop0 (fun i => [some (.ref o), some (.int (nI p)), some (.int (nI t)), some (.int (nI (fb_sm (fun f => if heldB st p f then st.2.2 8 (10 * p + f) / 2 ^ t &&& 1 else 0) i))), some (.int (nI i))]) (st.1 1) ?_ ?_
  · intro i hi ih
    have hsp := hw.cell (i := 10 * p + i) (by omega)
    refine x_iload dX0_heldCopiesSpoiledAt_5 rfl ?_
    refine x_aload_n dX0_heldCopiesSpoiledAt_7 rfl ?_
    refine x_getf dX0_heldCopiesSpoiledAt_8 f_X0_50 hA.o rfl ?_
    refine x_icmp_ge_n 44 dX0_heldCopiesSpoiledAt_11 (by decide) (by omega) (by omega) (fun c => ?_) (fun c => ?_)
    · omega
    · refine x_aload_n dX0_heldCopiesSpoiledAt_14 rfl ?_
      refine x_iload_n dX0_heldCopiesSpoiledAt_15 rfl ?_
      refine x_iload dX0_heldCopiesSpoiledAt_16 rfl ?_
      refine x_vi0 dX0_heldCopiesSpoiledAt_18 cV_X0_104 (c_isHeld hA p i hp (by omega) (hw.held hp)) rfl rfl ⟨⟨by decide, by decide⟩, by decide, by decide⟩ (Nat.le_of_ble_eq_true rfl) (xrecv hA.o rfl xcl0) ?_
      refine x_if_eq_b 38 dX0_heldCopiesSpoiledAt_21 (by decide) (fun c => ?_) (fun c => ?_)
      · refine x_iinc_n (k := 1) dX0_heldCopiesSpoiledAt_38 rfl (by decide) (by decide) rfl rfl ?_
        refine x_goto 5 dX0_heldCopiesSpoiledAt_41 (by decide) ?_
        exact xP.weak (by simp [xle, xset1, xset2, fin3, fb_sm_succ, heldB, c]) ih
      · refine x_iload_n dX0_heldCopiesSpoiledAt_24 rfl ?_
        refine x_aload_n dX0_heldCopiesSpoiledAt_25 rfl ?_
        refine x_iload_n dX0_heldCopiesSpoiledAt_26 rfl ?_
        refine x_iload dX0_heldCopiesSpoiledAt_27 rfl ?_
        refine x_vi0 dX0_heldCopiesSpoiledAt_29 cV_X0_108 (c_spoiledTiles hA p i hp (by omega)) rfl rfl ⟨⟨by decide, by decide⟩, by decide, by decide⟩ (Nat.le_of_ble_eq_true rfl) (xrecv hA.o rfl xcl0) ?_
        refine x_iload_n dX0_heldCopiesSpoiledAt_32 rfl ?_
        refine x_iushr_n dX0_heldCopiesSpoiledAt_33 (by omega) (by omega) ?_
        refine x_iconst (nI 1) dX0_heldCopiesSpoiledAt_34 (by decide) ?_
        refine x_iand_n dX0_heldCopiesSpoiledAt_35 ?_
        refine x_iadd_n dX0_heldCopiesSpoiledAt_36 ?_
        refine x_istore_n dX0_heldCopiesSpoiledAt_37 (by decide) rfl rfl ?_
        refine x_iinc_n (k := 1) dX0_heldCopiesSpoiledAt_38 rfl (by decide) (by decide) rfl rfl ?_
        refine x_goto 5 dX0_heldCopiesSpoiledAt_41 (by decide) ?_
        exact xP.weak (by simp [xle, xset1, xset2, fin3, fb_sm_succ, heldB, c]) ih
  · refine x_iload dX0_heldCopiesSpoiledAt_5 rfl ?_
    refine x_aload_n dX0_heldCopiesSpoiledAt_7 rfl ?_
    refine x_getf dX0_heldCopiesSpoiledAt_8 f_X0_50 hA.o rfl ?_
    refine x_icmp_ge_n 44 dX0_heldCopiesSpoiledAt_11 (by decide) (by omega) (by omega) (fun c => ?_) (fun c => ?_)
    · refine x_iload_n dX0_heldCopiesSpoiledAt_44 rfl ?_
      exact x_iret .int dX0_heldCopiesSpoiledAt_45 rfl rfl (by decide) (by decide) (rfl) (rfl)
    · omega
theorem spAtV_le (st : Ar) (p t : Nat) : spAtV st p t ≤ st.1 1 * 1 := by
  refine fb_sm_bound fun k _ => ?_
  have := bit_lt (st.2.2 8 (10 * p + k)) t
  split <;> omega
theorem amax_le {F : Nat → Nat} {c : Nat} (hF : ∀ k, F k ≤ c) : ∀ n, (amax F n).1 ≤ c := by
  intro n
  induction n with
  | zero => exact Nat.zero_le _
  | succ n ih =>
    rw [amax]
    split
    · exact hF n
    · exact ih
theorem c_mostSpoiledTile (hA : ArchAt h o st) (hw : aOk st) {p : Nat} (hp : p < 12) : xDet g l mX0_mostSpoiledTile 3 0 0 [.ref o, .int (nI p)] h (some (.int (amax (spAtV st p) (st.1 0)).2)) h := by
  have hN : st.1 0 ≤ 16 := hw.1.2
  have hN1 : st.1 1 ≤ 10 := hw.2.1
  have hle : ∀ k, spAtV st p k ≤ 10 := fun k => by have := spAtV_le st p k; omega
  refine xMet.of (V := [some (.ref o), some (.int (nI p)), none, none, none, none]) moX0_mostSpoiledTile (Nat.le_of_ble_eq_true rfl) rfl ?_
  refine x_iconst (-1) dX0_mostSpoiledTile_0 (by decide) ?_
  refine x_istore_n dX0_mostSpoiledTile_1 (by decide) rfl rfl ?_
  refine x_iconst (nI 0) dX0_mostSpoiledTile_2 (by decide) ?_
  refine x_istore_n dX0_mostSpoiledTile_3 (by decide) rfl rfl ?_
  refine x_iconst (nI 0) dX0_mostSpoiledTile_4 (by decide) ?_
  refine x_istore dX0_mostSpoiledTile_5 (by decide) rfl rfl ?_
  refine xP.weak (V' := [some (.ref o), some (.int (nI p)), some (.int (-1)), some (.int (nI 0)), some (.int (nI 0)), none]) (by simp [xle, xset1, fin3]) ?_
  refine xP.loop0 (fun i => [some (.ref o), some (.int (nI p)), some (.int (amax (spAtV st p) i).2), some (.int (nI (amax (spAtV st p) i).1)), some (.int (nI i)), none]) (st.1 0) ?_ ?_
  · intro i hi ih
    have h1 := amax_le hle i
    have h2 := hle i
    refine x_iload dX0_mostSpoiledTile_7 rfl ?_
    refine x_aload_n dX0_mostSpoiledTile_9 rfl ?_
    refine x_getf dX0_mostSpoiledTile_10 f_X0_46 hA.o rfl ?_
    refine x_icmp_ge_n 43 dX0_mostSpoiledTile_13 (by decide) (by omega) (by omega) (fun c => ?_) (fun c => ?_)
    · omega
    · refine x_aload_n dX0_mostSpoiledTile_16 rfl ?_
      refine x_iload_n dX0_mostSpoiledTile_17 rfl ?_
      refine x_iload dX0_mostSpoiledTile_18 rfl ?_
      refine x_vi0 dX0_mostSpoiledTile_20 cV_X0_131 (c_heldCopiesSpoiledAt hA hw (t := i) hp (by omega)) rfl rfl ⟨⟨by decide, by decide⟩, by decide, by decide⟩ (Nat.le_of_ble_eq_true rfl) (xrecv hA.o rfl xcl0) ?_
      refine x_istore dX0_mostSpoiledTile_23 (by decide) rfl rfl ?_
      refine x_iload dX0_mostSpoiledTile_25 rfl ?_
      refine x_iload_n dX0_mostSpoiledTile_27 rfl ?_
      refine x_icmp_le_n 37 dX0_mostSpoiledTile_28 (by decide) (by omega) (by omega) (fun c => ?_) (fun c => ?_)
      · refine x_iinc_n (k := 1) dX0_mostSpoiledTile_37 rfl (by decide) (by decide) rfl rfl ?_
        refine x_goto 7 dX0_mostSpoiledTile_40 (by decide) ?_
        have e : amax (spAtV st p) (i + 1) = amax (spAtV st p) i := by rw [amax, if_neg (by omega)]
        exact xP.weak (by simp [xle, xset1, xset2, fin3, e]) ih
      · refine x_iload dX0_mostSpoiledTile_31 rfl ?_
        refine x_istore_n dX0_mostSpoiledTile_33 (by decide) rfl rfl ?_
        refine x_iload dX0_mostSpoiledTile_34 rfl ?_
        refine x_istore_n dX0_mostSpoiledTile_36 (by decide) rfl rfl ?_
        refine x_iinc_n (k := 1) dX0_mostSpoiledTile_37 rfl (by decide) (by decide) rfl rfl ?_
        refine x_goto 7 dX0_mostSpoiledTile_40 (by decide) ?_
        have e : amax (spAtV st p) (i + 1) = (spAtV st p i, nI i) := by rw [amax, if_pos c]
        exact xP.weak (by simp [xle, xset1, xset2, fin3, e]) ih
  · refine x_iload dX0_mostSpoiledTile_7 rfl ?_
    refine x_aload_n dX0_mostSpoiledTile_9 rfl ?_
    refine x_getf dX0_mostSpoiledTile_10 f_X0_46 hA.o rfl ?_
    refine x_icmp_ge_n 43 dX0_mostSpoiledTile_13 (by decide) (by omega) (by omega) (fun c => ?_) (fun c => ?_)
    · refine x_iload_n dX0_mostSpoiledTile_43 rfl ?_
      exact x_iret .int dX0_mostSpoiledTile_44 rfl rfl (by decide) (by decide) (rfl) (rfl)
    · omega
theorem c_sourcesOf (hA : ArchAt h o st) {p f : Nat} (hp : p < 12) (hf : f < 10) : xDet g l mX0_sourcesOf 0 0 0 [.ref o, .int (nI p), .int (nI f)] h (some (.int (nI (srcV st p f)))) h := by
  refine xMet.of (V := [some (.ref o), some (.int (nI p)), some (.int (nI f))]) moX0_sourcesOf (Nat.le_of_ble_eq_true rfl) rfl ?_
  refine x_aload_n dX0_sourcesOf_0 rfl ?_
  refine x_getf dX0_sourcesOf_1 f_X0_19 hA.o rfl ?_
  refine x_iload_n dX0_sourcesOf_4 rfl ?_
  refine x_iald_n dX0_sourcesOf_5 hA.near (by omega) (by decide) ?_
  refine x_aload_n dX0_sourcesOf_6 rfl ?_
  refine x_getf dX0_sourcesOf_7 f_X0_37 hA.o rfl ?_
  refine x_iload_n dX0_sourcesOf_10 rfl ?_
  refine x_iald_n dX0_sourcesOf_11 hA.held (by omega) (by decide) ?_
  refine x_iand_n dX0_sourcesOf_12 ?_
  exact x_iret .int dX0_sourcesOf_13 rfl rfl (by decide) (by decide) (rfl) (rfl)
theorem c_allTiles (hA : ArchAt h o st) (hw : aOk st) : xDet g l mX0_allTiles 0 0 0 [.ref o] h (some (.int (nI (2 ^ st.1 0 - 1)))) h := by
  have hN : st.1 0 ≤ 16 := hw.1.2
  have hp : 1 ≤ 2 ^ st.1 0 := Nat.one_le_two_pow
  refine xMet.of (V := [some (.ref o)]) moX0_allTiles (Nat.le_of_ble_eq_true rfl) rfl ?_
  refine x_iconst (nI 1) dX0_allTiles_0 (by decide) ?_
  refine x_aload_n dX0_allTiles_1 rfl ?_
  refine x_getf dX0_allTiles_2 f_X0_46 hA.o rfl ?_
  refine x_ishl1_n dX0_allTiles_5 (by omega) ?_
  refine x_iconst (nI 1) dX0_allTiles_6 (by decide) ?_
  refine x_isub_n dX0_allTiles_7 hp ?_
  exact x_iret .int dX0_allTiles_8 rfl rfl (by decide) (by decide) (rfl) (rfl)
theorem c_spoiledInAll (hA : ArchAt h o st) (hw : aOk st) {p s : Nat} (hp : p < 12) (hs : s < 1024) : xDet g l mX0_spoiledInAll 2 0 0 [.ref o, .int (nI p), .int (nI s)] h (some (.int (nI (spAll st p s (st.1 1))))) h := by
  have hN : st.1 1 ≤ 10 := hw.2.1
  refine xMet.of (V := [some (.ref o), some (.int (nI p)), some (.int (nI s)), none, none]) moX0_spoiledInAll (Nat.le_of_ble_eq_true rfl) rfl ?_
  refine x_aload_n dX0_spoiledInAll_0 rfl ?_
  refine x_vi0 dX0_spoiledInAll_1 cV_X0_134 (c_allTiles hA hw) rfl rfl ⟨⟨by decide, by decide⟩, by decide, by decide⟩ (Nat.le_of_ble_eq_true rfl) (xrecv hA.o rfl xcl0) ?_
  refine x_istore_n dX0_spoiledInAll_4 (by decide) rfl rfl ?_
  refine x_iconst (nI 0) dX0_spoiledInAll_5 (by decide) ?_
  refine x_istore dX0_spoiledInAll_6 (by decide) rfl rfl ?_
  refine xP.loop0 (fun i => [some (.ref o), some (.int (nI p)), some (.int (nI s)), some (.int (nI (spAll st p s i))), some (.int (nI i))]) (st.1 1) ?_ ?_
  · intro i hi ih
    have hb := bit_lt s i
    refine x_iload dX0_spoiledInAll_8 rfl ?_
    refine x_aload_n dX0_spoiledInAll_10 rfl ?_
    refine x_getf dX0_spoiledInAll_11 f_X0_50 hA.o rfl ?_
    refine x_icmp_ge_n 42 dX0_spoiledInAll_14 (by decide) (by omega) (by omega) (fun c => ?_) (fun c => ?_)
    · omega
    · refine x_iload_n dX0_spoiledInAll_17 rfl ?_
      refine x_iload dX0_spoiledInAll_18 rfl ?_
      refine x_iushr_n dX0_spoiledInAll_20 (by omega) (by omega) ?_
      refine x_iconst (nI 1) dX0_spoiledInAll_21 (by decide) ?_
      refine x_iand_n dX0_spoiledInAll_22 ?_
      refine x_if_eq_n 36 dX0_spoiledInAll_23 (by decide) (by omega) (fun c => ?_) (fun c => ?_)
      · refine x_iinc_n (k := 1) dX0_spoiledInAll_36 rfl (by decide) (by decide) rfl rfl ?_
        refine x_goto 8 dX0_spoiledInAll_39 (by decide) ?_
        exact xP.weak (by simp [xle, xset1, xset2, fin3, spAll, bit0 c]) ih
      · refine x_iload_n dX0_spoiledInAll_26 rfl ?_
        refine x_aload_n dX0_spoiledInAll_27 rfl ?_
        refine x_iload_n dX0_spoiledInAll_28 rfl ?_
        refine x_iload dX0_spoiledInAll_29 rfl ?_
        refine x_vi0 dX0_spoiledInAll_31 cV_X0_108 (c_spoiledTiles hA p i hp (by omega)) rfl rfl ⟨⟨by decide, by decide⟩, by decide, by decide⟩ (Nat.le_of_ble_eq_true rfl) (xrecv hA.o rfl xcl0) ?_
        refine x_iand_n dX0_spoiledInAll_34 ?_
        refine x_istore_n dX0_spoiledInAll_35 (by decide) rfl rfl ?_
        refine x_iinc_n (k := 1) dX0_spoiledInAll_36 rfl (by decide) (by decide) rfl rfl ?_
        refine x_goto 8 dX0_spoiledInAll_39 (by decide) ?_
        exact xP.weak (by simp [xle, xset1, xset2, fin3, spAll, bit1 c]) ih
  · refine x_iload dX0_spoiledInAll_8 rfl ?_
    refine x_aload_n dX0_spoiledInAll_10 rfl ?_
    refine x_getf dX0_spoiledInAll_11 f_X0_50 hA.o rfl ?_
    refine x_icmp_ge_n 42 dX0_spoiledInAll_14 (by decide) (by omega) (by omega) (fun c => ?_) (fun c => ?_)
    · refine x_iload_n dX0_spoiledInAll_42 rfl ?_
      exact x_iret .int dX0_spoiledInAll_43 rfl rfl (by decide) (by decide) (rfl) (rfl)
    · omega
theorem c_neededHolders (hA : ArchAt h o st) (hw : aOk st) {p : Nat} (hp : p < 12) : xDet g l mX0_neededHolders 1 0 0 [.ref o, .int (nI p)] h (some (.int (nI (needV st p)))) h := by
  have h3 : st.2.2 6 p < 1024 := hw.held hp
  have h4 : popc (st.2.2 6 p) ≤ 10 := popc_le (n := 10) h3 (by decide)
  have h5 := hw.2.2.2.2.2.2.2 p hp
  refine xMet.of (V := [some (.ref o), some (.int (nI p))]) moX0_neededHolders (Nat.le_of_ble_eq_true rfl) rfl ?_
  refine x_aload_n dX0_neededHolders_0 rfl ?_
  refine x_getf dX0_neededHolders_1 f_X0_37 hA.o rfl ?_
  refine x_iload_n dX0_neededHolders_4 rfl ?_
  refine x_iald_n dX0_neededHolders_5 hA.held (by omega) (by decide) ?_
  refine x_si0 dX0_neededHolders_6 cS_X0_88 (c_bitCount (x := st.2.2 6 p) (by omega)) rfl rfl ⟨⟨by decide, by decide⟩, by decide, by decide⟩ (Nat.le_of_ble_eq_true rfl) ?_
  refine x_aload_n dX0_neededHolders_9 rfl ?_
  refine x_getf dX0_neededHolders_10 f_X0_34 hA.o rfl ?_
  refine x_iload_n dX0_neededHolders_13 rfl ?_
  refine x_iald_n dX0_neededHolders_14 hA.pledges (by omega) (by decide) ?_
  refine x_icmp_ne_n 27 dX0_neededHolders_15 (by decide) (by omega) (by omega) (fun c1 => ?_) (fun c1 => ?_)
  · refine x_iconst (nI 0) dX0_neededHolders_27 (by decide) ?_
    exact x_iret .int dX0_neededHolders_28 rfl rfl (by decide) (by decide) (by unfold needV; rw [if_neg c1]) (rfl)
  · refine x_aload_n dX0_neededHolders_18 rfl ?_
    refine x_getf dX0_neededHolders_19 f_X0_37 hA.o rfl ?_
    refine x_iload_n dX0_neededHolders_22 rfl ?_
    refine x_iald_n dX0_neededHolders_23 hA.held (by omega) (by decide) ?_
    refine x_goto 28 dX0_neededHolders_24 (by decide) ?_
    exact x_iret .int dX0_neededHolders_28 rfl rfl (by decide) (by decide) (by unfold needV; rw [if_pos c1]) (rfl)
theorem needV_lt (hw : aOk st) {p : Nat} (hp : p < 12) : needV st p < 1024 := by
  unfold needV
  have h3 : st.2.2 6 p < 1024 := hw.held hp
  split <;> omega
theorem c_picturesThatNeed (hA : ArchAt h o st) (hw : aOk st) {f : Nat} (hf : f < 10) : xDet g l mX0_picturesThatNeed 2 0 0 [.ref o, .int (nI f)] h (some (.int (nI (needOfV st f)))) h := by
  have hN : st.1 2 ≤ 12 := hw.2.2.1
  refine xMet.of (V := [some (.ref o), some (.int (nI f)), none, none]) moX0_picturesThatNeed (Nat.le_of_ble_eq_true rfl) rfl ?_
  refine x_iconst (nI 0) dX0_picturesThatNeed_0 (by decide) ?_
  refine x_istore_n dX0_picturesThatNeed_1 (by decide) rfl rfl ?_
  refine x_iconst (nI 0) dX0_picturesThatNeed_2 (by decide) ?_
  refine x_istore_n dX0_picturesThatNeed_3 (by decide) rfl rfl ?_
  refine xP.loop0 (fun i => [some (.ref o), some (.int (nI f)), some (.int (nI (fb_sm (fun p => needV st p / 2 ^ f &&& 1) i))), some (.int (nI i))]) (st.1 2) ?_ ?_
  · intro i hi ih
    have h3 := needV_lt hw (p := i) (by omega)
    refine x_iload_n dX0_picturesThatNeed_4 rfl ?_
    refine x_aload_n dX0_picturesThatNeed_5 rfl ?_
    refine x_getf dX0_picturesThatNeed_6 f_X0_53 hA.o rfl ?_
    refine x_icmp_ge_n 30 dX0_picturesThatNeed_9 (by decide) (by omega) (by omega) (fun c => ?_) (fun c => ?_)
    · omega
    · refine x_iload_n dX0_picturesThatNeed_12 rfl ?_
      refine x_aload_n dX0_picturesThatNeed_13 rfl ?_
      refine x_iload_n dX0_picturesThatNeed_14 rfl ?_
      refine x_vi0 dX0_picturesThatNeed_15 cV_X0_147 (c_neededHolders hA hw (p := i) (by omega)) rfl rfl ⟨⟨by decide, by decide⟩, by decide, by decide⟩ (Nat.le_of_ble_eq_true rfl) (xrecv hA.o rfl xcl0) ?_
      refine x_iload_n dX0_picturesThatNeed_18 rfl ?_
      refine x_iushr_n dX0_picturesThatNeed_19 (by omega) (by omega) ?_
      refine x_iconst (nI 1) dX0_picturesThatNeed_20 (by decide) ?_
      refine x_iand_n dX0_picturesThatNeed_21 ?_
      refine x_iadd_n dX0_picturesThatNeed_22 ?_
      refine x_istore_n dX0_picturesThatNeed_23 (by decide) rfl rfl ?_
      refine x_iinc_n (k := 1) dX0_picturesThatNeed_24 rfl (by decide) (by decide) rfl rfl ?_
      refine x_goto 4 dX0_picturesThatNeed_27 (by decide) ?_
      exact xP.weak (by simp [xle, xset1, xset2, fin3, fb_sm_succ]) ih
  · refine x_iload_n dX0_picturesThatNeed_4 rfl ?_
    refine x_aload_n dX0_picturesThatNeed_5 rfl ?_
    refine x_getf dX0_picturesThatNeed_6 f_X0_53 hA.o rfl ?_
    refine x_icmp_ge_n 30 dX0_picturesThatNeed_9 (by decide) (by omega) (by omega) (fun c => ?_) (fun c => ?_)
    · refine x_iload_n dX0_picturesThatNeed_30 rfl ?_
      exact x_iret .int dX0_picturesThatNeed_31 rfl rfl (by decide) (by decide) (rfl) (rfl)
    · omega
theorem c_reachedFrom (hA : ArchAt h o st) (hw : aOk st) {s : Nat} (hs : s < 1024) : xDet g l mX0_reachedFrom 0 0 0 [.ref o, .int (nI s)] h (some (.int (nI (rAll st s 10)))) h := by
  have hN : st.1 1 ≤ 10 := hw.2.1
  refine xMet.of (V := [some (.ref o), some (.int (nI s)), none, none, none]) moX0_reachedFrom (Nat.le_of_ble_eq_true rfl) rfl ?_
  refine x_iload_n dX0_reachedFrom_0 rfl ?_
  refine x_istore_n dX0_reachedFrom_1 (by decide) rfl rfl ?_
  refine x_iconst (nI 0) dX0_reachedFrom_2 (by decide) ?_
  refine x_istore_n dX0_reachedFrom_3 (by decide) rfl rfl ?_
  refine xP.loop0 (fun i => [some (.ref o), some (.int (nI s)), some (.int (nI (rAll st s i))), some (.int (nI i)), none]) 10 ?_ ?_
  · intro i hi ih
    have h1 := rAll_lt hw hs i
    refine x_iload_n dX0_reachedFrom_4 rfl ?_
    refine x_bipush (nI 10) dX0_reachedFrom_5 (by decide) ?_
    refine x_icmp_ge_n 53 dX0_reachedFrom_7 (by decide) (by omega) (by omega) (fun c => ?_) (fun c => ?_)
    · omega
    · refine x_iconst (nI 0) dX0_reachedFrom_10 (by decide) ?_
      refine x_istore dX0_reachedFrom_11 (by decide) rfl rfl ?_
      refine xP.loop0 (fun k => [some (.ref o), some (.int (nI s)), some (.int (nI (rin st (rAll st s i) k))), some (.int (nI i)), some (.int (nI k))]) (st.1 1) ?_ ?_
      · intro k hk ih
        have h2 := rin_lt hw h1 k (by omega)
        have hb := bit_lt (rin st (rAll st s i) k) k
        refine x_iload dX0_reachedFrom_13 rfl ?_
        refine x_aload_n dX0_reachedFrom_15 rfl ?_
        refine x_getf dX0_reachedFrom_16 f_X0_50 hA.o rfl ?_
        refine x_icmp_ge_n 47 dX0_reachedFrom_19 (by decide) (by omega) (by omega) (fun c => ?_) (fun c => ?_)
        · omega
        · refine x_iload_n dX0_reachedFrom_22 rfl ?_
          refine x_iload dX0_reachedFrom_23 rfl ?_
          refine x_iushr_n dX0_reachedFrom_25 (by omega) (by omega) ?_
          refine x_iconst (nI 1) dX0_reachedFrom_26 (by decide) ?_
          refine x_iand_n dX0_reachedFrom_27 ?_
          refine x_if_eq_n 41 dX0_reachedFrom_28 (by decide) (by omega) (fun c => ?_) (fun c => ?_)
          · refine x_iinc_n (k := 1) dX0_reachedFrom_41 rfl (by decide) (by decide) rfl rfl ?_
            refine x_goto 13 dX0_reachedFrom_44 (by decide) ?_
            exact xP.weak (by simp [xle, xset1, xset2, fin3, rin, bit0 c]) ih
          · refine x_iload_n dX0_reachedFrom_31 rfl ?_
            refine x_aload_n dX0_reachedFrom_32 rfl ?_
            refine x_getf dX0_reachedFrom_33 f_X0_19 hA.o rfl ?_
            refine x_iload dX0_reachedFrom_36 rfl ?_
            refine x_iald_n dX0_reachedFrom_38 hA.near (by omega) (by decide) ?_
            refine x_ior_n dX0_reachedFrom_39 ?_
            refine x_istore_n dX0_reachedFrom_40 (by decide) rfl rfl ?_
            refine x_iinc_n (k := 1) dX0_reachedFrom_41 rfl (by decide) (by decide) rfl rfl ?_
            refine x_goto 13 dX0_reachedFrom_44 (by decide) ?_
            exact xP.weak (by simp [xle, xset1, xset2, fin3, rin, bit1 c]) ih
      · refine x_iload dX0_reachedFrom_13 rfl ?_
        refine x_aload_n dX0_reachedFrom_15 rfl ?_
        refine x_getf dX0_reachedFrom_16 f_X0_50 hA.o rfl ?_
        refine x_icmp_ge_n 47 dX0_reachedFrom_19 (by decide) (by omega) (by omega) (fun c => ?_) (fun c => ?_)
        · refine x_iinc_n (k := 1) dX0_reachedFrom_47 rfl (by decide) (by decide) rfl rfl ?_
          refine x_goto 4 dX0_reachedFrom_50 (by decide) ?_
          exact xP.weak (by simp [xle, xset1, xset2, fin3, rAll]) ih
        · omega
  · refine x_iload_n dX0_reachedFrom_4 rfl ?_
    refine x_bipush (nI 10) dX0_reachedFrom_5 (by decide) ?_
    refine x_icmp_ge_n 53 dX0_reachedFrom_7 (by decide) (by omega) (by omega) (fun c => ?_) (fun c => ?_)
    · refine x_iload_n dX0_reachedFrom_53 rfl ?_
      exact x_iret .int dX0_reachedFrom_54 rfl rfl (by decide) (by decide) (rfl) (rfl)
    · omega
theorem c_roomLeft (hA : ArchAt h o st) (hw : aOk st) {f : Nat} (hf : f < 10) : xDet g l mX0_roomLeft 0 0 0 [.ref o, .int (nI f)] h (some (.int (nI (leftV st f)))) h := by
  obtain ⟨h1, h2⟩ := hw.2.2.2.2.2.2.1 f hf
  refine xMet.of (V := [some (.ref o), some (.int (nI f))]) moX0_roomLeft (Nat.le_of_ble_eq_true rfl) rfl ?_
  refine x_aload_n dX0_roomLeft_0 rfl ?_
  refine x_getf dX0_roomLeft_1 f_X0_15 hA.o rfl ?_
  refine x_iload_n dX0_roomLeft_4 rfl ?_
  refine x_iald_n dX0_roomLeft_5 hA.rooms (by omega) (by decide) ?_
  refine x_aload_n dX0_roomLeft_6 rfl ?_
  refine x_getf dX0_roomLeft_7 f_X0_28 hA.o rfl ?_
  refine x_iload_n dX0_roomLeft_10 rfl ?_
  refine x_iald_n dX0_roomLeft_11 hA.copies (by omega) (by decide) ?_
  refine x_isub_n dX0_roomLeft_12 (by omega) ?_
  exact x_iret .int dX0_roomLeft_13 rfl rfl (by decide) (by decide) (rfl) (rfl)
theorem leftV_le (hw : aOk st) {f : Nat} (hf : f < 10) : leftV st f ≤ 20 := by
  obtain ⟨h1, h2⟩ := hw.2.2.2.2.2.2.1 f hf
  unfold leftV
  omega
theorem c_isBetterHolder (hA : ArchAt h o st) (hw : aOk st) (hcn : aCn st 10000000) {f b : Nat} (hf : f < 10) (hb : b < 10) : xDet g l mX0_isBetterHolder 1 0 0 [.ref o, .int (nI f), .int (nI b)] h (some (.int (xb (betterB st f b)))) h := by
  have h1 := leftV_le hw hf
  have h2 := leftV_le hw hb
  have h3 := trustV_lt hcn hf
  have h4 := trustV_lt hcn hb
  refine xMet.of (V := [some (.ref o), some (.int (nI f)), some (.int (nI b))]) moX0_isBetterHolder (Nat.le_of_ble_eq_true rfl) rfl ?_
  refine x_aload_n dX0_isBetterHolder_0 rfl ?_
  refine x_iload_n dX0_isBetterHolder_1 rfl ?_
  refine x_vi0 dX0_isBetterHolder_2 cV_X0_165 (c_roomLeft hA hw hf) rfl rfl ⟨⟨by decide, by decide⟩, by decide, by decide⟩ (Nat.le_of_ble_eq_true rfl) (xrecv hA.o rfl xcl0) ?_
  refine x_aload_n dX0_isBetterHolder_5 rfl ?_
  refine x_iload_n dX0_isBetterHolder_6 rfl ?_
  refine x_vi0 dX0_isBetterHolder_7 cV_X0_165 (c_roomLeft hA hw hb) rfl rfl ⟨⟨by decide, by decide⟩, by decide, by decide⟩ (Nat.le_of_ble_eq_true rfl) (xrecv hA.o rfl xcl0) ?_
  refine x_icmp_eq_n 32 dX0_isBetterHolder_10 (by decide) (by omega) (by omega) (fun c1 => ?_) (fun c1 => ?_)
  · refine x_aload_n dX0_isBetterHolder_32 rfl ?_
    refine x_iload_n dX0_isBetterHolder_33 rfl ?_
    refine x_vi0 dX0_isBetterHolder_34 cV_X0_171 (c_trustOf hA hcn hf) rfl rfl ⟨⟨by decide, by decide⟩, by decide, by decide⟩ (Nat.le_of_ble_eq_true rfl) (xrecv hA.o rfl xcl0) ?_
    refine x_aload_n dX0_isBetterHolder_37 rfl ?_
    refine x_iload_n dX0_isBetterHolder_38 rfl ?_
    refine x_vi0 dX0_isBetterHolder_39 cV_X0_171 (c_trustOf hA hcn hb) rfl rfl ⟨⟨by decide, by decide⟩, by decide, by decide⟩ (Nat.le_of_ble_eq_true rfl) (xrecv hA.o rfl xcl0) ?_
    refine x_icmp_le_n 49 dX0_isBetterHolder_42 (by decide) (by omega) (by omega) (fun c2 => ?_) (fun c2 => ?_)
    · refine x_iconst (nI 0) dX0_isBetterHolder_49 (by decide) ?_
      exact x_iret .boolean dX0_isBetterHolder_50 rfl rfl (by decide) (by decide) (bool0 (by unfold betterB; rw [if_pos c1]; exact dF (by omega))) (rfl)
    · refine x_iconst (nI 1) dX0_isBetterHolder_45 (by decide) ?_
      refine x_goto 50 dX0_isBetterHolder_46 (by decide) ?_
      exact x_iret .boolean dX0_isBetterHolder_50 rfl rfl (by decide) (by decide) (bool1 (by unfold betterB; rw [if_pos c1]; exact dT (by omega))) (rfl)
  · refine x_aload_n dX0_isBetterHolder_13 rfl ?_
    refine x_iload_n dX0_isBetterHolder_14 rfl ?_
    refine x_vi0 dX0_isBetterHolder_15 cV_X0_165 (c_roomLeft hA hw hf) rfl rfl ⟨⟨by decide, by decide⟩, by decide, by decide⟩ (Nat.le_of_ble_eq_true rfl) (xrecv hA.o rfl xcl0) ?_
    refine x_aload_n dX0_isBetterHolder_18 rfl ?_
    refine x_iload_n dX0_isBetterHolder_19 rfl ?_
    refine x_vi0 dX0_isBetterHolder_20 cV_X0_165 (c_roomLeft hA hw hb) rfl rfl ⟨⟨by decide, by decide⟩, by decide, by decide⟩ (Nat.le_of_ble_eq_true rfl) (xrecv hA.o rfl xcl0) ?_
    refine x_icmp_le_n 30 dX0_isBetterHolder_23 (by decide) (by omega) (by omega) (fun c2 => ?_) (fun c2 => ?_)
    · refine x_iconst (nI 0) dX0_isBetterHolder_30 (by decide) ?_
      exact x_iret .boolean dX0_isBetterHolder_31 rfl rfl (by decide) (by decide) (bool0 (by unfold betterB; rw [if_neg c1]; exact dF (by omega))) (rfl)
    · refine x_iconst (nI 1) dX0_isBetterHolder_26 (by decide) ?_
      refine x_goto 31 dX0_isBetterHolder_27 (by decide) ?_
      exact x_iret .boolean dX0_isBetterHolder_31 rfl rfl (by decide) (by decide) (bool1 (by unfold betterB; rw [if_neg c1]; exact dT (by omega))) (rfl)
end A2
