/-! ===== TextReader: its state, its tokens ===== -/
/-- a byte as a number, and as it stands in an array of bytes -/
def sb (x : Nat) : Int32 := if x < 128 then nI x else nI x - 256
/-- length, error's code and place; position, token's place, number, name -/
abbrev Tr := (Nat × Int32 × Int32) × Nat × Nat × Nat × Nat
abbrev tL (t : Tr) : Nat := t.1.1
abbrev tP (t : Tr) : Nat := t.2.1
abbrev tK (t : Tr) : Nat := t.2.2.1
abbrev tN (t : Tr) : Nat := t.2.2.2.1
abbrev tM (t : Tr) : Nat := t.2.2.2.2
abbrev sLen (t : Tr) (x : Nat) : Tr := ((x, t.1.2), t.2)
abbrev sEc (t : Tr) (x : Int32) : Tr := ((t.1.1, x, t.1.2.2), t.2)
abbrev sEa (t : Tr) (x : Int32) : Tr := ((t.1.1, t.1.2.1, x), t.2)
abbrev sPos (t : Tr) (x : Nat) : Tr := (t.1, x, t.2.2)
abbrev sTok (t : Tr) (x : Nat) : Tr := (t.1, t.2.1, x, t.2.2.2)
abbrev sNum (t : Tr) (x : Nat) : Tr := (t.1, t.2.1, t.2.2.1, x, t.2.2.2.2)
abbrev sNam (t : Tr) (x : Nat) : Tr := (t.1, t.2.1, t.2.2.1, t.2.2.2.1, x)
def trE (r : Nat) (b : Nat → Nat) (t : Tr) (k : Nat) : xE := if k = 0 then .inr (3, [.ref (r + 1), .int (nI t.1.1), .int t.1.2.1, .int t.1.2.2, .int (nI t.2.1), .int (nI t.2.2.1), .int (nI t.2.2.2.1), .long (lN t.2.2.2.2)]) else .inl (1, 600, .inl (fun k => sb (b k)))
def TrAt (h : xH) (r : Nat) (b : Nat → Nat) (t : Tr) : Prop := h.1 r = some (trE r b t 0) ∧ h.1 (r + 1) = some (trE r b t 1)
def putTr (h : xH) (r : Nat) (b : Nat → Nat) (t : Tr) : xH := (fun a => if a = r then some (trE r b t 0) else if a = r + 1 then some (trE r b t 1) else h.1 a, h.2)
theorem putTr_at {h : xH} {r : Nat} {b : Nat → Nat} {t : Tr} : TrAt (putTr h r b t) r b t := by
  constructor
  · simp [putTr]
  · simp [putTr]
theorem TrAt.o {h : xH} {r : Nat} {b : Nat → Nat} {t : Tr} (hT : TrAt h r b t) : h.1 r = some (.inr (3, [.ref (r + 1), .int (nI t.1.1), .int t.1.2.1, .int t.1.2.2, .int (nI t.2.1), .int (nI t.2.2.1), .int (nI t.2.2.2.1), .long (lN t.2.2.2.2)])) := hT.1
theorem TrAt.text {h : xH} {r : Nat} {b : Nat → Nat} {t : Tr} (hT : TrAt h r b t) : h.1 (r + 1) = some (.inl (1, 600, .inl (fun k => sb (b k)))) := hT.2
theorem putTr_self {h : xH} {r : Nat} {b : Nat → Nat} {t : Tr} (hT : TrAt h r b t) : putTr h r b t = h := by
  refine xH_ext (fun a => ?_) rfl
  unfold putTr
  dsimp only
  split
  · rename_i e; rw [e]; exact hT.1.symm
  · split
    · rename_i e; rw [e]; exact hT.2.symm
    · rfl
theorem putTr_put {h : xH} {r : Nat} {b b' : Nat → Nat} {t t' : Tr} : putTr (putTr h r b t) r b' t' = putTr h r b' t' := by
  refine xH_ext (fun a => ?_) rfl
  unfold putTr
  dsimp only
  split
  · rfl
  · split <;> rfl
theorem putTr_out {h : xH} {r : Nat} {b : Nat → Nat} {t : Tr} {a : Nat} (h1 : a ≠ r) (h2 : a ≠ r + 1) : (putTr h r b t).1 a = h.1 a := by
  unfold putTr
  dsimp only
  rw [if_neg h1, if_neg h2]
theorem ArchAt.tr {h : xH} {o r : Nat} {st : Ar} {b : Nat → Nat} {t : Tr} (hA : ArchAt h o st) (hd : r + 2 ≤ o ∨ o + 12 ≤ r) : ArchAt (putTr h r b t) o st := by
  intro k hk
  rw [putTr_out (by omega) (by omega)]
  exact hA k hk
theorem putArch_tr {h : xH} {o r : Nat} {st : Ar} {b : Nat → Nat} {t : Tr} (hd : r + 2 ≤ o ∨ o + 12 ≤ r) : putArch (putTr h r b t) o st = putTr (putArch h o st) r b t := by
  refine xH_ext (fun a => ?_) rfl
  unfold putTr putArch
  dsimp only
  by_cases h1 : o ≤ a ∧ a < o + 12
  · rw [if_pos h1, if_neg (by omega), if_neg (by omega), if_pos h1]
  · rw [if_neg h1]
    split
    · rfl
    · split
      · rfl
      · rfl
theorem trAt_arch {h : xH} {o r : Nat} {st : Ar} {b : Nat → Nat} {t : Tr} (hT : TrAt h r b t) (hd : r + 2 ≤ o ∨ o + 12 ≤ r) : TrAt (putArch h o st) r b t := ⟨by rw [putArch_out (by omega)]; exact hT.1, by rw [putArch_out (by omega)]; exact hT.2⟩
theorem hset_tr {h : xH} {r : Nat} {b : Nat → Nat} {t t' : Tr} : hset (putTr h r b t) r (trE r b t' 0) = putTr h r b t' := by
  refine xH_ext (fun a => ?_) rfl
  unfold hset putTr
  dsimp only
  split
  · rfl
  · split
    · simp [trE]
    · rfl
section T0
variable {g : xG} {l : Launch} {M : xM} {tb : List (Nat × Nat × Nat × Nat)} {R : Room} {Z : List Frame → Array Value → State → State → Prop} {pc : Nat} {V : List (Option Value)} {S : List Value} {h : xH} {kc ks r i : Nat} {b : Nat → Nat} {t : Tr}
theorem xq_X4_length {x : Nat} (hd : decode M.2.1 pc = .ok (.putfield i, 3)) (hF : xF M.1.cls i 3 1) (K : xP g l M tb R Z (pc + 3) V S (putTr h r b (sLen t (x))) kc ks) : xP g l M tb R Z pc V (.int (nI x) :: .ref r :: S) (putTr h r b t) kc ks := x_putf hd hF putTr_at.o rfl rfl rfl (Nat.le_of_ble_eq_true rfl) (xP.eq rfl rfl rfl (hset_tr (t' := (sLen t (x)))).symm K)
theorem xq_X4_errorCode {x : Int32} (hd : decode M.2.1 pc = .ok (.putfield i, 3)) (hF : xF M.1.cls i 3 2) (K : xP g l M tb R Z (pc + 3) V S (putTr h r b (sEc t (x))) kc ks) : xP g l M tb R Z pc V (.int x :: .ref r :: S) (putTr h r b t) kc ks := x_putf hd hF putTr_at.o rfl rfl rfl (Nat.le_of_ble_eq_true rfl) (xP.eq rfl rfl rfl (hset_tr (t' := (sEc t (x)))).symm K)
theorem xq_X4_errorAt {x : Int32} (hd : decode M.2.1 pc = .ok (.putfield i, 3)) (hF : xF M.1.cls i 3 3) (K : xP g l M tb R Z (pc + 3) V S (putTr h r b (sEa t (x))) kc ks) : xP g l M tb R Z pc V (.int x :: .ref r :: S) (putTr h r b t) kc ks := x_putf hd hF putTr_at.o rfl rfl rfl (Nat.le_of_ble_eq_true rfl) (xP.eq rfl rfl rfl (hset_tr (t' := (sEa t (x)))).symm K)
theorem xq_X4_position {x : Nat} (hd : decode M.2.1 pc = .ok (.putfield i, 3)) (hF : xF M.1.cls i 3 4) (K : xP g l M tb R Z (pc + 3) V S (putTr h r b (sPos t (x))) kc ks) : xP g l M tb R Z pc V (.int (nI x) :: .ref r :: S) (putTr h r b t) kc ks := x_putf hd hF putTr_at.o rfl rfl rfl (Nat.le_of_ble_eq_true rfl) (xP.eq rfl rfl rfl (hset_tr (t' := (sPos t (x)))).symm K)
theorem xq_X4_tokenAt {x : Nat} (hd : decode M.2.1 pc = .ok (.putfield i, 3)) (hF : xF M.1.cls i 3 5) (K : xP g l M tb R Z (pc + 3) V S (putTr h r b (sTok t (x))) kc ks) : xP g l M tb R Z pc V (.int (nI x) :: .ref r :: S) (putTr h r b t) kc ks := x_putf hd hF putTr_at.o rfl rfl rfl (Nat.le_of_ble_eq_true rfl) (xP.eq rfl rfl rfl (hset_tr (t' := (sTok t (x)))).symm K)
theorem xq_X4_number {x : Nat} (hd : decode M.2.1 pc = .ok (.putfield i, 3)) (hF : xF M.1.cls i 3 6) (K : xP g l M tb R Z (pc + 3) V S (putTr h r b (sNum t (x))) kc ks) : xP g l M tb R Z pc V (.int (nI x) :: .ref r :: S) (putTr h r b t) kc ks := x_putf hd hF putTr_at.o rfl rfl rfl (Nat.le_of_ble_eq_true rfl) (xP.eq rfl rfl rfl (hset_tr (t' := (sNum t (x)))).symm K)
theorem xq_X4_name {x : Nat} (hd : decode M.2.1 pc = .ok (.putfield i, 3)) (hF : xF M.1.cls i 3 7) (K : xP g l M tb R Z (pc + 3) V S (putTr h r b (sNam t (x))) kc ks) : xP g l M tb R Z pc V (.long (lN x) :: .ref r :: S) (putTr h r b t) kc ks := x_putf hd hF putTr_at.o rfl rfl rfl (Nat.le_of_ble_eq_true rfl) (xP.eq rfl rfl rfl (hset_tr (t' := (sNam t (x)))).symm K)
end T0
/-! bytes as signs -/
theorem sb_eq {x c : Nat} (hx : x < 256) (hc : c < 128) : sb x = nI c ↔ x = c := by
  have : ∀ x : Fin 256, ∀ c : Fin 128, sb x.val = nI c.val ↔ x.val = c.val := by decide +kernel
  exact this ⟨x, hx⟩ ⟨c, hc⟩
def isSp (x : Nat) : Bool := x == 32
def isLt (x : Nat) : Bool := 97 ≤ x && x ≤ 122
def isDg (x : Nat) : Bool := 48 ≤ x && x ≤ 57
theorem sb_let {x : Nat} (hx : x < 256) : isLt x = true ↔ ¬ sb x < nI 97 ∧ sb x ≤ nI 122 := by
  have : ∀ x : Fin 256, isLt x.val = true ↔ ¬ sb x.val < nI 97 ∧ sb x.val ≤ nI 122 := by decide +kernel
  exact this ⟨x, hx⟩
theorem sb_dig {x : Nat} (hx : x < 256) : isDg x = true ↔ ¬ sb x < nI 48 ∧ ¬ nI 57 < sb x := by
  have : ∀ x : Fin 256, isDg x.val = true ↔ ¬ sb x.val < nI 48 ∧ ¬ nI 57 < sb x.val := by decide +kernel
  exact this ⟨x, hx⟩
theorem sb_lo {x : Nat} (hx : x < 128) : sb x = nI x := by unfold sb; rw [if_pos hx]
theorem isLt_lt {x : Nat} (h : isLt x = true) : 97 ≤ x ∧ x ≤ 122 := by
  unfold isLt at h
  simp at h
  exact h
theorem isDg_lt {x : Nat} (h : isDg x = true) : 48 ≤ x ∧ x ≤ 57 := by
  unfold isDg at h
  simp at h
  exact h
/-! the scanner -/
def runF (q : Nat → Bool) : Nat → Nat → Nat
  | 0, k => k
  | f + 1, k => if q k then runF q f (k + 1) else k
theorem runF_le (q : Nat → Bool) : ∀ f k, k ≤ runF q f k ∧ runF q f k ≤ k + f := by
  intro f
  induction f with
  | zero => intro k; exact ⟨Nat.le_refl _, Nat.le_refl _⟩
  | succ f ih =>
    intro k
    rw [runF]
    split
    · have := ih (k + 1)
      omega
    · omega
theorem runF_all (q : Nat → Bool) : ∀ f k i, k ≤ i → i < runF q f k → q i = true := by
  intro f
  induction f with
  | zero => intro k i h1 h2; exact absurd h2 (by rw [runF]; omega)
  | succ f ih =>
    intro k i h1 h2
    rw [runF] at h2
    split at h2
    · by_cases e : k = i
      · subst e; assumption
      · exact ih (k + 1) i (by omega) h2
    · omega
theorem runF_end (q : Nat → Bool) : ∀ f k, runF q f k < k + f → q (runF q f k) = false := by
  intro f
  induction f with
  | zero => intro k h; rw [runF] at h; omega
  | succ f ih =>
    intro k h
    rw [runF] at h ⊢
    split
    · rename_i c
      rw [if_pos c] at h
      exact ih (k + 1) (by omega)
    · rename_i c
      simpa using c
def skp (b : Nat → Nat) (n k : Nat) : Nat := runF (fun i => isSp (b i)) (n - k) k
def wEnd (b : Nat → Nat) (n k : Nat) : Nat := runF (fun i => isLt (b i)) (n - k) k
def trSk (b : Nat → Nat) (t : Tr) : Tr := (sPos t (skp b t.1.1 t.2.1))
def trOk (t : Tr) : Prop := t.1.1 ≤ 600 ∧ t.2.1 ≤ t.1.1
theorem skp_le {b : Nat → Nat} {n k : Nat} (h : k ≤ n) : k ≤ skp b n k ∧ skp b n k ≤ n := by
  have := runF_le (fun i => isSp (b i)) (n - k) k
  unfold skp
  omega
theorem wEnd_le {b : Nat → Nat} {n k : Nat} (h : k ≤ n) : k ≤ wEnd b n k ∧ wEnd b n k ≤ n := by
  have := runF_le (fun i => isLt (b i)) (n - k) k
  unfold wEnd
  omega
theorem trSk_ok {b : Nat → Nat} {t : Tr} (h : trOk t) : trOk (trSk b t) := ⟨h.1, (skp_le h.2).2⟩
def trFail (t : Tr) (c a : Int32) : Tr := sEa (sEc t c) a
section T1
variable {g : xG} {l : Launch} {h : xH} {r : Nat} {b : Nat → Nat} {t : Tr}
theorem c_fail {c a : Int32} : xDet g l mX4_fail 0 0 0 [.ref r, .int c, .int a] (putTr h r b t) (some (.int (xb false))) (putTr h r b (trFail t c a)) := by
  refine xMet.of (V := [some (.ref r), some (.int c), some (.int a)]) moX4_fail (Nat.le_of_ble_eq_true rfl) rfl ?_
  refine x_aload_n dX4_fail_0 rfl ?_
  refine x_iload_n dX4_fail_1 rfl ?_
  refine xq_X4_errorCode dX4_fail_2 f_X4_19 ?_
  refine x_aload_n dX4_fail_5 rfl ?_
  refine x_iload_n dX4_fail_6 rfl ?_
  refine xq_X4_errorAt dX4_fail_7 f_X4_22 ?_
  refine x_iconst (nI 0) dX4_fail_10 (by decide) ?_
  exact x_iret .boolean dX4_fail_11 rfl rfl (by decide) (by decide) (rfl) (rfl)
theorem c_skipSpaces (hb : ∀ k, b k < 256) (ht : trOk t) : xDet g l mX4_skipSpaces 0 0 0 [.ref r] (putTr h r b t) none (putTr h r b (trSk b t)) := by
  obtain ⟨hl, hp⟩ := ht
  refine xMet.of (V := [some (.ref r), none]) moX4_skipSpaces (Nat.le_of_ble_eq_true rfl) rfl ?_
  refine x_aload_n dX4_skipSpaces_0 rfl ?_
  refine x_getf dX4_skipSpaces_1 f_X4_25 putTr_at.o rfl ?_
  refine x_istore_n dX4_skipSpaces_4 (by decide) rfl rfl ?_
  have key : ∀ (f k : Nat) (t1 : Tr), f = t.1.1 - k → k ≤ t.1.1 → t1 = (sPos t (k)) → xP g l mX4_skipSpaces [] (xR 0 0 0) (xZ g (fun r' h' => r' = none ∧ h' = putTr h r b (sPos t (runF (fun i => isSp (b i)) f k))) xno 0 0) 5 [some (.ref r), some (.int (nI k))] [] (putTr h r b t1) 0 0 := by
    intro f
    induction f with
    | zero =>
      intro k t1 hf hk ht1
      have e1 : t1.1.1 = t.1.1 := by rw [ht1]
      have e2 : t1.2.1 = k := by rw [ht1]
      refine x_iload_n dX4_skipSpaces_5 rfl ?_
      refine x_aload_n dX4_skipSpaces_6 rfl ?_
      refine x_getf dX4_skipSpaces_7 f_X4_15 putTr_at.o rfl ?_
      refine x_icmp_ge_n 37 dX4_skipSpaces_10 (by decide) (by omega) (by omega) (fun c => ?_) (fun c => ?_)
      · rw [runF, ← ht1]
        exact x_vret dX4_skipSpaces_37 rfl (by decide) (by decide) rfl (rfl)
      · omega
    | succ f ih =>
      intro k t1 hf hk ht1
      have e1 : t1.1.1 = t.1.1 := by rw [ht1]
      have e2 : t1.2.1 = k := by rw [ht1]
      rw [runF]
      refine x_iload_n dX4_skipSpaces_5 rfl ?_
      refine x_aload_n dX4_skipSpaces_6 rfl ?_
      refine x_getf dX4_skipSpaces_7 f_X4_15 putTr_at.o rfl ?_
      refine x_icmp_ge_n 37 dX4_skipSpaces_10 (by decide) (by omega) (by omega) (fun c => ?_) (fun c => ?_)
      · omega
      · refine x_aload_n dX4_skipSpaces_13 rfl ?_
        refine x_getf dX4_skipSpaces_14 f_X4_9 putTr_at.o rfl ?_
        refine x_iload_n dX4_skipSpaces_17 rfl ?_
        refine x_bald dX4_skipSpaces_18 putTr_at.text (by omega) (by decide) ?_
        refine x_bipush (nI 32) dX4_skipSpaces_19 (by decide) ?_
        refine x_icmp_ne 37 dX4_skipSpaces_21 (by decide) (fun c1 => ?_) (fun c1 => ?_)
        · rw [if_neg (by intro q; exact c1 ((sb_eq (hb k) (by decide)).mpr (by simpa [isSp] using q))), ← ht1]
          exact x_vret dX4_skipSpaces_37 rfl (by decide) (by decide) rfl (rfl)
        · rw [if_pos (by simpa [isSp] using (sb_eq (hb k) (by decide)).mp c1)]
          refine x_aload_n dX4_skipSpaces_24 rfl ?_
          refine x_iload_n dX4_skipSpaces_25 rfl ?_
          refine x_iconst (nI 1) dX4_skipSpaces_26 (by decide) ?_
          refine x_iadd_n dX4_skipSpaces_27 ?_
          refine xq_X4_position dX4_skipSpaces_28 f_X4_25 ?_
          refine x_iinc_n (k := 1) dX4_skipSpaces_31 rfl (by decide) (by decide) rfl rfl ?_
          refine x_goto 5 dX4_skipSpaces_34 (by decide) ?_
          exact xP.weak (by simp [xle, xset1, fin3]) (ih (k + 1) _ (by omega) (by omega) (by rw [ht1]))
  exact key (t.1.1 - t.2.1) t.2.1 t rfl hp rfl
end T1
