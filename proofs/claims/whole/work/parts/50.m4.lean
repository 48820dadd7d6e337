/-! ===== the model: its lexer ===== -/
def ltAt (b : Nat → Nat) (n k : Nat) : Bool := decide (k < n) && isLt (b k)
def seV (b : Nat → Nat) (n k : Nat) : Int32 := if k < n then nI (b k) else -1
/-- the token: where it starts, where it ends, its kind, its number -/
def mk4 (s : Mo) (a b k n : Nat) : Mo := (s.1, (fun j => if j = 3 then a else if j = 4 then b else if j = 5 then k else if j = 6 then n else s.2.1 j), s.2.2)
theorem mk4_self (s : Mo) : mk4 s (s.2.1 3) (s.2.1 4) (s.2.1 5) (s.2.1 6) = s := by
  refine Prod.ext rfl (Prod.ext (funext fun j => ?_) rfl)
  show (if j = 3 then s.2.1 3 else if j = 4 then s.2.1 4 else if j = 5 then s.2.1 5 else if j = 6 then s.2.1 6 else s.2.1 j) = s.2.1 j
  split
  · rename_i e; rw [e]
  · split
    · rename_i e; rw [e]
    · split
      · rename_i e; rw [e]
      · split
        · rename_i e; rw [e]
        · rfl
theorem mk4_a (s : Mo) (a b k n x : Nat) : mN (mk4 s a b k n) 3 x = mk4 s x b k n := by
  refine Prod.ext rfl (Prod.ext (funext fun j => ?_) rfl)
  show va_up (fun j => if j = 3 then a else if j = 4 then b else if j = 5 then k else if j = 6 then n else s.2.1 j) 3 x j = if j = 3 then x else if j = 4 then b else if j = 5 then k else if j = 6 then n else s.2.1 j
  unfold va_up
  by_cases e : j = 3
  · subst e; rfl
  · simp only [if_neg e]
theorem mk4_b (s : Mo) (a b k n x : Nat) : mN (mk4 s a b k n) 4 x = mk4 s a x k n := by
  refine Prod.ext rfl (Prod.ext (funext fun j => ?_) rfl)
  show va_up (fun j => if j = 3 then a else if j = 4 then b else if j = 5 then k else if j = 6 then n else s.2.1 j) 4 x j = if j = 3 then a else if j = 4 then x else if j = 5 then k else if j = 6 then n else s.2.1 j
  unfold va_up
  by_cases e : j = 4
  · subst e; rfl
  · simp only [if_neg e]
theorem mk4_k (s : Mo) (a b k n x : Nat) : mN (mk4 s a b k n) 5 x = mk4 s a b x n := by
  refine Prod.ext rfl (Prod.ext (funext fun j => ?_) rfl)
  show va_up (fun j => if j = 3 then a else if j = 4 then b else if j = 5 then k else if j = 6 then n else s.2.1 j) 5 x j = if j = 3 then a else if j = 4 then b else if j = 5 then x else if j = 6 then n else s.2.1 j
  unfold va_up
  by_cases e : j = 5
  · subst e; rfl
  · simp only [if_neg e]
theorem mk4_n (s : Mo) (a b k n x : Nat) : mN (mk4 s a b k n) 6 x = mk4 s a b k x := by
  refine Prod.ext rfl (Prod.ext (funext fun j => ?_) rfl)
  show va_up (fun j => if j = 3 then a else if j = 4 then b else if j = 5 then k else if j = 6 then n else s.2.1 j) 6 x j = if j = 3 then a else if j = 4 then b else if j = 5 then k else if j = 6 then x else s.2.1 j
  unfold va_up
  by_cases e : j = 6
  · subst e; rfl
  · simp only [if_neg e]
theorem isIn_lt {x : Nat} (hx : x < 256) : isInB (nI x) (nI 97) (nI 122) = isLt x := by
  have : ∀ x : Fin 256, isInB (nI x.val) (nI 97) (nI 122) = isLt x.val := by decide +kernel
  exact this ⟨x, hx⟩
theorem isIn_dg {x : Nat} (hx : x < 256) : isInB (nI x) (nI 48) (nI 57) = isDg x := by
  have : ∀ x : Fin 256, isInB (nI x.val) (nI 48) (nI 57) = isDg x.val := by decide +kernel
  exact this ⟨x, hx⟩
/-- a buffer that may be read -/
def bOk (s : Mo) : Prop := (∀ k, s.1 5 k < 256) ∧ s.2.1 2 ≤ 600
section M4
variable {g : xG} {l : Launch} {h : xH} {m : Nat} {s : Mo}
theorem c_mSee (hM : ModAt h m s) (hb : bOk s) {k : Nat} (hk : k < 2 ^ 31) : xDet g l mX6_see 0 0 0 [.ref m, .int (nI k)] h (some (.int (seV (s.1 5) (s.2.1 2) k))) h := by
  have hl := hb.2
  unfold seV
  refine xMet.of (V := [some (.ref m), some (.int (nI k))]) moX6_see (Nat.le_of_ble_eq_true rfl) rfl ?_
  refine x_iload_n dX6_see_0 rfl ?_
  refine x_aload_n dX6_see_1 rfl ?_
  refine x_getf dX6_see_2 f_X6_75 hM.o rfl ?_
  refine x_icmp_ge_n 17 dX6_see_5 (by decide) (by omega) (by omega) (fun c1 => ?_) (fun c1 => ?_)
  · rw [if_neg (by omega)]
    refine x_iconst (-1) dX6_see_17 (by decide) ?_
    exact x_iret .int dX6_see_18 rfl rfl (by decide) (by decide) (rfl) (rfl)
  · rw [if_pos c1]
    refine x_aload_n dX6_see_8 rfl ?_
    refine x_getf dX6_see_9 f_X6_29 hM.o rfl ?_
    refine x_iload_n dX6_see_12 rfl ?_
    refine x_iald_n dX6_see_13 hM.buffer (by omega) (by decide) ?_
    refine x_goto 18 dX6_see_14 (by decide) ?_
    exact x_iret .int dX6_see_18 rfl rfl (by decide) (by decide) (rfl) (rfl)
theorem c_mIsLetter (hM : ModAt h m s) (hb : bOk s) {k : Nat} (hk : k < 2 ^ 31) : xDet g l mX6_isLetter 1 0 0 [.ref m, .int (nI k)] h (some (.int (xb (ltAt (s.1 5) (s.2.1 2) k)))) h := by
  have e : isInB (seV (s.1 5) (s.2.1 2) k) (nI 97) (nI 122) = ltAt (s.1 5) (s.2.1 2) k := by
    unfold seV ltAt
    by_cases c : k < s.2.1 2
    · rw [if_pos c, isIn_lt (hb.1 k), decide_eq_true c, Bool.true_and]
    · rw [if_neg c, decide_eq_false c, Bool.false_and]
      decide +kernel
  rw [← e]
  refine xMet.of (V := [some (.ref m), some (.int (nI k))]) moX6_isLetter (Nat.le_of_ble_eq_true rfl) rfl ?_
  refine x_aload_n dX6_isLetter_0 rfl ?_
  refine x_iload_n dX6_isLetter_1 rfl ?_
  refine x_vi0 dX6_isLetter_2 cV_X6_78 (c_mSee hM hb hk) rfl rfl ⟨⟨by decide, by decide⟩, by decide, by decide⟩ (Nat.le_of_ble_eq_true rfl) (xrecv hM.o rfl xcl5) ?_
  refine x_bipush (nI 97) dX6_isLetter_5 (by decide) ?_
  refine x_bipush (nI 122) dX6_isLetter_7 (by decide) ?_
  refine x_si0 dX6_isLetter_9 cS_X6_59 (c_mIsIn) rfl rfl ⟨⟨by decide, by decide⟩, by decide, by decide⟩ (Nat.le_of_ble_eq_true rfl) ?_
  exact x_bret dX6_isLetter_12 rfl (by decide) (by decide) (rfl) (rfl)
theorem c_mIsDigit (hM : ModAt h m s) (hb : bOk s) {k : Nat} (hk : k < 2 ^ 31) : xDet g l mX6_isDigit 1 0 0 [.ref m, .int (nI k)] h (some (.int (xb (digAt (s.1 5) (s.2.1 2) k)))) h := by
  have e : isInB (seV (s.1 5) (s.2.1 2) k) (nI 48) (nI 57) = digAt (s.1 5) (s.2.1 2) k := by
    unfold seV digAt
    by_cases c : k < s.2.1 2
    · rw [if_pos c, isIn_dg (hb.1 k), decide_eq_true c, Bool.true_and]
    · rw [if_neg c, decide_eq_false c, Bool.false_and]
      decide +kernel
  rw [← e]
  refine xMet.of (V := [some (.ref m), some (.int (nI k))]) moX6_isDigit (Nat.le_of_ble_eq_true rfl) rfl ?_
  refine x_aload_n dX6_isDigit_0 rfl ?_
  refine x_iload_n dX6_isDigit_1 rfl ?_
  refine x_vi0 dX6_isDigit_2 cV_X6_78 (c_mSee hM hb hk) rfl rfl ⟨⟨by decide, by decide⟩, by decide, by decide⟩ (Nat.le_of_ble_eq_true rfl) (xrecv hM.o rfl xcl5) ?_
  refine x_bipush (nI 48) dX6_isDigit_5 (by decide) ?_
  refine x_bipush (nI 57) dX6_isDigit_7 (by decide) ?_
  refine x_si0 dX6_isDigit_9 cS_X6_59 (c_mIsIn) rfl rfl ⟨⟨by decide, by decide⟩, by decide, by decide⟩ (Nat.le_of_ble_eq_true rfl) ?_
  exact x_bret dX6_isDigit_12 rfl (by decide) (by decide) (rfl) (rfl)
/-- the next token from place p on -/
def lexS (s : Mo) (p : Nat) : Mo :=
  let b := s.1 5
  let n := s.2.1 2
  let k := skp b n p
  if n ≤ k then mk4 s k k 3 0
  else if ltAt b n k = true then mk4 s k (wEnd b n k) 0 0
  else if digAt b n k = true then mk4 s k (dgF b (n - k) k 0).1 1 (dgF b (n - k) k 0).2
  else mk4 s k (k + 1) 2 0
theorem c_mNext (hb : bOk s) (hp : s.2.1 4 < 1000) : xDet g l mX6_next 2 0 0 [.ref m] (putMod h m s) none (putMod h m (lexS s (s.2.1 4))) := by
  have hl := hb.2
  have hB : ∀ a b k n, bOk (mk4 s a b k n) := fun _ _ _ _ => hb
  have es := mk4_self s
  obtain ⟨B, K, N0, e0⟩ : ∃ B K N0, mN s 3 (s.2.1 4) = mk4 s (s.2.1 4) B K N0 ∧ True := ⟨s.2.1 4, s.2.1 5, s.2.1 6, by
    have := mk4_a s (s.2.1 3) (s.2.1 4) (s.2.1 5) (s.2.1 6) (s.2.1 4)
    rw [es] at this
    exact this, trivial⟩
  have e0 := e0.1
  have sk := runF_le (fun i => isSp (s.1 5 i)) (s.2.1 2 - s.2.1 4) (s.2.1 4)
  refine xMet.of (V := [some (.ref m)]) moX6_next (Nat.le_of_ble_eq_true rfl) rfl ?_
  refine x_aload_n dX6_next_0 rfl ?_
  refine x_aload_n dX6_next_1 rfl ?_
  refine x_getf dX6_next_2 f_X6_82 putMod_at.o rfl ?_
  refine xq_X6_at dX6_next_5 f_X6_85 ?_
  rw [e0]
  have loop1 : ∀ {Z : List Frame → Array Value → State → State → Prop} (f a : Nat), f = s.2.1 2 - a → a < 2000 → xP g l mX6_next [] (xR 2 0 0) Z 34 [some (.ref m)] [] (putMod h m (mk4 s (runF (fun i => isSp (s.1 5 i)) f a) B K N0)) 0 0 → xP g l mX6_next [] (xR 2 0 0) Z 8 [some (.ref m)] [] (putMod h m (mk4 s a B K N0)) 0 0 := by
    intro Z f
    induction f with
    | zero =>
      intro a hf ha C
      rw [runF] at C
      refine x_aload_n dX6_next_8 rfl ?_
      refine x_aload_n dX6_next_9 rfl ?_
      refine x_getf dX6_next_10 f_X6_85 putMod_at.o rfl ?_
      refine xP.eq (S' := [.int (nI a), .ref m]) rfl rfl rfl rfl ?_
      refine x_vi0 dX6_next_13 cV_X6_78 (c_mSee putMod_at (hB _ _ _ _) (by omega)) rfl rfl ⟨⟨by decide, by decide⟩, by decide, by decide⟩ (Nat.le_of_ble_eq_true rfl) (xrecv putMod_at.o rfl xcl5) ?_
      refine xP.eq (S' := [.int (-1)]) rfl rfl (by show _ = [Value.int (seV (s.1 5) (s.2.1 2) a)]; unfold seV; rw [if_neg (by omega)]) rfl ?_
      refine x_bipush (nI 32) dX6_next_16 (by decide) ?_
      refine x_icmp_ne 34 dX6_next_18 (by decide) (fun c1 => ?_) (fun c1 => ?_)
      · exact C
      · exact absurd c1 (by decide)
    | succ f ih =>
      intro a hf ha C
      have hba := hb.1 a
      rw [runF] at C
      refine x_aload_n dX6_next_8 rfl ?_
      refine x_aload_n dX6_next_9 rfl ?_
      refine x_getf dX6_next_10 f_X6_85 putMod_at.o rfl ?_
      refine xP.eq (S' := [.int (nI a), .ref m]) rfl rfl rfl rfl ?_
      refine x_vi0 dX6_next_13 cV_X6_78 (c_mSee putMod_at (hB _ _ _ _) (by omega)) rfl rfl ⟨⟨by decide, by decide⟩, by decide, by decide⟩ (Nat.le_of_ble_eq_true rfl) (xrecv putMod_at.o rfl xcl5) ?_
      refine xP.eq (S' := [.int (nI (s.1 5 a))]) rfl rfl (by show _ = [Value.int (seV (s.1 5) (s.2.1 2) a)]; unfold seV; rw [if_pos (by omega)]) rfl ?_
      refine x_bipush (nI 32) dX6_next_16 (by decide) ?_
      refine x_icmp_ne_n 34 dX6_next_18 (by decide) (by omega) (by omega) (fun c1 => ?_) (fun c1 => ?_)
      · rw [if_neg (by intro q; exact c1 (by simpa [isSp] using q))] at C
        exact C
      · rw [if_pos (by simpa [isSp] using c1)] at C
        refine x_aload_n dX6_next_21 rfl ?_
        refine x_dup dX6_next_22 rfl ?_
        refine x_getf dX6_next_23 f_X6_85 putMod_at.o rfl ?_
        refine x_iconst (nI 1) dX6_next_26 (by decide) ?_
        refine x_iadd_n dX6_next_27 ?_
        refine xq_X6_at dX6_next_28 f_X6_85 ?_
        refine xP.eq (h' := putMod h m (mk4 s (a + 1) B K N0)) rfl rfl rfl (by rw [← mk4_a s a B K N0 (a + 1)]; rfl) ?_
        refine x_goto 8 dX6_next_31 (by decide) ?_
        exact ih (a + 1) (by omega) (by omega) C
  refine loop1 (s.2.1 2 - s.2.1 4) (s.2.1 4) rfl (by omega) ?_
  unfold lexS
  dsimp only
  have hk : runF (fun i => isSp (s.1 5 i)) (s.2.1 2 - s.2.1 4) (s.2.1 4) = skp (s.1 5) (s.2.1 2) (s.2.1 4) := rfl
  rw [hk] at sk ⊢
  generalize skp (s.1 5) (s.2.1 2) (s.2.1 4) = k at sk ⊢
  have fin : ∀ {Z9 : Option Value → xH → Prop} (h9 : xH), Z9 none h9 → xP g l mX6_next [] (xR 2 0 0) (xZ g Z9 xno 0 0) 196 [some (.ref m)] [] h9 0 0 := fun h9 q => x_return dX6_next_196 rfl (by decide) (by decide) q
  refine x_aload_n dX6_next_34 rfl ?_
  refine x_aload_n dX6_next_35 rfl ?_
  refine x_getf dX6_next_36 f_X6_85 putMod_at.o rfl ?_
  refine xq_X6_behind dX6_next_39 f_X6_82 ?_
  refine xP.eq (h' := putMod h m (mk4 s k k K N0)) rfl rfl rfl (by rw [← mk4_b s k B K N0 k]; rfl) ?_
  refine x_aload_n dX6_next_42 rfl ?_
  refine x_iconst (nI 0) dX6_next_43 (by decide) ?_
  refine xq_X6_number dX6_next_44 f_X6_88 ?_
  refine xP.eq (h' := putMod h m (mk4 s k k K 0)) rfl rfl rfl (by rw [← mk4_n s k k K N0 0]) ?_
  refine x_aload_n dX6_next_47 rfl ?_
  refine x_getf dX6_next_48 f_X6_85 putMod_at.o rfl ?_
  refine x_aload_n dX6_next_51 rfl ?_
  refine x_getf dX6_next_52 f_X6_75 putMod_at.o rfl ?_
  refine xP.eq (S' := [.int (nI (s.2.1 2)), .int (nI k)]) rfl rfl rfl rfl ?_
  refine x_icmp_lt_n 66 dX6_next_55 (by decide) (by omega) (by omega) (fun c0 => ?_) (fun c0 => ?_)
  rotate_left
  · rw [if_pos c0]
    refine x_aload_n dX6_next_58 rfl ?_
    refine x_iconst (nI 3) dX6_next_59 (by decide) ?_
    refine xq_X6_kind dX6_next_60 f_X6_91 ?_
    refine xP.eq (h' := putMod h m (mk4 s k k 3 0)) rfl rfl rfl (by rw [← mk4_k s k k K 0 3]) ?_
    refine x_goto 196 dX6_next_63 (by decide) ?_
    exact fin _ ⟨rfl, rfl⟩
  rw [if_neg (by omega)]
  refine x_aload_n dX6_next_66 rfl ?_
  refine x_aload_n dX6_next_67 rfl ?_
  refine x_getf dX6_next_68 f_X6_85 putMod_at.o rfl ?_
  refine xP.eq (S' := [.int (nI k), .ref m]) rfl rfl rfl rfl ?_
  refine x_vi0 dX6_next_71 cV_X6_94 (c_mIsLetter putMod_at (hB _ _ _ _) (by omega)) rfl rfl ⟨⟨by decide, by decide⟩, by decide, by decide⟩ (Nat.le_of_ble_eq_true rfl) (xrecv putMod_at.o rfl xcl5) ?_
  refine xP.eq (S' := [.int (xb (ltAt (s.1 5) (s.2.1 2) k))]) rfl rfl rfl rfl ?_
  refine x_if_eq_b 109 dX6_next_74 (by decide) (fun c1 => ?_) (fun c1 => ?_)
  rotate_left
  · rw [if_pos c1]
    have loop2 : ∀ {Z : List Frame → Array Value → State → State → Prop} (f a : Nat), f = s.2.1 2 - a → a < 2000 → xP g l mX6_next [] (xR 2 0 0) Z 101 [some (.ref m)] [] (putMod h m (mk4 s k (runF (fun i => isLt (s.1 5 i)) f a) K 0)) 0 0 → xP g l mX6_next [] (xR 2 0 0) Z 77 [some (.ref m)] [] (putMod h m (mk4 s k a K 0)) 0 0 := by
      intro Z f
      induction f with
      | zero =>
        intro a hf ha C
        rw [runF] at C
        refine x_aload_n dX6_next_77 rfl ?_
        refine x_aload_n dX6_next_78 rfl ?_
        refine x_getf dX6_next_79 f_X6_82 putMod_at.o rfl ?_
        refine xP.eq (S' := [.int (nI a), .ref m]) rfl rfl rfl rfl ?_
        refine x_vi0 dX6_next_82 cV_X6_94 (c_mIsLetter putMod_at (hB _ _ _ _) (by omega)) rfl rfl ⟨⟨by decide, by decide⟩, by decide, by decide⟩ (Nat.le_of_ble_eq_true rfl) (xrecv putMod_at.o rfl xcl5) ?_
        refine xP.eq (S' := [.int (xb false)]) rfl rfl (by show _ = [Value.int (xb (ltAt (s.1 5) (s.2.1 2) a))]; unfold ltAt; rw [decide_eq_false (by omega), Bool.false_and]) rfl ?_
        refine x_if_eq_b 101 dX6_next_85 (by decide) (fun c2 => ?_) (fun c2 => ?_)
        · exact C
        · cases c2
      | succ f ih =>
        intro a hf ha C
        rw [runF] at C
        refine x_aload_n dX6_next_77 rfl ?_
        refine x_aload_n dX6_next_78 rfl ?_
        refine x_getf dX6_next_79 f_X6_82 putMod_at.o rfl ?_
        refine xP.eq (S' := [.int (nI a), .ref m]) rfl rfl rfl rfl ?_
        refine x_vi0 dX6_next_82 cV_X6_94 (c_mIsLetter putMod_at (hB _ _ _ _) (by omega)) rfl rfl ⟨⟨by decide, by decide⟩, by decide, by decide⟩ (Nat.le_of_ble_eq_true rfl) (xrecv putMod_at.o rfl xcl5) ?_
        refine xP.eq (S' := [.int (xb (isLt (s.1 5 a)))]) rfl rfl (by show _ = [Value.int (xb (ltAt (s.1 5) (s.2.1 2) a))]; unfold ltAt; rw [decide_eq_true (by omega), Bool.true_and]) rfl ?_
        refine x_if_eq_b 101 dX6_next_85 (by decide) (fun c2 => ?_) (fun c2 => ?_)
        · rw [if_neg (by rw [c2]; decide)] at C
          exact C
        · rw [if_pos c2] at C
          refine x_aload_n dX6_next_88 rfl ?_
          refine x_dup dX6_next_89 rfl ?_
          refine x_getf dX6_next_90 f_X6_82 putMod_at.o rfl ?_
          refine x_iconst (nI 1) dX6_next_93 (by decide) ?_
          refine x_iadd_n dX6_next_94 ?_
          refine xq_X6_behind dX6_next_95 f_X6_82 ?_
          refine xP.eq (h' := putMod h m (mk4 s k (a + 1) K 0)) rfl rfl rfl (by rw [← mk4_b s k a K 0 (a + 1)]; rfl) ?_
          refine x_goto 77 dX6_next_98 (by decide) ?_
          exact ih (a + 1) (by omega) (by omega) C
    refine loop2 (s.2.1 2 - k) k rfl (by omega) ?_
    refine x_aload_n dX6_next_101 rfl ?_
    refine x_iconst (nI 0) dX6_next_102 (by decide) ?_
    refine xq_X6_kind dX6_next_103 f_X6_91 ?_
    refine xP.eq (h' := putMod h m (mk4 s k (wEnd (s.1 5) (s.2.1 2) k) 0 0)) rfl rfl rfl (by rw [← mk4_k s k (wEnd (s.1 5) (s.2.1 2) k) K 0 0]; rfl) ?_
    refine x_goto 196 dX6_next_106 (by decide) ?_
    exact fin _ ⟨rfl, rfl⟩
  rw [if_neg (by rw [c1]; decide)]
  refine x_aload_n dX6_next_109 rfl ?_
  refine x_aload_n dX6_next_110 rfl ?_
  refine x_getf dX6_next_111 f_X6_85 putMod_at.o rfl ?_
  refine xP.eq (S' := [.int (nI k), .ref m]) rfl rfl rfl rfl ?_
  refine x_vi0 dX6_next_114 cV_X6_98 (c_mIsDigit putMod_at (hB _ _ _ _) (by omega)) rfl rfl ⟨⟨by decide, by decide⟩, by decide, by decide⟩ (Nat.le_of_ble_eq_true rfl) (xrecv putMod_at.o rfl xcl5) ?_
  refine xP.eq (S' := [.int (xb (digAt (s.1 5) (s.2.1 2) k))]) rfl rfl rfl rfl ?_
  refine x_if_eq_b 181 dX6_next_117 (by decide) (fun c2 => ?_) (fun c2 => ?_)
  · rw [if_neg (by rw [c2]; decide)]
    refine x_aload_n dX6_next_181 rfl ?_
    refine x_dup dX6_next_182 rfl ?_
    refine x_getf dX6_next_183 f_X6_82 putMod_at.o rfl ?_
    refine x_iconst (nI 1) dX6_next_186 (by decide) ?_
    refine x_iadd_n dX6_next_187 ?_
    refine xq_X6_behind dX6_next_188 f_X6_82 ?_
    refine xP.eq (h' := putMod h m (mk4 s k (k + 1) K 0)) rfl rfl rfl (by rw [← mk4_b s k k K 0 (k + 1)]; rfl) ?_
    refine x_aload_n dX6_next_191 rfl ?_
    refine x_iconst (nI 2) dX6_next_192 (by decide) ?_
    refine xq_X6_kind dX6_next_193 f_X6_91 ?_
    refine xP.eq (h' := putMod h m (mk4 s k (k + 1) 2 0)) rfl rfl rfl (by rw [← mk4_k s k (k + 1) K 0 2]) ?_
    exact fin _ ⟨rfl, rfl⟩
  rw [if_pos c2]
  have loop3 : ∀ {Z : List Frame → Array Value → State → State → Prop} (f a n : Nat), f = s.2.1 2 - a → a < 2000 → n ≤ 1000 → xP g l mX6_next [] (xR 2 0 0) Z 173 [some (.ref m)] [] (putMod h m (mk4 s k (dgF (s.1 5) f a n).1 K (dgF (s.1 5) f a n).2)) 0 0 → xP g l mX6_next [] (xR 2 0 0) Z 120 [some (.ref m)] [] (putMod h m (mk4 s k a K n)) 0 0 := by
    intro Z f
    induction f with
    | zero =>
      intro a n hf ha hn C
      refine x_aload_n dX6_next_120 rfl ?_
      refine x_aload_n dX6_next_121 rfl ?_
      refine x_getf dX6_next_122 f_X6_82 putMod_at.o rfl ?_
      refine xP.eq (S' := [.int (nI a), .ref m]) rfl rfl rfl rfl ?_
      refine x_vi0 dX6_next_125 cV_X6_98 (c_mIsDigit putMod_at (hB _ _ _ _) (by omega)) rfl rfl ⟨⟨by decide, by decide⟩, by decide, by decide⟩ (Nat.le_of_ble_eq_true rfl) (xrecv putMod_at.o rfl xcl5) ?_
      refine xP.eq (S' := [.int (xb false)]) rfl rfl (by show _ = [Value.int (xb (digAt (s.1 5) (s.2.1 2) a))]; unfold digAt; rw [decide_eq_false (by omega), Bool.false_and]) rfl ?_
      refine x_if_eq_b 173 dX6_next_128 (by decide) (fun c3 => ?_) (fun c3 => ?_)
      · exact C
      · cases c3
    | succ f ih =>
      intro a n hf ha hn C
      refine x_aload_n dX6_next_120 rfl ?_
      refine x_aload_n dX6_next_121 rfl ?_
      refine x_getf dX6_next_122 f_X6_82 putMod_at.o rfl ?_
      refine xP.eq (S' := [.int (nI a), .ref m]) rfl rfl rfl rfl ?_
      refine x_vi0 dX6_next_125 cV_X6_98 (c_mIsDigit putMod_at (hB _ _ _ _) (by omega)) rfl rfl ⟨⟨by decide, by decide⟩, by decide, by decide⟩ (Nat.le_of_ble_eq_true rfl) (xrecv putMod_at.o rfl xcl5) ?_
      refine xP.eq (S' := [.int (xb (isDg (s.1 5 a)))]) rfl rfl (by show _ = [Value.int (xb (digAt (s.1 5) (s.2.1 2) a))]; unfold digAt; rw [decide_eq_true (by omega), Bool.true_and]) rfl ?_
      refine x_if_eq_b 173 dX6_next_128 (by decide) (fun c3 => ?_) (fun c3 => ?_)
      · rw [dgF_no c3] at C
        exact C
      · rw [dgF_yes c3] at C
        have hd := isDg_lt c3
        refine x_aload_n dX6_next_131 rfl ?_
        refine x_sipush (nI 1000) dX6_next_132 (by decide) ?_
        refine x_bipush (nI 10) dX6_next_135 (by decide) ?_
        refine x_aload_n dX6_next_137 rfl ?_
        refine x_getf dX6_next_138 f_X6_88 putMod_at.o rfl ?_
        refine x_imul_n dX6_next_141 ?_
        refine x_aload_n dX6_next_142 rfl ?_
        refine x_aload_n dX6_next_143 rfl ?_
        refine x_getf dX6_next_144 f_X6_82 putMod_at.o rfl ?_
        refine xP.eq (S' := [.int (nI a), .ref m, .int (nI (10 * n)), .int (nI 1000), .ref m]) rfl rfl rfl rfl ?_
        refine x_vi0 dX6_next_147 cV_X6_78 (c_mSee putMod_at (hB _ _ _ _) (by omega)) rfl rfl ⟨⟨by decide, by decide⟩, by decide, by decide⟩ (Nat.le_of_ble_eq_true rfl) (xrecv putMod_at.o rfl xcl5) ?_
        refine xP.eq (S' := [.int (nI (s.1 5 a)), .int (nI (10 * n)), .int (nI 1000), .ref m]) rfl rfl (by show _ = [Value.int (seV (s.1 5) (s.2.1 2) a), _, _, _]; unfold seV; rw [if_pos (by omega)]) rfl ?_
        refine x_iadd_n dX6_next_150 ?_
        refine x_bipush (nI 48) dX6_next_151 (by decide) ?_
        refine x_isub_n dX6_next_153 (by omega) ?_
        refine x_mmin dX6_next_154 mn_X6_101 (by decide) (Nat.le_of_ble_eq_true rfl) (by decide) (by decide) ?_
        rw [show 10 * n + s.1 5 a - 48 = 10 * n + (s.1 5 a - 48) by omega]
        have hm : (if nI (10 * n + (s.1 5 a - 48)) < nI 1000 then nI (10 * n + (s.1 5 a - 48)) else nI 1000) = nI (min (10 * n + (s.1 5 a - 48)) 1000) := by
          simp only [nI_ltI (show 10 * n + (s.1 5 a - 48) < 2 ^ 31 by omega) (show 1000 < 2 ^ 31 by decide)]
          split
          · rw [Nat.min_eq_left (by omega)]
          · rw [Nat.min_eq_right (by omega)]
        rw [hm]
        refine xq_X6_number dX6_next_157 f_X6_88 ?_
        refine xP.eq (h' := putMod h m (mk4 s k a K (min (10 * n + (s.1 5 a - 48)) 1000))) rfl rfl rfl (by rw [← mk4_n s k a K n (min (10 * n + (s.1 5 a - 48)) 1000)]) ?_
        refine x_aload_n dX6_next_160 rfl ?_
        refine x_dup dX6_next_161 rfl ?_
        refine x_getf dX6_next_162 f_X6_82 putMod_at.o rfl ?_
        refine x_iconst (nI 1) dX6_next_165 (by decide) ?_
        refine x_iadd_n dX6_next_166 ?_
        refine xq_X6_behind dX6_next_167 f_X6_82 ?_
        refine xP.eq (h' := putMod h m (mk4 s k (a + 1) K (min (10 * n + (s.1 5 a - 48)) 1000))) rfl rfl rfl (by rw [← mk4_b s k a K _ (a + 1)]; rfl) ?_
        refine x_goto 120 dX6_next_170 (by decide) ?_
        exact ih (a + 1) _ (by omega) (by omega) (Nat.min_le_right _ _) C
  refine loop3 (s.2.1 2 - k) k 0 rfl (by omega) (by decide) ?_
  refine x_aload_n dX6_next_173 rfl ?_
  refine x_iconst (nI 1) dX6_next_174 (by decide) ?_
  refine xq_X6_kind dX6_next_175 f_X6_91 ?_
  refine xP.eq (h' := putMod h m (mk4 s k (dgF (s.1 5) (s.2.1 2 - k) k 0).1 1 (dgF (s.1 5) (s.2.1 2 - k) k 0).2)) rfl rfl rfl (by rw [← mk4_k s k (dgF (s.1 5) (s.2.1 2 - k) k 0).1 K (dgF (s.1 5) (s.2.1 2 - k) k 0).2 1]) ?_
  refine x_goto 196 dX6_next_178 (by decide) ?_
  exact fin _ ⟨rfl, rfl⟩
end M4
