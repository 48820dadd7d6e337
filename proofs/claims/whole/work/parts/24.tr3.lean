/-! ===== TextReader: names and numbers ===== -/
def ndW (b : Nat → Nat) (W : List Nat) (t : Tr) : Bool × Tr := if (tkW b W t).1 then tkW b W t else (false, trFail (tkW b W t).2 (-2) (nI (tkW b W t).2.2.1))
/-- the number in the name of some signs -/
def nmF (b : Nat → Nat) (p : Nat) : Nat → Nat
  | 0 => 0
  | i + 1 => nmF b p i * 32 + codeV (b (p + i))
def ndN (b : Nat → Nat) (t : Tr) : Bool × Tr :=
  if wEnd b t.1.1 (trSk b t).2.1 = (trSk b t).2.1 ∨ 8 < wEnd b t.1.1 (trSk b t).2.1 - (trSk b t).2.1 then (false, trFail (trSk b t) (-2) (nI (trSk b t).2.1))
  else (true, sPos (sTok (sNam (trSk b t) (nmF b (trSk b t).2.1 (wEnd b t.1.1 (trSk b t).2.1 - (trSk b t).2.1))) (trSk b t).2.1) (wEnd b t.1.1 (trSk b t).2.1))
/-- digits: where they end, and their number, 1000 at most -/
def dgF (b : Nat → Nat) : Nat → Nat → Nat → Nat × Nat
  | 0, k, n => (k, n)
  | f + 1, k, n => if isDg (b k) then dgF b f (k + 1) (min (10 * n + (b k - 48)) 1000) else (k, n)
def ndD (b : Nat → Nat) (lo hi : Nat) (t : Tr) : Bool × Tr :=
  let t1 := trSk b t
  if digAt b t.1.1 t1.2.1 = true then
    let d := dgF b (t.1.1 - t1.2.1) t1.2.1 0
    let t2 := sPos (sNum (sTok t1 t1.2.1) d.2) d.1
    if lo ≤ d.2 ∧ d.2 ≤ hi then (true, t2) else (false, trFail t2 (-3) (nI t1.2.1))
  else (false, trFail t1 (-2) (nI t1.2.1))
theorem dgF_no {b : Nat → Nat} {f k n : Nat} (h : isDg (b k) = false) : dgF b (f + 1) k n = (k, n) := by rw [dgF, if_neg (by rw [h]; decide)]
theorem dgF_yes {b : Nat → Nat} {f k n : Nat} (h : isDg (b k) = true) : dgF b (f + 1) k n = dgF b f (k + 1) (min (10 * n + (b k - 48)) 1000) := by rw [dgF, if_pos h]
theorem codeV_lt {c : Nat} (h : isLt c = true) : codeV c < 32 := by
  have := isLt_lt h
  unfold codeV
  split <;> omega
theorem nmF_lt {b : Nat → Nat} {p : Nat} : ∀ i, (∀ k, k < i → isLt (b (p + k)) = true) → nmF b p i < 32 ^ i := by
  intro i
  induction i with
  | zero => intro _; exact Nat.one_pos
  | succ i ih =>
    intro h
    have h1 := ih fun k hk => h k (by omega)
    have h2 := codeV_lt (h i (by omega))
    rw [nmF, Nat.pow_succ]
    omega
theorem dgF_le {b : Nat → Nat} : ∀ f k n, k ≤ (dgF b f k n).1 ∧ (dgF b f k n).1 ≤ k + f ∧ ((dgF b f k n).2 ≤ 1000 ∨ (dgF b f k n).2 = n) := by
  intro f
  induction f with
  | zero => intro k n; exact ⟨Nat.le_refl _, Nat.le_refl _, Or.inr rfl⟩
  | succ f ih =>
    intro k n
    rw [dgF]
    split
    · have := ih (k + 1) (min (10 * n + (b k - 48)) 1000)
      omega
    · exact ⟨Nat.le_refl _, by omega, Or.inr rfl⟩
def plF (f : Nat → Int64) (x : Nat) : Nat → Nat → Option Nat
  | 0, _ => none
  | n + 1, k => if f k = lN x then some k else plF f x n (k + 1)
section T3
variable {g : xG} {l : Launch} {h : xH} {r : Nat} {b : Nat → Nat} {t : Tr}
theorem tkW_ok {W : List Nat} (ht : trOk t) : trOk (tkW b W t).2 ∧ (tkW b W t).2.1.1 = t.1.1 := by
  have h1 := trSk_ok (b := b) ht
  have h2 := wEnd_le (b := b) h1.2
  unfold tkW
  split
  · exact ⟨⟨h1.1, h2.2⟩, rfl⟩
  · exact ⟨h1, rfl⟩
theorem c_needWord {j : Nat} {W : List Nat} (hW : xWd j W) (hb : ∀ k, b k < 256) (ht : trOk t) : xDet g l mX4_needWord 5 0 0 [.ref r, .ref (gS g j)] (putTr h r b t) (some (.int (xb (ndW b W t).1))) (putTr h r b (ndW b W t).2) := by
  unfold ndW
  obtain ⟨⟨b1, t1⟩, hk⟩ : ∃ k, k = tkW b W t := ⟨_, rfl⟩
  have hc : ∀ {h : xH}, xDet g l mX4_takeWord 4 0 0 [.ref r, .ref (gS g j)] (putTr h r b t) (some (.int (xb b1))) (putTr h r b t1) := fun {h} => by
    have := c_takeWord (g := g) (l := l) (h := h) (r := r) hW hb ht
    rw [← hk] at this
    exact this
  rw [← hk]
  dsimp only
  refine xMet.of (V := [some (.ref r), some (.ref (gS g j))]) moX4_needWord (Nat.le_of_ble_eq_true rfl) rfl ?_
  refine x_aload_n dX4_needWord_0 rfl ?_
  refine x_aload_n dX4_needWord_1 rfl ?_
  refine x_vi0 dX4_needWord_2 cV_X4_47 (hc) rfl rfl ⟨⟨by decide, by decide⟩, by decide, by decide⟩ (Nat.le_of_ble_eq_true rfl) (xrecv putTr_at.o rfl xcl3) ?_
  refine x_if_ne_b 21 dX4_needWord_5 (by decide) (fun c => ?_) (fun c => ?_)
  · rw [if_pos c]
    refine x_iconst (nI 1) dX4_needWord_21 (by decide) ?_
    refine x_goto 26 dX4_needWord_22 (by decide) ?_
    exact x_iret .boolean dX4_needWord_26 rfl rfl (by decide) (by decide) (by rw [c]; rfl) (rfl)
  · rw [if_neg (by rw [c]; decide)]
    refine x_aload_n dX4_needWord_8 rfl ?_
    refine x_bipush (-2) dX4_needWord_9 (by decide) ?_
    refine x_aload_n dX4_needWord_11 rfl ?_
    refine x_getf dX4_needWord_12 f_X4_25 putTr_at.o rfl ?_
    refine x_vi0 dX4_needWord_15 cV_X4_78 (c_fail) rfl rfl ⟨⟨by decide, by decide⟩, by decide, by decide⟩ (Nat.le_of_ble_eq_true rfl) (xrecv putTr_at.o rfl xcl3) ?_
    refine x_if_eq_b 25 dX4_needWord_18 (by decide) (fun c1 => ?_) (fun c1 => ?_)
    · refine x_iconst (nI 0) dX4_needWord_25 (by decide) ?_
      exact x_iret .boolean dX4_needWord_26 rfl rfl (by decide) (by decide) (rfl) (rfl)
    · cases c1
theorem c_needName (hb : ∀ k, b k < 256) (ht : trOk t) : xDet g l mX4_needName 1 0 0 [.ref r] (putTr h r b t) (some (.int (xb (ndN b t).1))) (putTr h r b (ndN b t).2) := by
  have h1 := trSk_ok (b := b) ht
  obtain ⟨t1, ht1⟩ : ∃ t1, t1 = trSk b t := ⟨_, rfl⟩
  have e1 : t1.1.1 = t.1.1 := by rw [ht1]; rfl
  unfold ndN
  rw [← ht1] at h1 ⊢
  have hwe := wEnd_le (b := b) h1.2
  have hal : ∀ i, t1.2.1 ≤ i → i < wEnd b t1.1.1 t1.2.1 → isLt (b i) = true := fun i q1 q2 => runF_all _ _ _ i q1 q2
  refine xMet.of (V := [some (.ref r), none, none]) moX4_needName (Nat.le_of_ble_eq_true rfl) rfl ?_
  refine x_aload_n dX4_needName_0 rfl ?_
  refine x_vv0 dX4_needName_1 cV_X4_153 (c_skipSpaces hb ht) rfl rfl ⟨⟨by decide, by decide⟩, by decide, by decide⟩ (Nat.le_of_ble_eq_true rfl) (xrecv putTr_at.o rfl xcl3) ?_
  rw [← ht1]
  refine x_aload_n dX4_needName_4 rfl ?_
  refine x_vi0 dX4_needName_5 cV_X4_156 (c_wordEnd hb h1) rfl rfl ⟨⟨by decide, by decide⟩, by decide, by decide⟩ (Nat.le_of_ble_eq_true rfl) (xrecv putTr_at.o rfl xcl3) ?_
  rw [e1] at hwe hal ⊢
  obtain ⟨hl, hp⟩ := h1
  rw [e1] at hp hl
  obtain ⟨w, hw⟩ : ∃ w, w = wEnd b t.1.1 t1.2.1 := ⟨_, rfl⟩
  rw [← hw] at hwe hal ⊢
  refine x_istore_n dX4_needName_8 (by decide) rfl rfl ?_
  refine x_iload_n dX4_needName_9 rfl ?_
  refine x_aload_n dX4_needName_10 rfl ?_
  refine x_getf dX4_needName_11 f_X4_25 putTr_at.o rfl ?_
  refine x_icmp_eq_n 28 dX4_needName_14 (by decide) (by omega) (by omega) (fun c => ?_) (fun c => ?_)
  · rw [if_pos (Or.inl c)]
    refine x_aload_n dX4_needName_28 rfl ?_
    refine x_bipush (-2) dX4_needName_29 (by decide) ?_
    refine x_aload_n dX4_needName_31 rfl ?_
    refine x_getf dX4_needName_32 f_X4_25 putTr_at.o rfl ?_
    refine x_vi0 dX4_needName_35 cV_X4_78 (c_fail) rfl rfl ⟨⟨by decide, by decide⟩, by decide, by decide⟩ (Nat.le_of_ble_eq_true rfl) (xrecv putTr_at.o rfl xcl3) ?_
    exact x_bret dX4_needName_38 rfl (by decide) (by decide) (rfl) (rfl)
  · refine x_iload_n dX4_needName_17 rfl ?_
    refine x_aload_n dX4_needName_18 rfl ?_
    refine x_getf dX4_needName_19 f_X4_25 putTr_at.o rfl ?_
    refine x_isub_n dX4_needName_22 (by omega) ?_
    refine x_bipush (nI 8) dX4_needName_23 (by decide) ?_
    refine x_icmp_le_n 39 dX4_needName_25 (by decide) (by omega) (by omega) (fun c1 => ?_) (fun c1 => ?_)
    rotate_left
    · rw [if_pos (Or.inr c1)]
      refine x_aload_n dX4_needName_28 rfl ?_
      refine x_bipush (-2) dX4_needName_29 (by decide) ?_
      refine x_aload_n dX4_needName_31 rfl ?_
      refine x_getf dX4_needName_32 f_X4_25 putTr_at.o rfl ?_
      refine x_vi0 dX4_needName_35 cV_X4_78 (c_fail) rfl rfl ⟨⟨by decide, by decide⟩, by decide, by decide⟩ (Nat.le_of_ble_eq_true rfl) (xrecv putTr_at.o rfl xcl3) ?_
      exact x_bret dX4_needName_38 rfl (by decide) (by decide) (rfl) (rfl)
    rw [if_neg (by omega)]
    refine x_aload_n dX4_needName_39 rfl ?_
    refine x_lconst (lN 0) dX4_needName_40 (by decide) ?_
    refine xq_X4_name dX4_needName_41 f_X4_34 ?_
    refine x_aload_n dX4_needName_44 rfl ?_
    refine x_getf dX4_needName_45 f_X4_25 putTr_at.o rfl ?_
    refine x_istore_n dX4_needName_48 (by decide) rfl rfl ?_
    have key : ∀ (f i : Nat) (t2 : Tr), f + i = w - t1.2.1 → t2 = sNam t1 (nmF b t1.2.1 i) → xP g l mX4_needName [] (xR 1 0 0) (xZ g (fun r' h' => r' = some (.int (xb true)) ∧ h' = putTr h r b (sPos (sTok (sNam t1 (nmF b t1.2.1 (w - t1.2.1))) t1.2.1) w)) xno 0 0) 49 [some (.ref r), some (.int (nI w)), some (.int (nI (t1.2.1 + i)))] [] (putTr h r b t2) 0 0 := by
      intro f
      induction f with
      | zero =>
        intro i t2 hf ht2
        have e3 : t2.2.1 = t1.2.1 := by rw [ht2]
        refine x_iload_n dX4_needName_49 rfl ?_
        refine x_iload_n dX4_needName_50 rfl ?_
        refine x_icmp_ge_n 77 dX4_needName_51 (by decide) (by omega) (by omega) (fun c => ?_) (fun c => ?_)
        · refine x_aload_n dX4_needName_77 rfl ?_
          refine x_aload_n dX4_needName_78 rfl ?_
          refine x_getf dX4_needName_79 f_X4_25 putTr_at.o rfl ?_
          refine xq_X4_tokenAt dX4_needName_82 f_X4_28 ?_
          refine x_aload_n dX4_needName_85 rfl ?_
          refine x_iload_n dX4_needName_86 rfl ?_
          refine xq_X4_position dX4_needName_87 f_X4_25 ?_
          refine x_iconst (nI 1) dX4_needName_90 (by decide) ?_
          exact x_iret .boolean dX4_needName_91 rfl rfl (by decide) (by decide) (rfl) (by rw [ht2, show i = w - t1.2.1 by omega])
        · omega
      | succ f ih =>
        intro i t2 hf ht2
        have e3 : t2.2.2.2.2 = nmF b t1.2.1 i := by rw [ht2]
        have hlt := hal (t1.2.1 + i) (by omega) (by omega)
        have hlx := isLt_lt hlt
        have hn1 : nmF b t1.2.1 i < 32 ^ i := nmF_lt i fun k hk => hal _ (by omega) (by omega)
        have hn2 : (32 : Nat) ^ i ≤ 32 ^ 7 := Nat.pow_le_pow_right (by decide) (by omega)
        have hn3 : t2.2.2.2.2 < 2 ^ 50 := by rw [e3]; exact Nat.lt_of_lt_of_le (Nat.lt_of_lt_of_le hn1 hn2) (by decide)
        refine x_iload_n dX4_needName_49 rfl ?_
        refine x_iload_n dX4_needName_50 rfl ?_
        refine x_icmp_ge_n 77 dX4_needName_51 (by decide) (by omega) (by omega) (fun c => ?_) (fun c => ?_)
        · omega
        · refine x_aload_n dX4_needName_54 rfl ?_
          refine x_aload_n dX4_needName_55 rfl ?_
          refine x_getf dX4_needName_56 f_X4_34 putTr_at.o rfl ?_
          refine x_aload_n dX4_needName_59 rfl ?_
          refine x_getf dX4_needName_60 f_X4_9 putTr_at.o rfl ?_
          refine x_iload_n dX4_needName_63 rfl ?_
          refine x_bald dX4_needName_64 putTr_at.text (by omega) (by decide) ?_
          rw [sb_lo (show b (t1.2.1 + i) < 128 by omega)]
          refine x_si0 dX4_needName_65 cS_X4_170 (c_withSign hn3 (Or.inr hlx)) rfl rfl ⟨⟨by decide, by decide⟩, by decide, by decide⟩ (Nat.le_of_ble_eq_true rfl) ?_
          refine xq_X4_name dX4_needName_68 f_X4_34 ?_
          refine x_iinc_n (k := 1) dX4_needName_71 rfl (by decide) (by decide) rfl rfl ?_
          refine x_goto 49 dX4_needName_74 (by decide) ?_
          exact xP.weak (by simp [xle, xset1, fin3, Nat.add_assoc]) (ih (i + 1) _ (by omega) (by rw [ht2, nmF]))
    exact xP.weak (by simp [xle, xset1, fin3]) (key (w - t1.2.1) 0 _ rfl (by rw [nmF]))
theorem lc_ne {x y : Int64} : ¬ lg_cmp x y = 0 ↔ x ≠ y := by
  unfold lg_cmp
  split
  · rename_i c
    refine ⟨fun _ e => ?_, fun _ => by decide⟩
    subst e
    exact (Int64.lt_irrefl c).elim
  · split
    · simp [*]
    · simp [*]
theorem c_placeOf {a n kn : Nat} {f : Nat → Int64} (ha : (putTr h r b t).1 a = some (.inl (2, n, .inr (.inl f)))) (hk : kn ≤ n) (hn : n < 100) : xDet g l mX4_placeOf 0 0 0 [.ref r, .ref a, .int (nI kn)] (putTr h r b t) (some (.int (oI (plF f t.2.2.2.2 kn 0)))) (putTr h r b t) := by
  refine xMet.of (V := [some (.ref r), some (.ref a), some (.int (nI kn)), none]) moX4_placeOf (Nat.le_of_ble_eq_true rfl) rfl ?_
  refine x_iconst (nI 0) dX4_placeOf_0 (by decide) ?_
  refine x_istore_n dX4_placeOf_1 (by decide) rfl rfl ?_
  have key : ∀ (m k : Nat), m + k = kn → xP g l mX4_placeOf [] (xR 0 0 0) (xZ g (fun r' h' => r' = some (.int (oI (plF f t.2.2.2.2 m k))) ∧ h' = putTr h r b t) xno 0 0) 2 [some (.ref r), some (.ref a), some (.int (nI kn)), some (.int (nI k))] [] (putTr h r b t) 0 0 := by
    intro m
    induction m with
    | zero =>
      intro k hm
      refine x_iload_n dX4_placeOf_2 rfl ?_
      refine x_iload_n dX4_placeOf_3 rfl ?_
      refine x_icmp_ge_n 32 dX4_placeOf_4 (by decide) (by omega) (by omega) (fun c => ?_) (fun c => ?_)
      · refine x_iconst (-1) dX4_placeOf_32 (by decide) ?_
        exact x_iret .int dX4_placeOf_33 rfl rfl (by decide) (by decide) (rfl) (rfl)
      · omega
    | succ m ih =>
      intro k hm
      rw [plF]
      refine x_iload_n dX4_placeOf_2 rfl ?_
      refine x_iload_n dX4_placeOf_3 rfl ?_
      refine x_icmp_ge_n 32 dX4_placeOf_4 (by decide) (by omega) (by omega) (fun c => ?_) (fun c => ?_)
      · omega
      · refine x_iload_n dX4_placeOf_7 rfl ?_
        refine x_aload_n dX4_placeOf_8 rfl ?_
        refine x_alen dX4_placeOf_9 ha (by decide) ?_
        refine x_icmp_ge_n 32 dX4_placeOf_10 (by decide) (by omega) (by omega) (fun c1 => ?_) (fun c1 => ?_)
        · omega
        · refine x_aload_n dX4_placeOf_13 rfl ?_
          refine x_iload_n dX4_placeOf_14 rfl ?_
          refine x_lald dX4_placeOf_15 ha (by omega) (by omega) ?_
          refine x_aload_n dX4_placeOf_16 rfl ?_
          refine x_getf dX4_placeOf_17 f_X4_34 putTr_at.o rfl ?_
          refine x_lcmp dX4_placeOf_20 ?_
          refine x_if_ne 26 dX4_placeOf_21 (by decide) (fun c2 => ?_) (fun c2 => ?_)
          · rw [if_neg (lc_ne.mp c2)]
            refine x_iinc_n (k := 1) dX4_placeOf_26 rfl (by decide) (by decide) rfl rfl ?_
            refine x_goto 2 dX4_placeOf_29 (by decide) ?_
            exact xP.weak (by simp [xle, xset1, fin3]) (ih (k + 1) (by omega))
          · rw [if_pos (Decidable.byContradiction fun q => lc_ne.mpr q c2)]
            refine x_iload_n dX4_placeOf_24 rfl ?_
            exact x_iret .int dX4_placeOf_25 rfl rfl (by decide) (by decide) (rfl) (rfl)
  exact xP.weak (by simp [xle, xset1, fin3]) (key kn 0 rfl)
theorem min_1000 {x : Nat} (h : x < 2 ^ 31) : (if nI 1000 < nI x then nI 1000 else nI x) = nI (min x 1000) := by
  simp only [nI_ltI (show 1000 < 2 ^ 31 by decide) h]
  split
  · rw [Nat.min_eq_right (by omega)]
  · rw [Nat.min_eq_left (by omega)]
theorem c_needNumber {lo hi : Nat} (hb : ∀ k, b k < 256) (ht : trOk t) (hlo : lo < 2 ^ 31) (hhi : hi < 2 ^ 31) : xDet g l mX4_needNumber 1 0 0 [.ref r, .int (nI lo), .int (nI hi)] (putTr h r b t) (some (.int (xb (ndD b lo hi t).1))) (putTr h r b (ndD b lo hi t).2) := by
  have h1 := trSk_ok (b := b) ht
  obtain ⟨t1, ht1⟩ : ∃ t1, t1 = trSk b t := ⟨_, rfl⟩
  have e1 : t1.1.1 = t.1.1 := by rw [ht1]; rfl
  unfold ndD
  rw [← ht1] at h1 ⊢
  dsimp only
  obtain ⟨hl, hp⟩ := id h1
  rw [e1] at hp hl
  refine xMet.of (V := [some (.ref r), some (.int (nI lo)), some (.int (nI hi)), none]) moX4_needNumber (Nat.le_of_ble_eq_true rfl) rfl ?_
  refine x_aload_n dX4_needNumber_0 rfl ?_
  refine x_vv0 dX4_needNumber_1 cV_X4_153 (c_skipSpaces hb ht) rfl rfl ⟨⟨by decide, by decide⟩, by decide, by decide⟩ (Nat.le_of_ble_eq_true rfl) (xrecv putTr_at.o rfl xcl3) ?_
  rw [← ht1]
  refine x_aload_n dX4_needNumber_4 rfl ?_
  refine x_aload_n dX4_needNumber_5 rfl ?_
  refine x_getf dX4_needNumber_6 f_X4_25 putTr_at.o rfl ?_
  rw [← e1]
  refine x_vi0 dX4_needNumber_9 cV_X4_174 (c_isDigitAt hb h1.1 (by omega)) rfl rfl ⟨⟨by decide, by decide⟩, by decide, by decide⟩ (Nat.le_of_ble_eq_true rfl) (xrecv putTr_at.o rfl xcl3) ?_
  refine x_if_ne_b 26 dX4_needNumber_12 (by decide) (fun c => ?_) (fun c => ?_)
  rotate_left
  · rw [if_neg (by rw [c]; decide)]
    refine x_aload_n dX4_needNumber_15 rfl ?_
    refine x_bipush (-2) dX4_needNumber_16 (by decide) ?_
    refine x_aload_n dX4_needNumber_18 rfl ?_
    refine x_getf dX4_needNumber_19 f_X4_25 putTr_at.o rfl ?_
    refine x_vi0 dX4_needNumber_22 cV_X4_78 (c_fail) rfl rfl ⟨⟨by decide, by decide⟩, by decide, by decide⟩ (Nat.le_of_ble_eq_true rfl) (xrecv putTr_at.o rfl xcl3) ?_
    exact x_bret dX4_needNumber_25 rfl (by decide) (by decide) (rfl) (rfl)
  rw [if_pos c]
  refine x_aload_n dX4_needNumber_26 rfl ?_
  refine x_aload_n dX4_needNumber_27 rfl ?_
  refine x_getf dX4_needNumber_28 f_X4_25 putTr_at.o rfl ?_
  refine xq_X4_tokenAt dX4_needNumber_31 f_X4_28 ?_
  refine x_aload_n dX4_needNumber_34 rfl ?_
  refine x_iconst (nI 0) dX4_needNumber_35 (by decide) ?_
  refine xq_X4_number dX4_needNumber_36 f_X4_31 ?_
  refine x_aload_n dX4_needNumber_39 rfl ?_
  refine x_getf dX4_needNumber_40 f_X4_25 putTr_at.o rfl ?_
  refine x_istore_n dX4_needNumber_43 (by decide) rfl rfl ?_
  rw [e1] at c ⊢
  have key : ∀ (f k : Nat) (t2 : Tr), f = t.1.1 - k → k ≤ t.1.1 → t2.2.2.2.1 ≤ 1000 → t2 = sPos (sNum (sTok t1 t1.2.1) t2.2.2.2.1) k → xP g l mX4_needNumber [] (xR 1 0 0) (xZ g (fun r' h' => r' = some (.int (xb (if lo ≤ (dgF b f k t2.2.2.2.1).2 ∧ (dgF b f k t2.2.2.2.1).2 ≤ hi then (true, sPos (sNum (sTok t1 t1.2.1) (dgF b f k t2.2.2.2.1).2) (dgF b f k t2.2.2.2.1).1) else (false, trFail (sPos (sNum (sTok t1 t1.2.1) (dgF b f k t2.2.2.2.1).2) (dgF b f k t2.2.2.2.1).1) (-3) (nI t1.2.1))).1)) ∧ h' = putTr h r b (if lo ≤ (dgF b f k t2.2.2.2.1).2 ∧ (dgF b f k t2.2.2.2.1).2 ≤ hi then (true, sPos (sNum (sTok t1 t1.2.1) (dgF b f k t2.2.2.2.1).2) (dgF b f k t2.2.2.2.1).1) else (false, trFail (sPos (sNum (sTok t1 t1.2.1) (dgF b f k t2.2.2.2.1).2) (dgF b f k t2.2.2.2.1).1) (-3) (nI t1.2.1))).2) xno 0 0) 44 [some (.ref r), some (.int (nI lo)), some (.int (nI hi)), some (.int (nI k))] [] (putTr h r b t2) 0 0 := by
    have done : ∀ (k : Nat) (t2 : Tr), k ≤ t.1.1 → t2.2.2.2.1 ≤ 1000 → t2 = sPos (sNum (sTok t1 t1.2.1) t2.2.2.2.1) k → xP g l mX4_needNumber [] (xR 1 0 0) (xZ g (fun r' h' => r' = some (.int (xb (if lo ≤ t2.2.2.2.1 ∧ t2.2.2.2.1 ≤ hi then (true, sPos (sNum (sTok t1 t1.2.1) t2.2.2.2.1) k) else (false, trFail (sPos (sNum (sTok t1 t1.2.1) t2.2.2.2.1) k) (-3) (nI t1.2.1))).1)) ∧ h' = putTr h r b (if lo ≤ t2.2.2.2.1 ∧ t2.2.2.2.1 ≤ hi then (true, sPos (sNum (sTok t1 t1.2.1) t2.2.2.2.1) k) else (false, trFail (sPos (sNum (sTok t1 t1.2.1) t2.2.2.2.1) k) (-3) (nI t1.2.1))).2) xno 0 0) 100 [some (.ref r), some (.int (nI lo)), some (.int (nI hi)), some (.int (nI k))] [] (putTr h r b t2) 0 0 := by
      intro k t2 hk hn ht2
      have e3 : t2.2.2.1 = t1.2.1 := by rw [ht2]
      rw [← ht2]
      refine x_aload_n dX4_needNumber_100 rfl ?_
      refine x_getf dX4_needNumber_101 f_X4_31 putTr_at.o rfl ?_
      refine x_iload_n dX4_needNumber_104 rfl ?_
      refine x_icmp_lt_n 116 dX4_needNumber_105 (by decide) (by omega) (by omega) (fun c1 => ?_) (fun c1 => ?_)
      · rw [if_neg (by omega)]
        refine x_aload_n dX4_needNumber_116 rfl ?_
        refine x_bipush (-3) dX4_needNumber_117 (by decide) ?_
        refine x_aload_n dX4_needNumber_119 rfl ?_
        refine x_getf dX4_needNumber_120 f_X4_28 putTr_at.o rfl ?_
        refine x_vi0 dX4_needNumber_123 cV_X4_78 (c_fail) rfl rfl ⟨⟨by decide, by decide⟩, by decide, by decide⟩ (Nat.le_of_ble_eq_true rfl) (xrecv putTr_at.o rfl xcl3) ?_
        refine x_if_eq_b 133 dX4_needNumber_126 (by decide) (fun c2 => ?_) (fun c2 => ?_)
        · refine x_iconst (nI 0) dX4_needNumber_133 (by decide) ?_
          exact x_iret .boolean dX4_needNumber_134 rfl rfl (by decide) (by decide) (rfl) (by rw [e3])
        · cases c2
      · refine x_aload_n dX4_needNumber_108 rfl ?_
        refine x_getf dX4_needNumber_109 f_X4_31 putTr_at.o rfl ?_
        refine x_iload_n dX4_needNumber_112 rfl ?_
        refine x_icmp_le_n 129 dX4_needNumber_113 (by decide) (by omega) (by omega) (fun c2 => ?_) (fun c2 => ?_)
        · rw [if_pos ⟨by omega, c2⟩]
          refine x_iconst (nI 1) dX4_needNumber_129 (by decide) ?_
          refine x_goto 134 dX4_needNumber_130 (by decide) ?_
          exact x_iret .boolean dX4_needNumber_134 rfl rfl (by decide) (by decide) (rfl) (rfl)
        · rw [if_neg (by omega)]
          refine x_aload_n dX4_needNumber_116 rfl ?_
          refine x_bipush (-3) dX4_needNumber_117 (by decide) ?_
          refine x_aload_n dX4_needNumber_119 rfl ?_
          refine x_getf dX4_needNumber_120 f_X4_28 putTr_at.o rfl ?_
          refine x_vi0 dX4_needNumber_123 cV_X4_78 (c_fail) rfl rfl ⟨⟨by decide, by decide⟩, by decide, by decide⟩ (Nat.le_of_ble_eq_true rfl) (xrecv putTr_at.o rfl xcl3) ?_
          refine x_if_eq_b 133 dX4_needNumber_126 (by decide) (fun c3 => ?_) (fun c3 => ?_)
          · refine x_iconst (nI 0) dX4_needNumber_133 (by decide) ?_
            exact x_iret .boolean dX4_needNumber_134 rfl rfl (by decide) (by decide) (rfl) (by rw [e3])
          · cases c3
    intro f
    induction f with
    | zero =>
      intro k t2 hf hk hn ht2
      have e4 : t2.1.1 = t.1.1 := by rw [ht2]; exact e1
      rw [dgF]
      refine x_iload_n dX4_needNumber_44 rfl ?_
      refine x_aload_n dX4_needNumber_45 rfl ?_
      refine x_getf dX4_needNumber_46 f_X4_15 putTr_at.o rfl ?_
      refine x_icmp_ge_n 100 dX4_needNumber_49 (by decide) (by omega) (by omega) (fun c1 => ?_) (fun c1 => ?_)
      · exact done k t2 hk hn ht2
      · omega
    | succ f ih =>
      intro k t2 hf hk hn ht2
      have e4 : t2.1.1 = t.1.1 := by rw [ht2]; exact e1
      refine x_iload_n dX4_needNumber_44 rfl ?_
      refine x_aload_n dX4_needNumber_45 rfl ?_
      refine x_getf dX4_needNumber_46 f_X4_15 putTr_at.o rfl ?_
      refine x_icmp_ge_n 100 dX4_needNumber_49 (by decide) (by omega) (by omega) (fun c1 => ?_) (fun c1 => ?_)
      · omega
      · refine x_aload_n dX4_needNumber_52 rfl ?_
        refine x_iload_n dX4_needNumber_53 rfl ?_
        refine x_vi0 dX4_needNumber_54 cV_X4_174 (c_isDigitAt hb (by omega) (by omega)) rfl rfl ⟨⟨by decide, by decide⟩, by decide, by decide⟩ (Nat.le_of_ble_eq_true rfl) (xrecv putTr_at.o rfl xcl3) ?_
        refine x_if_eq_b 100 dX4_needNumber_57 (by decide) (fun c2 => ?_) (fun c2 => ?_)
        · unfold digAt at c2
          rw [decide_eq_true c1, Bool.true_and] at c2
          rw [dgF_no c2]
          exact done k t2 hk hn ht2
        · unfold digAt at c2
          rw [decide_eq_true c1, Bool.true_and] at c2
          have hd := isDg_lt c2
          rw [dgF_yes c2]
          refine x_aload_n dX4_needNumber_60 rfl ?_
          refine x_bipush (nI 10) dX4_needNumber_61 (by decide) ?_
          refine x_aload_n dX4_needNumber_63 rfl ?_
          refine x_getf dX4_needNumber_64 f_X4_31 putTr_at.o rfl ?_
          refine x_imul_n dX4_needNumber_67 ?_
          refine x_aload_n dX4_needNumber_68 rfl ?_
          refine x_getf dX4_needNumber_69 f_X4_9 putTr_at.o rfl ?_
          refine x_iload_n dX4_needNumber_72 rfl ?_
          refine x_bald dX4_needNumber_73 putTr_at.text (by omega) (by decide) ?_
          rw [sb_lo (show b k < 128 by omega)]
          refine x_iadd_n dX4_needNumber_74 ?_
          refine x_bipush (nI 48) dX4_needNumber_75 (by decide) ?_
          refine x_isub_n dX4_needNumber_77 (by omega) ?_
          refine x_sipush (nI 1000) dX4_needNumber_78 (by decide) ?_
          refine x_mmin dX4_needNumber_81 mn_X4_178 (by decide) (Nat.le_of_ble_eq_true rfl) (by decide) (by decide) ?_
          rw [show 10 * t2.2.2.2.1 + b k - 48 = 10 * t2.2.2.2.1 + (b k - 48) by omega, min_1000 (by omega)]
          refine xq_X4_number dX4_needNumber_84 f_X4_31 ?_
          refine x_aload_n dX4_needNumber_87 rfl ?_
          refine x_iload_n dX4_needNumber_88 rfl ?_
          refine x_iconst (nI 1) dX4_needNumber_89 (by decide) ?_
          refine x_iadd_n dX4_needNumber_90 ?_
          refine xq_X4_position dX4_needNumber_91 f_X4_25 ?_
          refine x_iinc_n (k := 1) dX4_needNumber_94 rfl (by decide) (by decide) rfl rfl ?_
          refine x_goto 44 dX4_needNumber_97 (by decide) ?_
          exact xP.weak (by simp [xle, xset1, fin3]) (ih (k + 1) (sPos (sNum t2 (min (10 * t2.2.2.2.1 + (b k - 48)) 1000)) (k + 1)) (by omega) (by omega) (Nat.min_le_right _ _) (by rw [ht2]))
  exact xP.weak (by simp [xle, xset1, fin3]) (key (t.1.1 - t1.2.1) t1.2.1 (sNum (sTok t1 t1.2.1) 0) rfl hp (Nat.zero_le _) rfl)
end T3
