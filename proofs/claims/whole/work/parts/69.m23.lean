/-! ===== the model: the best pair ===== -/
def jnA (A : Nat → Nat) (a b : Nat) : Nat → Nat := va_up (va_up A (5 + 12 * a + 3) (rF A a 3 ||| 2 ^ b)) (5 + 12 * b + 3) (rF (va_up A (5 + 12 * a + 3) (rF A a 3 ||| 2 ^ b)) b 3 ||| 2 ^ a)
def dwV (A : Nat → Nat) : Nat := mDgs (spO A (A 2)).1 false
def mb1 (A : Nat → Nat) (f k : Nat) (s : Nat × Option Nat) : Nat × Option Nat := if (rF A f 3).testBit k = true then s else if dwV (jnA A f k) < s.1 then (dwV (jnA A f k), some (10 * f + k)) else s
def mbI (A : Nat → Nat) (f : Nat) (s : Nat × Option Nat) : Nat → Nat × Option Nat
  | 0 => s
  | k + 1 => if k ≤ f then s else mb1 A f k (mbI A f s k)
def mbO (A : Nat → Nat) : Nat → Nat × Option Nat
  | 0 => (dwV A, none)
  | n + 1 => mbI A n (mbO A n) (A 1)
theorem jnS_eq {s : Mo} {a b : Nat} : jnS s a b = mR s 0 (jnA (s.1 0) a b) := by
  unfold jnS jn1 jnA
  rw [mR_R]
  rfl
theorem jnA_ne {A : Nat → Nat} {a b k : Nat} (h1 : k ≠ 5 + 12 * a + 3) (h2 : k ≠ 5 + 12 * b + 3) : jnA A a b k = A k := (va_up_ne _ _ h2).trans (va_up_ne _ _ h1)
theorem jnA_rK {A : Nat → Nat} {n a b : Nat} (h : rK A n) (ha : a < 10) (hb : b < 10) : rK (jnA A a b) n := by
  have p2 : ∀ x : Nat, x < 10 → 2 ^ x < 2 ^ 10 := fun x hx => Nat.pow_lt_pow_right (by decide) hx
  have h1 : rK (va_up A (5 + 12 * a + 3) (rF A a 3 ||| 2 ^ b)) n := by
    have h2 : rF A a 3 ||| 2 ^ b < 2 ^ 10 := Nat.or_lt_two_pow (Nat.lt_succ_of_le (h.fam (i := 3) ha (by decide))) (p2 b hb)
    exact h.up (by rw [cbd_f ha (by decide)]; show _ ≤ 1023; omega) (by omega)
  have h2 : rF (va_up A (5 + 12 * a + 3) (rF A a 3 ||| 2 ^ b)) b 3 ||| 2 ^ a < 2 ^ 10 := Nat.or_lt_two_pow (Nat.lt_succ_of_le (h1.fam (i := 3) hb (by decide))) (p2 a ha)
  exact h1.up (by rw [cbd_f hb (by decide)]; show _ ≤ 1023; omega) (by omega)
theorem jnA_rL {A : Nat → Nat} {a b : Nat} (hN : A 1 ≤ 10) (ha : a < 10) (hb : b < 10) (h : rL A) : rL (jnA A a b) := by
  intro f hf
  have e1 : jnA A a b 1 = A 1 := jnA_ne (by omega) (by omega)
  rw [e1] at hf
  have e2 : jnA A a b 2 = A 2 := jnA_ne (by omega) (by omega)
  have e3 : rF (jnA A a b) f 0 = rF A f 0 := jnA_ne (by omega) (by omega)
  have e4 : mCop (jnA A a b) f 0 = mCop A f 0 := by
    unfold mCop
    rw [e2]
    refine fb_ct_cong fun p _ => ?_
    have : rC (jnA A a b) p f = rC A p f := jnA_ne (by omega) (by omega)
    rw [this]
  rw [e3, e4]
  exact h f hf
theorem dwV_le {A : Nat → Nat} {n : Nat} (h : rK A n) (hl : rL A) : dwV A ≤ 12 := by
  have h1 := spO_inv h hl (A 2) (Nat.le_refl _)
  have h2 : (spO A (A 2)).1 2 = A 2 := h1.2.2 2 (by decide)
  have h3 : A 2 ≤ 12 := h.2.2 2 (by decide)
  have h4 : mDgs (spO A (A 2)).1 false ≤ (spO A (A 2)).1 2 := fb_ct_le _ _
  unfold dwV
  omega
/-- the same, with the same present row -/
def mEx (s s' : Mo) : Prop := s'.1 0 = s.1 0 ∧ s'.1 3 = s.1 3 ∧ s'.1 4 = s.1 4 ∧ s'.1 5 = s.1 5 ∧ s'.1 7 = s.1 7 ∧ s'.2.1 0 = s.2.1 0 ∧ s'.2.1 2 = s.2.1 2 ∧ s'.2.1 11 = s.2.1 11 ∧ s'.2.2.1 1 = s.2.2.1 1 ∧ s'.2.2.2.1 = s.2.2.2.1 ∧ s'.2.1 1 = s.2.1 1
theorem mEx.tr {a b c : Mo} (h1 : mEx a b) (h2 : mEx b c) : mEx a c := ⟨h2.1.trans h1.1, h2.2.1.trans h1.2.1, h2.2.2.1.trans h1.2.2.1, h2.2.2.2.1.trans h1.2.2.2.1, h2.2.2.2.2.1.trans h1.2.2.2.2.1, h2.2.2.2.2.2.1.trans h1.2.2.2.2.2.1, h2.2.2.2.2.2.2.1.trans h1.2.2.2.2.2.2.1, h2.2.2.2.2.2.2.2.1.trans h1.2.2.2.2.2.2.2.1, h2.2.2.2.2.2.2.2.2.1.trans h1.2.2.2.2.2.2.2.2.1, h2.2.2.2.2.2.2.2.2.2.1.trans h1.2.2.2.2.2.2.2.2.2.1, h2.2.2.2.2.2.2.2.2.2.2.trans h1.2.2.2.2.2.2.2.2.2.2⟩
theorem mEx.same {s s' : Mo} (h : mEx s s') : mSame s s' := ⟨fun k _ => by rw [h.1], h.2.1, h.2.2.1, h.2.2.2.1, h.2.2.2.2.1, h.2.2.2.2.2.1, h.2.2.2.2.2.2.1, h.2.2.2.2.2.2.2.1, h.2.2.2.2.2.2.2.2.1, h.2.2.2.2.2.2.2.2.2.1⟩
theorem tr_ex {s s' : Mo} (hf : mFrm (trM s) s') (hh : ∀ k, 353 ≤ k → s'.1 0 k = s.1 0 k) : mEx s (bkM s') := by
  obtain ⟨h1, h2, h3, h4, h5, h6, h7, h8, h9, h10, h11⟩ := hf
  refine ⟨funext fun k => ?_, h2, h3, h4, h5, h6, h7, h8, h9, h10, h11⟩
  show cpT (s'.1 0) (s'.1 2) 0 0 353 k = s.1 0 k
  rw [h1]
  unfold cpT
  by_cases hk : k < 353
  · rw [if_pos (by omega)]
    show cpT (s.1 2) (s.1 0) 0 0 353 _ = _
    unfold cpT
    rw [if_pos (by omega)]
    rfl
  · rw [if_neg (by omega)]
    exact hh k (by omega)
section M23
variable {g : xG} {l : Launch} {h : xH} {m : Nat} {s : Mo}
theorem c_mDangersWith {n : Nat} (o : Option (Nat × Nat)) (ho : ∀ a b, o = some (a, b) → a < 10 ∧ b < 10) (hw : rK (s.1 0) n) (hl : rL (s.1 0)) (x y : Int32) (hx : match o with | none => x = -1 | some (a, b) => x = nI a ∧ y = nI b) :
    xMet g l mX6_dangersWith 7 0 0 [.ref m, .int x, .int y] (putMod h m s) (fun r h' => r = some (.int (nI (dwV (match o with | none => s.1 0 | some (a, b) => jnA (s.1 0) a b)))) ∧ ∃ s', h' = putMod h m s' ∧ mEx s s') xno := by
  have mid : ∀ (B : Nat → Nat) (S : Mo), S.1 0 = B → rK B n → rL B → mFrm (trM s) S → (∀ k, 353 ≤ k → B k = s.1 0 k) → xP g l mX6_dangersWith [] (xR 7 0 0) (xZ g (fun r h' => r = some (.int (nI (dwV B))) ∧ ∃ s', h' = putMod h m s' ∧ mEx s s') xno 0 0) 24 [some (.ref m), some (.int x), some (.int y), none] [] (putMod h m S) 0 0 := by
    intro B S e hB hL hS hh
    subst e
    have hi := spO_inv hB hL (S.1 0 2) (Nat.le_refl _)
    refine x_aload_n dX6_dangersWith_24 rfl ?_
    refine x_aload_n dX6_dangersWith_25 rfl ?_
    refine x_vi0 dX6_dangersWith_26 cV_X6_315 (c_mSpreads hB hL) rfl rfl ⟨⟨by decide, by decide⟩, by decide, by decide⟩ (Nat.le_of_ble_eq_true rfl) (xrecv putMod_at.o rfl xcl5) ?_
    refine xq_X6_unused dX6_dangersWith_29 f_X6_282 ?_
    refine x_aload_n dX6_dangersWith_32 rfl ?_
    refine x_iconst (nI 0) dX6_dangersWith_33 (by decide) ?_
    refine xP.eq (S' := [.int (xb false), .ref m]) rfl rfl rfl rfl ?_
    refine x_vi0 dX6_dangersWith_34 cV_X6_244 (c_mDangers (s := mN (mR S 0 (spO (S.1 0) (S.1 0 2)).1) 8 (spO (S.1 0) (S.1 0 2)).2) putMod_at hi.1.ok false) rfl rfl ⟨⟨by decide, by decide⟩, by decide, by decide⟩ (Nat.le_of_ble_eq_true rfl) (xrecv putMod_at.o rfl xcl5) ?_
    refine x_istore_n dX6_dangersWith_37 (by decide) rfl rfl ?_
    refine x_aload_n dX6_dangersWith_38 rfl ?_
    refine x_getf dX6_dangersWith_39 f_X6_7 putMod_at.o rfl ?_
    refine x_iconst (nI 0) dX6_dangersWith_42 (by decide) ?_
    refine x_aload_n dX6_dangersWith_43 rfl ?_
    refine x_getf dX6_dangersWith_44 f_X6_16 putMod_at.o rfl ?_
    refine x_iconst (nI 0) dX6_dangersWith_47 (by decide) ?_
    refine x_sv0 dX6_dangersWith_48 cS_X6_55 (c_bck) rfl rfl ⟨⟨by decide, by decide⟩, by decide, by decide⟩ (Nat.le_of_ble_eq_true rfl) ?_
    refine x_iload_n dX6_dangersWith_51 rfl ?_
    refine x_ireturn dX6_dangersWith_52 rfl rfl (by decide) (by decide) ⟨rfl, _, rfl, ?_⟩
    refine tr_ex (hS.tr ⟨rfl, rfl, rfl, rfl, rfl, rfl, rfl, rfl, rfl, rfl, rfl⟩) fun k hk => ?_
    exact (hi.2.2 k (Or.inr hk)).trans (hh k hk)
  refine xMet.of (V := [some (.ref m), some (.int x), some (.int y), none]) moX6_dangersWith (Nat.le_of_ble_eq_true rfl) rfl ?_
  refine x_aload_n dX6_dangersWith_0 rfl ?_
  refine x_getf dX6_dangersWith_1 f_X6_16 putMod_at.o rfl ?_
  refine x_iconst (nI 0) dX6_dangersWith_4 (by decide) ?_
  refine x_aload_n dX6_dangersWith_5 rfl ?_
  refine x_getf dX6_dangersWith_6 f_X6_7 putMod_at.o rfl ?_
  refine x_iconst (nI 0) dX6_dangersWith_9 (by decide) ?_
  refine x_sv0 dX6_dangersWith_10 cS_X6_55 (c_try) rfl rfl ⟨⟨by decide, by decide⟩, by decide, by decide⟩ (Nat.le_of_ble_eq_true rfl) ?_
  cases o with
  | none =>
    dsimp only at hx
    subst hx
    refine x_iload_n dX6_dangersWith_13 rfl ?_
    refine x_iconst (-1) dX6_dangersWith_14 (by decide) ?_
    refine x_icmp_eq 24 dX6_dangersWith_15 (by decide) (fun c1 => ?_) (fun c1 => ?_)
    · exact mid (s.1 0) (trM s) rfl hw hl (mFrm.rf _) (fun _ _ => rfl)
    · exact absurd rfl c1
  | some ab =>
    obtain ⟨a, b⟩ := ab
    obtain ⟨ha, hb⟩ := ho a b rfl
    obtain ⟨rfl, rfl⟩ := hx
    have hN : s.1 0 1 ≤ 10 := hw.2.2 1 (by decide)
    have cj := c_mJoinsNear (g := g) (l := l) (h := h) (m := m) (s := trM s) hw.ok ha hb
    rw [jnS_eq] at cj
    refine x_iload_n dX6_dangersWith_13 rfl ?_
    refine x_iconst (-1) dX6_dangersWith_14 (by decide) ?_
    refine x_icmp_eq 24 dX6_dangersWith_15 (by decide) (fun c1 => ?_) (fun c1 => ?_)
    · exact absurd c1 (nI_m1 (by omega))
    · refine x_aload_n dX6_dangersWith_18 rfl ?_
      refine x_iload_n dX6_dangersWith_19 rfl ?_
      refine x_iload_n dX6_dangersWith_20 rfl ?_
      refine x_vv0 dX6_dangersWith_21 cV_X6_165 (cj) rfl rfl ⟨⟨by decide, by decide⟩, by decide, by decide⟩ (Nat.le_of_ble_eq_true rfl) (xrecv putMod_at.o rfl xcl5) ?_
      exact mid (jnA (s.1 0) a b) _ rfl (jnA_rK hw ha hb) (jnA_rL hN ha hb hl) ⟨rfl, rfl, rfl, rfl, rfl, rfl, rfl, rfl, rfl, rfl, rfl⟩ (fun k hk => jnA_ne (by omega) (by omega))
theorem mb1_le {A : Nat → Nat} {f k : Nat} {s : Nat × Option Nat} (hs : s.1 ≤ 12 ∧ ∀ i, s.2 = some i → i < 100) (hf : f < 10) (hk : k < 10) : (mb1 A f k s).1 ≤ 12 ∧ ∀ i, (mb1 A f k s).2 = some i → i < 100 := by
  unfold mb1
  split
  · exact hs
  · split
    · rename_i c
      exact ⟨by have := hs.1; omega, fun i q => by cases q; omega⟩
    · exact hs
theorem mbI_le {A : Nat → Nat} {f : Nat} {s : Nat × Option Nat} (hs : s.1 ≤ 12 ∧ ∀ i, s.2 = some i → i < 100) (hf : f < 10) : ∀ k, k ≤ 10 → (mbI A f s k).1 ≤ 12 ∧ ∀ i, (mbI A f s k).2 = some i → i < 100 := by
  intro k
  induction k with
  | zero => intro _; exact hs
  | succ k ih =>
    intro hk
    rw [mbI]
    split
    · exact hs
    · exact mb1_le (ih (by omega)) hf (by omega)
theorem mbI_lo {A : Nat → Nat} {f : Nat} {s : Nat × Option Nat} : ∀ k, k ≤ f + 1 → mbI A f s k = s := by
  intro k hk
  cases k with
  | zero => rfl
  | succ k => rw [mbI, if_pos (by omega)]
theorem mbO_le {A : Nat → Nat} {n : Nat} (h : rK A n) (hl : rL A) : ∀ k, k ≤ 10 → (mbO A k).1 ≤ 12 ∧ ∀ i, (mbO A k).2 = some i → i < 100 := by
  intro k
  induction k with
  | zero => intro _; exact ⟨dwV_le h hl, fun i q => by cases q⟩
  | succ k ih => intro hk; exact mbI_le (ih (by omega)) (by omega) _ (h.2.2 1 (by decide))
theorem c_mBestPair {n : Nat} (hw : rK (s.1 0) n) (hl : rL (s.1 0)) : xMet g l mX6_bestPair 8 0 0 [.ref m] (putMod h m s) (mAns h m s 0 (oI (mbO (s.1 0) (s.1 0 1)).2)) xno := by
  have hN : s.1 0 1 ≤ 10 := hw.2.2 1 (by decide)
  have mle := mbO_le hw hl
  refine xMet.of (V := [some (.ref m), none, none, none, none, none]) moX6_bestPair (Nat.le_of_ble_eq_true rfl) rfl ?_
  refine x_aload_n dX6_bestPair_0 rfl ?_
  refine x_iconst (nI 0) dX6_bestPair_1 (by decide) ?_
  refine xq_X6_thrown dX6_bestPair_2 f_X6_49 ?_
  refine x_iconst (-1) dX6_bestPair_5 (by decide) ?_
  refine x_istore_n dX6_bestPair_6 (by decide) rfl rfl ?_
  refine x_aload_n dX6_bestPair_7 rfl ?_
  refine x_iconst (-1) dX6_bestPair_8 (by decide) ?_
  refine x_iconst (-1) dX6_bestPair_9 (by decide) ?_
  refine x_callV dX6_bestPair_10 cV_X6_318 (c_mDangersWith none (fun a b q => by cases q) (s := mN s 1 0) hw hl (-1) (-1) rfl) rfl rfl ⟨⟨by decide, by decide⟩, by decide, by decide⟩ (Nat.le_of_ble_eq_true rfl) (xrecv putMod_at.o rfl xcl5) (fun _ _ q => q.elim) (fun v9 h9 q9 => ?_)
  obtain ⟨rfl, S0, rfl, hS0⟩ := q9
  refine xP.eq (S' := [.int (nI (mbO (s.1 0) 0).1)]) rfl rfl rfl rfl ?_
  refine x_istore_n dX6_bestPair_13 (by decide) rfl rfl ?_
  refine x_iconst (nI 0) dX6_bestPair_14 (by decide) ?_
  refine x_istore_n dX6_bestPair_15 (by decide) rfl rfl ?_
  have fams : ∀ S : Mo, mEx (mN s 1 0) S → xDet g l mX6_families 0 0 0 [.ref m] (putMod h m S) (some (.int (nI (s.1 0 1)))) (putMod h m S) := fun S hS => by
    have := c_mFamilies (g := g) (l := l) (putMod_at (h := h) (m := m) (s := S))
    rw [hS.1] at this
    exact this
  have near : ∀ (S : Mo) (f k : Nat), mEx (mN s 1 0) S → f < 10 → k < 10 → xDet g l mX6_areNear 1 0 0 [.ref m, .int (nI f), .int (nI k)] (putMod h m S) (some (.int (xb ((rF (s.1 0) f 3).testBit k)))) (putMod h m S) := fun S f k hS hf hk => by
    have := c_mAreNear (g := g) (l := l) (putMod_at (h := h) (m := m) (s := S)) (by rw [hS.1]; exact hw.ok) hf (show k < 32 by omega)
    rw [hS.1] at this
    exact this
  have dw : ∀ (S : Mo) (f k : Nat), mEx (mN s 1 0) S → f < 10 → k < 10 → xMet g l mX6_dangersWith 7 0 0 [.ref m, .int (nI f), .int (nI k)] (putMod h m S) (fun r h' => r = some (.int (nI (dwV (jnA (s.1 0) f k)))) ∧ ∃ s', h' = putMod h m s' ∧ mEx S s') xno := fun S f k hS hf hk => by
    have := c_mDangersWith (g := g) (l := l) (h := h) (m := m) (s := S) (some (f, k)) (fun a b q => by cases q; exact ⟨hf, hk⟩) (n := n) (by rw [hS.1]; exact hw) (by rw [hS.1]; exact hl) (nI f) (nI k) ⟨rfl, rfl⟩
    dsimp only at this
    rw [hS.1] at this
    exact this
  have outer : ∀ (f i : Nat) (S : Mo) (v4 v5 : Option Value), f + i = s.1 0 1 → mEx (mN s 1 0) S → xP g l mX6_bestPair [] (xR 8 0 0) (xZ g (mAns h m s 0 (oI (mbO (s.1 0) (s.1 0 1)).2)) xno 0 0) 16 [some (.ref m), some (.int (oI (mbO (s.1 0) i).2)), some (.int (nI (mbO (s.1 0) i).1)), some (.int (nI i)), v4, v5] [] (putMod h m S) 0 0 := by
    intro f
    induction f with
    | zero =>
      intro i S v4 v5 hf hS
      have e : i = s.1 0 1 := by omega
      subst e
      refine x_iload_n dX6_bestPair_16 rfl ?_
      refine x_aload_n dX6_bestPair_17 rfl ?_
      refine x_vi0 dX6_bestPair_18 cV_X6_67 (fams S hS) rfl rfl ⟨⟨by decide, by decide⟩, by decide, by decide⟩ (Nat.le_of_ble_eq_true rfl) (xrecv putMod_at.o rfl xcl5) ?_
      refine x_icmp_ge_n 93 dX6_bestPair_21 (by decide) (by omega) (by omega) (fun c1 => ?_) (fun c1 => ?_)
      · refine x_iload_n dX6_bestPair_93 rfl ?_
        exact x_ireturn dX6_bestPair_94 rfl rfl (by decide) (by decide) ⟨S, rfl, rfl, hS.same, hS.2.2.2.2.2.2.2.2.2.2⟩
      · omega
    | succ f ih =>
      intro i S v4 v5 hf hS
      have ml := mle i (by omega)
      refine x_iload_n dX6_bestPair_16 rfl ?_
      refine x_aload_n dX6_bestPair_17 rfl ?_
      refine x_vi0 dX6_bestPair_18 cV_X6_67 (fams S hS) rfl rfl ⟨⟨by decide, by decide⟩, by decide, by decide⟩ (Nat.le_of_ble_eq_true rfl) (xrecv putMod_at.o rfl xcl5) ?_
      refine x_icmp_ge_n 93 dX6_bestPair_21 (by decide) (by omega) (by omega) (fun c1 => ?_) (fun c1 => ?_)
      · omega
      · refine x_iload_n dX6_bestPair_24 rfl ?_
        refine x_iconst (nI 1) dX6_bestPair_25 (by decide) ?_
        refine x_iadd_n dX6_bestPair_26 ?_
        refine x_istore dX6_bestPair_27 (by decide) (by cases v4 <;> rfl) rfl ?_
        refine xP.weak (V' := [some (.ref m), some (.int (oI (mbI (s.1 0) i (mbO (s.1 0) i) (i + 1)).2)), some (.int (nI (mbI (s.1 0) i (mbO (s.1 0) i) (i + 1)).1)), some (.int (nI i)), some (.int (nI (i + 1))), none]) (by rw [mbI_lo _ (Nat.le_refl _)]; cases v4 <;> cases v5 <;> simp [xle, xset1, fin3]) ?_
        have inner : ∀ (d k : Nat) (S : Mo) (v5 : Option Value), d + k = s.1 0 1 → i < k → mEx (mN s 1 0) S → xP g l mX6_bestPair [] (xR 8 0 0) (xZ g (mAns h m s 0 (oI (mbO (s.1 0) (s.1 0 1)).2)) xno 0 0) 29 [some (.ref m), some (.int (oI (mbI (s.1 0) i (mbO (s.1 0) i) k).2)), some (.int (nI (mbI (s.1 0) i (mbO (s.1 0) i) k).1)), some (.int (nI i)), some (.int (nI k)), v5] [] (putMod h m S) 0 0 := by
          intro d
          induction d with
          | zero =>
            intro k S v5 hd hk hS
            have e : k = s.1 0 1 := by omega
            subst e
            refine x_iload dX6_bestPair_29 rfl ?_
            refine x_aload_n dX6_bestPair_31 rfl ?_
            refine x_vi0 dX6_bestPair_32 cV_X6_67 (fams S hS) rfl rfl ⟨⟨by decide, by decide⟩, by decide, by decide⟩ (Nat.le_of_ble_eq_true rfl) (xrecv putMod_at.o rfl xcl5) ?_
            refine x_icmp_ge_n 87 dX6_bestPair_35 (by decide) (by omega) (by omega) (fun c2 => ?_) (fun c2 => ?_)
            · refine x_iinc_n (k := 1) dX6_bestPair_87 rfl (by decide) (by decide) rfl rfl ?_
              refine x_goto 16 dX6_bestPair_90 (by decide) ?_
              exact xP.weak (by cases v5 <;> simp [xle, xset1, fin3, mbO]) (ih (i + 1) S none none (by omega) hS)
            · omega
          | succ d ihd =>
            intro k S v5 hd hk hS
            have ml2 := mbI_le (A := s.1 0) (f := i) ml (by omega) k (by omega)
            have es : mbI (s.1 0) i (mbO (s.1 0) i) (k + 1) = mb1 (s.1 0) i k (mbI (s.1 0) i (mbO (s.1 0) i) k) := by rw [mbI, if_neg (by omega)]
            generalize hq : mbI (s.1 0) i (mbO (s.1 0) i) k = q at *
            have step : ∀ (x : Nat) (S2 : Mo), x < 2 ^ 31 → mEx (mN s 1 0) S2 → mb1 (s.1 0) i k q = (if x < q.1 then (x, some (10 * i + k)) else q) → xP g l mX6_bestPair [] (xR 8 0 0) (xZ g (mAns h m s 0 (oI (mbO (s.1 0) (s.1 0 1)).2)) xno 0 0) 59 [some (.ref m), some (.int (oI q.2)), some (.int (nI q.1)), some (.int (nI i)), some (.int (nI k)), v5] [.int (nI x)] (putMod h m S2) 0 0 := by
              intro x S2 hx hS2 eb
              refine x_istore dX6_bestPair_59 (by decide) (by cases v5 <;> rfl) rfl ?_
              refine xP.weak (V' := [some (.ref m), some (.int (oI q.2)), some (.int (nI q.1)), some (.int (nI i)), some (.int (nI k)), some (.int (nI x))]) (by cases v5 <;> simp [xle, xset1, fin3]) ?_
              have k9 := ihd (k + 1) S2 none (by omega) (by omega) hS2
              rw [es, eb] at k9
              refine x_iload dX6_bestPair_61 rfl ?_
              refine x_iload_n dX6_bestPair_63 rfl ?_
              refine x_icmp_lt_n 70 dX6_bestPair_64 (by decide) (by omega) (by omega) (fun c3 => ?_) (fun c3 => ?_)
              · rw [if_pos c3] at k9
                refine x_iload dX6_bestPair_70 rfl ?_
                refine x_istore_n dX6_bestPair_72 (by decide) rfl rfl ?_
                refine x_bipush (nI 10) dX6_bestPair_73 (by decide) ?_
                refine x_iload_n dX6_bestPair_75 rfl ?_
                refine x_imul_n dX6_bestPair_76 ?_
                refine x_iload dX6_bestPair_77 rfl ?_
                refine x_iadd_n dX6_bestPair_79 ?_
                refine x_istore_n dX6_bestPair_80 (by decide) rfl rfl ?_
                refine x_iinc_n (k := 1) dX6_bestPair_81 rfl (by decide) (by decide) rfl rfl ?_
                refine x_goto 29 dX6_bestPair_84 (by decide) ?_
                exact xP.weak (by simp [xle, xset1, fin3, oI]) k9
              · rw [if_neg (by omega)] at k9
                refine x_goto 81 dX6_bestPair_67 (by decide) ?_
                refine x_iinc_n (k := 1) dX6_bestPair_81 rfl (by decide) (by decide) rfl rfl ?_
                refine x_goto 29 dX6_bestPair_84 (by decide) ?_
                exact xP.weak (by simp [xle, xset1, fin3]) k9
            refine x_iload dX6_bestPair_29 rfl ?_
            refine x_aload_n dX6_bestPair_31 rfl ?_
            refine x_vi0 dX6_bestPair_32 cV_X6_67 (fams S hS) rfl rfl ⟨⟨by decide, by decide⟩, by decide, by decide⟩ (Nat.le_of_ble_eq_true rfl) (xrecv putMod_at.o rfl xcl5) ?_
            refine x_icmp_ge_n 87 dX6_bestPair_35 (by decide) (by omega) (by omega) (fun c2 => ?_) (fun c2 => ?_)
            · omega
            · refine x_aload_n dX6_bestPair_38 rfl ?_
              refine x_iload_n dX6_bestPair_39 rfl ?_
              refine x_iload dX6_bestPair_40 rfl ?_
              refine x_vi0 dX6_bestPair_42 cV_X6_161 (near S i k hS (by omega) (by omega)) rfl rfl ⟨⟨by decide, by decide⟩, by decide, by decide⟩ (Nat.le_of_ble_eq_true rfl) (xrecv putMod_at.o rfl xcl5) ?_
              refine x_if_eq_b 52 dX6_bestPair_45 (by decide) (fun c4 => ?_) (fun c4 => ?_)
              · refine x_aload_n dX6_bestPair_52 rfl ?_
                refine x_iload_n dX6_bestPair_53 rfl ?_
                refine x_iload dX6_bestPair_54 rfl ?_
                refine x_callV dX6_bestPair_56 cV_X6_318 (dw S i k hS (by omega) (by omega)) rfl rfl ⟨⟨by decide, by decide⟩, by decide, by decide⟩ (Nat.le_of_ble_eq_true rfl) (xrecv putMod_at.o rfl xcl5) (fun _ _ q => q.elim) (fun v9 h9 q9 => ?_)
                obtain ⟨rfl, S2, rfl, hS2⟩ := q9
                refine xP.eq (S' := [.int (nI (dwV (jnA (s.1 0) i k)))]) rfl rfl rfl rfl ?_
                exact step _ S2 (by have := dwV_le (jnA_rK hw (show i < 10 by omega) (show k < 10 by omega)) (jnA_rL hN (by omega) (by omega) hl); omega) (hS.tr hS2) (by unfold mb1; rw [if_neg (by rw [c4]; decide)])
              · refine x_iload_n dX6_bestPair_48 rfl ?_
                refine x_goto 59 dX6_bestPair_49 (by decide) ?_
                exact step q.1 S (by omega) hS (by unfold mb1; rw [if_pos c4, if_neg (by omega)])
        exact inner (s.1 0 1 - (i + 1)) (i + 1) S none (by omega) (by omega) hS
  exact xP.weak (by simp [xle, xset1, fin3, mbO, oI]) (outer (s.1 0 1) 0 S0 none none rfl hS0)
end M23
