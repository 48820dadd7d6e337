/-! ===== the model: a wave ===== -/
/-- what a broken copy gets in this wave: 0, or its new copy -/
def wvG (A : Nat → Nat) (p f : Nat) : Nat := if mCan A p f = true then mGets A p f else 0
def wv1 (G : Nat → Nat → Nat) (q : (Nat → Nat) × Nat) (p f : Nat) : (Nat → Nat) × Nat := if G p f = 0 then q else (va_up q.1 (125 + 19 * p + 9 + f) (G p f), q.2 + 1)
def wvI (G : Nat → Nat → Nat) (q : (Nat → Nat) × Nat) (p : Nat) : Nat → (Nat → Nat) × Nat
  | 0 => q
  | n + 1 => wv1 G (wvI G q p n) p n
def wvO (G : Nat → Nat → Nat) (F : Nat) (q : (Nat → Nat) × Nat) : Nat → (Nat → Nat) × Nat
  | 0 => q
  | n + 1 => wvI G (wvO G F q n) n F
def wvA (A : Nat → Nat) : (Nat → Nat) × Nat := (va_up (wvO (wvG A) (A 1) (A, 0) (A 2)).1 3 ((wvO (wvG A) (A 1) (A, 0) (A 2)).1 3 + (wvO (wvG A) (A 1) (A, 0) (A 2)).2), (wvO (wvG A) (A 1) (A, 0) (A 2)).2)
/-- what is got, up to picture p and its family f -/
def goP (A g0 : Nat → Nat) (p f : Nat) : Nat → Nat := fun q => if (q / 10 < p ∨ (q / 10 = p ∧ q % 10 < f)) ∧ q % 10 < A 1 then wvG A (q / 10) (q % 10) else g0 q
theorem goP_up {A g0 : Nat → Nat} {p f : Nat} (hf : f < A 1) (hN : A 1 ≤ 10) : va_up (goP A g0 p f) (10 * p + f) (wvG A p f) = goP A g0 p (f + 1) := by
  funext q
  unfold va_up goP
  by_cases e : q = 10 * p + f
  · rw [if_pos e, if_pos (by omega), show q / 10 = p by omega, show q % 10 = f by omega]
  · rw [if_neg e]
    by_cases c : (q / 10 < p ∨ (q / 10 = p ∧ q % 10 < f)) ∧ q % 10 < A 1
    · rw [if_pos c, if_pos (by omega)]
    · rw [if_neg c, if_neg (by omega)]
theorem goP_end {A g0 : Nat → Nat} {p : Nat} : goP A g0 p (A 1) = goP A g0 (p + 1) 0 := by
  funext q
  unfold goP
  by_cases c : (q / 10 < p ∨ (q / 10 = p ∧ q % 10 < A 1)) ∧ q % 10 < A 1
  · rw [if_pos c, if_pos (by omega)]
  · rw [if_neg c, if_neg (by omega)]
theorem goP_at {A g0 : Nat → Nat} {n p f : Nat} (hp : p < n) (hf : f < A 1) (hN : A 1 ≤ 10) : goP A g0 n 0 (10 * p + f) = wvG A p f := by
  unfold goP
  rw [if_pos (by omega), show (10 * p + f) / 10 = p by omega, show (10 * p + f) % 10 = f by omega]
theorem mGets_lt (A : Nat → Nat) (p f : Nat) : mGets A p f < 131072 := Nat.or_lt_two_pow (n := 17) (by decide) (Nat.lt_of_le_of_lt Nat.and_le_right (by decide))
theorem wvG_lt (A : Nat → Nat) (p f : Nat) : wvG A p f < 131072 := by
  unfold wvG
  split
  · exact mGets_lt A p f
  · decide
theorem wv1_rK {G : Nat → Nat → Nat} {q : (Nat → Nat) × Nat} {n p f : Nat} (hG : ∀ p f, G p f < 131072) (h : rK q.1 n) (hp : p < 12) (hf : f < 10) : rK (wv1 G q p f).1 n := by
  unfold wv1
  split
  · exact h
  · exact h.upC hp hf (by have := hG p f; omega)
theorem wvI_rK {G : Nat → Nat → Nat} {q : (Nat → Nat) × Nat} {n p : Nat} (hG : ∀ p f, G p f < 131072) (h : rK q.1 n) (hp : p < 12) : ∀ j, j ≤ 10 → rK (wvI G q p j).1 n := by
  intro j
  induction j with
  | zero => intro _; exact h
  | succ j ih => intro hj; exact wv1_rK hG (ih (by omega)) hp (by omega)
theorem wvO_rK {G : Nat → Nat → Nat} {F : Nat} {q : (Nat → Nat) × Nat} {n : Nat} (hG : ∀ p f, G p f < 131072) (hF : F ≤ 10) (h : rK q.1 n) : ∀ j, j ≤ 12 → rK (wvO G F q j).1 n := by
  intro j
  induction j with
  | zero => intro _; exact h
  | succ j ih => intro hj; exact wvI_rK hG (ih (by omega)) (by omega) F hF
theorem wv1_lo {G : Nat → Nat → Nat} {q : (Nat → Nat) × Nat} {p f k : Nat} (hk : k < 125) : (wv1 G q p f).1 k = q.1 k := by
  unfold wv1
  split
  · rfl
  · exact va_up_ne _ _ (by omega)
theorem wvI_lo {G : Nat → Nat → Nat} {q : (Nat → Nat) × Nat} {p k : Nat} (hk : k < 125) : ∀ j, (wvI G q p j).1 k = q.1 k := by
  intro j
  induction j with
  | zero => rfl
  | succ j ih => rw [wvI, wv1_lo hk, ih]
theorem wvO_lo {G : Nat → Nat → Nat} {F : Nat} {q : (Nat → Nat) × Nat} {k : Nat} (hk : k < 125) : ∀ j, (wvO G F q j).1 k = q.1 k := by
  intro j
  induction j with
  | zero => rfl
  | succ j ih => rw [wvO, wvI_lo hk, ih]
theorem wv1_n {G : Nat → Nat → Nat} {q : (Nat → Nat) × Nat} {p f : Nat} : (wv1 G q p f).2 ≤ q.2 + 1 := by
  unfold wv1
  split
  · exact Nat.le_succ _
  · exact Nat.le_refl _
theorem wvI_n {G : Nat → Nat → Nat} {q : (Nat → Nat) × Nat} {p : Nat} : ∀ j, (wvI G q p j).2 ≤ q.2 + j := by
  intro j
  induction j with
  | zero => exact Nat.le_refl _
  | succ j ih => have := wv1_n (G := G) (q := wvI G q p j) (p := p) (f := j); rw [wvI]; omega
theorem wvO_n {G : Nat → Nat → Nat} {F : Nat} {q : (Nat → Nat) × Nat} (hF : F ≤ 10) : ∀ j, (wvO G F q j).2 ≤ q.2 + 10 * j := by
  intro j
  induction j with
  | zero => exact Nat.le_refl _
  | succ j ih => have := wvI_n (G := G) (q := wvO G F q j) (p := j) F; rw [wvO]; omega
theorem wvA_rK {A : Nat → Nat} {n : Nat} (h : rK A n) (hn : n + 120 < 2 ^ 23) : rK (wvA A).1 (n + 120) := by
  have hK : A 2 ≤ 12 := h.2.2 2 (by decide)
  have hN : A 1 ≤ 10 := h.2.2 1 (by decide)
  have h1 := wvO_rK (q := (A, 0)) (wvG_lt A) hN h (A 2) hK
  have h2 := wvO_n (G := wvG A) (q := (A, 0)) hN (A 2)
  have h3 : (wvO (wvG A) (A 1) (A, 0) (A 2)).1 3 = A 3 := wvO_lo (by decide) _
  have h4 : A 3 ≤ n := h.2.2 3 (by decide)
  dsimp only at h2
  exact (h1.mono (by omega) hn).up (by rw [h3]; show A 3 + _ ≤ n + 120; omega) (by omega)
/-- a wave in the model's state -/
def wvM (s : Mo) : Mo := mR (mR s 6 (goP (s.1 0) (s.1 6) (s.1 0 2) 0)) 0 (wvA (s.1 0)).1
section M17
variable {g : xG} {l : Launch} {h : xH} {m : Nat} {s : Mo}
theorem c_mWaves1 {n : Nat} (hw : rK (s.1 0) n) (hn : n + 200 < 2 ^ 23) : xDet g l mX6_waves1 5 0 0 [.ref m] (putMod h m s) (some (.int (nI (wvA (s.1 0)).2))) (putMod h m (wvM s)) := by
  have hK : s.1 0 2 ≤ 12 := hw.2.2 2 (by decide)
  have hN : s.1 0 1 ≤ 10 := hw.2.2 1 (by decide)
  have hok : ∀ G : Nat → Nat, rOk ((mR s 6 G).1 0) := fun _ => hw.ok
  have r6 : ∀ G : Nat → Nat, (mR s 6 G).1 6 = G := fun _ => rfl
  refine xMet.of (V := [some (.ref m), none, none, none]) moX6_waves1 (Nat.le_of_ble_eq_true rfl) rfl ?_
  refine x_iconst (nI 0) dX6_waves1_0 (by decide) ?_
  refine x_istore_n dX6_waves1_1 (by decide) rfl rfl ?_
  refine x_iconst (nI 0) dX6_waves1_2 (by decide) ?_
  refine x_istore_n dX6_waves1_3 (by decide) rfl rfl ?_
  refine xP.eq (h' := putMod h m (mR s 6 (goP (s.1 0) (s.1 6) 0 0))) rfl rfl rfl (by rw [show goP (s.1 0) (s.1 6) 0 0 = s.1 6 from funext fun q => by unfold goP; rw [if_neg (by omega)], mR_self]) ?_
  refine xP.weak (V' := [some (.ref m), some (.int (nI 0)), some (.int (nI 0)), none]) (by simp [xle, xset1, fin3]) ?_
  refine xP.loop (fun i => [some (.ref m), some (.int (nI 0)), some (.int (nI i)), none]) (fun i => putMod h m (mR s 6 (goP (s.1 0) (s.1 6) i 0))) (s.1 0 2) ?_ ?_
  · intro i hi ih
    refine x_iload_n dX6_waves1_4 rfl ?_
    refine x_aload_n dX6_waves1_5 rfl ?_
    refine x_vi0 dX6_waves1_6 cV_X6_169 (c_mPictures putMod_at) rfl rfl ⟨⟨by decide, by decide⟩, by decide, by decide⟩ (Nat.le_of_ble_eq_true rfl) (xrecv putMod_at.o rfl xcl5) ?_
    refine xP.eq (S' := [.int (nI (s.1 0 2)), .int (nI i)]) rfl rfl rfl rfl ?_
    refine x_icmp_ge_n 64 dX6_waves1_9 (by decide) (by omega) (by omega) (fun c0 => ?_) (fun c0 => ?_)
    · omega
    · refine x_iconst (nI 0) dX6_waves1_12 (by decide) ?_
      refine x_istore_n dX6_waves1_13 (by decide) rfl rfl ?_
      refine xP.weak (V' := [some (.ref m), some (.int (nI 0)), some (.int (nI i)), some (.int (nI 0))]) (by simp [xle, xset1, fin3]) ?_
      refine xP.loop (fun k => [some (.ref m), some (.int (nI 0)), some (.int (nI i)), some (.int (nI k))]) (fun k => putMod h m (mR s 6 (goP (s.1 0) (s.1 6) i k))) (s.1 0 1) ?_ ?_
      · intro k hk ih
        have hup := goP_up (A := s.1 0) (g0 := s.1 6) (p := i) hk hN
        have sto : xP g l mX6_waves1 [] (xR 5 0 0) (xZ g (fun r' h' => r' = some (.int (nI (wvA (s.1 0)).2)) ∧ h' = putMod h m (wvM s)) xno 0 0) 51 [some (.ref m), some (.int (nI 0)), some (.int (nI i)), some (.int (nI k))] [.int (nI (wvG (s.1 0) i k)), .int (nI (10 * i + k)), .ref (m + 8)] (putMod h m (mR s 6 (goP (s.1 0) (s.1 6) i k))) 0 0 := by
          refine xq_X6_got dX6_waves1_51 (by omega) ?_
          refine xP.eq (h' := putMod h m (mR s 6 (goP (s.1 0) (s.1 6) i (k + 1)))) rfl rfl rfl (by rw [← hup, ← mR_R (s := s) (j := 6) (f := goP (s.1 0) (s.1 6) i k)]; rfl) ?_
          refine x_iinc_n (k := 1) dX6_waves1_52 rfl (by decide) (by decide) rfl rfl ?_
          refine x_goto 14 dX6_waves1_55 (by decide) ?_
          exact xP.weak (by simp [xle, xset1, fin3]) ih
        refine x_iload_n dX6_waves1_14 rfl ?_
        refine x_aload_n dX6_waves1_15 rfl ?_
        refine x_vi0 dX6_waves1_16 cV_X6_67 (c_mFamilies putMod_at) rfl rfl ⟨⟨by decide, by decide⟩, by decide, by decide⟩ (Nat.le_of_ble_eq_true rfl) (xrecv putMod_at.o rfl xcl5) ?_
        refine xP.eq (S' := [.int (nI (s.1 0 1)), .int (nI k)]) rfl rfl rfl rfl ?_
        refine x_icmp_ge_n 58 dX6_waves1_19 (by decide) (by omega) (by omega) (fun c1 => ?_) (fun c1 => ?_)
        · omega
        · refine x_aload_n dX6_waves1_22 rfl ?_
          refine x_getf dX6_waves1_23 f_X6_36 putMod_at.o rfl ?_
          refine x_bipush (nI 10) dX6_waves1_26 (by decide) ?_
          refine x_iload_n dX6_waves1_28 rfl ?_
          refine x_imul_n dX6_waves1_29 ?_
          refine x_iload_n dX6_waves1_30 rfl ?_
          refine x_iadd_n dX6_waves1_31 ?_
          refine x_aload_n dX6_waves1_32 rfl ?_
          refine x_iload_n dX6_waves1_33 rfl ?_
          refine x_iload_n dX6_waves1_34 rfl ?_
          refine x_vi0 dX6_waves1_35 cV_X6_288 (c_mCanRepair putMod_at (hok _) (show i < 12 by omega) (show k < 10 by omega)) rfl rfl ⟨⟨by decide, by decide⟩, by decide, by decide⟩ (Nat.le_of_ble_eq_true rfl) (xrecv putMod_at.o rfl xcl5) ?_
          refine xP.eq (S' := [.int (xb (mCan (s.1 0) i k)), .int (nI (10 * i + k)), .ref (m + 8)]) rfl rfl rfl rfl ?_
          refine x_if_eq_b 50 dX6_waves1_38 (by decide) (fun c2 => ?_) (fun c2 => ?_)
          · have e : wvG (s.1 0) i k = 0 := by unfold wvG; rw [if_neg (by rw [c2]; decide)]
            rw [e] at sto
            refine x_iconst (nI 0) dX6_waves1_50 (by decide) ?_
            exact sto
          · have e : wvG (s.1 0) i k = mGets (s.1 0) i k := by unfold wvG; rw [if_pos c2]
            rw [e] at sto
            refine x_aload_n dX6_waves1_41 rfl ?_
            refine x_iload_n dX6_waves1_42 rfl ?_
            refine x_iload_n dX6_waves1_43 rfl ?_
            refine x_vi0 dX6_waves1_44 cV_X6_291 (c_mGets putMod_at (hok _) (show i < 12 by omega) (show k < 10 by omega)) rfl rfl ⟨⟨by decide, by decide⟩, by decide, by decide⟩ (Nat.le_of_ble_eq_true rfl) (xrecv putMod_at.o rfl xcl5) ?_
            refine x_goto 51 dX6_waves1_47 (by decide) ?_
            exact sto
      · refine x_iload_n dX6_waves1_14 rfl ?_
        refine x_aload_n dX6_waves1_15 rfl ?_
        refine x_vi0 dX6_waves1_16 cV_X6_67 (c_mFamilies putMod_at) rfl rfl ⟨⟨by decide, by decide⟩, by decide, by decide⟩ (Nat.le_of_ble_eq_true rfl) (xrecv putMod_at.o rfl xcl5) ?_
        refine xP.eq (S' := [.int (nI (s.1 0 1)), .int (nI (s.1 0 1))]) rfl rfl rfl rfl ?_
        refine x_icmp_ge_n 58 dX6_waves1_19 (by decide) (by omega) (by omega) (fun c1 => ?_) (fun c1 => ?_)
        · rw [goP_end]
          refine x_iinc_n (k := 1) dX6_waves1_58 rfl (by decide) (by decide) rfl rfl ?_
          refine x_goto 4 dX6_waves1_61 (by decide) ?_
          exact xP.weak (by simp [xle, xset1, fin3]) ih
        · omega
  · refine x_iload_n dX6_waves1_4 rfl ?_
    refine x_aload_n dX6_waves1_5 rfl ?_
    refine x_vi0 dX6_waves1_6 cV_X6_169 (c_mPictures putMod_at) rfl rfl ⟨⟨by decide, by decide⟩, by decide, by decide⟩ (Nat.le_of_ble_eq_true rfl) (xrecv putMod_at.o rfl xcl5) ?_
    refine xP.eq (S' := [.int (nI (s.1 0 2)), .int (nI (s.1 0 2))]) rfl rfl rfl rfl ?_
    refine x_icmp_ge_n 64 dX6_waves1_9 (by decide) (by omega) (by omega) (fun c0 => ?_) (fun c0 => ?_)
    rotate_left
    · omega
    refine x_iconst (nI 0) dX6_waves1_64 (by decide) ?_
    refine x_istore_n dX6_waves1_65 (by decide) rfl rfl ?_
    have hG : ∀ i k, i < s.1 0 2 → k < s.1 0 1 → goP (s.1 0) (s.1 6) (s.1 0 2) 0 (10 * i + k) = wvG (s.1 0) i k := fun i k a b => goP_at a b hN
    have fin : ∀ V, xP g l mX6_waves1 [] (xR 5 0 0) (xZ g (fun r' h' => r' = some (.int (nI (wvA (s.1 0)).2)) ∧ h' = putMod h m (wvM s)) xno 0 0) 133 (some (.ref m) :: some (.int (nI (wvO (wvG (s.1 0)) (s.1 0 1) (s.1 0, 0) (s.1 0 2)).2)) :: V) [] (putMod h m (mR (mR s 6 (goP (s.1 0) (s.1 6) (s.1 0 2) 0)) 0 (wvO (wvG (s.1 0)) (s.1 0 1) (s.1 0, 0) (s.1 0 2)).1)) 0 0 := by
      intro V
      refine x_aload_n dX6_waves1_133 rfl ?_
      refine x_getf dX6_waves1_134 f_X6_7 putMod_at.o rfl ?_
      refine x_iconst (nI 3) dX6_waves1_137 (by decide) ?_
      refine x_dup2 dX6_waves1_138 rfl rfl ?_
      refine x_iald_n dX6_waves1_139 putMod_at.a (by omega) (by decide) ?_
      refine x_iload_n dX6_waves1_140 rfl ?_
      refine x_iadd_n dX6_waves1_141 ?_
      refine xq_X6_a dX6_waves1_142 (by decide) ?_
      refine xP.eq (h' := putMod h m (wvM s)) rfl rfl rfl (by rw [mR_R]; rfl) ?_
      refine x_iload_n dX6_waves1_143 rfl ?_
      exact x_iret .int dX6_waves1_144 rfl rfl (by decide) (by decide) (rfl) (rfl)
    unfold wvM at fin ⊢
    generalize goP (s.1 0) (s.1 6) (s.1 0 2) 0 = G0 at *
    refine xP.eq (h' := putMod h m (mR (mR s 6 G0) 0 (wvO (wvG (s.1 0)) (s.1 0 1) (s.1 0, 0) 0).1)) rfl rfl rfl (by show putMod h m (mR s 6 G0) = putMod h m (mR (mR s 6 G0) 0 (s.1 0)); rw [show s.1 0 = (mR s 6 G0).1 0 from rfl, mR_self]) ?_
    refine xP.weak (V' := [some (.ref m), some (.int (nI (wvO (wvG (s.1 0)) (s.1 0 1) (s.1 0, 0) 0).2)), some (.int (nI 0)), none]) (by simp [xle, xset1, fin3, wvO]) ?_
    refine xP.loop (fun i => [some (.ref m), some (.int (nI (wvO (wvG (s.1 0)) (s.1 0 1) (s.1 0, 0) i).2)), some (.int (nI i)), none]) (fun i => putMod h m (mR (mR s 6 G0) 0 (wvO (wvG (s.1 0)) (s.1 0 1) (s.1 0, 0) i).1)) (s.1 0 2) ?_ ?_
    · intro i hi ih
      have h1 := wvO_rK (q := (s.1 0, 0)) (wvG_lt (s.1 0)) hN hw i (by omega)
      have e2 : (wvO (wvG (s.1 0)) (s.1 0 1) (s.1 0, 0) i).1 2 = s.1 0 2 := wvO_lo (by decide) i
      have e1 : (wvO (wvG (s.1 0)) (s.1 0 1) (s.1 0, 0) i).1 1 = s.1 0 1 := wvO_lo (by decide) i
      have hn1 := wvO_n (G := wvG (s.1 0)) (q := (s.1 0, 0)) hN i
      dsimp only at hn1
      rw [wvO] at ih
      generalize wvO (wvG (s.1 0)) (s.1 0 1) (s.1 0, 0) i = q at *
      refine x_iload_n dX6_waves1_66 rfl ?_
      refine x_aload_n dX6_waves1_67 rfl ?_
      refine x_vi0 dX6_waves1_68 cV_X6_169 (c_mPictures putMod_at) rfl rfl ⟨⟨by decide, by decide⟩, by decide, by decide⟩ (Nat.le_of_ble_eq_true rfl) (xrecv putMod_at.o rfl xcl5) ?_
      refine xP.eq (S' := [.int (nI (s.1 0 2)), .int (nI i)]) rfl rfl (by show _ = [Value.int (nI (q.1 2)), _]; rw [e2]) rfl ?_
      refine x_icmp_ge_n 133 dX6_waves1_71 (by decide) (by omega) (by omega) (fun c1 => ?_) (fun c1 => ?_)
      · omega
      · refine x_iconst (nI 0) dX6_waves1_74 (by decide) ?_
        refine x_istore_n dX6_waves1_75 (by decide) rfl rfl ?_
        refine xP.eq (h' := putMod h m (mR (mR s 6 G0) 0 (wvI (wvG (s.1 0)) q i 0).1)) rfl rfl rfl rfl ?_
        refine xP.weak (V' := [some (.ref m), some (.int (nI (wvI (wvG (s.1 0)) q i 0).2)), some (.int (nI i)), some (.int (nI 0))]) (by simp [xle, xset1, fin3, wvI]) ?_
        refine xP.loop (fun k => [some (.ref m), some (.int (nI (wvI (wvG (s.1 0)) q i k).2)), some (.int (nI i)), some (.int (nI k))]) (fun k => putMod h m (mR (mR s 6 G0) 0 (wvI (wvG (s.1 0)) q i k).1)) (s.1 0 1) ?_ ?_
        · intro k hk ih
          have h3 := wvI_rK (wvG_lt (s.1 0)) h1 (p := i) (by omega) k (by omega)
          have e3 : (wvI (wvG (s.1 0)) q i k).1 1 = s.1 0 1 := (wvI_lo (by decide) k).trans e1
          have hn2 := wvI_n (G := wvG (s.1 0)) (q := q) (p := i) k
          have hg := hG i k hi hk
          have hgl := wvG_lt (s.1 0) i k
          rw [wvI] at ih
          generalize wvI (wvG (s.1 0)) q i k = r at *
          have ca := c_mSetsCopy (g := g) (l := l) (h := h) (m := m) (s := mR (mR s 6 G0) 0 r.1) (p := i) (f := k) (x := wvG (s.1 0) i k) (by omega) (by omega)
          refine x_iload_n dX6_waves1_76 rfl ?_
          refine x_aload_n dX6_waves1_77 rfl ?_
          refine x_vi0 dX6_waves1_78 cV_X6_67 (c_mFamilies putMod_at) rfl rfl ⟨⟨by decide, by decide⟩, by decide, by decide⟩ (Nat.le_of_ble_eq_true rfl) (xrecv putMod_at.o rfl xcl5) ?_
          refine xP.eq (S' := [.int (nI (s.1 0 1)), .int (nI k)]) rfl rfl (by show _ = [Value.int (nI (r.1 1)), _]; rw [e3]) rfl ?_
          refine x_icmp_ge_n 127 dX6_waves1_81 (by decide) (by omega) (by omega) (fun c2 => ?_) (fun c2 => ?_)
          · omega
          · refine x_aload_n dX6_waves1_84 rfl ?_
            refine x_getf dX6_waves1_85 f_X6_36 putMod_at.o rfl ?_
            refine x_bipush (nI 10) dX6_waves1_88 (by decide) ?_
            refine x_iload_n dX6_waves1_90 rfl ?_
            refine x_imul_n dX6_waves1_91 ?_
            refine x_iload_n dX6_waves1_92 rfl ?_
            refine x_iadd_n dX6_waves1_93 ?_
            refine x_iald_n dX6_waves1_94 putMod_at.got (by omega) (by decide) ?_
            refine xP.eq (S' := [.int (nI (wvG (s.1 0) i k))]) rfl rfl (by rw [← hg]; rfl) rfl ?_
            refine x_if_ne_n 101 dX6_waves1_95 (by decide) (by omega) (fun c3 => ?_) (fun c3 => ?_)
            · have e : wv1 (wvG (s.1 0)) r i k = (va_up r.1 (125 + 19 * i + 9 + k) (wvG (s.1 0) i k), r.2 + 1) := by unfold wv1; rw [if_neg (by omega)]
              rw [e] at ih
              refine x_aload_n dX6_waves1_101 rfl ?_
              refine x_iload_n dX6_waves1_102 rfl ?_
              refine x_iload_n dX6_waves1_103 rfl ?_
              refine x_aload_n dX6_waves1_104 rfl ?_
              refine x_getf dX6_waves1_105 f_X6_36 putMod_at.o rfl ?_
              refine x_bipush (nI 10) dX6_waves1_108 (by decide) ?_
              refine x_iload_n dX6_waves1_110 rfl ?_
              refine x_imul_n dX6_waves1_111 ?_
              refine x_iload_n dX6_waves1_112 rfl ?_
              refine x_iadd_n dX6_waves1_113 ?_
              refine x_iald_n dX6_waves1_114 putMod_at.got (by omega) (by decide) ?_
              refine xP.eq (S' := [.int (nI (wvG (s.1 0) i k)), .int (nI k), .int (nI i), .ref m]) rfl rfl (by rw [← hg]; rfl) rfl ?_
              refine x_vv0 dX6_waves1_115 cV_X6_172 (ca) rfl rfl ⟨⟨by decide, by decide⟩, by decide, by decide⟩ (Nat.le_of_ble_eq_true rfl) (xrecv putMod_at.o rfl xcl5) ?_
              refine xP.eq (h' := putMod h m (mR (mR s 6 G0) 0 (va_up r.1 (125 + 19 * i + 9 + k) (wvG (s.1 0) i k)))) rfl rfl rfl (by rw [mR_R]; rfl) ?_
              refine x_iinc_n (k := 1) dX6_waves1_118 rfl (by decide) (by decide) rfl rfl ?_
              refine x_iinc_n (k := 1) dX6_waves1_121 rfl (by decide) (by decide) rfl rfl ?_
              refine x_goto 76 dX6_waves1_124 (by decide) ?_
              exact xP.weak (by simp [xle, xset1, fin3]) ih
            · have e : wv1 (wvG (s.1 0)) r i k = r := by unfold wv1; rw [if_pos (by omega)]
              rw [e] at ih
              refine x_goto 121 dX6_waves1_98 (by decide) ?_
              refine x_iinc_n (k := 1) dX6_waves1_121 rfl (by decide) (by decide) rfl rfl ?_
              refine x_goto 76 dX6_waves1_124 (by decide) ?_
              exact xP.weak (by simp [xle, xset1, fin3]) ih
        · have e3 : (wvI (wvG (s.1 0)) q i (s.1 0 1)).1 1 = s.1 0 1 := (wvI_lo (by decide) _).trans e1
          refine x_iload_n dX6_waves1_76 rfl ?_
          refine x_aload_n dX6_waves1_77 rfl ?_
          refine x_vi0 dX6_waves1_78 cV_X6_67 (c_mFamilies putMod_at) rfl rfl ⟨⟨by decide, by decide⟩, by decide, by decide⟩ (Nat.le_of_ble_eq_true rfl) (xrecv putMod_at.o rfl xcl5) ?_
          refine xP.eq (S' := [.int (nI (s.1 0 1)), .int (nI (s.1 0 1))]) rfl rfl (by show _ = [Value.int (nI ((wvI (wvG (s.1 0)) q i (s.1 0 1)).1 1)), _]; rw [e3]) rfl ?_
          refine x_icmp_ge_n 127 dX6_waves1_81 (by decide) (by omega) (by omega) (fun c2 => ?_) (fun c2 => ?_)
          · refine x_iinc_n (k := 1) dX6_waves1_127 rfl (by decide) (by decide) rfl rfl ?_
            refine x_goto 66 dX6_waves1_130 (by decide) ?_
            exact xP.weak (by simp [xle, xset1, fin3]) ih
          · omega
    · have e2 : (wvO (wvG (s.1 0)) (s.1 0 1) (s.1 0, 0) (s.1 0 2)).1 2 = s.1 0 2 := wvO_lo (by decide) _
      refine x_iload_n dX6_waves1_66 rfl ?_
      refine x_aload_n dX6_waves1_67 rfl ?_
      refine x_vi0 dX6_waves1_68 cV_X6_169 (c_mPictures putMod_at) rfl rfl ⟨⟨by decide, by decide⟩, by decide, by decide⟩ (Nat.le_of_ble_eq_true rfl) (xrecv putMod_at.o rfl xcl5) ?_
      refine xP.eq (S' := [.int (nI (s.1 0 2)), .int (nI (s.1 0 2))]) rfl rfl (by show _ = [Value.int (nI ((wvO (wvG (s.1 0)) (s.1 0 1) (s.1 0, 0) (s.1 0 2)).1 2)), _]; rw [e2]) rfl ?_
      refine x_icmp_ge_n 133 dX6_waves1_71 (by decide) (by omega) (by omega) (fun c1 => ?_) (fun c1 => ?_)
      · exact fin _
      · omega
end M17
