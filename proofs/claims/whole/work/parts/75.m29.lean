/-! ===== the model: a text is read: families, neighbours ===== -/
def wr0 (s : Mo) : Bool := decide (s.2.2.1 0 = 0)
def rf1 (s : Mo) : Mo := if s.1 0 1 = 10 then flS s (-7) else s
def rf2 (s : Mo) : Mo := mnS (muS (isWB (rf1 s) W1) (rf1 s))
def rf3 (f : Nat) (s : Mo) : Mo := if namedV s 9 f 12 = none then s else flS s (-5)
def rf5 (f : Nat) (s : Mo) : Mo := lexS (pnS s (5 + 12 * f + 4)) (s.2.1 4)
def rf6 (f : Nat) (s : Mo) : Mo := mR (nxS (stS 1 20 s)) 0 (va_up ((nxS (stS 1 20 s)).1 0) (5 + 12 * f + 0) (stV (stS 1 20 s)))
def rf7 (s : Mo) : Mo := muS (endB s) s
def rf8 (s : Mo) : Mo := mR s 0 (va_up (s.1 0) 1 (s.1 0 1 + 1))
def rfS (s : Mo) : Mo := if (rf3 (s.1 0 1) (rf2 s)).2.2.1 0 = 0 then rf8 (rf7 (rf6 (s.1 0 1) (rf5 (s.1 0 1) (rf3 (s.1 0 1) (rf2 s))))) else rf3 (s.1 0 1) (rf2 s)
theorem lex_1 (s : Mo) (p : Nat) : (lexS s p).1 = s.1 := (lex_row s p).1
theorem nx_1 (s : Mo) : (nxS s).1 = s.1 := by
  unfold nxS
  split
  · exact lex_1 _ _
  · rfl
theorem mu_1 (r : Bool) (s : Mo) : (muS r s).1 = s.1 := by
  unfold muS
  rw [nx_1]
  split
  · rfl
  · exact flS_row
theorem st_1 (lo hi : Nat) (s : Mo) : (stS lo hi s).1 = s.1 := by
  have a1 : (st1 s).1 = s.1 := by
    unfold st1
    split
    · exact flS_row
    · rfl
  show (st2 lo hi (st1 s)).1 = _
  unfold st2
  split
  · exact flS_row.trans a1
  · exact a1
theorem fh_1 (s : Mo) : (fhS s).1 = s.1 := by
  unfold fhS
  split
  · exact flS_row.trans mnS_row
  · exact mnS_row
theorem g_rf1 {s : Mo} (h : LI s) : GG s (rf1 s) ∧ ((rf1 s).2.2.1 0 = 0 → s.1 0 1 < 10) ∧ (rf1 s).1 = s.1 := by
  unfold rf1
  by_cases c : s.1 0 1 = 10
  · rw [if_pos c]
    exact ⟨g_fl h (by decide), fun q => absurd q (flS_wr (by decide)), flS_row⟩
  · rw [if_neg c]
    exact ⟨GG.rf h, fun _ => by have := h.2.2.2.1.lim; omega, rfl⟩
theorem g_rf3 {s : Mo} (h : LI s) (f : Nat) : GG s (rf3 f s) ∧ (rf3 f s).1 = s.1 := by
  unfold rf3
  split
  · exact ⟨GG.rf h, rfl⟩
  · exact ⟨g_fl h (by decide), flS_row⟩
theorem pnS_sgn {s : Mo} (h : LI s) : ∀ k, k < 8 → sgW s k ≤ 255 := fun k _ => Nat.le_of_lt_succ (sgW_lt h.1 k)
theorem xv0 : xWd 7 W0 := ⟨_, rfl, by decide, by decide, by decide⟩
theorem xv1 : xWd 8 W1 := ⟨_, rfl, by decide, by decide, by decide⟩
theorem xv2 : xWd 9 W2 := ⟨_, rfl, by decide, by decide, by decide⟩
theorem xv3 : xWd 10 W3 := ⟨_, rfl, by decide, by decide, by decide⟩
theorem xv4 : xWd 11 W4 := ⟨_, rfl, by decide, by decide, by decide⟩
theorem xv5 : xWd 12 W5 := ⟨_, rfl, by decide, by decide, by decide⟩
theorem xv6 : xWd 13 W6 := ⟨_, rfl, by decide, by decide, by decide⟩
theorem rf5_1 (f : Nat) (s : Mo) : (rf5 f s).1 0 = cpT (s.1 0) (sgW s) (5 + 12 * f + 4) 0 8 := by
  unfold rf5
  rw [lex_1]
  rfl
theorem rf6_0 (f : Nat) (s : Mo) : (rf6 f s).1 0 = va_up (s.1 0) (5 + 12 * f + 0) (stV (stS 1 20 s)) := by
  unfold rf6
  have e : ∀ (S : Mo) (A : Nat → Nat), (mR S 0 A).1 0 = A := fun _ _ => rfl
  rw [e, nx_1, st_1]
theorem rf7_1 (s : Mo) : (rf7 s).1 = s.1 := by
  unfold rf7
  exact mu_1 _ _
theorem g_rf5 {s : Mo} (h : LI s) {f : Nat} (hN : f < 10) : GG s (rf5 f s) := by
  have hb : rB (cpT (s.1 0) (sgW s) (5 + 12 * f + 4) 0 8) := h.2.2.2.1.name (pnS_sgn h) (Or.inl ⟨f, hN, rfl⟩)
  have c0 : cpT (s.1 0) (sgW s) (5 + 12 * f + 4) 0 8 0 = s.1 0 0 := by unfold cpT; rw [if_neg (by omega)]
  have g1 : GG s (pnS s (5 + 12 * f + 4)) := g_row h hb (fun q => by rw [c0]; exact h.2.2.2.2 q)
  unfold rf5
  have g2 := (g_lex g1.1).1
  have e4 : (pnS s (5 + 12 * f + 4)).2.1 4 = s.2.1 4 := rfl
  rw [e4] at g2
  exact g1.tr g2
theorem g_rf6 {s : Mo} (h : LI s) {f : Nat} (hf : f = s.1 0 1) (hN : f < 10) : GG s (rf6 f s) := by
  have g3 := g_st h 1 20
  have g4 := (g_nx g3.1).1
  have hv := (st_val (s := s) (lo := 1) (hi := 20) (by decide) (by decide) h.2.1.2.2.2).1
  have r4 : (nxS (stS 1 20 s)).1 0 1 = f := by rw [nx_1, st_1]; exact hf.symm
  unfold rf6
  generalize stV (stS 1 20 s) = v at *
  generalize nxS (stS 1 20 s) = T at *
  have hb4 : rB (va_up (T.1 0) (5 + 12 * f + 0) v) := g4.1.2.2.2.1.up (by omega) (by rw [cbd_f hN (by decide), if_pos rfl]; exact hv) (by omega) (fun f' hf' => by rw [r4] at hf'; omega) (fun p f' _ _ => by omega)
  exact (g3.tr g4).tr (g_row g4.1 hb4 (fun q => by rw [va_up_ne _ _ (by omega)]; exact g4.1.2.2.2.2 q))
theorem g_rf7 {s : Mo} (h : LI s) : GG s (rf7 s) := by
  unfold rf7
  exact (g_mu h _).1
theorem g_rf8 {s : Mo} (h : LI s) (hN : s.1 0 1 < 10) : GG s (rf8 s) := by
  unfold rf8
  exact g_row h (h.2.2.2.1.fam1 hN) (fun q => by rw [va_up_ne _ _ (by decide)]; exact h.2.2.2.2 q)
theorem g_rf4 {s : Mo} (h : LI s) {f : Nat} (hf : f = s.1 0 1) (hN : f < 10) : GG s (rf8 (rf7 (rf6 f (rf5 f s)))) ∧ GG s (rf5 f s) ∧ GG s (rf6 f (rf5 f s)) ∧ GG s (rf7 (rf6 f (rf5 f s))) ∧ (rf7 (rf6 f (rf5 f s))).1 0 1 = f := by
  have g2 := g_rf5 h hN
  have r2 : (rf5 f s).1 0 1 = f := by
    rw [rf5_1]
    unfold cpT
    rw [if_neg (by omega)]
    exact hf.symm
  have g5 := g_rf6 g2.1 r2.symm hN
  have r5 : (rf6 f (rf5 f s)).1 0 1 = f := by rw [rf6_0, va_up_ne _ _ (by omega)]; exact r2
  have g6 := g_rf7 g5.1
  have r6 : (rf7 (rf6 f (rf5 f s))).1 0 1 = f := by rw [rf7_1]; exact r5
  have g7 := g_rf8 g6.1 (by rw [r6]; exact hN)
  have g25 := g2.tr g5
  have g26 := g25.tr g6
  exact ⟨g26.tr g7, g2, g25, g26, r6⟩
theorem rf2_1 (s : Mo) : (rf2 s).1 = s.1 := by
  unfold rf2
  rw [mnS_row, mu_1]
  unfold rf1
  split
  · exact flS_row
  · rfl
theorem g_rf2 {s : Mo} (h : LI s) : GG s (rf2 s) ∧ GG (rf1 s) (rf2 s) := by
  have g1 := g_rf1 h
  have g2 := g_mu g1.1.1 (isWB (rf1 s) W1)
  have g3 := g_mn g2.1.1
  unfold rf2
  have g4 := g2.1.tr g3
  exact ⟨g1.1.tr g4, g4⟩
theorem g_rf {s : Mo} (h : LI s) : GG s (rfS s) := by
  have g1 := g_rf1 h
  have g2 := g_rf2 h
  have g4 := g_rf3 g2.1.1 (s.1 0 1)
  have e4 : (rf3 (s.1 0 1) (rf2 s)).1 = s.1 := g4.2.trans (rf2_1 s)
  have g5 : GG s (rf3 (s.1 0 1) (rf2 s)) := g2.1.tr g4.1
  unfold rfS
  split
  · rename_i c
    have hN := g1.2.1 ((g2.2.tr g4.1).2.2.1 c)
    exact g5.tr (g_rf4 g5.1 (by rw [e4]) hN).1
  · exact g5
/-! neighbours -/
def rn1 (a b : Option Nat) (s : Mo) : Mo := if s.2.2.1 0 = 0 ∧ (a = b ∨ (rF (s.1 0) (a.getD 0) 3).testBit (b.getD 0) = true) then flS s (-5) else s
def rn2 (a b : Option Nat) (s : Mo) : Mo := if s.2.2.1 0 = 0 then jnS s (a.getD 0) (b.getD 0) else s
def rnA (s : Mo) : Mo := muS true s
def rnB (s : Mo) : Mo := muS true (fhS (rnA s))
def rnC (s : Mo) : Mo := muS true (rn1 (fhV (rnA s)) (fhV (rnB s)) (fhS (rnB s)))
def rnD (s : Mo) : Mo := rn2 (fhV (rnA s)) (fhV (rnB s)) (rnC s)
def rnS (s : Mo) : Mo := muS (endB (rnD s)) (rnD s)
theorem rB.join {A : Nat → Nat} (h : rB A) {a b : Nat} (ha : a < 10) (hb : b < 10) : rB (jnA A a b) := by
  have p2 : ∀ x : Nat, x < 10 → 2 ^ x < 2 ^ 10 := fun x hx => Nat.pow_lt_pow_right (by decide) hx
  have lim3 : ∀ B : Nat → Nat, rB B → ∀ f, f < 10 → rF B f 3 < 2 ^ 10 := fun B hB f hf => by
    have := hB.1 (5 + 12 * f + 3) (by omega)
    rw [cbd_f hf (by decide), if_neg (by decide), if_neg (by decide), if_pos rfl] at this
    show B (5 + 12 * f + 3) < 1024
    omega
  have h1 : rB (va_up A (5 + 12 * a + 3) (rF A a 3 ||| 2 ^ b)) := h.up (by omega) (by
    have := Nat.or_lt_two_pow (lim3 A h a ha) (p2 b hb)
    rw [cbd_f ha (by decide)]
    show _ ≤ 1023
    omega) (by omega) (fun f hf => by omega) (fun p f _ _ => by omega)
  exact h1.up (by omega) (by
    have := Nat.or_lt_two_pow (lim3 _ h1 b hb) (p2 a ha)
    rw [cbd_f hb (by decide)]
    show _ ≤ 1023
    omega) (by omega) (fun f hf => by omega) (fun p f _ _ => by omega)
theorem g_rn1 {s : Mo} (h : LI s) (a b : Option Nat) : GG s (rn1 a b s) := by
  unfold rn1
  split
  · exact g_fl h (by decide)
  · exact GG.rf h
theorem rnA_1 (s : Mo) : (rnA s).1 = s.1 := by unfold rnA; exact mu_1 _ _
theorem rnB_1 (s : Mo) : (rnB s).1 = s.1 := by unfold rnB; rw [mu_1, fh_1]; exact rnA_1 s
theorem g_rnA {s : Mo} (h : LI s) : GG s (rnA s) := by unfold rnA; exact (g_mu h true).1
theorem g_rnB {s : Mo} (h : LI s) : GG (fhS (rnA s)) (rnB s) := by unfold rnB; exact (g_mu (g_fh (g_rnA h).1).1.1 true).1
/-- what is known where nothing is wrong behind the names -/
theorem g_rnAB {s : Mo} (h : LI s) : GG s (rnA s) ∧ GG s (fhS (rnA s)) ∧ GG s (rnB s) ∧ GG s (fhS (rnB s)) ∧ ((fhS (rnB s)).2.2.1 0 = 0 → ∃ i j, fhV (rnA s) = some i ∧ fhV (rnB s) = some j ∧ i < s.1 0 1 ∧ j < s.1 0 1) ∧ (fhS (rnB s)).1 = s.1 ∧ (rnA s).1 = s.1 ∧ (rnB s).1 = s.1 := by
  have g1 := g_rnA h
  have g2 := g_fh g1.1
  have g3 := g_rnB h
  have g12 : GG s (fhS (rnA s)) := g1.tr g2.1
  have g13 : GG s (rnB s) := g12.tr g3
  have g4 := g_fh g13.1
  have e1 := rnA_1 s
  have e3 := rnB_1 s
  generalize rnB s = B at *
  generalize rnA s = A at *
  refine ⟨g1, g12, g13, g13.tr g4.1, fun q => ?_, (fh_1 _).trans e3, e1, e3⟩
  obtain ⟨j, hj, hj2⟩ := g4.2 q
  obtain ⟨i, hi, hi2⟩ := g2.2 ((g3.tr g4.1).2.2.1 q)
  rw [e1] at hi2
  rw [e3] at hj2
  exact ⟨i, j, hi, hj, hi2, hj2⟩
theorem g_rnC {s : Mo} (h : LI s) : GG (fhS (rnB s)) (rnC s) := by
  obtain ⟨g1, g2, g3, g4, hv, e, -, -⟩ := g_rnAB h
  unfold rnC
  have g5 := g_rn1 g4.1 (fhV (rnA s)) (fhV (rnB s))
  exact g5.tr (g_mu g5.1 true).1
theorem g_rnD {s : Mo} (h : LI s) : GG (rnC s) (rnD s) := by
  obtain ⟨g1, g2, g3, g4, hv, e, -, -⟩ := g_rnAB h
  have g6 := g_rnC h
  have hl := h.2.2.2.1.lim
  unfold rnD rn2
  split
  · rename_i c
    obtain ⟨i, j, hi, hj, hi2, hj2⟩ := hv (g6.2.2.1 c)
    rw [hi, hj]
    show GG (rnC s) (jnS (rnC s) i j)
    rw [jnS_eq]
    generalize rnC s = C at *
    exact g_row g6.1 (g6.1.2.2.2.1.join (by omega) (by omega)) (fun q => by rw [jnA_ne (by omega) (by omega)]; exact g6.1.2.2.2.2 q)
  · exact GG.rf g6.1
theorem g_rn {s : Mo} (h : LI s) : GG s (rnS s) := by
  obtain ⟨g1, g2, g3, g4, hv, e, -, -⟩ := g_rnAB h
  have g6 := g_rnC h
  have g7 := g_rnD h
  have g46 := g4.tr g6
  have g47 := g46.tr g7
  unfold rnS
  generalize rnD s = D at *
  exact g47.tr (g_mu g47.1 (endB D)).1
section M29
variable {g : xG} {l : Launch} {h : xH} {m : Nat} {s : Mo}
theorem LI.b24 (hs : LI s) : ∀ k, k < 353 → s.1 0 k < 2 ^ 24 := fun k hk => Nat.lt_of_le_of_lt (hs.2.2.2.1.1 k hk) (cbd_le (by decide))
theorem LI.beh (hs : LI s) : s.2.1 4 < 1000 := by have := hs.2.1.2.1; omega
theorem c_mReadsFamily (hs : LI s) : xDet g l mX6_readsFamily 5 0 0 [.ref m] (putMod h m s) none (putMod h m (rfS s)) := by
  have hl := hs.2.2.2.1.lim
  have g1 := g_rf1 hs
  have g2 := g_mu g1.1.1 (isWB (rf1 s) W1)
  have g3 := (g_rf2 hs).1
  have g4 := g_rf3 g3.1 (s.1 0 1)
  have e4 : (rf3 (s.1 0 1) (rf2 s)).1 = s.1 := g4.2.trans (rf2_1 s)
  have hN : (rf3 (s.1 0 1) (rf2 s)).2.2.1 0 = 0 → s.1 0 1 < 10 := fun c => g1.2.1 (((g_rf2 hs).2.tr g4.1).2.2.1 c)
  refine xMet.of (V := [some (.ref m), none]) moX6_readsFamily (Nat.le_of_ble_eq_true rfl) rfl ?_
  refine x_aload_n dX6_readsFamily_0 rfl ?_
  refine x_vi0 dX6_readsFamily_1 cV_X6_67 (c_mFamilies putMod_at) rfl rfl ⟨⟨by decide, by decide⟩, by decide, by decide⟩ (Nat.le_of_ble_eq_true rfl) (xrecv putMod_at.o rfl xcl5) ?_
  refine x_istore_n dX6_readsFamily_4 (by decide) rfl rfl ?_
  have last : ∀ t : Mo, LI t → (t.2.2.1 0 = 0 → s.1 0 1 < 10) → t.1 0 1 = s.1 0 1 → xP g l mX6_readsFamily [] (xR 5 0 0) (xZ g (fun r' h' => r' = none ∧ h' = putMod h m (if t.2.2.1 0 = 0 then rf8 (rf7 (rf6 (s.1 0 1) (rf5 (s.1 0 1) t))) else t)) xno 0 0) 50 [some (.ref m), some (.int (nI (s.1 0 1)))] [] (putMod h m t) 0 0 := by
    intro t ht hN et
    refine x_aload_n dX6_readsFamily_50 rfl ?_
    refine x_getf dX6_readsFamily_51 f_X6_107 putMod_at.o rfl ?_
    refine x_if_eq 58 dX6_readsFamily_54 (by decide) (fun c1 => ?_) (fun c1 => ?_)
    rotate_left
    · rw [if_neg c1]
      exact x_vret dX6_readsFamily_57 rfl (by decide) (by decide) rfl (rfl)
    rw [if_pos c1]
    have hN2 := hN c1
    obtain ⟨k1, k2, k3, k4, k5⟩ := g_rf4 ht et.symm hN2
    have cp := c_mPutsName (g := g) (l := l) (h := h) (m := m) (s := t) ht.1 ht.2.1 (to := 5 + 12 * s.1 0 1 + 4) (by omega)
    have cn : xDet g l mX6_next 2 0 0 [.ref m] (putMod h m (pnS t (5 + 12 * s.1 0 1 + 4))) none (putMod h m (rf5 (s.1 0 1) t)) := by
      unfold rf5
      exact c_mNext (g := g) (l := l) (h := h) (m := m) (s := pnS t (5 + 12 * s.1 0 1 + 4)) ht.1 ht.beh
    have ct := c_mTakes (g := g) (l := l) (h := h) (m := m) (s := rf5 (s.1 0 1) t) (lo := 1) (hi := 20) k2.1.1 k2.1.2.1
    have cs : xDet g l mX6_setsOf 0 0 0 [.ref m, .int (nI (s.1 0 1)), .int (nI 0), .int (nI (stV (stS 1 20 (rf5 (s.1 0 1) t))))] (putMod h m (nxS (stS 1 20 (rf5 (s.1 0 1) t)))) none (putMod h m (rf6 (s.1 0 1) (rf5 (s.1 0 1) t))) := by
      unfold rf6
      exact c_mSetsOf (s := nxS (stS 1 20 (rf5 (s.1 0 1) t))) (f := s.1 0 1) (i := 0) hN2 (by decide)
    have ce : xDet g l mX6_mustEnd 4 0 0 [.ref m] (putMod h m (rf6 (s.1 0 1) (rf5 (s.1 0 1) t))) none (putMod h m (rf7 (rf6 (s.1 0 1) (rf5 (s.1 0 1) t)))) := by
      unfold rf7
      exact c_mMustEnd k3.1.1 k3.1.2.1
    refine x_aload_n dX6_readsFamily_58 rfl ?_
    refine x_iconst (nI 5) dX6_readsFamily_59 (by decide) ?_
    refine x_bipush (nI 12) dX6_readsFamily_60 (by decide) ?_
    refine x_iload_n dX6_readsFamily_62 rfl ?_
    refine x_imul_n dX6_readsFamily_63 ?_
    refine x_iadd_n dX6_readsFamily_64 ?_
    refine x_iconst (nI 4) dX6_readsFamily_65 (by decide) ?_
    refine x_iadd_n dX6_readsFamily_66 ?_
    refine x_vv0 dX6_readsFamily_67 cV_X6_149 (cp) rfl rfl ⟨⟨by decide, by decide⟩, by decide, by decide⟩ (Nat.le_of_ble_eq_true rfl) (xrecv putMod_at.o rfl xcl5) ?_
    refine x_aload_n dX6_readsFamily_70 rfl ?_
    refine x_vv0 dX6_readsFamily_71 cV_X6_126 (cn) rfl rfl ⟨⟨by decide, by decide⟩, by decide, by decide⟩ (Nat.le_of_ble_eq_true rfl) (xrecv putMod_at.o rfl xcl5) ?_
    refine x_aload_n dX6_readsFamily_74 rfl ?_
    refine x_iload_n dX6_readsFamily_75 rfl ?_
    refine x_iconst (nI 0) dX6_readsFamily_76 (by decide) ?_
    refine x_aload_n dX6_readsFamily_77 rfl ?_
    refine x_iconst (nI 1) dX6_readsFamily_78 (by decide) ?_
    refine x_bipush (nI 20) dX6_readsFamily_79 (by decide) ?_
    refine x_vi0 dX6_readsFamily_81 cV_X6_152 (ct) rfl rfl ⟨⟨by decide, by decide⟩, by decide, by decide⟩ (Nat.le_of_ble_eq_true rfl) (xrecv putMod_at.o rfl xcl5) ?_
    refine x_vv0 dX6_readsFamily_84 cV_X6_45 (cs) rfl rfl ⟨⟨by decide, by decide⟩, by decide, by decide⟩ (Nat.le_of_ble_eq_true rfl) (xrecv putMod_at.o rfl xcl5) ?_
    refine x_aload_n dX6_readsFamily_87 rfl ?_
    refine x_vv0 dX6_readsFamily_88 cV_X6_155 (ce) rfl rfl ⟨⟨by decide, by decide⟩, by decide, by decide⟩ (Nat.le_of_ble_eq_true rfl) (xrecv putMod_at.o rfl xcl5) ?_
    generalize rf7 (rf6 (s.1 0 1) (rf5 (s.1 0 1) t)) = T at *
    refine x_aload_n dX6_readsFamily_91 rfl ?_
    refine x_getf dX6_readsFamily_92 f_X6_7 putMod_at.o rfl ?_
    refine x_iconst (nI 1) dX6_readsFamily_95 (by decide) ?_
    refine x_dup2 dX6_readsFamily_96 rfl rfl ?_
    refine x_iald_n dX6_readsFamily_97 putMod_at.a (by omega) (by decide) ?_
    refine x_iconst (nI 1) dX6_readsFamily_98 (by decide) ?_
    refine x_iadd_n dX6_readsFamily_99 ?_
    refine xq_X6_a dX6_readsFamily_100 (by decide) ?_
    exact x_vret dX6_readsFamily_101 rfl (by decide) (by decide) rfl (rfl)
  have mid : ∀ t : Mo, t = rf1 s → xP g l mX6_readsFamily [] (xR 5 0 0) (xZ g (fun r' h' => r' = none ∧ h' = putMod h m (rfS s)) xno 0 0) 17 [some (.ref m), some (.int (nI (s.1 0 1)))] [] (putMod h m t) 0 0 := by
    intro t et
    have gt := g1
    rw [← et] at gt
    have cm := c_mMust (g := g) (l := l) (h := h) (m := m) (s := t) (r := isWB t W1) gt.1.1.1 gt.1.1.beh
    have cn := c_mMustName (g := g) (l := l) (h := h) (m := m) (s := muS (isWB t W1) t) (by rw [et]; exact g2.1.1.2.1)
    have er : mnS (muS (isWB t W1) t) = rf2 s := by unfold rf2; rw [et]
    rw [er] at cn
    have cd := c_mNamed (g := g) (l := l) (putMod_at (h := h) (m := m) (s := rf2 s)) g3.1.b24 g3.1.1 g3.1.2.1 (fr := 9) (many := s.1 0 1) (sz := 12) (by omega) (by decide) (by decide) (fun i hi => by omega)
    have hlt : ∀ i, namedV (rf2 s) 9 (s.1 0 1) 12 = some i → i < 100 := fun i q => by have := namedV_lt q; omega
    have ho := oI_none hlt
    have hl3 := last (rf3 (s.1 0 1) (rf2 s)) g4.1.1 hN (by rw [e4])
    refine x_aload_n dX6_readsFamily_17 rfl ?_
    refine x_aload_n dX6_readsFamily_18 rfl ?_
    refine x_ldcS (j := 8) rfl rfl rfl dX6_readsFamily_19 ?_
    refine x_vi0 dX6_readsFamily_21 cV_X6_145 (c_mIsWord xv1 putMod_at gt.1.1.1 gt.1.1.2.1) rfl rfl ⟨⟨by decide, by decide⟩, by decide, by decide⟩ (Nat.le_of_ble_eq_true rfl) (xrecv putMod_at.o rfl xcl5) ?_
    refine x_vv0 dX6_readsFamily_24 cV_X6_129 (cm) rfl rfl ⟨⟨by decide, by decide⟩, by decide, by decide⟩ (Nat.le_of_ble_eq_true rfl) (xrecv putMod_at.o rfl xcl5) ?_
    refine x_aload_n dX6_readsFamily_27 rfl ?_
    refine x_vv0 dX6_readsFamily_28 cV_X6_136 (cn) rfl rfl ⟨⟨by decide, by decide⟩, by decide, by decide⟩ (Nat.le_of_ble_eq_true rfl) (xrecv putMod_at.o rfl xcl5) ?_
    refine x_aload_n dX6_readsFamily_31 rfl ?_
    refine x_bipush (nI 9) dX6_readsFamily_32 (by decide) ?_
    refine x_iload_n dX6_readsFamily_34 rfl ?_
    refine x_bipush (nI 12) dX6_readsFamily_35 (by decide) ?_
    refine x_vi0 dX6_readsFamily_37 cV_X6_139 (cd) rfl rfl ⟨⟨by decide, by decide⟩, by decide, by decide⟩ (Nat.le_of_ble_eq_true rfl) (xrecv putMod_at.o rfl xcl5) ?_
    refine x_iconst (-1) dX6_readsFamily_40 (by decide) ?_
    refine x_icmp_eq 50 dX6_readsFamily_41 (by decide) (fun c2 => ?_) (fun c2 => ?_)
    · have e : rf3 (s.1 0 1) (rf2 s) = rf2 s := by unfold rf3; rw [if_pos (ho.mp c2)]
      have e9 : rfS s = (if (rf3 (s.1 0 1) (rf2 s)).2.2.1 0 = 0 then rf8 (rf7 (rf6 (s.1 0 1) (rf5 (s.1 0 1) (rf3 (s.1 0 1) (rf2 s))))) else rf3 (s.1 0 1) (rf2 s)) := rfl
      rw [e9]
      rw [e] at hl3 ⊢
      exact hl3
    · have e : rf3 (s.1 0 1) (rf2 s) = flS (rf2 s) (-5) := by unfold rf3; rw [if_neg (fun q => c2 (ho.mpr q))]
      have e9 : rfS s = (if (rf3 (s.1 0 1) (rf2 s)).2.2.1 0 = 0 then rf8 (rf7 (rf6 (s.1 0 1) (rf5 (s.1 0 1) (rf3 (s.1 0 1) (rf2 s))))) else rf3 (s.1 0 1) (rf2 s)) := rfl
      rw [e9]
      rw [e] at hl3 ⊢
      refine x_aload_n dX6_readsFamily_44 rfl ?_
      refine x_bipush (-5) dX6_readsFamily_45 (by decide) ?_
      refine x_vv0 dX6_readsFamily_47 cV_X6_122 (c_mFails) rfl rfl ⟨⟨by decide, by decide⟩, by decide, by decide⟩ (Nat.le_of_ble_eq_true rfl) (xrecv putMod_at.o rfl xcl5) ?_
      exact hl3
  refine x_iload_n dX6_readsFamily_5 rfl ?_
  refine x_bipush (nI 10) dX6_readsFamily_6 (by decide) ?_
  refine x_icmp_ne_n 17 dX6_readsFamily_8 (by decide) (by omega) (by omega) (fun c0 => ?_) (fun c0 => ?_)
  · exact mid s (by unfold rf1; rw [if_neg c0])
  · refine x_aload_n dX6_readsFamily_11 rfl ?_
    refine x_bipush (-7) dX6_readsFamily_12 (by decide) ?_
    refine x_vv0 dX6_readsFamily_14 cV_X6_122 (c_mFails) rfl rfl ⟨⟨by decide, by decide⟩, by decide, by decide⟩ (Nat.le_of_ble_eq_true rfl) (xrecv putMod_at.o rfl xcl5) ?_
    exact mid _ (by unfold rf1; rw [if_pos c0])
theorem fhV_lt (hN : s.1 0 1 ≤ 10) : ∀ i, fhV s = some i → i < 100 := fun i q => by have := namedV_lt (s := mnS s) q; omega
theorem c_mReadsNear (hs : LI s) : xDet g l mX6_readsNear 5 0 0 [.ref m] (putMod h m s) none (putMod h m (rnS s)) := by
  obtain ⟨g1, g2, g3, g4, hv, e, eA, eB⟩ := g_rnAB hs
  have g5 := g_rn1 g4.1 (fhV (rnA s)) (fhV (rnB s))
  have hl := hs.2.2.2.1.lim
  have hA : (rnA s).1 0 1 ≤ 10 := by rw [eA]; exact hl.1
  have hB : (rnB s).1 0 1 ≤ 10 := by rw [eB]; exact hl.1
  have cA := c_mFamilyHere (g := g) (l := l) (h := h) (m := m) (s := rnA s) g1.1.b24 hA g1.1.1 g1.1.2.1
  have cB := c_mFamilyHere (g := g) (l := l) (h := h) (m := m) (s := rnB s) g3.1.b24 hB g3.1.1 g3.1.2.1
  have m1 : xDet g l mX6_must 3 0 0 [.ref m, .int (xb true)] (putMod h m s) none (putMod h m (rnA s)) := by
    unfold rnA
    exact c_mMust (r := true) hs.1 hs.beh
  have m2 : xDet g l mX6_must 3 0 0 [.ref m, .int (xb true)] (putMod h m (fhS (rnA s))) none (putMod h m (rnB s)) := by
    unfold rnB
    exact c_mMust (r := true) g2.1.1 g2.1.beh
  have oA := oI_none (fhV_lt hA)
  have oB := oI_none (fhV_lt hB)
  have g6 := g_rnC hs
  have g7 := g_rnD hs
  have m3 : xDet g l mX6_must 3 0 0 [.ref m, .int (xb true)] (putMod h m (rn1 (fhV (rnA s)) (fhV (rnB s)) (fhS (rnB s)))) none (putMod h m (rnC s)) := by
    unfold rnC
    exact c_mMust (r := true) g5.1.1 g5.1.beh
  have me : xDet g l mX6_mustEnd 4 0 0 [.ref m] (putMod h m (rnD s)) none (putMod h m (rnS s)) := by
    unfold rnS
    exact c_mMustEnd g7.1.1 g7.1.2.1
  have hwf : rnD s = rn2 (fhV (rnA s)) (fhV (rnB s)) (rnC s) := rfl
  have fin : xP g l mX6_readsNear [] (xR 5 0 0) (xZ g (fun r' h' => r' = none ∧ h' = putMod h m (rnS s)) xno 0 0) 47 [some (.ref m), some (.int (oI (fhV (rnA s)))), some (.int (oI (fhV (rnB s))))] [] (putMod h m (rn1 (fhV (rnA s)) (fhV (rnB s)) (fhS (rnB s)))) 0 0 := by
    refine x_aload_n dX6_readsNear_47 rfl ?_
    refine x_iconst (nI 1) dX6_readsNear_48 (by decide) ?_
    refine xP.eq (S' := [.int (xb true), .ref m]) rfl rfl rfl rfl ?_
    refine x_vv0 dX6_readsNear_49 cV_X6_129 (m3) rfl rfl ⟨⟨by decide, by decide⟩, by decide, by decide⟩ (Nat.le_of_ble_eq_true rfl) (xrecv putMod_at.o rfl xcl5) ?_
    refine x_aload_n dX6_readsNear_52 rfl ?_
    refine x_getf dX6_readsNear_53 f_X6_107 putMod_at.o rfl ?_
    refine x_if_ne 65 dX6_readsNear_56 (by decide) (fun c1 => ?_) (fun c1 => ?_)
    · have e2 : rnD s = rnC s := by rw [hwf]; unfold rn2; rw [if_neg c1]
      rw [e2] at me
      refine x_aload_n dX6_readsNear_65 rfl ?_
      refine x_vv0 dX6_readsNear_66 cV_X6_155 (me) rfl rfl ⟨⟨by decide, by decide⟩, by decide, by decide⟩ (Nat.le_of_ble_eq_true rfl) (xrecv putMod_at.o rfl xcl5) ?_
      exact x_vret dX6_readsNear_69 rfl (by decide) (by decide) rfl (rfl)
    · obtain ⟨i, j, hi, hj, hi2, hj2⟩ := hv (g6.2.2.1 c1)
      have e2 : rnD s = jnS (rnC s) i j := by rw [hwf]; unfold rn2; rw [if_pos c1, hi, hj]; rfl
      rw [e2] at me
      refine xP.weak (V' := [some (.ref m), some (.int (nI i)), some (.int (nI j))]) (by rw [hi, hj]; simp [xle, xset1, fin3, oI]) ?_
      have cj := c_mJoinsNear (g := g) (l := l) (h := h) (m := m) (s := rnC s) (a := i) (b := j) (g6.1.ok c1).ok (by omega) (by omega)
      refine x_aload_n dX6_readsNear_59 rfl ?_
      refine x_iload_n dX6_readsNear_60 rfl ?_
      refine x_iload_n dX6_readsNear_61 rfl ?_
      refine x_vv0 dX6_readsNear_62 cV_X6_165 (cj) rfl rfl ⟨⟨by decide, by decide⟩, by decide, by decide⟩ (Nat.le_of_ble_eq_true rfl) (xrecv putMod_at.o rfl xcl5) ?_
      refine x_aload_n dX6_readsNear_65 rfl ?_
      refine x_vv0 dX6_readsNear_66 cV_X6_155 (me) rfl rfl ⟨⟨by decide, by decide⟩, by decide, by decide⟩ (Nat.le_of_ble_eq_true rfl) (xrecv putMod_at.o rfl xcl5) ?_
      exact x_vret dX6_readsNear_69 rfl (by decide) (by decide) rfl (rfl)
  refine xMet.of (V := [some (.ref m), none, none]) moX6_readsNear (Nat.le_of_ble_eq_true rfl) rfl ?_
  refine x_aload_n dX6_readsNear_0 rfl ?_
  refine x_iconst (nI 1) dX6_readsNear_1 (by decide) ?_
  refine xP.eq (S' := [.int (xb true), .ref m]) rfl rfl rfl rfl ?_
  refine x_vv0 dX6_readsNear_2 cV_X6_129 (m1) rfl rfl ⟨⟨by decide, by decide⟩, by decide, by decide⟩ (Nat.le_of_ble_eq_true rfl) (xrecv putMod_at.o rfl xcl5) ?_
  refine x_aload_n dX6_readsNear_5 rfl ?_
  refine x_vi0 dX6_readsNear_6 cV_X6_158 (cA) rfl rfl ⟨⟨by decide, by decide⟩, by decide, by decide⟩ (Nat.le_of_ble_eq_true rfl) (xrecv putMod_at.o rfl xcl5) ?_
  refine x_istore_n dX6_readsNear_9 (by decide) rfl rfl ?_
  refine x_aload_n dX6_readsNear_10 rfl ?_
  refine x_iconst (nI 1) dX6_readsNear_11 (by decide) ?_
  refine xP.eq (S' := [.int (xb true), .ref m]) rfl rfl rfl rfl ?_
  refine x_vv0 dX6_readsNear_12 cV_X6_129 (m2) rfl rfl ⟨⟨by decide, by decide⟩, by decide, by decide⟩ (Nat.le_of_ble_eq_true rfl) (xrecv putMod_at.o rfl xcl5) ?_
  refine x_aload_n dX6_readsNear_15 rfl ?_
  refine x_vi0 dX6_readsNear_16 cV_X6_158 (cB) rfl rfl ⟨⟨by decide, by decide⟩, by decide, by decide⟩ (Nat.le_of_ble_eq_true rfl) (xrecv putMod_at.o rfl xcl5) ?_
  refine x_istore_n dX6_readsNear_19 (by decide) rfl rfl ?_
  refine x_aload_n dX6_readsNear_20 rfl ?_
  refine x_getf dX6_readsNear_21 f_X6_107 putMod_at.o rfl ?_
  refine x_if_ne 47 dX6_readsNear_24 (by decide) (fun c1 => ?_) (fun c1 => ?_)
  · rw [show rn1 (fhV (rnA s)) (fhV (rnB s)) (fhS (rnB s)) = fhS (rnB s) by unfold rn1; rw [if_neg (fun q => c1 q.1)]] at fin
    exact fin
  · obtain ⟨i, j, hi, hj, hi2, hj2⟩ := hv c1
    have twice : (i = j ∨ (rF (s.1 0) i 3).testBit j = true) → xP g l mX6_readsNear [] (xR 5 0 0) (xZ g (fun r' h' => r' = none ∧ h' = putMod h m (rnS s)) xno 0 0) 41 [some (.ref m), some (.int (oI (fhV (rnA s)))), some (.int (oI (fhV (rnB s))))] [] (putMod h m (fhS (rnB s))) 0 0 := by
      intro q
      rw [show rn1 (fhV (rnA s)) (fhV (rnB s)) (fhS (rnB s)) = flS (fhS (rnB s)) (-5) by
        unfold rn1
        rw [if_pos ⟨c1, by
          rw [hi, hj, e]
          rcases q with q | q
          · exact Or.inl (by rw [q])
          · exact Or.inr q⟩]] at fin
      refine x_aload_n dX6_readsNear_41 rfl ?_
      refine x_bipush (-5) dX6_readsNear_42 (by decide) ?_
      refine x_vv0 dX6_readsNear_44 cV_X6_122 (c_mFails) rfl rfl ⟨⟨by decide, by decide⟩, by decide, by decide⟩ (Nat.le_of_ble_eq_true rfl) (xrecv putMod_at.o rfl xcl5) ?_
      exact fin
    have ca := c_mAreNear (g := g) (l := l) (putMod_at (h := h) (m := m) (s := fhS (rnB s))) (g4.1.ok c1).ok (f := i) (o := j) (by omega) (by omega)
    rw [e] at ca
    rw [hi, hj] at twice fin
    refine xP.weak (V' := [some (.ref m), some (.int (nI i)), some (.int (nI j))]) (by rw [hi, hj]; simp [xle, xset1, fin3, oI]) ?_
    refine x_iload_n dX6_readsNear_27 rfl ?_
    refine x_iload_n dX6_readsNear_28 rfl ?_
    refine x_icmp_eq_n 41 dX6_readsNear_29 (by decide) (by omega) (by omega) (fun c2 => ?_) (fun c2 => ?_)
    · exact twice (Or.inl c2)
    · refine x_aload_n dX6_readsNear_32 rfl ?_
      refine x_iload_n dX6_readsNear_33 rfl ?_
      refine x_iload_n dX6_readsNear_34 rfl ?_
      refine x_vi0 dX6_readsNear_35 cV_X6_161 (ca) rfl rfl ⟨⟨by decide, by decide⟩, by decide, by decide⟩ (Nat.le_of_ble_eq_true rfl) (xrecv putMod_at.o rfl xcl5) ?_
      refine x_if_eq_b 47 dX6_readsNear_38 (by decide) (fun c3 => ?_) (fun c3 => ?_)
      · rw [show rn1 (some i) (some j) (fhS (rnB s)) = fhS (rnB s) by
          unfold rn1
          rw [if_neg (fun q => by
            rcases q.2 with q2 | q2
            · exact c2 (Option.some.inj q2)
            · have q2 : (rF ((fhS (rnB s)).1 0) i 3).testBit j = true := q2
              rw [e, c3] at q2
              cases q2)]] at fin
        exact fin
      · exact twice (Or.inr c3)
end M29
