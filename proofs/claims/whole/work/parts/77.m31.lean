/-! ===== the model: a text is read: pictures ===== -/
theorem g_rcD2 {s : Mo} (h : LI s) (p : Nat) : GG (rcA s) (rcD p s) := by
  have g1 := g_rcA h
  have g2 := g_fh g1.1
  have g3 := g_rcB g2.1.1 p ((fhV (rcA s)).getD 0)
  have g4 := g_rcC g3.1.1 ((fhV (rcA s)).getD 0)
  have g5 := (g_mu g4.1.1 true).1
  unfold rcD
  generalize rcA s = A at *
  exact g2.1.tr (g3.1.tr (g4.1.tr g5))
theorem g_rc2 {s : Mo} (h : LI s) {p n : Nat} (hp : p < s.1 0 2) : GG (rcD p s) (rcS p n s) := by
  obtain ⟨g1, hv⟩ := g_rcD h p
  have e := rcD_1 p s
  have hlim := h.2.2.2.1.lim
  unfold rcS
  split
  · rename_i c
    obtain ⟨f, hf, hf2, h0, hl⟩ := hv c
    rw [hf]
    show GG (rcD p s) (rcE p f n (rcP p f (rcD p s)))
    generalize rcD p s = D at *
    have g2 := g_rcP (f := f) g1.1 (by rw [e]; exact hp) (by rw [e]; exact hf2) (by rw [e]; exact hl)
    exact g2.tr (g_rcE g2.1 (by rw [rcP_lo (by decide), e]; exact hp) (by rw [rcP_lo (by decide), e]; exact hf2) (by rw [rcP_c (by omega)]; decide))
  · exact GG.rf g1.1
theorem isWB_tok {s : Mo} {W : List Nat} (h : isWB s W = true) : s.2.2.1 0 = 0 ∧ s.2.1 5 = 0 ∧ s.2.1 4 - s.2.1 3 = W.length ∧ mtB (s.1 5) (s.2.1 3) W = true := by
  unfold isWB at h
  rw [Bool.and_eq_true, decide_eq_true_eq] at h
  exact ⟨h.1.1, h.1.2.1, h.1.2.2, h.2⟩
theorem p_rc {s : Mo} (h : LI s) {p n : Nat} (hp : p < s.1 0 2) (hk : s.2.1 5 ≠ 3) (hw : (rcS p n s).2.2.1 0 = 0) : s.2.1 3 < (rcS p n s).2.1 3 := by
  have g2 := (g_rcD2 h p).tr (g_rc2 (n := n) h hp)
  have h1 := g2.2.2.1 hw
  have h2 := g2.2.2.2
  have h3 := h.2.2.1 hk
  unfold rcA at h1 h2
  have := ((g_mu h true).2 h1).2
  omega
theorem rcS_lo {s : Mo} {p n k : Nat} (h : LI s) (hp : p < s.1 0 2) (hk : k < 125) : (rcS p n s).1 0 k = s.1 0 k := by
  obtain ⟨g1, hv⟩ := g_rcD h p
  have e := rcD_1 p s
  have hlim := h.2.2.2.1.lim
  unfold rcS
  split
  · rename_i c
    obtain ⟨f, hf, hf2, h0, hl⟩ := hv c
    rw [hf, Option.getD_some]
    generalize rcD p s = D at *
    have g2 := g_rcP (f := f) g1.1 (by rw [e]; exact hp) (by rw [e]; exact hf2) (by rw [e]; exact hl)
    have l2 : (rcP p f D).1 0 2 = s.1 0 2 := by rw [rcP_lo (by decide), e]
    have l1 : (rcP p f D).1 0 1 = s.1 0 1 := by rw [rcP_lo (by decide), e]
    have lk : (rcP p f D).1 0 k = s.1 0 k := by rw [rcP_lo hk, e]
    have lc : rC ((rcP p f D).1 0) p f ≠ 0 := by rw [rcP_c (by omega)]; decide
    generalize rcP p f D = P at *
    unfold rcE
    split
    · have gn := (g_lex g2.1).1
      have en := lex_1 P (P.2.1 4)
      have key : ∀ (m : Nat) (t : Mo), LI t → p < t.1 0 2 → f < t.1 0 1 → rC (t.1 0) p f ≠ 0 → (rtL p f m t).1 0 k = t.1 0 k := by
        intro m
        induction m with
        | zero => intro t _ _ _ _; rfl
        | succ m ih =>
          intro t ht hp2 hf2 h0
          have hlt := ht.2.2.2.1.lim
          rw [rtL]
          split
          · rename_i c5
            obtain ⟨k1, k2, k3, k4⟩ := g_rt5 ht hp2 hf2 h0 c5
            have e5 : (rt5 p f t).1 0 k = t.1 0 k := by rw [k3, va_up_ne _ _ (by omega)]
            split
            · rw [ih _ k1.1 (by rw [k3, va_up_ne _ _ (by omega)]; exact hp2) (by rw [k3, va_up_ne _ _ (by omega)]; exact hf2) (by
                rw [k3, rC_put (by omega) (by omega), if_pos ⟨rfl, rfl⟩]
                have : rC (t.1 0) p f ≤ rC (t.1 0) p f ||| 2 ^ stV (rt1 t) := Nat.left_le_or
                omega), e5]
            · exact e5
          · rw [rt4_1]
      rw [key n _ gn.1 (by rw [en, l2]; exact hp) (by rw [en, l1]; exact hf2) (by rw [en]; exact lc), en, lk]
    · exact lk
  · rw [e]
def rq1 (s : Mo) : Mo := if s.1 0 2 = 12 then flS s (-7) else s
def rq2 (s : Mo) : Mo := mnS (muS true (rq1 s))
def rq3 (p : Nat) (s : Mo) : Mo := if namedV s 126 p 19 = none then s else flS s (-5)
def zcF (A : Nat → Nat) (p : Nat) : Nat → Nat → Nat
  | 0 => A
  | n + 1 => va_up (zcF A p n) (125 + 19 * p + 9 + n) 0
def rq4 (p : Nat) (s : Mo) : Mo := mR s 0 (zcF (s.1 0) p 10)
def rq5 (p : Nat) (s : Mo) : Mo := lexS (pnS (rq4 p s) (125 + 19 * p + 1)) (s.2.1 4)
def rq6 (s : Mo) : Mo := muS (isWB s W4) s
def rq7 (p : Nat) (s : Mo) : Mo := mR (nxS (stS 1 10 s)) 0 (va_up ((nxS (stS 1 10 s)).1 0) (125 + 19 * p) (stV (stS 1 10 s)))
def rq8 (s : Mo) : Mo := mR s 0 (va_up (s.1 0) 2 (s.1 0 2 + 1))
def rqB (p m : Nat) : Nat → Mo → Mo
  | 0, s => s
  | n + 1, s => if isWB s W5 = true then rqB p m n (rcS p m s) else s
def rqH (p : Nat) (s : Mo) : Mo := rq8 (rq7 p (rq6 (rq5 p s)))
def rqS (m : Nat) (s : Mo) : Mo := if (rq3 (s.1 0 2) (rq2 s)).2.2.1 0 = 0 then rf7 (rqB (s.1 0 2) m m (rqH (s.1 0 2) (rq3 (s.1 0 2) (rq2 s)))) else rq3 (s.1 0 2) (rq2 s)
theorem g_rq1 {s : Mo} (h : LI s) : GG s (rq1 s) ∧ ((rq1 s).2.2.1 0 = 0 → s.1 0 2 < 12) ∧ (rq1 s).1 = s.1 := by
  unfold rq1
  by_cases c : s.1 0 2 = 12
  · rw [if_pos c]
    exact ⟨g_fl h (by decide), fun q => absurd q (flS_wr (by decide)), flS_row⟩
  · rw [if_neg c]
    exact ⟨GG.rf h, fun _ => by have := h.2.2.2.1.lim; omega, rfl⟩
theorem rq2_1 (s : Mo) : (rq2 s).1 = s.1 := by
  unfold rq2
  rw [mnS_row, mu_1]
  unfold rq1
  split
  · exact flS_row
  · rfl
theorem g_rq2 {s : Mo} (h : LI s) : GG s (rq2 s) ∧ GG (rq1 s) (rq2 s) ∧ GG (muS true (rq1 s)) (rq2 s) := by
  have g1 := g_rq1 h
  have g2 := g_mu g1.1.1 true
  have g3 := g_mn g2.1.1
  unfold rq2
  have g4 := g2.1.tr g3
  exact ⟨g1.1.tr g4, g4, g3⟩
theorem g_rq3 {s : Mo} (h : LI s) (f : Nat) : GG s (rq3 f s) ∧ (rq3 f s).1 = s.1 := by
  unfold rq3
  split
  · exact ⟨GG.rf h, rfl⟩
  · exact ⟨g_fl h (by decide), flS_row⟩
theorem zcF_lo {A : Nat → Nat} {p k : Nat} (hk : k < 125 + 19 * p + 9) : ∀ n, zcF A p n k = A k := by
  intro n
  induction n with
  | zero => rfl
  | succ n ih => rw [zcF, va_up_ne _ _ (by omega), ih]
theorem zcF_same {A : Nat → Nat} {p : Nat} (h : ∀ f, f < 10 → rC A p f = 0) : ∀ n, n ≤ 10 → zcF A p n = A := by
  intro n
  induction n with
  | zero => intro _; rfl
  | succ n ih =>
    intro hn
    rw [zcF, ih (by omega)]
    funext k
    by_cases e : k = 125 + 19 * p + 9 + n
    · rw [e, va_upE]
      exact (h n (by omega)).symm
    · exact va_up_ne _ _ e
theorem rq4_same {s : Mo} (h : LI s) {p : Nat} (hp : p = s.1 0 2) (hK : p < 12) : rq4 p s = s := by
  unfold rq4
  rw [zcF_same (fun f hf => h.2.2.2.1.2.2 p f hK hf (Or.inl (by omega))) 10 (Nat.le_refl _), mR_self]
theorem g_rq5 {s : Mo} (h : LI s) {p : Nat} (hp : p = s.1 0 2) (hK : p < 12) : GG s (rq5 p s) := by
  have hb : rB (cpT (s.1 0) (sgW s) (125 + 19 * p + 1) 0 8) := h.2.2.2.1.name (pnS_sgn h) (Or.inr ⟨p, hK, rfl⟩)
  have c0 : cpT (s.1 0) (sgW s) (125 + 19 * p + 1) 0 8 0 = s.1 0 0 := by unfold cpT; rw [if_neg (by omega)]
  have g1 : GG s (pnS s (125 + 19 * p + 1)) := g_row h hb (fun q => by rw [c0]; exact h.2.2.2.2 q)
  unfold rq5
  rw [rq4_same h hp hK]
  have g2 := (g_lex g1.1).1
  have e4 : (pnS s (125 + 19 * p + 1)).2.1 4 = s.2.1 4 := rfl
  rw [e4] at g2
  exact g1.tr g2
theorem rq5_0 {s : Mo} (h : LI s) {p : Nat} (hp : p = s.1 0 2) (hK : p < 12) : (rq5 p s).1 0 = cpT (s.1 0) (sgW s) (125 + 19 * p + 1) 0 8 := by
  unfold rq5
  rw [rq4_same h hp hK, lex_1]
  rfl
theorem g_rq7 {s : Mo} (h : LI s) {p : Nat} (hp : p = s.1 0 2) (hK : p < 12) : GG s (rq7 p s) := by
  have g3 := g_st h 1 10
  have g4 := (g_nx g3.1).1
  have hv := (st_val (s := s) (lo := 1) (hi := 10) (by decide) (by decide) h.2.1.2.2.2).1
  have r4 : (nxS (stS 1 10 s)).1 0 2 = p := by rw [nx_1, st_1]; exact hp.symm
  unfold rq7
  generalize stV (stS 1 10 s) = v at *
  generalize nxS (stS 1 10 s) = T at *
  have hl := g4.1.2.2.2.1.lim
  have hb4 : rB (va_up (T.1 0) (125 + 19 * p) v) := g4.1.2.2.2.1.up (by omega) (by
    have := cbd_p (n := 0) hK (i := 0) (by decide)
    rw [Nat.add_zero] at this
    rw [this, if_pos rfl]; exact hv) (by omega) (fun f' hf' => by omega) (fun p f' _ _ => by omega)
  exact (g3.tr g4).tr (g_row g4.1 hb4 (fun q => by rw [va_up_ne _ _ (by omega)]; exact g4.1.2.2.2.2 q))
theorem rq7_0 (p : Nat) (s : Mo) : (rq7 p s).1 0 = va_up (s.1 0) (125 + 19 * p) (stV (stS 1 10 s)) := by
  unfold rq7
  have e : ∀ (S : Mo) (A : Nat → Nat), (mR S 0 A).1 0 = A := fun _ _ => rfl
  rw [e, nx_1, st_1]
theorem g_rq8 {s : Mo} (h : LI s) (hN : s.1 0 2 < 12) : GG s (rq8 s) := by
  unfold rq8
  exact g_row h (h.2.2.2.1.pic1 hN) (fun q => by rw [va_up_ne _ _ (by decide)]; exact h.2.2.2.2 q)
theorem rq6_1 (s : Mo) : (rq6 s).1 = s.1 := by unfold rq6; exact mu_1 _ _
theorem g_rq6 {s : Mo} (h : LI s) : GG s (rq6 s) := by unfold rq6; exact (g_mu h _).1
theorem g_rqH {s : Mo} (h : LI s) {p : Nat} (hp : p = s.1 0 2) (hK : p < 12) : GG s (rqH p s) ∧ (rqH p s).1 0 2 = p + 1 ∧ GG s (rq5 p s) ∧ GG s (rq6 (rq5 p s)) ∧ GG s (rq7 p (rq6 (rq5 p s))) ∧ (rq7 p (rq6 (rq5 p s))).1 0 2 = p ∧ (rq6 (rq5 p s)).1 0 2 = p := by
  have g5 := g_rq5 h hp hK
  have e5 : (rq5 p s).1 0 2 = p := by
    rw [rq5_0 h hp hK]
    unfold cpT
    rw [if_neg (by omega)]
    exact hp.symm
  have g6 := g_rq6 g5.1
  have e6 : (rq6 (rq5 p s)).1 0 2 = p := by rw [rq6_1]; exact e5
  have g7 := g_rq7 g6.1 e6.symm hK
  have e7 : (rq7 p (rq6 (rq5 p s))).1 0 2 = p := by rw [rq7_0, va_up_ne _ _ (by omega)]; exact e6
  have g8 := g_rq8 g7.1 (by rw [e7]; exact hK)
  have g56 := g5.tr g6
  have g57 := g56.tr g7
  unfold rqH
  generalize rq7 p (rq6 (rq5 p s)) = T at *
  refine ⟨g57.tr g8, ?_, g5, g56, g57, e7, e6⟩
  show va_up (T.1 0) 2 (T.1 0 2 + 1) 2 = p + 1
  rw [va_upE, e7]
theorem g_rqB {p m : Nat} : ∀ (n : Nat) (s : Mo), LI s → p < s.1 0 2 → GG s (rqB p m n s) := by
  intro n
  induction n with
  | zero => intro s h _; exact GG.rf h
  | succ n ih =>
    intro s h hp
    rw [rqB]
    split
    · have g1 := g_rc (n := m) h hp
      exact g1.tr (ih _ g1.1 (by rw [rcS_lo h hp (by decide)]; exact hp))
    · exact GG.rf h
theorem g_rq {s : Mo} (h : LI s) (m : Nat) : GG s (rqS m s) ∧ GG (rq2 s) (rqS m s) := by
  have g1 := g_rq1 h
  have g2 := g_rq2 h
  have g4 := g_rq3 g2.1.1 (s.1 0 2)
  have e4 : (rq3 (s.1 0 2) (rq2 s)).1 = s.1 := g4.2.trans (rq2_1 s)
  have g5 : GG s (rq3 (s.1 0 2) (rq2 s)) := g2.1.tr g4.1
  have key : GG (rq3 (s.1 0 2) (rq2 s)) (rqS m s) := by
    unfold rqS
    split
    · rename_i c
      have hN := g1.2.1 ((g2.2.1.tr g4.1).2.2.1 c)
      obtain ⟨k1, k2, -⟩ := g_rqH g5.1 (p := s.1 0 2) (by rw [e4]) hN
      have k3 := g_rqB (m := m) m _ k1.1 (p := s.1 0 2) (by rw [k2]; omega)
      generalize rqB (s.1 0 2) m m (rqH (s.1 0 2) (rq3 (s.1 0 2) (rq2 s))) = T at *
      exact k1.tr (k3.tr (g_rf7 k3.1))
    · exact GG.rf g5.1
  exact ⟨g5.tr key, g4.1.tr key⟩
theorem p_rq {s : Mo} (h : LI s) {m : Nat} (hk : s.2.1 5 ≠ 3) (hw : (rqS m s).2.2.1 0 = 0) : s.2.1 3 < (rqS m s).2.1 3 := by
  have g2 := (g_rq2 h).2.2.tr (g_rq h m).2
  have h1 := g2.2.2.1 hw
  have h2 := g2.2.2.2
  have h3 := h.2.2.1 hk
  have g1 := g_rq1 h
  have h4 := ((g_mu g1.1.1 true).2 h1).2
  have e4 : (rq1 s).2.1 4 = s.2.1 4 := by
    unfold rq1
    split
    · exact flS_same.2.2.2.1
    · rfl
  rw [e4] at h4
  omega
theorem p_rf {s : Mo} (h : LI s) (hk : s.2.1 5 ≠ 3) (hw : (rfS s).2.2.1 0 = 0) : s.2.1 3 < (rfS s).2.1 3 := by
  have g1 := g_rf1 h
  have g2 := g_mu g1.1.1 (isWB (rf1 s) W1)
  have g3 := g_mn g2.1.1
  have gB : GG (muS (isWB (rf1 s) W1) (rf1 s)) (rfS s) := by
    have g4 := g_rf3 (g_rf2 h).1.1 (s.1 0 1)
    have e4 : (rf3 (s.1 0 1) (rf2 s)).1 = s.1 := g4.2.trans (rf2_1 s)
    have e2 : rf2 s = mnS (muS (isWB (rf1 s) W1) (rf1 s)) := rfl
    rw [← e2] at g3
    have g5 : GG s (rf3 (s.1 0 1) (rf2 s)) := (g_rf2 h).1.tr g4.1
    refine g3.tr (g4.1.tr ?_)
    unfold rfS
    split
    · rename_i c
      have hN := g1.2.1 (((g_rf2 h).2.tr g4.1).2.2.1 c)
      exact (g_rf4 g5.1 (by rw [e4]) hN).1
    · exact GG.rf g5.1
  have h1 := gB.2.2.1 hw
  have h2 := gB.2.2.2
  have h3 := h.2.2.1 hk
  have h4 := (g2.2 h1).2
  have e4 : (rf1 s).2.1 4 = s.2.1 4 := by
    unfold rf1
    split
    · exact flS_same.2.2.2.1
    · rfl
  rw [e4] at h4
  omega
theorem p_rn {s : Mo} (h : LI s) (hk : s.2.1 5 ≠ 3) (hw : (rnS s).2.2.1 0 = 0) : s.2.1 3 < (rnS s).2.1 3 := by
  have g1 := g_rnA h
  have gB : GG (rnA s) (rnS s) := by
    obtain ⟨k1, k2, k3, k4, hv, e, -, -⟩ := g_rnAB h
    have g2 := (g_fh g1.1).1
    have g3 := g_rnB h
    have g4 := (g_fh k3.1).1
    have g6 := g_rnC h
    have g7 := g_rnD h
    have g8 : GG (rnD s) (rnS s) := by
      unfold rnS
      generalize rnD s = D at *
      exact (g_mu g7.1 (endB D)).1
    exact g2.tr (g3.tr (g4.tr (g6.tr (g7.tr g8))))
  have h1 := gB.2.2.1 hw
  have h2 := gB.2.2.2
  have h3 := h.2.2.1 hk
  unfold rnA at h1 h2
  have := ((g_mu h true).2 h1).2
  omega
section M31
variable {g : xG} {l : Launch} {h : xH} {m : Nat} {s : Mo}
theorem c_mReadsPicture (hs : LI s) : xDet g l mX6_readsPicture 6 0 0 [.ref m] (putMod h m s) none (putMod h m (rqS 601 s)) := by
  obtain ⟨N, hN⟩ : ∃ N, N = 601 := ⟨_, rfl⟩
  have hl := hs.2.2.2.1.lim
  have g1 := g_rq1 hs
  have g2 := g_rq2 hs
  have g4 := g_rq3 g2.1.1 (s.1 0 2)
  have e4 : (rq3 (s.1 0 2) (rq2 s)).1 = s.1 := g4.2.trans (rq2_1 s)
  have hK : (rq3 (s.1 0 2) (rq2 s)).2.2.1 0 = 0 → s.1 0 2 < 12 := fun c => g1.2.1 ((g2.2.1.tr g4.1).2.2.1 c)
  have ccp : ∀ (t : Mo), LI t → s.1 0 2 < t.1 0 2 → xDet g l mX6_readsCopy 5 0 0 [.ref m, .int (nI (s.1 0 2))] (putMod h m t) none (putMod h m (rcS (s.1 0 2) N t)) := fun t ht hp => by rw [hN]; exact c_mReadsCopy ht hp
  rw [← hN]
  have loop : ∀ (n : Nat) (t : Mo) (v2 : Option Value), LI t → s.1 0 2 < t.1 0 2 → (isWB t W5 = true → 601 ≤ t.2.1 3 + n) → xP g l mX6_readsPicture [] (xR 6 0 0) (xZ g (fun r' h' => r' = none ∧ h' = putMod h m (rf7 (rqB (s.1 0 2) N n t))) xno 0 0) 130 [some (.ref m), some (.int (nI (s.1 0 2))), v2] [] (putMod h m t) 0 0 := by
    intro n
    induction n with
    | zero =>
      intro t v2 ht hp hw
      have ce : xDet g l mX6_mustEnd 4 0 0 [.ref m] (putMod h m t) none (putMod h m (rf7 t)) := by
        unfold rf7
        exact c_mMustEnd ht.1 ht.2.1
      refine x_aload_n dX6_readsPicture_130 rfl ?_
      refine x_ldcS (j := 12) rfl rfl rfl dX6_readsPicture_131 ?_
      refine x_vi0 dX6_readsPicture_133 cV_X6_145 (c_mIsWord xv5 putMod_at ht.1 ht.2.1) rfl rfl ⟨⟨by decide, by decide⟩, by decide, by decide⟩ (Nat.le_of_ble_eq_true rfl) (xrecv putMod_at.o rfl xcl5) ?_
      refine x_if_eq_b 147 dX6_readsPicture_136 (by decide) (fun c1 => ?_) (fun c1 => ?_)
      · refine x_aload_n dX6_readsPicture_147 rfl ?_
        refine x_vv0 dX6_readsPicture_148 cV_X6_155 (ce) rfl rfl ⟨⟨by decide, by decide⟩, by decide, by decide⟩ (Nat.le_of_ble_eq_true rfl) (xrecv putMod_at.o rfl xcl5) ?_
        exact x_vret dX6_readsPicture_151 rfl (by decide) (by decide) rfl (rfl)
      · exfalso
        have := hw c1
        have h9 := isWB_tok c1
        have := ht.2.2.1 (by omega)
        have := ht.2.1.2.1
        omega
    | succ n ih =>
      intro t v2 ht hp hw
      have ce : xDet g l mX6_mustEnd 4 0 0 [.ref m] (putMod h m t) none (putMod h m (rf7 t)) := by
        unfold rf7
        exact c_mMustEnd ht.1 ht.2.1
      rw [rqB]
      refine x_aload_n dX6_readsPicture_130 rfl ?_
      refine x_ldcS (j := 12) rfl rfl rfl dX6_readsPicture_131 ?_
      refine x_vi0 dX6_readsPicture_133 cV_X6_145 (c_mIsWord xv5 putMod_at ht.1 ht.2.1) rfl rfl ⟨⟨by decide, by decide⟩, by decide, by decide⟩ (Nat.le_of_ble_eq_true rfl) (xrecv putMod_at.o rfl xcl5) ?_
      refine x_if_eq_b 147 dX6_readsPicture_136 (by decide) (fun c1 => ?_) (fun c1 => ?_)
      · rw [if_neg (by rw [c1]; decide)]
        refine x_aload_n dX6_readsPicture_147 rfl ?_
        refine x_vv0 dX6_readsPicture_148 cV_X6_155 (ce) rfl rfl ⟨⟨by decide, by decide⟩, by decide, by decide⟩ (Nat.le_of_ble_eq_true rfl) (xrecv putMod_at.o rfl xcl5) ?_
        exact x_vret dX6_readsPicture_151 rfl (by decide) (by decide) rfl (rfl)
      · rw [if_pos c1]
        have h9 := isWB_tok c1
        have g9 := g_rc (n := N) ht hp
        refine x_aload_n dX6_readsPicture_139 rfl ?_
        refine x_iload_n dX6_readsPicture_140 rfl ?_
        refine x_vv0 dX6_readsPicture_141 cV_X6_179 (ccp t ht hp) rfl rfl ⟨⟨by decide, by decide⟩, by decide, by decide⟩ (Nat.le_of_ble_eq_true rfl) (xrecv putMod_at.o rfl xcl5) ?_
        refine x_goto 130 dX6_readsPicture_144 (by decide) ?_
        refine ih _ v2 g9.1 (by rw [rcS_lo ht hp (by decide)]; exact hp) (fun q => ?_)
        have h10 := isWB_tok q
        have := p_rc (n := N) ht hp (by omega) h10.1
        have := hw c1
        omega
  have last : ∀ t : Mo, LI t → (t.2.2.1 0 = 0 → s.1 0 2 < 12) → t.1 0 2 = s.1 0 2 → xP g l mX6_readsPicture [] (xR 6 0 0) (xZ g (fun r' h' => r' = none ∧ h' = putMod h m (if t.2.2.1 0 = 0 then rf7 (rqB (s.1 0 2) N N (rqH (s.1 0 2) t)) else t)) xno 0 0) 45 [some (.ref m), some (.int (nI (s.1 0 2))), none] [] (putMod h m t) 0 0 := by
    intro t ht hN2 et
    refine x_aload_n dX6_readsPicture_45 rfl ?_
    refine x_getf dX6_readsPicture_46 f_X6_107 putMod_at.o rfl ?_
    refine x_if_eq 53 dX6_readsPicture_49 (by decide) (fun c1 => ?_) (fun c1 => ?_)
    rotate_left
    · rw [if_neg c1]
      exact x_vret dX6_readsPicture_52 rfl (by decide) (by decide) rfl (rfl)
    rw [if_pos c1]
    have hK2 := hN2 c1
    obtain ⟨k1, k2, k3, k4, k5, k6, k7⟩ := g_rqH ht et.symm hK2
    have e4 := rq4_same ht et.symm hK2
    have e5 : rq5 (s.1 0 2) t = lexS (pnS (rq4 (s.1 0 2) t) (125 + 19 * s.1 0 2 + 1)) (t.2.1 4) := rfl
    have eZ : ∀ n, n ≤ 10 → mR t 0 (zcF (t.1 0) (s.1 0 2) n) = t := fun n hn => by
      rw [zcF_same (fun f hf => ht.2.2.2.1.2.2 (s.1 0 2) f hK2 hf (Or.inl (by omega))) n hn, mR_self]
    have cp := c_mPutsName (g := g) (l := l) (h := h) (m := m) (s := t) ht.1 ht.2.1 (to := 125 + 19 * s.1 0 2 + 1) (by omega)
    have cn : xDet g l mX6_next 2 0 0 [.ref m] (putMod h m (pnS t (125 + 19 * s.1 0 2 + 1))) none (putMod h m (rq5 (s.1 0 2) t)) := by
      rw [e5, e4]
      exact c_mNext (g := g) (l := l) (h := h) (m := m) (s := pnS t (125 + 19 * s.1 0 2 + 1)) ht.1 ht.beh
    have cm : xDet g l mX6_must 3 0 0 [.ref m, .int (xb (isWB (rq5 (s.1 0 2) t) W4))] (putMod h m (rq5 (s.1 0 2) t)) none (putMod h m (rq6 (rq5 (s.1 0 2) t))) := by
      unfold rq6
      exact c_mMust k3.1.1 k3.1.beh
    have ct := c_mTakes (g := g) (l := l) (h := h) (m := m) (s := rq6 (rq5 (s.1 0 2) t)) (lo := 1) (hi := 10) k4.1.1 k4.1.2.1
    have e7 : rq7 (s.1 0 2) (rq6 (rq5 (s.1 0 2) t)) = mR (nxS (stS 1 10 (rq6 (rq5 (s.1 0 2) t)))) 0 (va_up ((nxS (stS 1 10 (rq6 (rq5 (s.1 0 2) t)))).1 0) (125 + 19 * s.1 0 2) (stV (stS 1 10 (rq6 (rq5 (s.1 0 2) t))))) := rfl
    have e8 : rqH (s.1 0 2) t = rq8 (rq7 (s.1 0 2) (rq6 (rq5 (s.1 0 2) t))) := rfl
    have e9 : ∀ S : Mo, rq8 S = mR S 0 (va_up (S.1 0) 2 (S.1 0 2 + 1)) := fun _ => rfl
    have lp := fun v2 => loop N (rqH (s.1 0 2) t) v2 k1.1 (by rw [k2]; omega) (fun _ => by omega)
    rw [e8] at lp ⊢
    rw [e7] at lp ⊢
    refine x_iconst (nI 0) dX6_readsPicture_53 (by decide) ?_
    refine x_istore_n dX6_readsPicture_54 (by decide) rfl rfl ?_
    refine xP.loop (fun i => [some (.ref m), some (.int (nI (s.1 0 2))), some (.int (nI i))]) (fun _ => putMod h m t) 10 ?_ ?_
    · intro i hi ih
      have cs := c_mSetsCopy (g := g) (l := l) (h := h) (m := m) (s := t) (p := s.1 0 2) (f := i) (x := 0) hK2 hi
      have ez : mR t 0 (va_up (t.1 0) (125 + 19 * s.1 0 2 + 9 + i) 0) = t := by
        have := eZ (i + 1) (by omega)
        rw [zcF, zcF_same (fun f hf => ht.2.2.2.1.2.2 (s.1 0 2) f hK2 hf (Or.inl (by omega))) i (by omega)] at this
        exact this
      rw [ez] at cs
      refine x_iload_n dX6_readsPicture_55 rfl ?_
      refine x_bipush (nI 10) dX6_readsPicture_56 (by decide) ?_
      refine x_icmp_ge_n 74 dX6_readsPicture_58 (by decide) (by omega) (by omega) (fun c2 => ?_) (fun c2 => ?_)
      · omega
      · refine x_aload_n dX6_readsPicture_61 rfl ?_
        refine x_iload_n dX6_readsPicture_62 rfl ?_
        refine x_iload_n dX6_readsPicture_63 rfl ?_
        refine x_iconst (nI 0) dX6_readsPicture_64 (by decide) ?_
        refine x_vv0 dX6_readsPicture_65 cV_X6_172 (cs) rfl rfl ⟨⟨by decide, by decide⟩, by decide, by decide⟩ (Nat.le_of_ble_eq_true rfl) (xrecv putMod_at.o rfl xcl5) ?_
        refine x_iinc_n (k := 1) dX6_readsPicture_68 rfl (by decide) (by decide) rfl rfl ?_
        refine x_goto 55 dX6_readsPicture_71 (by decide) ?_
        exact xP.weak (by simp [xle, xset1, fin3]) ih
    refine x_iload_n dX6_readsPicture_55 rfl ?_
    refine x_bipush (nI 10) dX6_readsPicture_56 (by decide) ?_
    refine x_icmp_ge_n 74 dX6_readsPicture_58 (by decide) (by omega) (by omega) (fun c2 => ?_) (fun c2 => ?_)
    rotate_left
    · omega
    refine x_aload_n dX6_readsPicture_74 rfl ?_
    refine x_bipush (nI 125) dX6_readsPicture_75 (by decide) ?_
    refine x_bipush (nI 19) dX6_readsPicture_77 (by decide) ?_
    refine x_iload_n dX6_readsPicture_79 rfl ?_
    refine x_imul_n dX6_readsPicture_80 ?_
    refine x_iadd_n dX6_readsPicture_81 ?_
    refine x_iconst (nI 1) dX6_readsPicture_82 (by decide) ?_
    refine x_iadd_n dX6_readsPicture_83 ?_
    refine x_vv0 dX6_readsPicture_84 cV_X6_149 (cp) rfl rfl ⟨⟨by decide, by decide⟩, by decide, by decide⟩ (Nat.le_of_ble_eq_true rfl) (xrecv putMod_at.o rfl xcl5) ?_
    refine x_aload_n dX6_readsPicture_87 rfl ?_
    refine x_vv0 dX6_readsPicture_88 cV_X6_126 (cn) rfl rfl ⟨⟨by decide, by decide⟩, by decide, by decide⟩ (Nat.le_of_ble_eq_true rfl) (xrecv putMod_at.o rfl xcl5) ?_
    refine x_aload_n dX6_readsPicture_91 rfl ?_
    refine x_aload_n dX6_readsPicture_92 rfl ?_
    refine x_ldcS (j := 11) rfl rfl rfl dX6_readsPicture_93 ?_
    refine x_vi0 dX6_readsPicture_95 cV_X6_145 (c_mIsWord xv4 putMod_at k3.1.1 k3.1.2.1) rfl rfl ⟨⟨by decide, by decide⟩, by decide, by decide⟩ (Nat.le_of_ble_eq_true rfl) (xrecv putMod_at.o rfl xcl5) ?_
    refine x_vv0 dX6_readsPicture_98 cV_X6_129 (cm) rfl rfl ⟨⟨by decide, by decide⟩, by decide, by decide⟩ (Nat.le_of_ble_eq_true rfl) (xrecv putMod_at.o rfl xcl5) ?_
    refine x_aload_n dX6_readsPicture_101 rfl ?_
    refine x_getf dX6_readsPicture_102 f_X6_7 putMod_at.o rfl ?_
    refine x_bipush (nI 125) dX6_readsPicture_105 (by decide) ?_
    refine x_bipush (nI 19) dX6_readsPicture_107 (by decide) ?_
    refine x_iload_n dX6_readsPicture_109 rfl ?_
    refine x_imul_n dX6_readsPicture_110 ?_
    refine x_iadd_n dX6_readsPicture_111 ?_
    refine x_aload_n dX6_readsPicture_112 rfl ?_
    refine x_iconst (nI 1) dX6_readsPicture_113 (by decide) ?_
    refine x_bipush (nI 10) dX6_readsPicture_114 (by decide) ?_
    refine x_vi0 dX6_readsPicture_116 cV_X6_152 (ct) rfl rfl ⟨⟨by decide, by decide⟩, by decide, by decide⟩ (Nat.le_of_ble_eq_true rfl) (xrecv putMod_at.o rfl xcl5) ?_
    generalize rq6 (rq5 (s.1 0 2) t) = T at *
    refine xq_X6_a dX6_readsPicture_119 (by omega) ?_
    generalize mR (nxS (stS 1 10 T)) 0 (va_up ((nxS (stS 1 10 T)).1 0) (125 + 19 * s.1 0 2) (stV (stS 1 10 T))) = U at *
    rw [e9] at lp ⊢
    refine x_aload_n dX6_readsPicture_120 rfl ?_
    refine x_getf dX6_readsPicture_121 f_X6_7 putMod_at.o rfl ?_
    refine x_iconst (nI 2) dX6_readsPicture_124 (by decide) ?_
    refine x_dup2 dX6_readsPicture_125 rfl rfl ?_
    refine x_iald_n dX6_readsPicture_126 putMod_at.a (by omega) (by decide) ?_
    refine x_iconst (nI 1) dX6_readsPicture_127 (by decide) ?_
    refine x_iadd_n dX6_readsPicture_128 ?_
    refine xq_X6_a dX6_readsPicture_129 (by decide) ?_
    exact lp _
  have mid : ∀ t : Mo, t = rq1 s → xP g l mX6_readsPicture [] (xR 6 0 0) (xZ g (fun r' h' => r' = none ∧ h' = putMod h m (rqS N s)) xno 0 0) 17 [some (.ref m), some (.int (nI (s.1 0 2))), none] [] (putMod h m t) 0 0 := by
    intro t et
    have gt := g1
    rw [← et] at gt
    have cm : xDet g l mX6_must 3 0 0 [.ref m, .int (xb true)] (putMod h m t) none (putMod h m (muS true t)) := x_mustT gt.1.1
    have cn := c_mMustName (g := g) (l := l) (h := h) (m := m) (s := muS true t) ((g_mu gt.1.1 true).1.1.2.1)
    have er : mnS (muS true t) = rq2 s := by unfold rq2; rw [et]
    rw [er] at cn
    have cd := c_mNamed (g := g) (l := l) (putMod_at (h := h) (m := m) (s := rq2 s)) g2.1.1.b24 g2.1.1.1 g2.1.1.2.1 (fr := 126) (many := s.1 0 2) (sz := 19) (by omega) (by decide) (by decide) (fun i hi => by omega)
    have hlt : ∀ i, namedV (rq2 s) 126 (s.1 0 2) 19 = some i → i < 100 := fun i q => by have := namedV_lt q; omega
    have ho := oI_none hlt
    have hl3 := last (rq3 (s.1 0 2) (rq2 s)) (g2.1.tr g4.1).1 hK (by rw [e4])
    have e9 : rqS N s = (if (rq3 (s.1 0 2) (rq2 s)).2.2.1 0 = 0 then rf7 (rqB (s.1 0 2) N N (rqH (s.1 0 2) (rq3 (s.1 0 2) (rq2 s)))) else rq3 (s.1 0 2) (rq2 s)) := rfl
    rw [e9]
    refine x_aload_n dX6_readsPicture_17 rfl ?_
    refine x_iconst (nI 1) dX6_readsPicture_18 (by decide) ?_
    refine xP.eq (S' := [.int (xb true), .ref m]) rfl rfl rfl rfl ?_
    refine x_vv0 dX6_readsPicture_19 cV_X6_129 (cm) rfl rfl ⟨⟨by decide, by decide⟩, by decide, by decide⟩ (Nat.le_of_ble_eq_true rfl) (xrecv putMod_at.o rfl xcl5) ?_
    refine x_aload_n dX6_readsPicture_22 rfl ?_
    refine x_vv0 dX6_readsPicture_23 cV_X6_136 (cn) rfl rfl ⟨⟨by decide, by decide⟩, by decide, by decide⟩ (Nat.le_of_ble_eq_true rfl) (xrecv putMod_at.o rfl xcl5) ?_
    refine x_aload_n dX6_readsPicture_26 rfl ?_
    refine x_bipush (nI 126) dX6_readsPicture_27 (by decide) ?_
    refine x_iload_n dX6_readsPicture_29 rfl ?_
    refine x_bipush (nI 19) dX6_readsPicture_30 (by decide) ?_
    refine x_vi0 dX6_readsPicture_32 cV_X6_139 (cd) rfl rfl ⟨⟨by decide, by decide⟩, by decide, by decide⟩ (Nat.le_of_ble_eq_true rfl) (xrecv putMod_at.o rfl xcl5) ?_
    refine x_iconst (-1) dX6_readsPicture_35 (by decide) ?_
    refine x_icmp_eq 45 dX6_readsPicture_36 (by decide) (fun c2 => ?_) (fun c2 => ?_)
    · have e : rq3 (s.1 0 2) (rq2 s) = rq2 s := by unfold rq3; rw [if_pos (ho.mp c2)]
      rw [e] at hl3 ⊢
      exact hl3
    · have e : rq3 (s.1 0 2) (rq2 s) = flS (rq2 s) (-5) := by unfold rq3; rw [if_neg (fun q => c2 (ho.mpr q))]
      rw [e] at hl3 ⊢
      refine x_aload_n dX6_readsPicture_39 rfl ?_
      refine x_bipush (-5) dX6_readsPicture_40 (by decide) ?_
      refine x_vv0 dX6_readsPicture_42 cV_X6_122 (c_mFails) rfl rfl ⟨⟨by decide, by decide⟩, by decide, by decide⟩ (Nat.le_of_ble_eq_true rfl) (xrecv putMod_at.o rfl xcl5) ?_
      exact hl3
  refine xMet.of (V := [some (.ref m), none, none]) moX6_readsPicture (Nat.le_of_ble_eq_true rfl) rfl ?_
  refine x_aload_n dX6_readsPicture_0 rfl ?_
  refine x_vi0 dX6_readsPicture_1 cV_X6_169 (c_mPictures putMod_at) rfl rfl ⟨⟨by decide, by decide⟩, by decide, by decide⟩ (Nat.le_of_ble_eq_true rfl) (xrecv putMod_at.o rfl xcl5) ?_
  refine x_istore_n dX6_readsPicture_4 (by decide) rfl rfl ?_
  refine x_iload_n dX6_readsPicture_5 rfl ?_
  refine x_bipush (nI 12) dX6_readsPicture_6 (by decide) ?_
  refine x_icmp_ne_n 17 dX6_readsPicture_8 (by decide) (by omega) (by omega) (fun c0 => ?_) (fun c0 => ?_)
  · exact mid s (by unfold rq1; rw [if_neg c0])
  · refine x_aload_n dX6_readsPicture_11 rfl ?_
    refine x_bipush (-7) dX6_readsPicture_12 (by decide) ?_
    refine x_vv0 dX6_readsPicture_14 cV_X6_122 (c_mFails) rfl rfl ⟨⟨by decide, by decide⟩, by decide, by decide⟩ (Nat.le_of_ble_eq_true rfl) (xrecv putMod_at.o rfl xcl5) ?_
    exact mid _ (by unfold rq1; rw [if_pos c0])
end M31
