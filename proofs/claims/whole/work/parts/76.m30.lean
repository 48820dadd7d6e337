/-! ===== the model: a text is read: copies, pictures ===== -/
def rcA (s : Mo) : Mo := muS true s
def rcB (p f : Nat) (s : Mo) : Mo := if s.2.2.1 0 = 0 ∧ rC (s.1 0) p f ≠ 0 then flS s (-5) else s
def rcC (f : Nat) (s : Mo) : Mo := if s.2.2.1 0 = 0 ∧ mLeft (s.1 0) f < 1 then flS s (-6) else s
def rcD (p : Nat) (s : Mo) : Mo := muS true (rcC ((fhV (rcA s)).getD 0) (rcB p ((fhV (rcA s)).getD 0) (fhS (rcA s))))
def rcP (p f : Nat) (s : Mo) : Mo := mR s 0 (va_up (s.1 0) (125 + 19 * p + 9 + f) 65536)
def rt1 (s : Mo) : Mo := stS 0 (s.1 0 0 - 1) s
def rt2 (p f v : Nat) (s : Mo) : Mo := if s.2.2.1 0 = 0 ∧ (rC (s.1 0) p f).testBit v = true then flS s (-5) else s
def rt3 (p f v : Nat) (s : Mo) : Mo := mR s 0 (va_up (s.1 0) (125 + 19 * p + 9 + f) (rC (s.1 0) p f ||| 2 ^ v))
def rt4 (p f : Nat) (s : Mo) : Mo := rt2 p f (stV (rt1 s)) (rt1 s)
def rt5 (p f : Nat) (s : Mo) : Mo := lexS (rt3 p f (stV (rt1 s)) (rt4 p f s)) ((rt4 p f s).2.1 4)
def rtL (p f : Nat) : Nat → Mo → Mo
  | 0, s => s
  | n + 1, s => if (rt4 p f s).2.2.1 0 = 0 then (if (rt5 p f s).2.1 5 = 1 then rtL p f n (rt5 p f s) else rt5 p f s) else rt4 p f s
def rcE (p f : Nat) (n : Nat) (s : Mo) : Mo := if isWB s W6 = true then rtL p f n (lexS s (s.2.1 4)) else s
def rcS (p n : Nat) (s : Mo) : Mo := if (rcD p s).2.2.1 0 = 0 then rcE p ((fhV (rcA s)).getD 0) n (rcP p ((fhV (rcA s)).getD 0) (rcD p s)) else rcD p s
theorem g_rcB {s : Mo} (h : LI s) (p f : Nat) : GG s (rcB p f s) ∧ (rcB p f s).1 = s.1 ∧ ((rcB p f s).2.2.1 0 = 0 → rC (s.1 0) p f = 0) := by
  unfold rcB
  by_cases c : s.2.2.1 0 = 0 ∧ rC (s.1 0) p f ≠ 0
  · rw [if_pos c]
    exact ⟨g_fl h (by decide), flS_row, fun q => absurd q (flS_wr (by decide))⟩
  · rw [if_neg c]
    exact ⟨GG.rf h, rfl, fun q => by
      rcases Nat.eq_zero_or_pos (rC (s.1 0) p f) with e | e
      · exact e
      · exact absurd ⟨q, by omega⟩ c⟩
theorem g_rcC {s : Mo} (h : LI s) (f : Nat) : GG s (rcC f s) ∧ (rcC f s).1 = s.1 ∧ ((rcC f s).2.2.1 0 = 0 → 0 < mLeft (s.1 0) f) := by
  unfold rcC
  by_cases c : s.2.2.1 0 = 0 ∧ mLeft (s.1 0) f < 1
  · rw [if_pos c]
    exact ⟨g_fl h (by decide), flS_row, fun q => absurd q (flS_wr (by decide))⟩
  · rw [if_neg c]
    exact ⟨GG.rf h, rfl, fun q => by
      rcases Nat.eq_zero_or_pos (mLeft (s.1 0) f) with e | e
      · exact absurd ⟨q, by omega⟩ c
      · exact e⟩
theorem rcA_1 (s : Mo) : (rcA s).1 = s.1 := by unfold rcA; exact mu_1 _ _
theorem g_rcA {s : Mo} (h : LI s) : GG s (rcA s) := by unfold rcA; exact (g_mu h true).1
theorem rcD_1 (p : Nat) (s : Mo) : (rcD p s).1 = s.1 := by
  unfold rcD
  rw [mu_1]
  unfold rcC
  split
  · rw [flS_row]
    unfold rcB
    split
    · rw [flS_row, fh_1, rcA_1]
    · rw [fh_1, rcA_1]
  · unfold rcB
    split
    · rw [flS_row, fh_1, rcA_1]
    · rw [fh_1, rcA_1]
theorem g_rcD {s : Mo} (h : LI s) (p : Nat) : GG s (rcD p s) ∧ ((rcD p s).2.2.1 0 = 0 → ∃ f, fhV (rcA s) = some f ∧ f < s.1 0 1 ∧ rC (s.1 0) p f = 0 ∧ 0 < mLeft (s.1 0) f) := by
  have g1 := g_rcA h
  have e1 := rcA_1 s
  have g2 := g_fh g1.1
  have g3 := g_rcB g2.1.1 p ((fhV (rcA s)).getD 0)
  have g4 := g_rcC g3.1.1 ((fhV (rcA s)).getD 0)
  have g5 := (g_mu g4.1.1 true).1
  unfold rcD
  have e2 : (fhS (rcA s)).1 = s.1 := (fh_1 _).trans e1
  generalize rcA s = A at *
  refine ⟨g1.tr (g2.1.tr (g3.1.tr (g4.1.tr g5))), fun q => ?_⟩
  have q4 := g5.2.2.1 q
  have q3 := g4.1.2.2.1 q4
  have q2 := g3.1.2.2.1 q3
  obtain ⟨f, hf, hf2⟩ := g2.2 q2
  have k3 := g3.2.2 q3
  have k4 := g4.2.2 q4
  rw [g3.2.1, e2, hf] at k4
  rw [e2, hf] at k3
  rw [e1] at hf2
  exact ⟨f, hf, hf2, k3, k4⟩
theorem g_rcP {s : Mo} (h : LI s) {p f : Nat} (hp : p < s.1 0 2) (hf : f < s.1 0 1) (hl : 0 < mLeft (s.1 0) f) : GG s (rcP p f s) := by
  unfold rcP
  have hlim := h.2.2.2.1.lim
  exact g_row h (h.2.2.2.1.copy hp hf (by decide) (by decide) (fun _ => hl)) (fun q => by rw [va_up_ne _ _ (by omega)]; exact h.2.2.2.2 q)
theorem rt1_1 (s : Mo) : (rt1 s).1 = s.1 := by unfold rt1; exact st_1 _ _ _
theorem g_rt1 {s : Mo} (h : LI s) : GG s (rt1 s) := by unfold rt1; exact g_st h _ _
theorem rt4_1 (p f : Nat) (s : Mo) : (rt4 p f s).1 = s.1 := by
  unfold rt4 rt2
  split
  · rw [flS_row, rt1_1]
  · exact rt1_1 s
theorem g_rt4 {s : Mo} (h : LI s) (p f : Nat) : GG (rt1 s) (rt4 p f s) ∧ ((rt4 p f s).2.2.1 0 = 0 → (rC (s.1 0) p f).testBit (stV (rt1 s)) = false) := by
  have g1 := g_rt1 h
  have e1 := rt1_1 s
  unfold rt4 rt2
  by_cases c : (rt1 s).2.2.1 0 = 0 ∧ (rC ((rt1 s).1 0) p f).testBit (stV (rt1 s)) = true
  · rw [if_pos c]
    exact ⟨g_fl g1.1 (by decide), fun q => absurd q (flS_wr (by decide))⟩
  · rw [if_neg c]
    refine ⟨GG.rf g1.1, fun q => ?_⟩
    rw [e1] at c
    cases hb : (rC (s.1 0) p f).testBit (stV (rt1 s)) with
    | false => rfl
    | true => exact absurd ⟨q, hb⟩ c
theorem rt1_v {s : Mo} (h : LI s) : stV (rt1 s) ≤ s.1 0 0 - 1 := by
  unfold rt1
  have hT : s.1 0 0 ≤ 16 := h.2.2.2.1.1 0 (by decide)
  exact (st_val (by decide) (by omega) h.2.1.2.2.2).1
theorem g_rt5 {s : Mo} (h : LI s) {p f : Nat} (hp : p < s.1 0 2) (hf : f < s.1 0 1) (h0 : rC (s.1 0) p f ≠ 0) (hw : (rt4 p f s).2.2.1 0 = 0) : GG s (rt5 p f s) ∧ s.2.1 3 < (rt5 p f s).2.1 3 + (if (rt5 p f s).2.1 5 = 3 then 1 else 0) ∧ (rt5 p f s).1 0 = va_up (s.1 0) (125 + 19 * p + 9 + f) (rC (s.1 0) p f ||| 2 ^ (stV (rt1 s))) ∧ (s.2.1 5 ≠ 3 → s.2.1 3 < (rt5 p f s).2.1 3) := by
  have g1 := g_rt1 h
  have g4 := (g_rt4 h p f).1
  have e4 := rt4_1 p f s
  have hlim := h.2.2.2.1.lim
  have hv := rt1_v h
  have hT : s.1 0 0 ≤ 16 := h.2.2.2.1.1 0 (by decide)
  have hc : rC (s.1 0) p f < 262144 := by
    have := h.2.2.2.1.1 (125 + 19 * p + 9 + f) (by omega)
    rw [cbd_c (by omega) (by omega)] at this
    unfold rC
    omega
  have g14 := g1.tr g4
  have g3 : GG (rt4 p f s) (rt3 p f (stV (rt1 s)) (rt4 p f s)) := by
    unfold rt3
    rw [e4]
    refine g_row g14.1 (h.2.2.2.1.copy hp hf (Nat.or_lt_two_pow (n := 18) hc (Nat.pow_lt_pow_right (by decide) (by omega))) ?_ (fun q => absurd q h0)) (fun q => by rw [va_up_ne _ _ (by omega)]; have := g14.1.2.2.2.2 q; rw [e4] at this; exact this)
    have : rC (s.1 0) p f ≤ rC (s.1 0) p f ||| 2 ^ stV (rt1 s) := Nat.left_le_or
    omega
  have g5 := g_lex g3.1
  have eb : (rt3 p f (stV (rt1 s)) (rt4 p f s)).2.1 4 = (rt4 p f s).2.1 4 := rfl
  rw [eb] at g5
  have er : (rt5 p f s).1 0 = va_up (s.1 0) (125 + 19 * p + 9 + f) (rC (s.1 0) p f ||| 2 ^ (stV (rt1 s))) := by
    unfold rt5
    rw [lex_1]
    unfold rt3
    rw [e4]
    rfl
  have ge : GG s (rt5 p f s) := by
    unfold rt5
    exact g14.tr (g3.tr g5.1)
  have hk : (rt5 p f s).2.1 3 ≥ (rt4 p f s).2.1 4 := by
    unfold rt5
    exact g5.2
  have h34 : s.2.1 5 ≠ 3 → s.2.1 3 < (rt4 p f s).2.1 4 := by
    intro q
    have e5 : (rt4 p f s).2.1 5 = s.2.1 5 ∧ (rt4 p f s).2.1 3 = s.2.1 3 ∧ (rt4 p f s).2.1 4 = s.2.1 4 := by
      have a1 : (rt1 s).2.1 5 = s.2.1 5 ∧ (rt1 s).2.1 3 = s.2.1 3 ∧ (rt1 s).2.1 4 = s.2.1 4 := by
        unfold rt1 stS
        have b1 : (st1 s).2.1 5 = s.2.1 5 ∧ (st1 s).2.1 3 = s.2.1 3 ∧ (st1 s).2.1 4 = s.2.1 4 := by
          unfold st1
          split
          · exact ⟨flS_same.2.2.2.2.1, flS_same.2.2.1, flS_same.2.2.2.1⟩
          · exact ⟨rfl, rfl, rfl⟩
        unfold st2
        split
        · exact ⟨flS_same.2.2.2.2.1.trans b1.1, flS_same.2.2.1.trans b1.2.1, flS_same.2.2.2.1.trans b1.2.2⟩
        · exact b1
      unfold rt4 rt2
      split
      · exact ⟨flS_same.2.2.2.2.1.trans a1.1, flS_same.2.2.1.trans a1.2.1, flS_same.2.2.2.1.trans a1.2.2⟩
      · exact a1
    rw [e5.2.2]
    exact h.2.2.1 q
  refine ⟨ge, ?_, er, fun q => by have := h34 q; omega⟩
  by_cases c : s.2.1 5 = 3
  · have hk1 : (rt4 p f s).2.2.1 0 = 0 → s.2.1 5 = 1 := by
      intro q
      have q1 := g4.2.2.1 q
      have b1 : s.2.2.1 0 = 0 ∧ s.2.1 5 ≠ 1 → False := by
        intro z
        have : ¬ (rt1 s).2.2.1 0 = 0 := by
          unfold rt1 stS
          have a1 : st1 s = flS s (-2) := by unfold st1; rw [if_pos z]
          rw [a1]
          unfold st2
          split
          · exact flS_wr (by decide)
          · exact flS_wr (by decide)
        exact this q1
      rcases Nat.decEq (s.2.1 5) 1 with d | d
      · exact absurd ⟨g1.2.2.1 q1, d⟩ (fun z => b1 z)
      · exact d
    have := hk1 hw
    omega
  · have := h34 c
    omega
theorem g_rtL {p f : Nat} : ∀ (n : Nat) (s : Mo), LI s → p < s.1 0 2 → f < s.1 0 1 → rC (s.1 0) p f ≠ 0 → GG s (rtL p f n s) := by
  intro n
  induction n with
  | zero => intro s h _ _ _; exact GG.rf h
  | succ n ih =>
    intro s h hp hf h0
    have g1 := g_rt1 h
    have g4 := (g_rt4 h p f).1
    rw [rtL]
    by_cases c : (rt4 p f s).2.2.1 0 = 0
    · rw [if_pos c]
      obtain ⟨k1, k2, k3, k4⟩ := g_rt5 h hp hf h0 c
      have hlim := h.2.2.2.1.lim
      by_cases d : (rt5 p f s).2.1 5 = 1
      · rw [if_pos d]
        refine k1.tr (ih _ k1.1 (by rw [k3, va_up_ne _ _ (by omega)]; exact hp) (by rw [k3, va_up_ne _ _ (by omega)]; exact hf) ?_)
        rw [k3, rC_put (by omega) (by omega), if_pos ⟨rfl, rfl⟩]
        have : rC (s.1 0) p f ≤ rC (s.1 0) p f ||| 2 ^ stV (rt1 s) := Nat.left_le_or
        omega
      · rw [if_neg d]
        exact k1
    · rw [if_neg c]
      exact g1.tr g4
theorem rcP_c {s : Mo} {p f : Nat} (hf : f < 10) : rC ((rcP p f s).1 0) p f = 65536 := by
  show rC (va_up (s.1 0) (125 + 19 * p + 9 + f) 65536) p f = _
  rw [rC_put hf hf, if_pos ⟨rfl, rfl⟩]
theorem rcP_lo {s : Mo} {p f k : Nat} (hk : k < 125) : (rcP p f s).1 0 k = s.1 0 k := va_up_ne _ _ (by omega)
theorem g_rcE {s : Mo} (h : LI s) {p f n : Nat} (hp : p < s.1 0 2) (hf : f < s.1 0 1) (h0 : rC (s.1 0) p f ≠ 0) : GG s (rcE p f n s) := by
  unfold rcE
  split
  · have g := (g_lex h).1
    have e := lex_1 s (s.2.1 4)
    exact g.tr (g_rtL n _ g.1 (by rw [e]; exact hp) (by rw [e]; exact hf) (by rw [e]; exact h0))
  · exact GG.rf h
theorem g_rc {s : Mo} (h : LI s) {p n : Nat} (hp : p < s.1 0 2) : GG s (rcS p n s) := by
  obtain ⟨g1, hv⟩ := g_rcD h p
  have e := rcD_1 p s
  have hlim := h.2.2.2.1.lim
  unfold rcS
  split
  · rename_i c
    obtain ⟨f, hf, hf2, h0, hl⟩ := hv c
    rw [hf]
    show GG s (rcE p f n (rcP p f (rcD p s)))
    generalize rcD p s = D at *
    have g2 := g_rcP (f := f) g1.1 (by rw [e]; exact hp) (by rw [e]; exact hf2) (by rw [e]; exact hl)
    exact g1.tr (g2.tr (g_rcE g2.1 (by rw [rcP_lo (by decide), e]; exact hp) (by rw [rcP_lo (by decide), e]; exact hf2) (by rw [rcP_c (by omega)]; decide)))
  · exact g1
section M30
variable {g : xG} {l : Launch} {h : xH} {m : Nat} {s : Mo}
theorem x_mustT (hs : LI s) : xDet g l mX6_must 3 0 0 [.ref m, .int (xb true)] (putMod h m s) none (putMod h m (muS true s)) := c_mMust (r := true) hs.1 hs.beh
theorem c_mNx (hs : LI s) : xDet g l mX6_next 2 0 0 [.ref m] (putMod h m s) none (putMod h m (lexS s (s.2.1 4))) := c_mNext hs.1 hs.beh
theorem c_mReadsCopy (hs : LI s) {p : Nat} (hp : p < s.1 0 2) : xDet g l mX6_readsCopy 5 0 0 [.ref m, .int (nI p)] (putMod h m s) none (putMod h m (rcS p 601 s)) := by
  have hl := hs.2.2.2.1.lim
  obtain ⟨N, hN⟩ : ∃ N, N = 601 := ⟨_, rfl⟩
  rw [← hN]
  have g1 := g_rcA hs
  have e1 := rcA_1 s
  have g2 := g_fh g1.1
  have e2 : (fhS (rcA s)).1 = s.1 := (fh_1 _).trans e1
  have g3 := g_rcB g2.1.1 p ((fhV (rcA s)).getD 0)
  have g4 := g_rcC g3.1.1 ((fhV (rcA s)).getD 0)
  obtain ⟨g5, hv⟩ := g_rcD hs p
  have eD := rcD_1 p s
  have mA : xDet g l mX6_must 3 0 0 [.ref m, .int (xb true)] (putMod h m s) none (putMod h m (rcA s)) := by
    unfold rcA
    exact x_mustT hs
  have mD : xDet g l mX6_must 3 0 0 [.ref m, .int (xb true)] (putMod h m (rcC ((fhV (rcA s)).getD 0) (rcB p ((fhV (rcA s)).getD 0) (fhS (rcA s))))) none (putMod h m (rcD p s)) := by
    unfold rcD
    exact x_mustT g4.1.1
  have hA : (rcA s).1 0 1 ≤ 10 := by rw [e1]; exact hl.1
  have cA := c_mFamilyHere (g := g) (l := l) (h := h) (m := m) (s := rcA s) g1.1.b24 hA g1.1.1 g1.1.2.1
  have loop : ∀ (f : Nat), f < s.1 0 1 → ∀ (n : Nat) (t : Mo) (v3 : Option Value), LI t → t.2.2.1 0 = 0 → p < t.1 0 2 → f < t.1 0 1 → rC (t.1 0) p f ≠ 0 → (t.2.1 5 = 1 ∨ t.2.1 3 + n ≥ 602) → 601 ≤ t.2.1 3 + n → xP g l mX6_readsCopy [] (xR 5 0 0) (xZ g (fun r' h' => r' = none ∧ h' = putMod h m (rtL p f n t)) xno 0 0) 89 [some (.ref m), some (.int (nI p)), some (.int (nI f)), v3] [] (putMod h m t) 0 0 := by
    intro f hf n
    induction n with
    | zero =>
      intro t v3 ht htw hp2 hf2 h0 hk hn
      exfalso
      have h9 := ht.2.1
      rcases hk with hk | hk
      · have := ht.2.2.1 (by omega)
        have := h9.2.1
        omega
      · have := h9.1
        have := h9.2.1
        omega
    | succ n ih =>
      intro t v3 ht htw hp2 hf2 h0 hk hn
      have hlt := ht.2.2.2.1.lim
      have hT : t.1 0 0 ≤ 16 := ht.2.2.2.1.1 0 (by decide)
      have gA := g_rt1 ht
      have eA := rt1_1 t
      have gB := g_rt4 ht p f
      have eB := rt4_1 p f t
      have hv3 := rt1_v ht
      have hc : rC (t.1 0) p f < 262144 := by
        have := ht.2.2.2.1.1 (125 + 19 * p + 9 + f) (by omega)
        rw [cbd_c (by omega) (by omega)] at this
        unfold rC
        omega
      have cS : xDet g l mX6_stands 1 0 0 [.ref m, .int (nI 0), .int (nI (t.1 0 0 - 1))] (putMod h m t) (some (.int (nI (stV (rt1 t))))) (putMod h m (rt1 t)) := by
        unfold rt1
        exact c_mStands ht.1 ht.2.1
      have tl : xP g l mX6_readsCopy [] (xR 5 0 0) (xZ g (fun r' h' => r' = none ∧ h' = putMod h m (rtL p f (n + 1) t)) xno 0 0) 130 [some (.ref m), some (.int (nI p)), some (.int (nI f)), some (.int (nI (stV (rt1 t))))] [] (putMod h m (rt4 p f t)) 0 0 := by
        rw [rtL]
        refine x_aload_n dX6_readsCopy_130 rfl ?_
        refine x_getf dX6_readsCopy_131 f_X6_107 putMod_at.o rfl ?_
        refine x_if_eq 138 dX6_readsCopy_134 (by decide) (fun c1 => ?_) (fun c1 => ?_)
        rotate_left
        · rw [if_neg c1]
          exact x_vret dX6_readsCopy_137 rfl (by decide) (by decide) rfl (rfl)
        rw [if_pos c1]
        obtain ⟨k1, k2, k3, k4⟩ := g_rt5 ht hp2 hf2 h0 c1
        have gB2 : GG t (rt4 p f t) := gA.tr gB.1
        have cc := c_mCopyOf (g := g) (l := l) (putMod_at (h := h) (m := m) (s := rt4 p f t)) (p := p) (f := f) (by omega) (by omega)
        rw [eB] at cc
        have cs : xDet g l mX6_setsCopy 0 0 0 [.ref m, .int (nI p), .int (nI f), .int (nI (rC (t.1 0) p f ||| 2 ^ (stV (rt1 t))))] (putMod h m (rt4 p f t)) none (putMod h m (rt3 p f (stV (rt1 t)) (rt4 p f t))) := by
          have := c_mSetsCopy (g := g) (l := l) (h := h) (m := m) (s := rt4 p f t) (p := p) (f := f) (x := rC (t.1 0) p f ||| 2 ^ (stV (rt1 t))) (by omega) (by omega)
          unfold rt3
          rw [eB] at this ⊢
          exact this
        have cn : xDet g l mX6_next 2 0 0 [.ref m] (putMod h m (rt3 p f (stV (rt1 t)) (rt4 p f t))) none (putMod h m (rt5 p f t)) := by
          unfold rt5
          exact c_mNext (s := rt3 p f (stV (rt1 t)) (rt4 p f t)) gB2.1.1 gB2.1.beh
        have hk5 := k1.1.2.1.2.2.1
        refine x_aload_n dX6_readsCopy_138 rfl ?_
        refine x_iload_n dX6_readsCopy_139 rfl ?_
        refine x_iload_n dX6_readsCopy_140 rfl ?_
        refine x_aload_n dX6_readsCopy_141 rfl ?_
        refine x_iload_n dX6_readsCopy_142 rfl ?_
        refine x_iload_n dX6_readsCopy_143 rfl ?_
        refine x_vi0 dX6_readsCopy_144 cV_X6_182 (cc) rfl rfl ⟨⟨by decide, by decide⟩, by decide, by decide⟩ (Nat.le_of_ble_eq_true rfl) (xrecv putMod_at.o rfl xcl5) ?_
        refine x_iconst (nI 1) dX6_readsCopy_147 (by decide) ?_
        refine x_iload_n dX6_readsCopy_148 rfl ?_
        refine x_ishl1_n dX6_readsCopy_149 (by omega) ?_
        refine x_ior_n dX6_readsCopy_150 ?_
        refine x_vv0 dX6_readsCopy_151 cV_X6_172 (cs) rfl rfl ⟨⟨by decide, by decide⟩, by decide, by decide⟩ (Nat.le_of_ble_eq_true rfl) (xrecv putMod_at.o rfl xcl5) ?_
        refine x_aload_n dX6_readsCopy_154 rfl ?_
        refine x_vv0 dX6_readsCopy_155 cV_X6_126 (cn) rfl rfl ⟨⟨by decide, by decide⟩, by decide, by decide⟩ (Nat.le_of_ble_eq_true rfl) (xrecv putMod_at.o rfl xcl5) ?_
        refine x_aload_n dX6_readsCopy_158 rfl ?_
        refine x_getf dX6_readsCopy_159 f_X6_91 putMod_at.o rfl ?_
        refine x_iconst (nI 1) dX6_readsCopy_162 (by decide) ?_
        refine x_icmp_eq_n 89 dX6_readsCopy_163 (by decide) (by omega) (by omega) (fun c2 => ?_) (fun c2 => ?_)
        · rw [if_pos c2]
          have h3 := k2
          rw [if_neg (by omega), Nat.add_zero] at h3
          refine ih (rt5 p f t) _ k1.1 (by unfold rt5; rw [(lex_row _ _).2]; exact c1) (by rw [k3, va_up_ne _ _ (by omega)]; exact hp2) (by rw [k3, va_up_ne _ _ (by omega)]; exact hf2) ?_ (Or.inl c2) (by omega)
          rw [k3, rC_put (by omega) (by omega), if_pos ⟨rfl, rfl⟩]
          have : rC (t.1 0) p f ≤ rC (t.1 0) p f ||| 2 ^ stV (rt1 t) := Nat.left_le_or
          omega
        · rw [if_neg c2]
          exact x_vret dX6_readsCopy_166 rfl (by decide) (by decide) rfl (rfl)
      have hw4 := ht.2.2.2.2 htw
      refine x_aload_n dX6_readsCopy_89 rfl ?_
      refine x_iconst (nI 0) dX6_readsCopy_90 (by decide) ?_
      refine x_aload_n dX6_readsCopy_91 rfl ?_
      refine x_getf dX6_readsCopy_92 f_X6_7 putMod_at.o rfl ?_
      refine x_iconst (nI 0) dX6_readsCopy_95 (by decide) ?_
      refine x_iald_n dX6_readsCopy_96 putMod_at.a (by omega) (by decide) ?_
      refine x_iconst (nI 1) dX6_readsCopy_97 (by decide) ?_
      refine x_isub_n dX6_readsCopy_98 (show 1 ≤ t.1 0 0 by omega) ?_
      refine xP.eq (S' := [.int (nI (t.1 0 0 - 1)), .int (nI 0), .ref m]) rfl rfl rfl rfl ?_
      refine x_vi0 dX6_readsCopy_99 cV_X6_133 (cS) rfl rfl ⟨⟨by decide, by decide⟩, by decide, by decide⟩ (Nat.le_of_ble_eq_true rfl) (xrecv putMod_at.o rfl xcl5) ?_
      refine x_istore_n dX6_readsCopy_102 (by decide) (by cases v3 <;> rfl) rfl ?_
      refine xP.weak (V' := [some (.ref m), some (.int (nI p)), some (.int (nI f)), some (.int (nI (stV (rt1 t))))]) (by cases v3 <;> simp [xle, xset1, fin3]) ?_
      refine x_aload_n dX6_readsCopy_103 rfl ?_
      refine x_getf dX6_readsCopy_104 f_X6_107 putMod_at.o rfl ?_
      refine x_if_ne 130 dX6_readsCopy_107 (by decide) (fun c1 => ?_) (fun c1 => ?_)
      · have e : rt4 p f t = rt1 t := by unfold rt4 rt2; rw [if_neg (fun q => c1 q.1)]
        rw [e] at tl
        exact tl
      · have cc := c_mCopyOf (g := g) (l := l) (putMod_at (h := h) (m := m) (s := rt1 t)) (p := p) (f := f) (by omega) (by omega)
        rw [eA] at cc
        have hb := bit_lt (rC (t.1 0) p f) (stV (rt1 t))
        refine x_aload_n dX6_readsCopy_110 rfl ?_
        refine x_iload_n dX6_readsCopy_111 rfl ?_
        refine x_iload_n dX6_readsCopy_112 rfl ?_
        refine x_vi0 dX6_readsCopy_113 cV_X6_182 (cc) rfl rfl ⟨⟨by decide, by decide⟩, by decide, by decide⟩ (Nat.le_of_ble_eq_true rfl) (xrecv putMod_at.o rfl xcl5) ?_
        refine x_iload_n dX6_readsCopy_116 rfl ?_
        refine x_ishr_n dX6_readsCopy_117 (by omega) (by omega) ?_
        refine x_iconst (nI 1) dX6_readsCopy_118 (by decide) ?_
        refine x_iand_n dX6_readsCopy_119 ?_
        refine x_iconst (nI 1) dX6_readsCopy_120 (by decide) ?_
        refine x_icmp_ne_n 130 dX6_readsCopy_121 (by decide) (by omega) (by omega) (fun c2 => ?_) (fun c2 => ?_)
        · have e : rt4 p f t = rt1 t := by unfold rt4 rt2; rw [eA, if_neg (fun q => by have q2 := q.2; rw [bit0 (by omega)] at q2; cases q2)]
          rw [e] at tl
          exact tl
        · have e : rt4 p f t = flS (rt1 t) (-5) := by unfold rt4 rt2; rw [eA, if_pos ⟨c1, bit1 (by omega)⟩]
          rw [e] at tl
          refine x_aload_n dX6_readsCopy_124 rfl ?_
          refine x_bipush (-5) dX6_readsCopy_125 (by decide) ?_
          refine x_vv0 dX6_readsCopy_127 cV_X6_122 (c_mFails) rfl rfl ⟨⟨by decide, by decide⟩, by decide, by decide⟩ (Nat.le_of_ble_eq_true rfl) (xrecv putMod_at.o rfl xcl5) ?_
          exact tl
  have e9 : rcS p N s = (if (rcD p s).2.2.1 0 = 0 then rcE p ((fhV (rcA s)).getD 0) N (rcP p ((fhV (rcA s)).getD 0) (rcD p s)) else rcD p s) := rfl
  have fin : xP g l mX6_readsCopy [] (xR 5 0 0) (xZ g (fun r' h' => r' = none ∧ h' = putMod h m (rcS p N s)) xno 0 0) 54 [some (.ref m), some (.int (nI p)), some (.int (oI (fhV (rcA s)))), none] [] (putMod h m (rcC ((fhV (rcA s)).getD 0) (rcB p ((fhV (rcA s)).getD 0) (fhS (rcA s))))) 0 0 := by
    rw [e9]
    refine x_aload_n dX6_readsCopy_54 rfl ?_
    refine x_iconst (nI 1) dX6_readsCopy_55 (by decide) ?_
    refine xP.eq (S' := [.int (xb true), .ref m]) rfl rfl rfl rfl ?_
    refine x_vv0 dX6_readsCopy_56 cV_X6_129 (mD) rfl rfl ⟨⟨by decide, by decide⟩, by decide, by decide⟩ (Nat.le_of_ble_eq_true rfl) (xrecv putMod_at.o rfl xcl5) ?_
    refine x_aload_n dX6_readsCopy_59 rfl ?_
    refine x_getf dX6_readsCopy_60 f_X6_107 putMod_at.o rfl ?_
    refine x_if_eq 67 dX6_readsCopy_63 (by decide) (fun c1 => ?_) (fun c1 => ?_)
    rotate_left
    · rw [if_neg c1]
      exact x_vret dX6_readsCopy_66 rfl (by decide) (by decide) rfl (rfl)
    rw [if_pos c1]
    obtain ⟨f, hf, hf2, h0, hlf⟩ := hv c1
    rw [hf]
    show xP g l mX6_readsCopy [] (xR 5 0 0) (xZ g (fun r' h' => r' = none ∧ h' = putMod h m (rcE p f N (rcP p f (rcD p s)))) xno 0 0) 67 _ [] _ 0 0
    refine xP.weak (V' := [some (.ref m), some (.int (nI p)), some (.int (nI f)), none]) (by simp [xle, xset1, fin3, oI]) ?_
    generalize rcD p s = D at *
    have g6 := g_rcP (f := f) g5.1 (by rw [eD]; exact hp) (by rw [eD]; exact hf2) (by rw [eD]; exact hlf)
    have l2 : (rcP p f D).1 0 2 = s.1 0 2 := by rw [rcP_lo (by decide), eD]
    have l1 : (rcP p f D).1 0 1 = s.1 0 1 := by rw [rcP_lo (by decide), eD]
    have lc : rC ((rcP p f D).1 0) p f = 65536 := rcP_c (by omega)
    have lw : (rcP p f D).2.2.1 0 = 0 := c1
    have cs : xDet g l mX6_setsCopy 0 0 0 [.ref m, .int (nI p), .int (nI f), .int (nI 65536)] (putMod h m D) none (putMod h m (rcP p f D)) := by
      unfold rcP
      exact c_mSetsCopy (by omega) (by omega)
    generalize rcP p f D = P at *
    refine x_aload_n dX6_readsCopy_67 rfl ?_
    refine x_iload_n dX6_readsCopy_68 rfl ?_
    refine x_iload_n dX6_readsCopy_69 rfl ?_
    refine x_ldc (v := nI 65536) dX6_readsCopy_70 k_X6_188 ?_
    refine x_vv0 dX6_readsCopy_72 cV_X6_172 (cs) rfl rfl ⟨⟨by decide, by decide⟩, by decide, by decide⟩ (Nat.le_of_ble_eq_true rfl) (xrecv putMod_at.o rfl xcl5) ?_
    refine x_aload_n dX6_readsCopy_75 rfl ?_
    refine x_ldcS (j := 13) rfl rfl rfl dX6_readsCopy_76 ?_
    unfold rcE
    refine x_vi0 dX6_readsCopy_78 cV_X6_145 (c_mIsWord xv6 putMod_at g6.1.1 g6.1.2.1) rfl rfl ⟨⟨by decide, by decide⟩, by decide, by decide⟩ (Nat.le_of_ble_eq_true rfl) (xrecv putMod_at.o rfl xcl5) ?_
    refine x_if_ne_b 85 dX6_readsCopy_81 (by decide) (fun c2 => ?_) (fun c2 => ?_)
    · rw [if_pos c2]
      have gn := g_lex g6.1
      have en := lex_1 P (P.2.1 4)
      have h3 : P.2.1 3 < P.2.1 4 := by
        have c3 := c2
        unfold isWB at c3
        rw [Bool.and_eq_true, decide_eq_true_eq] at c3
        have : W6.length = 7 := rfl
        omega
      refine x_aload_n dX6_readsCopy_85 rfl ?_
      refine x_vv0 dX6_readsCopy_86 cV_X6_126 (c_mNx g6.1) rfl rfl ⟨⟨by decide, by decide⟩, by decide, by decide⟩ (Nat.le_of_ble_eq_true rfl) (xrecv putMod_at.o rfl xcl5) ?_
      refine loop f hf2 N (lexS P (P.2.1 4)) none gn.1.1 (by rw [(lex_row _ _).2]; exact lw) (by rw [en, l2]; exact hp) (by rw [en, l1]; exact hf2) (by rw [en, lc]; decide) (Or.inr ?_) ?_
      · have := gn.2
        omega
      · omega
    · rw [if_neg (by rw [c2]; decide)]
      exact x_vret dX6_readsCopy_84 rfl (by decide) (by decide) rfl (rfl)
  refine xMet.of (V := [some (.ref m), some (.int (nI p)), none, none]) moX6_readsCopy (Nat.le_of_ble_eq_true rfl) rfl ?_
  refine x_aload_n dX6_readsCopy_0 rfl ?_
  refine x_iconst (nI 1) dX6_readsCopy_1 (by decide) ?_
  refine xP.eq (S' := [.int (xb true), .ref m]) rfl rfl rfl rfl ?_
  have mid : ∀ t : Mo, t = rcB p ((fhV (rcA s)).getD 0) (fhS (rcA s)) → xP g l mX6_readsCopy [] (xR 5 0 0) (xZ g (fun r' h' => r' = none ∧ h' = putMod h m (rcS p N s)) xno 0 0) 32 [some (.ref m), some (.int (nI p)), some (.int (oI (fhV (rcA s)))), none] [] (putMod h m t) 0 0 := by
    intro t et
    have et1 : t.1 = s.1 := by rw [et]; exact g3.2.1.trans e2
    have ht := g3.1
    rw [← et] at ht fin
    refine x_aload_n dX6_readsCopy_32 rfl ?_
    refine x_getf dX6_readsCopy_33 f_X6_107 putMod_at.o rfl ?_
    refine x_if_ne 54 dX6_readsCopy_36 (by decide) (fun c3 => ?_) (fun c3 => ?_)
    · rw [show rcC ((fhV (rcA s)).getD 0) t = t by unfold rcC; rw [if_neg (fun q => c3 q.1)]] at fin
      exact fin
    · obtain ⟨f, hf, hf2⟩ := g2.2 (ht.2.2.1 c3)
      rw [e1] at hf2
      rw [hf] at fin ⊢
      have hlf := ht.1.2.2.2.1.2.1 f (by rw [et1]; exact hf2)
      have hrm := (ht.1.ok c3).ok.2.2.2.2.1 f (by omega)
      have cl := c_mLeftOf (g := g) (l := l) (putMod_at (h := h) (m := m) (s := t)) (ht.1.ok c3).ok (f := f) (by omega) hlf
      have el : rF (t.1 0) f 0 - mCop (t.1 0) f 0 = mLeft (t.1 0) f := rfl
      rw [el] at cl
      have hlt : mLeft (t.1 0) f ≤ 20 := Nat.le_trans (Nat.sub_le _ _) hrm.2
      refine xP.weak (V' := [some (.ref m), some (.int (nI p)), some (.int (nI f)), none]) (by simp [xle, xset1, fin3, oI]) ?_
      refine x_aload_n dX6_readsCopy_39 rfl ?_
      refine x_iload_n dX6_readsCopy_40 rfl ?_
      refine x_vi0 dX6_readsCopy_41 cV_X6_185 (cl) rfl rfl ⟨⟨by decide, by decide⟩, by decide, by decide⟩ (Nat.le_of_ble_eq_true rfl) (xrecv putMod_at.o rfl xcl5) ?_
      refine x_iconst (nI 1) dX6_readsCopy_44 (by decide) ?_
      refine x_icmp_ge_n 54 dX6_readsCopy_45 (by decide) (by omega) (by omega) (fun c4 => ?_) (fun c4 => ?_)
      · rw [show rcC ((some f).getD 0) t = t by unfold rcC; rw [if_neg (fun q => by have q2 : mLeft (t.1 0) f < 1 := q.2; omega)]] at fin
        exact fin
      · rw [show rcC ((some f).getD 0) t = flS t (-6) by unfold rcC; rw [if_pos ⟨c3, by show mLeft (t.1 0) f < 1; omega⟩]] at fin
        refine x_aload_n dX6_readsCopy_48 rfl ?_
        refine x_bipush (-6) dX6_readsCopy_49 (by decide) ?_
        refine x_vv0 dX6_readsCopy_51 cV_X6_122 (c_mFails) rfl rfl ⟨⟨by decide, by decide⟩, by decide, by decide⟩ (Nat.le_of_ble_eq_true rfl) (xrecv putMod_at.o rfl xcl5) ?_
        exact fin
  refine x_vv0 dX6_readsCopy_2 cV_X6_129 (mA) rfl rfl ⟨⟨by decide, by decide⟩, by decide, by decide⟩ (Nat.le_of_ble_eq_true rfl) (xrecv putMod_at.o rfl xcl5) ?_
  refine x_aload_n dX6_readsCopy_5 rfl ?_
  refine x_vi0 dX6_readsCopy_6 cV_X6_158 (cA) rfl rfl ⟨⟨by decide, by decide⟩, by decide, by decide⟩ (Nat.le_of_ble_eq_true rfl) (xrecv putMod_at.o rfl xcl5) ?_
  refine x_istore_n dX6_readsCopy_9 (by decide) rfl rfl ?_
  refine x_aload_n dX6_readsCopy_10 rfl ?_
  refine x_getf dX6_readsCopy_11 f_X6_107 putMod_at.o rfl ?_
  refine x_if_ne 32 dX6_readsCopy_14 (by decide) (fun c1 => ?_) (fun c1 => ?_)
  · exact mid _ (by unfold rcB; rw [if_neg (fun q => c1 q.1)])
  · obtain ⟨f, hf, hf2⟩ := g2.2 c1
    rw [e1] at hf2
    rw [hf] at mid ⊢
    have cc := c_mCopyOf (g := g) (l := l) (putMod_at (h := h) (m := m) (s := fhS (rcA s))) (p := p) (f := f) (by omega) (by omega)
    rw [e2] at cc
    have hc : rC (s.1 0) p f < 262144 := by
      have := hs.2.2.2.1.1 (125 + 19 * p + 9 + f) (by omega)
      rw [cbd_c (by omega) (by omega)] at this
      unfold rC
      omega
    refine xP.weak (V' := [some (.ref m), some (.int (nI p)), some (.int (nI f)), none]) (by simp [xle, xset1, fin3, oI]) ?_
    refine x_aload_n dX6_readsCopy_17 rfl ?_
    refine x_iload_n dX6_readsCopy_18 rfl ?_
    refine x_iload_n dX6_readsCopy_19 rfl ?_
    refine x_vi0 dX6_readsCopy_20 cV_X6_182 (cc) rfl rfl ⟨⟨by decide, by decide⟩, by decide, by decide⟩ (Nat.le_of_ble_eq_true rfl) (xrecv putMod_at.o rfl xcl5) ?_
    refine x_if_eq_n 32 dX6_readsCopy_23 (by decide) (by omega) (fun c2 => ?_) (fun c2 => ?_)
    · exact mid _ (by unfold rcB; rw [e2, if_neg (fun q => q.2 (by show rC (s.1 0) p f = 0; omega))])
    · refine x_aload_n dX6_readsCopy_26 rfl ?_
      refine x_bipush (-5) dX6_readsCopy_27 (by decide) ?_
      refine x_vv0 dX6_readsCopy_29 cV_X6_122 (c_mFails) rfl rfl ⟨⟨by decide, by decide⟩, by decide, by decide⟩ (Nat.le_of_ble_eq_true rfl) (xrecv putMod_at.o rfl xcl5) ?_
      exact mid _ (by unfold rcB; rw [e2, if_pos ⟨c1, by show rC (s.1 0) p f ≠ 0; omega⟩])
end M30
