/-! ===== a text is read the same: copies ===== -/
theorem up_up {f : Nat → Nat} {k x y : Nat} : va_up (va_up f k x) k y = va_up f k y := by
  funext q
  unfold va_up
  split <;> rfl
theorem ep_rt4 (p f : Nat) (s : Mo) : EP (rt1 s) (rt4 p f s) := by
  unfold rt4 rt2
  split
  · exact EP.fl _ _
  · exact EP.rf _
theorem ep_rtL (p f n : Nat) (s : Mo) : EP (rt4 p f s) (rtL p f (n + 1) s) := fun q => by
  rw [rtL, if_neg q]
  exact ⟨rfl, rfl⟩
theorem p_tl {b : Nat → Nat} {A : Nat → Nat} {p fm T : Nat} (hT : 4 ≤ T ∧ T ≤ 16) (hA0 : A 0 = T) (hp : p < A 2) (hf : fm < A 1) (hK : A 2 ≤ 12) (hNN : A 1 ≤ 10) :
    ∀ (f n N set : Nat) (t : Tr) (s : Mo), f + n = T + 1 → 601 ≤ N + n → popc set = n → set < 2 ^ T → PT b t s → s.1 0 = va_up A (125 + 19 * p + 9 + fm) (65536 + set) → (n = 0 ∨ s.2.1 5 = 1) → LI s →
      match (ndTl b T f n set t).1 with
      | none => ER (ndTl b T f n set t).2 (rtL p fm N s)
      | some x => PT b (ndTl b T f n set t).2 (rtL p fm N s) ∧ (rtL p fm N s).1 0 = va_up A (125 + 19 * p + 9 + fm) (65536 + x) ∧ x < 2 ^ T ∧ LI (rtL p fm N s) := by
  have hT2 : 2 ^ T ≤ 65536 := pow_le2 (a := T) (b := 16) hT.2
  intro f
  induction f with
  | zero =>
    intro n N set t s h1 h2 h3 h4
    exfalso
    have := popc_le h4 (show T ≤ 32 by omega)
    omega
  | succ f ih =>
    intro n N set t s h1 h2 h3 h4 hP hrow hk hI
    obtain ⟨N, rfl⟩ : ∃ N', N = N' + 1 := ⟨N - 1, by omega⟩
    have hcond : (n = 0 ∨ digAt b t.1.1 (skp b t.1.1 t.2.1) = true) := by
      rcases hk with q | q
      · exact Or.inl q
      · right
        obtain ⟨-, k2⟩ := hP.tok
        rcases k2 with ⟨a, d, e⟩ | ⟨a, d, e, g⟩ | ⟨a, d, e, g, i, j⟩ | ⟨a, d, e, g, i⟩
        · omega
        · omega
        · unfold digAt
          rw [decide_eq_true a, e]
          rfl
        · omega
    have hP9 : PT b (if n = 0 then t else trSk b t) s := by
      by_cases q : n = 0
      · rw [if_pos q]; exact hP
      · rw [if_neg q]; exact hP.skip
    have e0 : s.1 0 0 = T := by rw [hrow, va_up_ne _ _ (by omega)]; exact hA0
    have e1 : rt1 s = stS 0 (T - 1) s := by unfold rt1; rw [e0]
    have kn := p_num (lo := 0) (hi := T - 1) (by decide) (by omega) hI.2.1.2.2.2 hP9
    have hc0 : rC (s.1 0) p fm = 65536 + set := by
      rw [hrow, rC_put (by omega) (by omega), if_pos ⟨rfl, rfl⟩]
    rw [ndTl, if_pos hcond]
    generalize hD : ndD b 0 (T - 1) (if n = 0 then t else trSk b t) = D at *
    by_cases c1 : D.1 = true
    rotate_left
    · rw [if_neg c1] at kn ⊢
      rw [← e1] at kn
      show ER D.2 (rtL p fm (N + 1) s)
      exact kn.go ((ep_rt4 p fm s).tr (ep_rtL p fm N s))
    rw [if_pos c1] at kn ⊢
    obtain ⟨n1, n2, n3, n4, n5, n6⟩ := kn
    have hvb := (st_val (s := s) (lo := 0) (hi := T - 1) (by decide) (by omega) hI.2.1.2.2.2).1
    rw [n4] at hvb
    rw [n3] at e1
    have ev : stV (rt1 s) = D.2.2.2.2.1 := by rw [e1, ← n3]; exact n4
    have hbit : (rC (s.1 0) p fm).testBit D.2.2.2.2.1 = set.testBit D.2.2.2.2.1 := by
      rw [hc0, hi_or1 (by omega), Nat.testBit_or, c1_16 _ (by omega), Bool.false_or]
    have e4 : rt4 p fm s = if set.testBit D.2.2.2.2.1 = true then flS s (-5) else s := by
      unfold rt4
      rw [ev, e1]
      unfold rt2
      rw [hbit]
      by_cases q : set.testBit D.2.2.2.2.1 = true
      · rw [if_pos q, if_pos ⟨hP.2.2.1, q⟩]
      · rw [if_neg q, if_neg (fun z => q z.2)]
    by_cases c2 : set.testBit D.2.2.2.2.1 = true
    · rw [if_pos c2] at e4 ⊢
      show ER (trFail D.2 (-5) (nI D.2.2.2.1)) (rtL p fm (N + 1) s)
      have : ER (trFail D.2 (-5) (nI D.2.2.2.1)) (rt4 p fm s) := by
        rw [e4]
        exact ER.fl hP.2.2.1 (by decide) n5.symm
      exact this.go (ep_rtL p fm N s)
    rw [if_neg c2] at e4 ⊢
    have c2 : set.testBit D.2.2.2.2.1 = false := by simpa using c2
    have w4 : (rt4 p fm s).2.2.1 0 = 0 := by rw [e4]; exact hP.2.2.1
    have s2 : p < s.1 0 2 := by rw [hrow, va_up_ne _ _ (by omega)]; exact hp
    have s1 : fm < s.1 0 1 := by rw [hrow, va_up_ne _ _ (by omega)]; exact hf
    obtain ⟨g1, g2, g3, g4⟩ := g_rt5 hI s2 s1 (by rw [hc0]; omega) w4
    have e5 : rt5 p fm s = mR (lexS s (s.2.1 4)) 0 (va_up (s.1 0) (125 + 19 * p + 9 + fm) (rC (s.1 0) p fm ||| 2 ^ D.2.2.2.2.1)) := by
      unfold rt5 rt3
      rw [e4, ev, lex_mR]
    have p5 : PT b D.2 (rt5 p fm s) := by rw [e5]; exact n1.row _
    have hset : set ||| 2 ^ D.2.2.2.2.1 < 2 ^ T := Nat.or_lt_two_pow h4 (Nat.pow_lt_pow_right (by decide) (by omega))
    have hpc : popc (set ||| 2 ^ D.2.2.2.2.1) = n + 1 := by rw [popc_set (by omega) c2, h3]
    have r5 : (rt5 p fm s).1 0 = va_up A (125 + 19 * p + 9 + fm) (65536 + (set ||| 2 ^ D.2.2.2.2.1)) := by
      rw [g3, ev, hc0, hrow, up_up, hi_or1 (by omega), hi_or1 (by omega), Nat.or_assoc]
    have hle := popc_le hset (show T ≤ 32 by omega)
    rw [rtL, if_pos w4]
    by_cases c3 : (rt5 p fm s).2.1 5 = 1
    · rw [if_pos c3]
      exact ih (n + 1) N _ D.2 (rt5 p fm s) (by omega) (by omega) hpc hset p5 r5 (Or.inr c3) g1.1
    · rw [if_neg c3]
      obtain ⟨f, rfl⟩ : ∃ f', f = f' + 1 := ⟨f - 1, by omega⟩
      have hnd : ¬ (n + 1 = 0 ∨ digAt b D.2.1.1 (skp b D.2.1.1 D.2.2.1) = true) := by
        intro q
        rcases q with q | q
        · omega
        · unfold digAt at q
          rw [Bool.and_eq_true, decide_eq_true_eq] at q
          obtain ⟨-, k2⟩ := p5.tok
          rcases k2 with ⟨a, d, e⟩ | ⟨a, d, e, g⟩ | ⟨a, d, e, g, i, j⟩ | ⟨a, d, e, g, i⟩
          · omega
          · have z1 := isLt_lt d
            have z2 := isDg_lt q.2
            omega
          · exact c3 i
          · rw [q.2] at e; cases e
      rw [ndTl, if_neg hnd]
      exact ⟨p5.skip, r5, hset, g1.1⟩
theorem ep_rcB (p f : Nat) (s : Mo) : EP s (rcB p f s) := by
  unfold rcB
  split
  · exact EP.fl s _
  · exact EP.rf s
theorem ep_rcC (f : Nat) (s : Mo) : EP s (rcC f s) := by
  unfold rcC
  split
  · exact EP.fl s _
  · exact EP.rf s
theorem ep_rcD (p : Nat) (s : Mo) : EP (rcC ((fhV (rcA s)).getD 0) (rcB p ((fhV (rcA s)).getD 0) (fhS (rcA s)))) (rcD p s) := by
  unfold rcD
  exact EP.mu _ _
theorem ep_rcS (p n : Nat) (s : Mo) : EP (rcD p s) (rcS p n s) := fun q => by
  unfold rcS
  rw [if_neg q]
  exact ⟨rfl, rfl⟩
theorem p_rdCp {b : Nat → Nat} {t : Tr} {s : Mo} {st : Ar} {p N : Nat} (hNb : 601 ≤ N) (hI : LI s) (h : PT b t s) (hv : NV st (s.1 0) 0) (hp : p < st.1 2) (hc : (tkW b W5 t).1 = true) : OUT b (rdCp b p (tkW b W5 t).2 st) (rcS p N s) := by
  obtain ⟨hp1, htok⟩ := h.pass (W := W5) (by decide) hc
  have hNN := hv.N10
  have hKK := hv.K12
  have hT := hv.ok.1
  unfold aT at hT
  obtain ⟨a0, a1, a2, -, -⟩ := hv.r0
  have gA := g_rcA hI
  have eA := rcA_1 s
  have eAs : rcA s = lexS s (s.2.1 4) := by
    unfold rcA muS nxS
    rw [if_pos rfl, if_pos h.2.2.1]
  rw [← eAs] at hp1
  generalize (tkW b W5 t).2 = t1 at *
  have k1 := p_fam hp1 (st := st) (n := 0) (by rw [eA]; exact hv)
  unfold rdCp
  generalize hF : ndF b (st.2.1 0) (st.1 1) t1 = F at *
  cases hi : F.1 with
  | none =>
    rw [hi] at k1
    have k1 : ER F.2 (fhS (rcA s)) := k1
    exact OUT.bad (k1.go ((ep_rcB p _ _).tr ((ep_rcC _ _).tr ((ep_rcD p s).tr (ep_rcS p N s)))))
  | some f =>
    rw [hi] at k1
    obtain ⟨b1, b2, b3, b4, b5⟩ := k1
    have ef : (fhV (rcA s)).getD 0 = f := by rw [b1]; rfl
    have epC := ep_rcD p s
    rw [ef, b3] at epC
    have hz := hv.nz hp b2
    have eR : rC ((rcA s).1 0) p f = rC (s.1 0) p f := by rw [eA]
    have eL : mLeft ((rcA s).1 0) f = leftV st f := by rw [eA]; exact hv.left b2
    show OUT b (if hasB st p f = true then (false, trFail F.2 (-5) (nI F.2.2.2.1), st)
      else if leftV st f = 0 then (false, trFail F.2 (-6) (nI F.2.2.2.1), st)
      else if (tkW b W6 F.2).1 = true then
        match (ndTl b (st.1 0) (st.1 0 + 1) 0 0 (tkW b W6 F.2).2).1 with
        | none => (false, (ndTl b (st.1 0) (st.1 0 + 1) 0 0 (tkW b W6 F.2).2).2, st)
        | some x => (true, (ndTl b (st.1 0) (st.1 0 + 1) 0 0 (tkW b W6 F.2).2).2, addCopyS st p f x)
      else (true, (tkW b W6 F.2).2, addCopyS st p f 0)) (rcS p N s)
    by_cases c1 : hasB st p f = true
    · rw [if_pos c1]
      have eB : rcB p f (rcA s) = flS (rcA s) (-5) := by
        unfold rcB
        rw [if_pos ⟨hp1.2.2.1, by rw [eR]; intro q; rw [hz.mp q] at c1; cases c1⟩]
      have : ER (trFail F.2 (-5) (nI F.2.2.2.1)) (rcB p f (rcA s)) := by
        rw [eB]
        exact ER.fl hp1.2.2.1 (by decide) b4.2.2.2.1
      exact OUT.bad (this.go ((ep_rcC f _).tr (epC.tr (ep_rcS p N s))))
    have c1 : hasB st p f = false := by simpa using c1
    have eB : rcB p f (rcA s) = rcA s := by
      unfold rcB
      rw [if_neg (fun q => q.2 (by rw [eR]; exact hz.mpr c1))]
    rw [if_neg (by rw [c1]; decide)]
    rw [eB] at epC
    by_cases c2 : leftV st f = 0
    · rw [if_pos c2]
      have eC : rcC f (rcA s) = flS (rcA s) (-6) := by
        unfold rcC
        rw [if_pos ⟨hp1.2.2.1, by rw [eL]; omega⟩]
      have : ER (trFail F.2 (-6) (nI F.2.2.2.1)) (rcC f (rcA s)) := by
        rw [eC]
        exact ER.fl hp1.2.2.1 (by decide) b4.2.2.2.1
      exact OUT.bad (this.go (epC.tr (ep_rcS p N s)))
    rw [if_neg c2]
    have eC : rcC f (rcA s) = rcA s := by
      unfold rcC
      rw [if_neg (fun q => by have q2 := q.2; rw [eL] at q2; omega)]
    have eDs : rcD p s = lexS (rcA s) ((rcA s).2.1 4) := by
      unfold rcD
      rw [ef, b3, eB, eC]
      unfold muS nxS
      rw [if_pos rfl, if_pos hp1.2.2.1]
    have pD : PT b F.2 (rcD p s) := by rw [eDs]; exact b4.next rfl rfl
    have eD := rcD_1 p s
    have gD := (g_rcD hI p).1
    have pP : PT b F.2 (rcP p f (rcD p s)) := pD.row _
    have rP : (rcP p f (rcD p s)).1 0 = va_up (s.1 0) (125 + 19 * p + 9 + f) 65536 := by
      show va_up ((rcD p s).1 0) _ _ = _
      rw [eD]
    have gP := g_rcP (p := p) (f := f) gD.1 (by rw [eD, a2]; exact hp) (by rw [eD, a1]; exact b2) (by rw [eD, hv.left b2]; omega)
    have eS : rcS p N s = rcE p f N (rcP p f (rcD p s)) := by
      unfold rcS
      rw [if_pos pD.2.2.1, ef]
    rw [eS]
    generalize rcP p f (rcD p s) = P at *
    have hw6 := pP.isW (W := W6) (by decide)
    unfold rcE
    rw [hw6]
    by_cases c3 : (tkW b W6 F.2).1 = true
    · rw [if_pos c3, if_pos c3]
      have pn := (pP.pass (W := W6) (by decide) c3).1
      have gn := (g_lex gP.1).1
      have en := lex_1 P (P.2.1 4)
      have hk := p_tl (b := b) (A := s.1 0) (p := p) (fm := f) (T := st.1 0) hT a0 (by rw [a2]; exact hp) (by rw [a1]; exact b2) (by omega) (by omega) (st.1 0 + 1) 0 N 0 (tkW b W6 F.2).2 (lexS P (P.2.1 4)) rfl hNb (by decide +kernel) (Nat.two_pow_pos _) pn (by rw [en, rP]) (Or.inl rfl) gn.1
      generalize hE : ndTl b (st.1 0) (st.1 0 + 1) 0 0 (tkW b W6 F.2).2 = E at *
      cases hx : E.1 with
      | none =>
        rw [hx] at hk
        exact OUT.bad hk
      | some x =>
        rw [hx] at hk
        obtain ⟨q1, q2, q3, q4⟩ := hk
        refine ⟨q1, ?_⟩
        refine hv.addC hp b2 c1 (by omega) q3 (q4.ok q1.2.2.1) ?_
        rw [q2]
        rfl
    · rw [if_neg c3, if_neg c3]
      have pst := (pP.stay (W := W6) (by simpa using c3)).1
      refine ⟨pst, ?_⟩
      refine hv.addC hp b2 c1 (by omega) (Nat.two_pow_pos _) (gP.1.ok pP.2.2.1) ?_
      rw [rP]
      rfl
/-! pictures -/
theorem rqB_wr {p m n : Nat} {s : Mo} (h : s.2.2.1 0 ≠ 0) : rqB p m n s = s := by
  cases n with
  | zero => rfl
  | succ n =>
    rw [rqB, if_neg (fun q => h (isWB_tok q).1)]
theorem rdCp_2 {b : Nat → Nat} {p : Nat} {t : Tr} {st : Ar} (hc : (rdCp b p t st).1 = true) : (rdCp b p t st).2.2.1 = st.1 := by
  unfold rdCp at hc ⊢
  split
  · rfl
  · split
    · rfl
    · split
      · rfl
      · split
        · split <;> rfl
        · rfl
theorem p_rdBy {b : Nat → Nat} {p N : Nat} (hNb : 601 ≤ N) : ∀ (f n : Nat) (t : Tr) (s : Mo) (st : Ar), LI s → PT b t s → NV st (s.1 0) 0 → p < st.1 2 → (isWB s W5 = true → 600 ≤ s.2.1 3 + f) → (isWB s W5 = true → 601 ≤ s.2.1 3 + n) → OUT b (rdBy b p f t st) (rqB p N n s) ∧ ((rdBy b p f t st).1 = true → LI (rqB p N n s)) := by
  intro f
  induction f with
  | zero =>
    intro n t s st hI h hv hp h1 h2
    have hw : ¬ isWB s W5 = true := fun q => by
      have k := isWB_tok q
      have := h1 q
      have := hI.2.2.1 (by omega)
      have := hI.2.1.2.1
      omega
    have e : rqB p N n s = s := by
      cases n with
      | zero => rfl
      | succ n => rw [rqB, if_neg hw]
    rw [e]
    exact ⟨⟨h, hv⟩, fun _ => hI⟩
  | succ f ih =>
    intro n t s st hI h hv hp h1 h2
    have hw := h.isW (W := W5) (by decide)
    rw [rdBy]
    by_cases c : (tkW b W5 t).1 = true
    · rw [if_pos c]
      rw [c] at hw
      obtain ⟨n, rfl⟩ : ∃ n', n = n' + 1 := ⟨n - 1, by
        have k := isWB_tok hw
        have := h2 hw
        have := hI.2.2.1 (by omega)
        have := hI.2.1.2.1
        omega⟩
      rw [rqB, if_pos hw]
      have k := p_rdCp (N := N) hNb hI h hv hp c
      have a2 := hv.r0.2.2.1
      have g9 := g_rc (n := N) hI (p := p) (by rw [a2]; exact hp)
      have e2 := rdCp_2 (b := b) (p := p) (t := (tkW b W5 t).2) (st := st)
      generalize rdCp b p (tkW b W5 t).2 st = C at *
      unfold OUT at k
      by_cases c2 : C.1 = true
      · rw [if_pos c2] at k ⊢
        have tk := isWB_tok hw
        have pr : (rcS p N s).2.2.1 0 = 0 → s.2.1 3 < (rcS p N s).2.1 3 := fun q => p_rc (n := N) hI (by rw [a2]; exact hp) (by omega) q
        have lt := pr k.1.2.2.1
        exact ih n _ _ _ g9.1 k.1 k.2 (by rw [e2 c2]; exact hp) (fun q => by have := h1 hw; omega) (fun q => by have := h2 hw; omega)
      · rw [if_neg c2] at k ⊢
        rw [rqB_wr k.2.1]
        unfold OUT
        rw [if_neg c2]
        exact ⟨k, fun q => absurd q c2⟩
    · rw [if_neg c]
      have c' : (tkW b W5 t).1 = false := by simpa using c
      rw [c'] at hw
      have e : rqB p N n s = s := by
        cases n with
        | zero => rfl
        | succ n => rw [rqB, if_neg (by rw [hw]; decide)]
      rw [e]
      exact ⟨⟨(h.stay c').1, hv⟩, fun _ => hI⟩
