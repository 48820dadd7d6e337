/-! ===== a text is read the same: families, neighbours ===== -/
theorem lex_mR (s : Mo) (A : Nat → Nat) (q : Nat) : lexS (mR s 0 A) q = mR (lexS s q) 0 A := by
  have u : ∀ S : Mo, lexS S q = (if S.2.1 2 ≤ skp (S.1 5) (S.2.1 2) q then mk4 S (skp (S.1 5) (S.2.1 2) q) (skp (S.1 5) (S.2.1 2) q) 3 0 else if ltAt (S.1 5) (S.2.1 2) (skp (S.1 5) (S.2.1 2) q) = true then mk4 S (skp (S.1 5) (S.2.1 2) q) (wEnd (S.1 5) (S.2.1 2) (skp (S.1 5) (S.2.1 2) q)) 0 0 else if digAt (S.1 5) (S.2.1 2) (skp (S.1 5) (S.2.1 2) q) = true then mk4 S (skp (S.1 5) (S.2.1 2) q) (dgF (S.1 5) (S.2.1 2 - skp (S.1 5) (S.2.1 2) q) (skp (S.1 5) (S.2.1 2) q) 0).1 1 (dgF (S.1 5) (S.2.1 2 - skp (S.1 5) (S.2.1 2) q) (skp (S.1 5) (S.2.1 2) q) 0).2 else mk4 S (skp (S.1 5) (S.2.1 2) q) (skp (S.1 5) (S.2.1 2) q + 1) 2 0) := fun _ => rfl
  have r5 : (mR s 0 A).1 5 = s.1 5 := rfl
  have r2 : (mR s 0 A).2.1 2 = s.2.1 2 := rfl
  have mm : ∀ a b c d, mk4 (mR s 0 A) a b c d = mR (mk4 s a b c d) 0 A := fun _ _ _ _ => rfl
  rw [u, u s, r5, r2, mm, mm, mm, mm]
  split
  · rfl
  · split
    · rfl
    · split <;> rfl
theorem PT.row {b : Nat → Nat} {t : Tr} {s : Mo} (h : PT b t s) (A : Nat → Nat) : PT b t (mR s 0 A) := ⟨h.1, h.2.1, h.2.2.1, by rw [lex_mR, h.2.2.2.1], h.2.2.2.2⟩
def OUT (b : Nat → Nat) (P : Bool × Tr × Ar) (s' : Mo) : Prop := if P.1 = true then PT b P.2.1 s' ∧ NV P.2.2 (s'.1 0) 0 else ER P.2.1 s'
theorem OUT.bad {b : Nat → Nat} {t : Tr} {st : Ar} {s' : Mo} (h : ER t s') : OUT b (false, t, st) s' := h
/-- nothing stands in the families that are not there yet -/
def LZ (A : Nat → Nat) : Prop := ∀ f i, A 1 ≤ f → f < 10 → 1 ≤ i → i < 4 → A (5 + 12 * f + i) = 0
theorem ep_rf3 (f : Nat) (s : Mo) : EP s (rf3 f s) := by
  unfold rf3
  split
  · exact EP.rf s
  · exact EP.fl s _
theorem ep_rf2 (s : Mo) : EP (rf1 s) (rf2 s) := by
  unfold rf2
  exact (EP.mu _ _).tr (EP.mn _)
theorem ep_rf (s : Mo) : EP (rf2 s) (rfS s) := fun q => by
  have k := ep_rf3 (s.1 0 1) (rf2 s) q
  unfold rfS
  rw [if_neg (by rw [k.1]; exact q)]
  exact k
theorem ep_rf78 (s : Mo) : EP s (rf8 (rf7 s)) := by
  have h1 : EP s (rf7 s) := by unfold rf7; exact EP.mu _ _
  refine h1.tr ?_
  unfold rf8
  exact EP.row _ _
theorem NV.rdFam {st : Ar} {A A' : Nat → Nat} {n v : Nat} {nm : Int64} {g : Nat → Nat} (h : NV st A n) (hN : st.1 1 < 10) (hv : v ≤ 20) (hz : rZ A) (hl : LZ A) (hg : nmR g nm) (hrk : rK A' n)
    (e1 : A' 1 = st.1 1 + 1) (e0 : A' (5 + 12 * st.1 1 + 0) = v) (en : ∀ k, k < 8 → A' (5 + 12 * st.1 1 + 4 + k) = g k) (el : ∀ k, k ≠ 1 → k ≠ 5 + 12 * st.1 1 + 0 → ¬ (5 + 12 * st.1 1 + 4 ≤ k ∧ k < 5 + 12 * st.1 1 + 12) → A' k = A k) : NV (addFamS st nm v) A' n := by
  have eN := h.r0.2.1
  have eK := h.r0.2.2.1
  have hK := h.K12
  have z := h.aw.2.1 (st.1 1) (Nat.le_refl _) hN
  have n1 : (addFamS st nm v).1 1 = st.1 1 + 1 := rfl
  refine ⟨⟨?_, ?_, ?_, ?_⟩, addFam_ok h.aw nm hN hv, h.2.2.1, ?_, hrk⟩
  · obtain ⟨a0, a1, a2, a3, a4⟩ := h.r0
    exact ⟨(el _ (by omega) (by omega) (by omega)).trans a0, e1, (el _ (by omega) (by omega) (by omega)).trans a2, (el _ (by omega) (by omega) (by omega)).trans a3, (el _ (by omega) (by omega) (by omega)).trans a4⟩
  · intro f hf
    rw [n1] at hf
    by_cases e : f = st.1 1
    · subst e
      have lz : ∀ i, 1 ≤ i → i < 4 → A' (5 + 12 * st.1 1 + i) = 0 := fun i h1 h2 => by
        rw [el _ (by omega) (by omega) (by omega)]
        exact hl _ i (by omega) hN h1 h2
      refine ⟨?_, ?_, ?_, ?_, ?_⟩
      · show A' (5 + 12 * st.1 1 + 0) = va_up (st.2.2 0) (st.1 1) v (st.1 1)
        rw [e0, va_upE]
      · show A' (5 + 12 * st.1 1 + 1) = st.2.2 2 (st.1 1)
        rw [lz 1 (by decide) (by decide), z.2.1]
      · show A' (5 + 12 * st.1 1 + 2) = st.2.2 3 (st.1 1)
        rw [lz 2 (by decide) (by decide), z.2.2.1]
      · show A' (5 + 12 * st.1 1 + 3) = st.2.2 1 (st.1 1)
        rw [lz 3 (by decide) (by decide), z.1]
      · obtain ⟨L, l1, l2, l3, l4⟩ := hg
        refine ⟨L, l1, l2, fun k hk => (en k hk).trans (l3 k hk), ?_⟩
        show vp_updL (st.2.1 0) (st.1 1) nm (st.1 1) = _
        unfold vp_updL
        rw [if_pos rfl]
        exact l4
    · have hf2 : f < st.1 1 := by omega
      obtain ⟨b0, b1, b2, b3, L, l1, l2, l3, l4⟩ := h.rf f hf2
      have low : ∀ i, i < 12 → A' (5 + 12 * f + i) = A (5 + 12 * f + i) := fun i hi => el _ (by omega) (by omega) (by omega)
      refine ⟨?_, (low 1 (by decide)).trans b1, (low 2 (by decide)).trans b2, (low 3 (by decide)).trans b3, L, l1, l2, fun i hi => ?_, ?_⟩
      · show A' (5 + 12 * f + 0) = va_up (st.2.2 0) (st.1 1) v f
        rw [low 0 (by decide), va_up_ne _ _ e]
        exact b0
      · have := low (4 + i) (by omega)
        rw [show 5 + 12 * f + (4 + i) = 5 + 12 * f + 4 + i by omega] at this
        exact this.trans (l3 i hi)
      · show vp_updL (st.2.1 0) (st.1 1) nm f = _
        unfold vp_updL
        rw [if_neg e]
        exact l4
  · intro p hp
    obtain ⟨b0, L, l1, l2, l3, l4⟩ := h.rp p hp
    exact ⟨(el _ (by omega) (by omega) (by omega)).trans b0, L, l1, l2, fun i hi => (el _ (by omega) (by omega) (by omega)).trans (l3 i hi), l4⟩
  · intro p f hp hf
    rw [n1] at hf
    have hp : p < st.1 2 := hp
    show A' (125 + 19 * p + 9 + f) = cpV (heldB st p f) (brkB st p f) (st.2.2 8 (10 * p + f))
    rw [el _ (by omega) (by omega) (by omega)]
    by_cases e : f = st.1 1
    · subst e
      have h1 : heldB st p (st.1 1) = false := held_hi h (by omega) (Nat.le_refl _)
      have h2 : brkB st p (st.1 1) = false := brk_hi h (by omega) (Nat.le_refl _)
      rw [h1, h2]
      exact hz p (st.1 1) (by omega) hN (Or.inr (by omega))
    · exact h.rc p f hp (by omega)
  · intro f hf
    rw [n1] at hf
    show st.2.2 4 f = fb_ct (fun p => hasB st p f) (st.1 2)
    by_cases e : f = st.1 1
    · subst e
      rw [z.2.2.2]
      refine (fb_ct_zero.mpr fun p hp => ?_).symm
      have h1 : heldB st p (st.1 1) = false := held_hi h (by omega) (Nat.le_refl _)
      have h2 : brkB st p (st.1 1) = false := brk_hi h (by omega) (Nat.le_refl _)
      unfold hasB
      rw [h1, h2]
      rfl
    · exact h.2.2.2.1 f (by omega)
theorem p_rdFam {b : Nat → Nat} {t : Tr} {s : Mo} {st : Ar} (hb : ∀ k, b k < 256) (hI : LI s) (h : PT b t s) (hv : NV st (s.1 0) 0) (hlz : LZ (s.1 0)) (hc : (tkW b W1 t).1 = true) :
    OUT b (rdFam b (tkW b W1 t).2 st) (rfS s) ∧ ((rfS s).2.2.1 0 = 0 → LZ ((rfS s).1 0)) := by
  have hi := h.isW (W := W1) (by decide)
  rw [hc] at hi
  obtain ⟨hp, htok⟩ := h.pass (W := W1) (by decide) hc
  have eN := hv.r0.2.1
  have hNN := hv.N10
  have lzE : ∀ s' : Mo, s'.2.2.1 0 ≠ 0 → (s'.2.2.1 0 = 0 → LZ (s'.1 0)) := fun s' q z => absurd z q
  generalize ht1 : (tkW b W1 t).2 = t1 at *
  unfold rdFam
  by_cases c0 : 10 ≤ st.1 1
  · rw [if_pos c0]
    have e1 : rf1 s = flS s (-7) := by unfold rf1; rw [if_pos (by omega)]
    have er : ER (trFail t1 (-7) (nI t1.2.2.1)) (rfS s) := by
      refine ER.go ?_ ((ep_rf2 s).tr (ep_rf s))
      rw [e1]
      exact ER.fl h.2.2.1 (by decide) htok.symm
    exact ⟨OUT.bad er, lzE _ er.2.1⟩
  rw [if_neg c0]
  have e1 : rf1 s = s := by unfold rf1; rw [if_neg (by omega)]
  have e2 : muS (isWB (rf1 s) W1) (rf1 s) = lexS s (s.2.1 4) := by
    rw [e1, hi]
    unfold muS nxS
    rw [if_pos rfl, if_pos h.2.2.1]
  have g1 := (g_lex hI).1
  have r1 := lex_1 s (s.2.1 4)
  have e2' : rf2 s = mnS (lexS s (s.2.1 4)) := by unfold rf2; rw [e2]
  generalize hs1 : lexS s (s.2.1 4) = s1 at *
  have kn := p_name hp
  by_cases c1 : (ndN b t1).1 = true
  rotate_left
  · rw [if_neg c1] at kn ⊢
    have er : ER (ndN b t1).2 (rfS s) := by
      refine ER.go ?_ (ep_rf s)
      rw [e2']
      exact kn
    exact ⟨OUT.bad er, lzE _ er.2.1⟩
  rw [if_pos c1] at kn ⊢
  obtain ⟨kp, km, kl⟩ := kn
  rw [km] at e2'
  have hpl := p_place kp (nm := st.2.1 0) (fr := 9) (sz := 12) (N := st.1 1) (fun i hi9 => by
    have := (hv.rf i hi9).2.2.2.2
    have e : ∀ k, 9 + 12 * i + k = 5 + 12 * i + 4 + k := fun k => by omega
    simp only [e]
    rw [r1]
    exact this)
  generalize hq2 : ndN b t1 = Q at *
  have e3 : rf3 (s.1 0 1) (rf2 s) = if plF (st.2.1 0) Q.2.2.2.2.2 (st.1 1) 0 = none then s1 else flS s1 (-5) := by
    unfold rf3
    rw [e2', eN, hpl]
  cases hq : plF (st.2.1 0) Q.2.2.2.2.2 (st.1 1) 0 with
  | some i =>
    rw [hq, if_neg (by simp)] at e3
    rw [if_neg (by simp)]
    have er : ER (trFail Q.2 (-5) (nI Q.2.2.2.1)) (rfS s) := by
      have e5 : ER (trFail Q.2 (-5) (nI Q.2.2.2.1)) (rf3 (s.1 0 1) (rf2 s)) := by
        rw [e3]
        exact ER.fl kp.2.2.1 (by decide) kp.2.2.2.1
      unfold rfS
      rw [if_neg e5.2.1]
      exact e5
    exact ⟨OUT.bad er, lzE _ er.2.1⟩
  | none =>
    rw [hq, if_pos rfl] at e3
    rw [if_pos rfl]
    have w1 : s1.2.2.1 0 = 0 := kp.2.2.1
    have hf9 : st.1 1 < 10 := by omega
    have eS : rfS s = rf8 (rf7 (rf6 (st.1 1) (rf5 (st.1 1) s1))) := by
      unfold rfS
      rw [e3, if_pos w1, eN]
    rw [eS]
    have g5 := g_rf5 g1.1 hf9
    have p5 : PT b Q.2 (rf5 (st.1 1) s1) := by
      have := (kp.next rfl rfl).row (cpT (s1.1 0) (sgW s1) (5 + 12 * st.1 1 + 4) 0 8)
      unfold rf5
      show PT b Q.2 (lexS (mR s1 0 _) (s1.2.1 4))
      rw [lex_mR]
      exact this
    have r5 := rf5_1 (st.1 1) s1
    have kt := p_takes (lo := 1) (hi := 20) (by decide) (by decide) g5.1.2.1.2.2.2 p5
    have r6 := rf6_0 (st.1 1) (rf5 (st.1 1) s1)
    have n5 : (rf5 (st.1 1) s1).1 0 1 = st.1 1 := by
      rw [r5]
      unfold cpT
      rw [if_neg (by omega), r1]
      exact eN
    have g6 := g_rf6 g5.1 n5.symm hf9
    by_cases c2 : (ndD b 1 20 Q.2).1 = true
    rotate_left
    · rw [if_neg c2] at kt ⊢
      have er : ER (ndD b 1 20 Q.2).2 (rf8 (rf7 (rf6 (st.1 1) (rf5 (st.1 1) s1)))) := by
        refine ER.go ?_ (ep_rf78 _)
        unfold rf6
        exact kt.go (EP.row _ _)
      exact ⟨OUT.bad er, lzE _ er.2.1⟩
    rw [if_pos c2] at kt ⊢
    obtain ⟨ka, kb, kc⟩ := kt
    have p6 : PT b (ndD b 1 20 Q.2).2 (rf6 (st.1 1) (rf5 (st.1 1) s1)) := by
      unfold rf6
      exact ka.row _
    have hv20 := (st_val (s := rf5 (st.1 1) s1) (lo := 1) (hi := 20) (by decide) (by decide) g5.1.2.1.2.2.2).1
    have ks := p_sem hb p6
    have e7 : rf7 (rf6 (st.1 1) (rf5 (st.1 1) s1)) = muS (endB (rf6 (st.1 1) (rf5 (st.1 1) s1))) (rf6 (st.1 1) (rf5 (st.1 1) s1)) := rfl
    rw [← e7] at ks
    have g7 := g_rf7 g6.1
    have r7 := rf7_1 (rf6 (st.1 1) (rf5 (st.1 1) s1))
    have n6 : (rf6 (st.1 1) (rf5 (st.1 1) s1)).1 0 1 = st.1 1 := by rw [r6, va_up_ne _ _ (by omega)]; exact n5
    have g8 := g_rf8 g7.1 (by rw [r7, n6]; exact hf9)
    rw [kb] at r6 hv20
    generalize rf6 (st.1 1) (rf5 (st.1 1) s1) = s6 at *
    generalize rf7 s6 = s7 at *
    generalize ndD b 1 20 Q.2 = D at *
    have r8 : (rf8 s7).1 0 = va_up (s7.1 0) 1 (s7.1 0 1 + 1) := rfl
    have w8 : (rf8 s7).2 = s7.2 := rfl
    rw [r7, n6, r6, r5, r1] at r8
    have el : ∀ k, k ≠ 1 → k ≠ 5 + 12 * st.1 1 + 0 → ¬ (5 + 12 * st.1 1 + 4 ≤ k ∧ k < 5 + 12 * st.1 1 + 12) → (rf8 s7).1 0 k = s.1 0 k := fun k q1 q2 q3 => by
      rw [r8, va_up_ne _ _ q1, va_up_ne _ _ q2]
      unfold cpT
      rw [if_neg (by omega)]
    have e81 : (rf8 s7).1 0 1 = st.1 1 + 1 := by rw [r8]; exact va_upE _ _ _
    have lz : LZ ((rf8 s7).1 0) := fun f i h1 h2 h3 h4 => by
      rw [e81] at h1
      rw [el _ (by omega) (by omega) (by omega)]
      exact hlz f i (by omega) h2 h3 h4
    refine ⟨?_, fun _ => lz⟩
    unfold OUT
    by_cases c3 : (semS b D.2).1 = true
    · rw [if_pos c3] at ks ⊢
      have pf := ks.row (va_up (s7.1 0) 1 (s7.1 0 1 + 1))
      have ef : mR s7 0 (va_up (s7.1 0) 1 (s7.1 0 1 + 1)) = rf8 s7 := rfl
      rw [ef] at pf
      refine ⟨pf, hv.rdFam hf9 hv20 hI.2.2.2.1.2.2 hlz kp.2.2.2.2.2.2.1 (g8.1.ok (by rw [w8]; exact ks.2.2.1)) e81 ?_ (fun k hk => ?_) el⟩
      · rw [r8, va_up_ne _ _ (by omega), va_upE]
      · rw [r8, va_up_ne _ _ (by omega), va_up_ne _ _ (by omega)]
        unfold cpT
        rw [if_pos (by omega), show 5 + 12 * st.1 1 + 4 + k - (5 + 12 * st.1 1 + 4) + 0 = k by omega]
    · rw [if_neg c3] at ks ⊢
      refine ER.go ks ?_
      unfold rf8
      exact EP.row _ _
/-! neighbours -/
theorem ep_rn1 (a c : Option Nat) (s : Mo) : EP s (rn1 a c s) := by
  unfold rn1
  split
  · exact EP.fl s _
  · exact EP.rf s
theorem ep_rnC (s : Mo) : EP (fhS (rnB s)) (rnC s) := by
  unfold rnC
  exact (ep_rn1 _ _ _).tr (EP.mu _ _)
theorem ep_rnD (s : Mo) : EP (rnC s) (rnD s) := by
  unfold rnD rn2
  split
  · unfold jnS jn1
    exact (EP.row _ _).tr (EP.row _ _)
  · exact EP.rf _
theorem ep_rnS (s : Mo) : EP (rnD s) (rnS s) := by
  unfold rnS
  exact EP.mu _ _
theorem ep_rnB (s : Mo) : EP (fhS (rnA s)) (rnB s) := by
  unfold rnB
  exact EP.mu _ _
theorem p_rdN1 {b : Nat → Nat} {t : Tr} {s : Mo} {st : Ar} (hb : ∀ k, b k < 256) (hI : LI s) (h : PT b t s) (hv : NV st (s.1 0) 0) (hc : (tkW b W2 t).1 = true) : OUT b (rdN1 b (tkW b W2 t).2 st) (rnS s) := by
  obtain ⟨hp, htok⟩ := h.pass (W := W2) (by decide) hc
  obtain ⟨g1, g2, g3, g4, hvv, e, eA, eB⟩ := g_rnAB hI
  have hNN := hv.N10
  have eAs : rnA s = lexS s (s.2.1 4) := by
    unfold rnA muS nxS
    rw [if_pos rfl, if_pos h.2.2.1]
  rw [← eAs] at hp
  generalize (tkW b W2 t).2 = t1 at *
  have k1 := p_fam hp (st := st) (n := 0) (by rw [eA]; exact hv)
  unfold rdN1
  generalize hF1 : ndF b (st.2.1 0) (st.1 1) t1 = F1 at *
  cases hi : F1.1 with
  | none =>
    rw [hi] at k1
    have k1 : ER F1.2 (fhS (rnA s)) := k1
    refine OUT.bad (k1.go ((ep_rnB s).tr ((EP.fh _).tr ((ep_rnC s).tr ((ep_rnD s).tr (ep_rnS s))))))
  | some i =>
    rw [hi] at k1
    obtain ⟨a1, a2, a3, a4, a5⟩ := k1
    have eBs : rnB s = lexS (rnA s) ((rnA s).2.1 4) := by
      unfold rnB
      rw [a3]
      unfold muS nxS
      rw [if_pos rfl, if_pos hp.2.2.1]
    have pB : PT b F1.2 (rnB s) := by rw [eBs]; exact a4.next rfl rfl
    have k2 := p_fam pB (st := st) (n := 0) (by rw [eB]; exact hv)
    show OUT b (match (ndF b (st.2.1 0) (st.1 1) F1.2).1 with
      | none => (false, (ndF b (st.2.1 0) (st.1 1) F1.2).2, st)
      | some j => if i = j ∨ (st.2.2 1 i).testBit j = true then (false, trFail (ndF b (st.2.1 0) (st.1 1) F1.2).2 (-5) (nI (ndF b (st.2.1 0) (st.1 1) F1.2).2.2.2.1), st)
        else ((semS b (ndF b (st.2.1 0) (st.1 1) F1.2).2).1, (semS b (ndF b (st.2.1 0) (st.1 1) F1.2).2).2, nbS st i j)) (rnS s)
    generalize hF2 : ndF b (st.2.1 0) (st.1 1) F1.2 = F2 at *
    cases hj : F2.1 with
    | none =>
      rw [hj] at k2
      have k2 : ER F2.2 (fhS (rnB s)) := k2
      exact OUT.bad (k2.go ((ep_rnC s).tr ((ep_rnD s).tr (ep_rnS s))))
    | some j =>
      rw [hj] at k2
      obtain ⟨b1, b2, b3, b4, b5⟩ := k2
      show OUT b (if i = j ∨ (st.2.2 1 i).testBit j = true then (false, trFail F2.2 (-5) (nI F2.2.2.2.1), st) else ((semS b F2.2).1, (semS b F2.2).2, nbS st i j)) (rnS s)
      have en : rF ((fhS (rnB s)).1 0) i 3 = st.2.2 1 i := by rw [e]; exact (hv.rf i a2).2.2.2.1
      have er1 : rn1 (fhV (rnA s)) (fhV (rnB s)) (fhS (rnB s)) = if i = j ∨ (st.2.2 1 i).testBit j = true then flS (rnB s) (-5) else rnB s := by
        unfold rn1
        rw [a1, b1]
        show (if (fhS (rnB s)).2.2.1 0 = 0 ∧ (some i = some j ∨ (rF ((fhS (rnB s)).1 0) i 3).testBit j = true) then flS (fhS (rnB s)) (-5) else fhS (rnB s)) = _
        rw [en, b3]
        by_cases c : i = j ∨ (st.2.2 1 i).testBit j = true
        · rw [if_pos c, if_pos ⟨pB.2.2.1, by
            rcases c with c | c
            · exact Or.inl (by rw [c])
            · exact Or.inr c⟩]
        · rw [if_neg c, if_neg (fun q => c (by
            rcases q.2 with z | z
            · exact Or.inl (Option.some.inj z)
            · exact Or.inr z))]
      by_cases c : i = j ∨ (st.2.2 1 i).testBit j = true
      · rw [if_pos c] at er1 ⊢
        have : ER (trFail F2.2 (-5) (nI F2.2.2.2.1)) (rn1 (fhV (rnA s)) (fhV (rnB s)) (fhS (rnB s))) := by
          rw [er1]
          exact ER.fl pB.2.2.1 (by decide) b4.2.2.2.1
        refine OUT.bad (this.go ?_)
        have q : EP (rn1 (fhV (rnA s)) (fhV (rnB s)) (fhS (rnB s))) (rnC s) := by unfold rnC; exact EP.mu _ _
        exact q.tr ((ep_rnD s).tr (ep_rnS s))
      · rw [if_neg c] at er1 ⊢
        have eCs : rnC s = lexS (rnB s) ((rnB s).2.1 4) := by
          unfold rnC
          rw [er1]
          unfold muS nxS
          rw [if_pos rfl, if_pos pB.2.2.1]
        have pC : PT b F2.2 (rnC s) := by rw [eCs]; exact b4.next rfl rfl
        have rC1 : (rnC s).1 = s.1 := by rw [eCs, lex_1]; exact eB
        have eDs : rnD s = mR (rnC s) 0 (jnA (s.1 0) i j) := by
          unfold rnD rn2
          rw [if_pos pC.2.2.1, a1, b1]
          show jnS (rnC s) i j = _
          rw [jnS_eq, rC1]
        have pD : PT b F2.2 (rnD s) := by rw [eDs]; exact pC.row _
        have ks := p_sem hb pD
        have eS : muS (endB (rnD s)) (rnD s) = rnS s := rfl
        rw [eS] at ks
        unfold OUT
        by_cases c3 : (semS b F2.2).1 = true
        · rw [if_pos c3] at ks ⊢
          refine ⟨ks, ?_⟩
          have eR : (rnS s).1 0 = jnA (s.1 0) i j := by
            rw [← eS, mu_1, eDs]
            rfl
          rw [eR]
          exact hv.meet a2 b2
        · rw [if_neg c3] at ks ⊢
          exact ks
