/-! ===== a text is read the same: pictures ===== -/
theorem NV.rdPic {st : Ar} {A A' : Nat → Nat} {n v : Nat} {nm : Int64} {g : Nat → Nat} (h : NV st A n) (hK : st.1 2 < 12) (hv : v ≤ 10) (hz : rZ A) (hg : nmR g nm) (hrk : rK A' n)
    (e2 : A' 2 = st.1 2 + 1) (e0 : A' (125 + 19 * st.1 2) = v) (en : ∀ k, k < 8 → A' (125 + 19 * st.1 2 + 1 + k) = g k) (el : ∀ k, k ≠ 2 → k ≠ 125 + 19 * st.1 2 → ¬ (125 + 19 * st.1 2 + 1 ≤ k ∧ k < 125 + 19 * st.1 2 + 9) → A' k = A k) : NV (addPicS st nm v) A' n := by
  have eN := h.r0.2.1
  have eK := h.r0.2.2.1
  have hN := h.N10
  have z := h.aw.2.2 (st.1 2) (Nat.le_refl _) hK
  have n2 : (addPicS st nm v).1 2 = st.1 2 + 1 := rfl
  have n1 : (addPicS st nm v).1 1 = st.1 1 := rfl
  refine ⟨⟨?_, ?_, ?_, ?_⟩, addPic_ok h.aw nm hK hv, h.2.2.1, ?_, hrk⟩
  · obtain ⟨a0, a1, a2, a3, a4⟩ := h.r0
    exact ⟨(el _ (by omega) (by omega) (by omega)).trans a0, (el _ (by omega) (by omega) (by omega)).trans a1, e2, (el _ (by omega) (by omega) (by omega)).trans a3, (el _ (by omega) (by omega) (by omega)).trans a4⟩
  · intro f hf
    have hf : f < st.1 1 := hf
    obtain ⟨b0, b1, b2, b3, L, l1, l2, l3, l4⟩ := h.rf f hf
    have low : ∀ i, i < 12 → A' (5 + 12 * f + i) = A (5 + 12 * f + i) := fun i hi => el _ (by omega) (by omega) (by omega)
    refine ⟨(low 0 (by decide)).trans b0, (low 1 (by decide)).trans b1, (low 2 (by decide)).trans b2, (low 3 (by decide)).trans b3, L, l1, l2, fun i hi => ?_, l4⟩
    have := low (4 + i) (by omega)
    rw [show 5 + 12 * f + (4 + i) = 5 + 12 * f + 4 + i by omega] at this
    exact this.trans (l3 i hi)
  · intro p hp
    rw [n2] at hp
    by_cases e : p = st.1 2
    · subst e
      refine ⟨?_, ?_⟩
      · show A' (125 + 19 * st.1 2) = va_up (st.2.2 5) (st.1 2) v (st.1 2)
        rw [e0, va_upE]
      · obtain ⟨L, l1, l2, l3, l4⟩ := hg
        refine ⟨L, l1, l2, fun k hk => (en k hk).trans (l3 k hk), ?_⟩
        show vp_updL (st.2.1 1) (st.1 2) nm (st.1 2) = _
        unfold vp_updL
        rw [if_pos rfl]
        exact l4
    · obtain ⟨b0, L, l1, l2, l3, l4⟩ := h.rp p (by omega)
      refine ⟨?_, L, l1, l2, fun i hi => (el _ (by omega) (by omega) (by omega)).trans (l3 i hi), ?_⟩
      · show A' (125 + 19 * p) = va_up (st.2.2 5) (st.1 2) v p
        rw [va_up_ne _ _ e, el _ (by omega) (by omega) (by omega)]
        exact b0
      · show vp_updL (st.2.1 1) (st.1 2) nm p = _
        unfold vp_updL
        rw [if_neg e]
        exact l4
  · intro p f hp hf
    rw [n2] at hp
    have hf : f < st.1 1 := hf
    show A' (125 + 19 * p + 9 + f) = cpV (heldB st p f) (brkB st p f) (st.2.2 8 (10 * p + f))
    rw [el _ (by omega) (by omega) (by omega)]
    by_cases e : p = st.1 2
    · subst e
      have h1 : heldB st (st.1 2) f = false := by unfold heldB; rw [z.1]; exact Nat.zero_testBit f
      have h2 : brkB st (st.1 2) f = false := by unfold brkB; rw [z.2]; exact Nat.zero_testBit f
      rw [h1, h2]
      exact hz (st.1 2) f hK (by omega) (Or.inl (by omega))
    · exact h.rc p f (by omega) hf
  · intro f hf
    have hf : f < st.1 1 := hf
    show st.2.2 4 f = fb_ct (fun p => hasB st p f) (st.1 2 + 1)
    have h1 : hasB st (st.1 2) f = false := by unfold hasB heldB brkB; rw [z.1, z.2, Nat.zero_testBit]; rfl
    rw [fb_ct_succ, if_neg (by rw [h1]; decide)]
    exact h.2.2.2.1 f hf
theorem ep_rq1 (s : Mo) : EP s (rq1 s) := by
  unfold rq1
  split
  · exact EP.fl s _
  · exact EP.rf s
theorem ep_rq2 (s : Mo) : EP (rq1 s) (rq2 s) := by
  unfold rq2
  exact (EP.mu _ _).tr (EP.mn _)
theorem ep_rq3 (p : Nat) (s : Mo) : EP s (rq3 p s) := by
  unfold rq3
  split
  · exact EP.rf s
  · exact EP.fl s _
theorem ep_rqS (m : Nat) (s : Mo) : EP (rq3 (s.1 0 2) (rq2 s)) (rqS m s) := fun q => by
  unfold rqS
  rw [if_neg q]
  exact ⟨rfl, rfl⟩
theorem ep_rqB {p m : Nat} (n : Nat) (s : Mo) : EP s (rqB p m n s) := fun q => by
  rw [rqB_wr q]
  exact ⟨rfl, rfl⟩
theorem ep_rf7 (s : Mo) : EP s (rf7 s) := by unfold rf7; exact EP.mu _ _
theorem p_rdPic {b : Nat → Nat} {m N : Nat} {t : Tr} {s : Mo} {st : Ar} (hm : 600 ≤ m) (hNb : 601 ≤ N) (hb : ∀ k, b k < 256) (hI : LI s) (h : PT b t s) (hv : NV st (s.1 0) 0) (hc : (tkW b W3 t).1 = true) :
    OUT b (rdPic b m (tkW b W3 t).2 st) (rqS N s) := by
  obtain ⟨hp, htok⟩ := h.pass (W := W3) (by decide) hc
  have eK := hv.r0.2.2.1
  have hKK := hv.K12
  generalize ht1 : (tkW b W3 t).2 = t1 at *
  unfold rdPic
  by_cases c0 : 12 ≤ st.1 2
  · rw [if_pos c0]
    have e1 : rq1 s = flS s (-7) := by unfold rq1; rw [if_pos (by omega)]
    refine OUT.bad (ER.go ?_ ((ep_rq2 s).tr ((ep_rq3 _ _).tr (ep_rqS N s))))
    rw [e1]
    exact ER.fl h.2.2.1 (by decide) htok.symm
  rw [if_neg c0]
  have e1 : rq1 s = s := by unfold rq1; rw [if_neg (by omega)]
  have e2 : muS true (rq1 s) = lexS s (s.2.1 4) := by
    rw [e1]
    unfold muS nxS
    rw [if_pos rfl, if_pos h.2.2.1]
  have g1 := (g_lex hI).1
  have r1 := lex_1 s (s.2.1 4)
  have e2' : rq2 s = mnS (lexS s (s.2.1 4)) := by unfold rq2; rw [e2]
  generalize hs1 : lexS s (s.2.1 4) = s1 at *
  have kn := p_name hp
  by_cases c1 : (ndN b t1).1 = true
  rotate_left
  · rw [if_neg c1] at kn ⊢
    refine OUT.bad (ER.go ?_ ((ep_rq3 (s.1 0 2) (rq2 s)).tr (ep_rqS N s)))
    rw [e2']
    exact kn
  rw [if_pos c1] at kn ⊢
  obtain ⟨kp, km, kl⟩ := kn
  rw [km] at e2'
  have hpl := p_place kp (nm := st.2.1 1) (fr := 126) (sz := 19) (N := st.1 2) (fun i hi9 => by
    have := (hv.rp i hi9).2
    have e : ∀ k, 126 + 19 * i + k = 125 + 19 * i + 1 + k := fun k => by omega
    simp only [e]
    rw [r1]
    exact this)
  generalize hq2 : ndN b t1 = Q at *
  have e3 : rq3 (s.1 0 2) (rq2 s) = if plF (st.2.1 1) Q.2.2.2.2.2 (st.1 2) 0 = none then s1 else flS s1 (-5) := by
    unfold rq3
    rw [e2', eK, hpl]
  cases hq : plF (st.2.1 1) Q.2.2.2.2.2 (st.1 2) 0 with
  | some i =>
    rw [hq, if_neg (by simp)] at e3
    rw [if_neg (by simp)]
    refine OUT.bad (ER.go ?_ (ep_rqS N s))
    rw [e3]
    exact ER.fl kp.2.2.1 (by decide) kp.2.2.2.1
  | none =>
    rw [hq, if_pos rfl] at e3
    rw [if_pos rfl]
    have w1 : s1.2.2.1 0 = 0 := kp.2.2.1
    have hK : st.1 2 < 12 := by omega
    have eS : rqS N s = rf7 (rqB (st.1 2) N N (rqH (st.1 2) s1)) := by
      unfold rqS
      rw [e3, if_pos w1, eK]
    rw [eS]
    have eK1 : st.1 2 = s1.1 0 2 := by rw [r1, eK]
    obtain ⟨gH, k2, g5, g6, g7, k7, k6⟩ := g_rqH g1.1 eK1 hK
    have p5 : PT b Q.2 (rq5 (st.1 2) s1) := by
      have := (kp.next rfl rfl).row (cpT (s1.1 0) (sgW s1) (125 + 19 * st.1 2 + 1) 0 8)
      unfold rq5
      rw [rq4_same g1.1 eK1 hK]
      show PT b Q.2 (lexS (mR s1 0 _) (s1.2.1 4))
      rw [lex_mR]
      exact this
    have r5 := rq5_0 g1.1 eK1 hK
    have kw := p_word (W := W4) (by decide) p5
    have eqH : rqH (st.1 2) s1 = rq8 (rq7 (st.1 2) (rq6 (rq5 (st.1 2) s1))) := rfl
    have e6 : rq6 (rq5 (st.1 2) s1) = muS (isWB (rq5 (st.1 2) s1) W4) (rq5 (st.1 2) s1) := rfl
    rw [← e6] at kw
    have r6 := rq6_1 (rq5 (st.1 2) s1)
    have r7 := rq7_0 (st.1 2) (rq6 (rq5 (st.1 2) s1))
    have ep7 : EP (rq6 (rq5 (st.1 2) s1)) (rqH (st.1 2) s1) := by
      rw [eqH]
      have a1 : EP (rq6 (rq5 (st.1 2) s1)) (rq7 (st.1 2) (rq6 (rq5 (st.1 2) s1))) := by
        unfold rq7
        exact (EP.st _ _ _).tr ((EP.nx _).tr (EP.row _ _))
      refine a1.tr ?_
      unfold rq8
      exact EP.row _ _
    have epE : EP (rqH (st.1 2) s1) (rf7 (rqB (st.1 2) N N (rqH (st.1 2) s1))) := (ep_rqB N _).tr (ep_rf7 _)
    by_cases c2 : (ndW b W4 Q.2).1 = true
    rotate_left
    · rw [if_neg c2] at kw ⊢
      exact OUT.bad (kw.go (ep7.tr epE))
    rw [if_pos c2] at kw ⊢
    have p6 := kw.1
    have kt := p_takes (lo := 1) (hi := 10) (by decide) (by decide) g6.1.2.1.2.2.2 p6
    have hv10 := (st_val (s := rq6 (rq5 (st.1 2) s1)) (lo := 1) (hi := 10) (by decide) (by decide) g6.1.2.1.2.2.2).1
    generalize ht4 : (ndW b W4 Q.2).2 = t4 at *
    have ep8 : EP (nxS (stS 1 10 (rq6 (rq5 (st.1 2) s1)))) (rqH (st.1 2) s1) := by
      rw [eqH]
      unfold rq7 rq8
      exact (EP.row _ _).tr (EP.row _ _)
    by_cases c3 : (ndD b 1 10 t4).1 = true
    rotate_left
    · rw [if_neg c3] at kt ⊢
      exact OUT.bad (kt.go (ep8.tr epE))
    rw [if_pos c3] at kt ⊢
    obtain ⟨ka, kb, kc⟩ := kt
    have p7 : PT b (ndD b 1 10 t4).2 (rqH (st.1 2) s1) := by
      rw [eqH]
      unfold rq7 rq8
      exact (ka.row _).row _
    rw [kb] at r7 hv10
    generalize hD : ndD b 1 10 t4 = D at *
    have r8 : (rqH (st.1 2) s1).1 0 = va_up ((rq7 (st.1 2) (rq6 (rq5 (st.1 2) s1))).1 0) 2 (st.1 2 + 1) := by
      rw [eqH]
      show va_up _ 2 (_ + 1) = _
      rw [k7]
    rw [r7, r6, r5, r1] at r8
    have el : ∀ k, k ≠ 2 → k ≠ 125 + 19 * st.1 2 → ¬ (125 + 19 * st.1 2 + 1 ≤ k ∧ k < 125 + 19 * st.1 2 + 9) → (rqH (st.1 2) s1).1 0 k = s.1 0 k := fun k q1 q2 q3 => by
      rw [r8, va_up_ne _ _ q1, va_up_ne _ _ q2]
      unfold cpT
      rw [if_neg (by omega)]
    have nv : NV (addPicS st (lN Q.2.2.2.2.2) D.2.2.2.2.1) ((rqH (st.1 2) s1).1 0) 0 := by
      refine hv.rdPic hK hv10 hI.2.2.2.1.2.2 kp.2.2.2.2.2.2.1 (gH.1.ok p7.2.2.1) k2 ?_ (fun k hk => ?_) el
      · rw [r8, va_up_ne _ _ (by omega), va_upE]
      · rw [r8, va_up_ne _ _ (by omega), va_up_ne _ _ (by omega)]
        unfold cpT
        rw [if_pos (by omega), show 125 + 19 * st.1 2 + 1 + k - (125 + 19 * st.1 2 + 1) + 0 = k by omega]
    generalize addPicS st (lN Q.2.2.2.2.2) D.2.2.2.2.1 = st2 at *
    generalize rqH (st.1 2) s1 = H at *
    have pK : st.1 2 < st2.1 2 := by have := nv.r0.2.2.1; omega
    obtain ⟨kB, kI⟩ := p_rdBy (p := st.1 2) (N := N) hNb m N D.2 H st2 gH.1 p7 nv pK (fun _ => by omega) (fun _ => by omega)
    unfold byS
    generalize rdBy b (st.1 2) m D.2 st2 = B at *
    unfold OUT at kB
    by_cases c4 : B.1 = true
    · rw [if_pos c4] at kB ⊢
      have ks := p_sem hb kB.1
      have e9 : rf7 (rqB (st.1 2) N N H) = muS (endB (rqB (st.1 2) N N H)) (rqB (st.1 2) N N H) := rfl
      rw [← e9] at ks
      unfold OUT
      show if (semS b B.2.1).1 = true then PT b (semS b B.2.1).2 _ ∧ NV B.2.2 _ 0 else ER (semS b B.2.1).2 _
      by_cases c5 : (semS b B.2.1).1 = true
      · rw [if_pos c5] at ks ⊢
        refine ⟨ks, ?_⟩
        rw [rf7_1]
        exact kB.2
      · rw [if_neg c5] at ks ⊢
        exact ks
    · rw [if_neg c4] at kB ⊢
      unfold OUT
      rw [if_neg c4]
      exact kB.go (ep_rf7 _)
/-! the loops -/
theorem OUT.wr {b : Nat → Nat} {P : Bool × Tr × Ar} {s' : Mo} (h : OUT b P s') (hc : ¬ P.1 = true) : ER P.2.1 s' := by
  unfold OUT at h
  rw [if_neg hc] at h
  exact h
theorem OUT.good {b : Nat → Nat} {P : Bool × Tr × Ar} {s' : Mo} (h : OUT b P s') (hc : P.1 = true) : PT b P.2.1 s' ∧ NV P.2.2 (s'.1 0) 0 := by
  unfold OUT at h
  rw [if_pos hc] at h
  exact h
theorem isW_wr {s : Mo} {W : List Nat} (h : s.2.2.1 0 ≠ 0) : ¬ isWB s W = true := fun q => h (isWB_tok q).1
theorem lwF_wr {s : Mo} (h : s.2.2.1 0 ≠ 0) : ∀ n, lwF n s = s := fun n => by cases n with | zero => rfl | succ n => rw [lwF, if_neg (isW_wr h)]
theorem lwN_wr {s : Mo} (h : s.2.2.1 0 ≠ 0) : ∀ n, lwN n s = s := fun n => by cases n with | zero => rfl | succ n => rw [lwN, if_neg (isW_wr h)]
theorem lwP_wr {s : Mo} {m : Nat} (h : s.2.2.1 0 ≠ 0) : ∀ n, lwP m n s = s := fun n => by cases n with | zero => rfl | succ n => rw [lwP, if_neg (isW_wr h)]
theorem lwF_no {s : Mo} (h : isWB s W1 = false) : ∀ n, lwF n s = s := fun n => by cases n with | zero => rfl | succ n => rw [lwF, if_neg (by rw [h]; decide)]
theorem lwN_no {s : Mo} (h : isWB s W2 = false) : ∀ n, lwN n s = s := fun n => by cases n with | zero => rfl | succ n => rw [lwN, if_neg (by rw [h]; decide)]
theorem lwP_no {s : Mo} {m : Nat} (h : isWB s W3 = false) : ∀ n, lwP m n s = s := fun n => by cases n with | zero => rfl | succ n => rw [lwP, if_neg (by rw [h]; decide)]
theorem p_rdNs {b : Nat → Nat} (hb : ∀ k, b k < 256) : ∀ (f n : Nat) (t : Tr) (s : Mo) (st : Ar), LI s → PT b t s → NV st (s.1 0) 0 → (isWB s W2 = true → 600 ≤ s.2.1 3 + f) → (isWB s W2 = true → 601 ≤ s.2.1 3 + n) → OUT b (rdNs b f t st) (lwN n s) ∧ ((rdNs b f t st).1 = true → LI (lwN n s)) := by
  intro f
  induction f with
  | zero =>
    intro n t s st hI h hv h1 h2
    have hw : isWB s W2 = false := by
      cases q : isWB s W2 with
      | false => rfl
      | true =>
        have k := isWB_tok q
        have := h1 q
        have := hI.2.2.1 (by omega)
        have := hI.2.1.2.1
        omega
    rw [lwN_no hw]
    exact ⟨⟨h, hv⟩, fun _ => hI⟩
  | succ f ih =>
    intro n t s st hI h hv h1 h2
    have hw := h.isW (W := W2) (by decide)
    rw [rdNs]
    by_cases c : (tkW b W2 t).1 = true
    · rw [if_pos c]
      rw [c] at hw
      obtain ⟨n, rfl⟩ : ∃ n', n = n' + 1 := ⟨n - 1, by
        have k := isWB_tok hw
        have := h2 hw
        have := hI.2.2.1 (by omega)
        have := hI.2.1.2.1
        omega⟩
      rw [lwN, if_pos hw]
      have k := p_rdN1 hb hI h hv c
      have g9 := g_rn hI
      generalize rdN1 b (tkW b W2 t).2 st = C at *
      by_cases c2 : C.1 = true
      · rw [if_pos c2]
        have k := k.good c2
        have tk := isWB_tok hw
        have lt := p_rn hI (by omega) k.1.2.2.1
        exact ih n _ _ _ g9.1 k.1 k.2 (fun q => by have := h1 hw; omega) (fun q => by have := h2 hw; omega)
      · rw [if_neg c2]
        have k := k.wr c2
        rw [lwN_wr k.2.1]
        unfold OUT
        rw [if_neg c2]
        exact ⟨k, fun q => absurd q c2⟩
    · rw [if_neg c]
      have c' : (tkW b W2 t).1 = false := by simpa using c
      rw [c'] at hw
      rw [lwN_no hw]
      exact ⟨⟨(h.stay c').1, hv⟩, fun _ => hI⟩
theorem p_rdPs {b : Nat → Nat} {m N : Nat} (hm : 600 ≤ m) (hNb : 601 ≤ N) (hb : ∀ k, b k < 256) : ∀ (f n : Nat) (t : Tr) (s : Mo) (st : Ar), LI s → PT b t s → NV st (s.1 0) 0 → (isWB s W3 = true → 600 ≤ s.2.1 3 + f) → (isWB s W3 = true → 601 ≤ s.2.1 3 + n) → OUT b (rdPs b m f t st) (lwP N n s) ∧ ((rdPs b m f t st).1 = true → LI (lwP N n s)) := by
  intro f
  induction f with
  | zero =>
    intro n t s st hI h hv h1 h2
    have hw : isWB s W3 = false := by
      cases q : isWB s W3 with
      | false => rfl
      | true =>
        have k := isWB_tok q
        have := h1 q
        have := hI.2.2.1 (by omega)
        have := hI.2.1.2.1
        omega
    rw [lwP_no hw]
    exact ⟨⟨h, hv⟩, fun _ => hI⟩
  | succ f ih =>
    intro n t s st hI h hv h1 h2
    have hw := h.isW (W := W3) (by decide)
    rw [rdPs]
    by_cases c : (tkW b W3 t).1 = true
    · rw [if_pos c]
      rw [c] at hw
      obtain ⟨n, rfl⟩ : ∃ n', n = n' + 1 := ⟨n - 1, by
        have k := isWB_tok hw
        have := h2 hw
        have := hI.2.2.1 (by omega)
        have := hI.2.1.2.1
        omega⟩
      rw [lwP, if_pos hw]
      have k := p_rdPic (m := m) (N := N) hm hNb hb hI h hv c
      have g9 := (g_rq hI N).1
      generalize rdPic b m (tkW b W3 t).2 st = C at *
      by_cases c2 : C.1 = true
      · rw [if_pos c2]
        have k := k.good c2
        have tk := isWB_tok hw
        have lt := p_rq hI (by omega) k.1.2.2.1
        exact ih n _ _ _ g9.1 k.1 k.2 (fun q => by have := h1 hw; omega) (fun q => by have := h2 hw; omega)
      · rw [if_neg c2]
        have k := k.wr c2
        rw [lwP_wr k.2.1]
        unfold OUT
        rw [if_neg c2]
        exact ⟨k, fun q => absurd q c2⟩
    · rw [if_neg c]
      have c' : (tkW b W3 t).1 = false := by simpa using c
      rw [c'] at hw
      rw [lwP_no hw]
      exact ⟨⟨(h.stay c').1, hv⟩, fun _ => hI⟩
