/-! ===== a text is read the same: the head, the whole ===== -/
theorem rdFam_1 {b : Nat → Nat} {t : Tr} {st : Ar} (h : (rdFam b t st).1 = true) : (rdFam b t st).2.2.1 1 = st.1 1 + 1 := by
  unfold rdFam at h ⊢
  split
  · rename_i c; rw [if_pos c] at h; cases h
  · rename_i c
    rw [if_neg c] at h
    split
    · rename_i c1
      rw [if_pos c1] at h
      split
      · rename_i c2
        rw [if_pos c2] at h
        split
        · rfl
        · rename_i c3; rw [if_neg c3] at h; cases h
      · rename_i c2; rw [if_neg c2] at h; cases h
    · rename_i c1; rw [if_neg c1] at h; cases h
theorem rdN1_1 {b : Nat → Nat} {t : Tr} {st : Ar} : (rdN1 b t st).2.2.1 1 = st.1 1 := by
  unfold rdN1
  split
  · rfl
  · split
    · rfl
    · split <;> rfl
theorem rdNs_1 {b : Nat → Nat} : ∀ f {t : Tr} {st : Ar}, (rdNs b f t st).2.2.1 1 = st.1 1 := by
  intro f
  induction f with
  | zero => intro t st; rfl
  | succ f ih =>
    intro t st
    rw [rdNs]
    split
    · split
      · rw [ih, rdN1_1]
      · rw [rdN1_1]
    · rfl
theorem rdCp_1 {b : Nat → Nat} {p : Nat} {t : Tr} {st : Ar} : (rdCp b p t st).2.2.1 1 = st.1 1 := by
  unfold rdCp
  split
  · rfl
  · split
    · rfl
    · split
      · rfl
      · split
        · split <;> rfl
        · rfl
theorem rdBy_1 {b : Nat → Nat} {p : Nat} : ∀ f {t : Tr} {st : Ar}, (rdBy b p f t st).2.2.1 1 = st.1 1 := by
  intro f
  induction f with
  | zero => intro t st; rfl
  | succ f ih =>
    intro t st
    rw [rdBy]
    split
    · split
      · rw [ih, rdCp_1]
      · rw [rdCp_1]
    · rfl
theorem rdPic_1 {b : Nat → Nat} {m : Nat} {t : Tr} {st : Ar} : (rdPic b m t st).2.2.1 1 = st.1 1 := by
  unfold rdPic
  split
  · rfl
  · split
    · split
      · split
        · split
          · unfold byS
            split
            · exact rdBy_1 m
            · exact rdBy_1 m
          · rfl
        · rfl
      · rfl
    · rfl
theorem rdPs_1 {b : Nat → Nat} {m : Nat} : ∀ f {t : Tr} {st : Ar}, (rdPs b m f t st).2.2.1 1 = st.1 1 := by
  intro f
  induction f with
  | zero => intro t st; rfl
  | succ f ih =>
    intro t st
    rw [rdPs]
    split
    · split
      · rw [ih, rdPic_1]
      · rw [rdPic_1]
    · rfl
theorem p_rf0 {b : Nat → Nat} {t : Tr} {s : Mo} (h : PT b t s) (hc : (tkW b W1 t).1 = false) (hn : s.1 0 1 ≠ 10) : ER (trFail (tkW b W1 t).2 (-2) (nI (tkW b W1 t).2.2.1)) (rfS s) := by
  obtain ⟨hs, e2⟩ := h.stay hc
  have hi := h.isW (W := W1) (by decide)
  rw [hc] at hi
  obtain ⟨k1, -⟩ := h.tok
  have e1 : rf1 s = s := by unfold rf1; rw [if_neg hn]
  refine ER.go ?_ (ep_rf s)
  unfold rf2
  rw [e1, hi, e2]
  refine ER.go ?_ (EP.mn _)
  show ER (trFail (trSk b t) (-2) (nI (skp b t.1.1 t.2.1))) (muS false s)
  unfold muS
  rw [if_neg (by decide)]
  exact (ER.fl h.2.2.1 (by decide) k1).go (EP.nx _)
/-- the families after the second -/
theorem p_rdFs {b : Nat → Nat} (hb : ∀ k, b k < 256) : ∀ (f n k : Nat) (t : Tr) (s : Mo) (st : Ar), 11 ≤ n + f → 2 ≤ n → st.1 1 = n → LI s → PT b t s → NV st (s.1 0) 0 → LZ (s.1 0) → (isWB s W1 = true → 601 ≤ s.2.1 3 + k) →
    OUT b (rdFs b f n t st) (lwF k s) ∧ ((rdFs b f n t st).1 = true → LI (lwF k s) ∧ 2 ≤ (rdFs b f n t st).2.2.1 1) := by
  intro f
  induction f with
  | zero =>
    intro n k t s st h1 h2 h3 hI h hv hz h4
    have := hv.N10
    omega
  | succ f ih =>
    intro n k t s st h1 h2 h3 hI h hv hz h4
    have hw := h.isW (W := W1) (by decide)
    rw [rdFs]
    by_cases c : (tkW b W1 t).1 = true
    · rw [if_pos c]
      rw [c] at hw
      obtain ⟨k, rfl⟩ : ∃ n', k = n' + 1 := ⟨k - 1, by
        have q := isWB_tok hw
        have := h4 hw
        have := hI.2.2.1 (by omega)
        have := hI.2.1.2.1
        omega⟩
      rw [lwF, if_pos hw]
      obtain ⟨kf, kz⟩ := p_rdFam hb hI h hv hz c
      have g9 := g_rf hI
      have e1 := rdFam_1 (b := b) (t := (tkW b W1 t).2) (st := st)
      generalize rdFam b (tkW b W1 t).2 st = C at *
      by_cases c2 : C.1 = true
      · rw [if_pos c2]
        have q := kf.good c2
        have tk := isWB_tok hw
        have lt := p_rf hI (by omega) q.1.2.2.1
        exact ih (n + 1) k _ _ _ (by omega) (by omega) (by rw [e1 c2, h3]) g9.1 q.1 q.2 (kz q.1.2.2.1) (fun z => by have := h4 hw; omega)
      · rw [if_neg c2]
        have q := kf.wr c2
        rw [lwF_wr q.2.1]
        unfold OUT
        rw [if_neg c2]
        exact ⟨q, fun z => absurd z c2⟩
    · rw [if_neg c]
      have c' : (tkW b W1 t).1 = false := by simpa using c
      rw [c'] at hw
      rw [lwF_no hw, if_neg (by omega)]
      exact ⟨⟨(h.stay c').1, hv⟩, fun _ => ⟨hI, by show 2 ≤ st.1 1; omega⟩⟩
/-- the first two, and then the others -/
theorem p_rdF2 {b : Nat → Nat} (hb : ∀ k, b k < 256) {N f : Nat} (hf : 11 ≤ f) (hN : 601 ≤ N) {t : Tr} {s : Mo} {st : Ar} (h3 : st.1 1 = 0) (hI : LI s) (h : PT b t s) (hv : NV st (s.1 0) 0) (hz : LZ (s.1 0)) :
    OUT b (rdFs b f 0 t st) (lwF N (rfS (rfS s))) ∧ ((rdFs b f 0 t st).1 = true → LI (lwF N (rfS (rfS s))) ∧ 2 ≤ (rdFs b f 0 t st).2.2.1 1) := by
  obtain ⟨f, rfl⟩ : ∃ f', f = f' + 1 := ⟨f - 1, by omega⟩
  have a1 := hv.r0.2.1
  have epF : ∀ S : Mo, EP S (rfS S) := fun S => by
    have q1 : EP S (rf1 S) := by
      unfold rf1
      split
      · exact EP.fl _ _
      · exact EP.rf _
    exact q1.tr ((ep_rf2 S).tr (ep_rf S))
  have epL : ∀ S : Mo, EP S (lwF N S) := fun S q => by rw [lwF_wr q]; exact ⟨rfl, rfl⟩
  rw [rdFs]
  by_cases c : (tkW b W1 t).1 = true
  rotate_left
  · rw [if_neg c, if_pos (by decide)]
    exact ⟨OUT.bad ((p_rf0 h (by simpa using c) (by omega)).go ((epF _).tr (epL _))), fun z => by cases z⟩
  rw [if_pos c]
  obtain ⟨kf, kz⟩ := p_rdFam hb hI h hv hz c
  have g9 := g_rf hI
  have e1 := rdFam_1 (b := b) (t := (tkW b W1 t).2) (st := st)
  generalize rdFam b (tkW b W1 t).2 st = C at *
  generalize rfS s = s1 at *
  by_cases c2 : C.1 = true
  rotate_left
  · rw [if_neg c2]
    have q := (kf.wr c2).go ((epF s1).tr (epL _))
    unfold OUT
    rw [if_neg c2]
    exact ⟨q, fun z => absurd z c2⟩
  rw [if_pos c2]
  have q := kf.good c2
  have e1 := e1 c2
  obtain ⟨f, rfl⟩ : ∃ f', f = f' + 1 := ⟨f - 1, by omega⟩
  have hI := g9.1
  have hz := kz q.1.2.2.1
  obtain ⟨h, hv⟩ := q
  have a1 := hv.r0.2.1
  generalize C.2.1 = t at *
  generalize C.2.2 = st1 at *
  rw [rdFs]
  by_cases c : (tkW b W1 t).1 = true
  rotate_left
  · rw [if_neg c, if_pos (by decide)]
    exact ⟨OUT.bad ((p_rf0 h (by simpa using c) (by omega)).go (epL _)), fun z => by cases z⟩
  rw [if_pos c]
  obtain ⟨kf, kz⟩ := p_rdFam hb hI h hv hz c
  have g9 := g_rf hI
  have e2 := rdFam_1 (b := b) (t := (tkW b W1 t).2) (st := st1)
  generalize rdFam b (tkW b W1 t).2 st1 = D at *
  generalize rfS s1 = s2 at *
  by_cases c2 : D.1 = true
  rotate_left
  · rw [if_neg c2]
    have q := (kf.wr c2).go (epL _)
    unfold OUT
    rw [if_neg c2]
    exact ⟨q, fun z => absurd z c2⟩
  rw [if_pos c2]
  have q := kf.good c2
  exact p_rdFs hb f 2 N _ _ _ (by omega) (by decide) (by rw [e2 c2, e1, h3]) g9.1 q.1 q.2 (kz q.1.2.2.1) (fun _ => by omega)
theorem NV_empty {v : Nat} {A : Nat → Nat} (h4 : 4 ≤ v) (h16 : v ≤ 16) (e0 : A 0 = v) (ez : ∀ k, k ≠ 0 → k < 353 → A k = 0) : NV (emptyS v) A 0 := by
  refine ⟨⟨⟨e0, ez 1 (by decide) (by decide), ez 2 (by decide) (by decide), ez 3 (by decide) (by decide), ez 4 (by decide) (by decide)⟩, fun f hf => absurd hf (Nat.not_lt_zero f), fun p hp => absurd hp (Nat.not_lt_zero p), fun p f hp => absurd hp (Nat.not_lt_zero p)⟩, empty_ok h4 h16, fun p f _ _ => ?_, fun f hf => absurd hf (Nat.not_lt_zero f), by decide, by omega, fun k hk => ?_⟩
  · show (Nat.testBit 0 f && Nat.testBit 0 f) = false
    rw [Nat.zero_testBit]
    rfl
  · by_cases e : k = 0
    · subst e
      rw [e0]
      exact h16
    · rw [ez k e hk]
      exact Nat.zero_le _
theorem p_rdHead {s : Mo} {t : Tr} {st : Ar} {N m9 : Nat} (hb : bOk s) (hl : t.1.1 = s.2.1 2) (h9 : 11 ≤ m9) (hN : 601 ≤ N) :
    OUT (s.1 5) (rdHead (s.1 5) m9 (tr0 t) st) (lwF N (ld5 s)) ∧ ((rdHead (s.1 5) m9 (tr0 t) st).1 = true → LI (lwF N (ld5 s)) ∧ 2 ≤ (rdHead (s.1 5) m9 (tr0 t) st).2.2.1 1) := by
  have epF : ∀ S : Mo, EP S (rfS S) := fun S => by
    have q1 : EP S (rf1 S) := by
      unfold rf1
      split
      · exact EP.fl _ _
      · exact EP.rf _
    exact q1.tr ((ep_rf2 S).tr (ep_rf S))
  have epL : ∀ S : Mo, EP S (lwF N S) := fun S q => by rw [lwF_wr q]; exact ⟨rfl, rfl⟩
  have p1 : PT (s.1 5) (tr0 t) (ld1 s) := by
    have e4 : (ld0 s).2.1 4 = 0 := rfl
    unfold ld1
    rw [e4]
    have f1 := lex_1 (ld0 s) 0
    have f2 := (lex_LF (ld0 s) 0).2.1 2 (by decide)
    have f3 := (lex_row (ld0 s) 0).2
    refine ⟨?_, ?_, ?_, ?_, rfl⟩
    · rw [f1]; rfl
    · rw [f2]; exact hl.symm
    · rw [f3]; rfl
    · exact lex_lex _ _ _
  have k2 := p_word (W := W0) (by decide) p1
  have d2 : muS (isWB (ld1 s) W0) (ld1 s) = ld2 s := rfl
  rw [d2] at k2
  have t2 := ld2_tk hb
  have e21 : (ld2 s).1 0 1 = 0 := by rw [t2.2]; exact ld0_row s 1 (by decide)
  have h3 := ld3_LI t2.1 (by rw [t2.2]; exact ld0_rB s) e21
  have r2 : ∀ k, k < 353 → (ld2 s).1 0 k = 0 := fun k hk => by rw [t2.2]; exact ld0_row s k hk
  have d5 : ld5 s = rfS (rfS (rf7 (ld3 (ld2 s)))) := rfl
  rw [d5]
  have ep4 : EP (rf7 (ld3 (ld2 s))) (lwF N (rfS (rfS (rf7 (ld3 (ld2 s)))))) := (epF _).tr ((epF _).tr (epL _))
  have hb0 : ∀ k, s.1 5 k < 256 := hb.1
  unfold rdHead
  generalize ld2 s = s2 at *
  generalize s.1 5 = b at *
  by_cases c1 : (ndW b W0 (tr0 t)).1 = true
  rotate_left
  · rw [if_neg c1] at k2 ⊢
    have e3 : EP s2 (ld3 s2) := by
      unfold ld3
      exact (EP.st _ _ _).tr ((EP.nx _).tr (EP.row _ _))
    exact ⟨OUT.bad (k2.go (e3.tr ((ep_rf7 _).tr ep4))), fun z => by cases z⟩
  rw [if_pos c1] at k2 ⊢
  have p2 := k2.1
  have kt := p_takes (lo := 4) (hi := 16) (by decide) (by decide) t2.1.2.1.2.2.2 p2
  have hvv := st_val (s := s2) (lo := 4) (hi := 16) (by decide) (by decide) t2.1.2.1.2.2.2
  generalize (ndW b W0 (tr0 t)).2 = t1 at *
  have e3 : EP (nxS (stS 4 16 s2)) (ld3 s2) := by
    unfold ld3
    exact EP.row _ _
  by_cases c2 : (ndD b 4 16 t1).1 = true
  rotate_left
  · rw [if_neg c2] at kt ⊢
    exact ⟨OUT.bad (kt.go (e3.tr ((ep_rf7 _).tr ep4))), fun z => by cases z⟩
  rw [if_pos c2] at kt ⊢
  obtain ⟨ka, kb, kc⟩ := kt
  have p3 : PT b (ndD b 4 16 t1).2 (ld3 s2) := by
    unfold ld3
    exact ka.row _
  have hw : (stS 4 16 s2).2.2.1 0 = 0 := by
    have := ka.2.2.1
    unfold nxS at this
    split at this
    · rename_i q; exact q
    · exact this
  have hv4 := hvv.2 hw
  have hv16 := hvv.1
  rw [kb] at hv4 hv16
  have r3 : (ld3 s2).1 0 = va_up (s2.1 0) 0 (ndD b 4 16 t1).2.2.2.2.1 := by
    unfold ld3
    rw [kb, nx_1, st_1]
    rfl
  have ks := p_sem hb0 p3
  have e7 : rf7 (ld3 s2) = muS (endB (ld3 s2)) (ld3 s2) := rfl
  rw [← e7] at ks
  have g7 := g_rf7 h3.1
  have r7 := rf7_1 (ld3 s2)
  generalize ndD b 4 16 t1 = D at *
  generalize ld3 s2 = s3 at *
  generalize rf7 s3 = s4 at *
  by_cases c3 : (semS b D.2).1 = true
  rotate_left
  · rw [if_neg c3] at ks ⊢
    exact ⟨OUT.bad (ks.go ep4), fun z => by cases z⟩
  rw [if_pos c3] at ks ⊢
  rw [semS_num]
  have r4 : s4.1 0 = va_up (s2.1 0) 0 D.2.2.2.2.1 := by rw [r7]; exact r3
  have ez : ∀ k, k ≠ 0 → k < 353 → s4.1 0 k = 0 := fun k h1 h2 => by rw [r4, va_up_ne _ _ h1]; exact r2 k h2
  refine p_rdF2 (st := emptyS D.2.2.2.2.1) hb0 h9 hN rfl g7.1 ks (NV_empty hv4 hv16 (by rw [r4, va_upE]) ez) ?_
  intro f i _ h2 h3 h4
  exact ez _ (by omega) (by omega)
/-- the whole text -/
theorem p_rdTx {s : Mo} {t : Tr} {st : Ar} {N m9 m : Nat} (hb : bOk s) (hl : t.1.1 = s.2.1 2) (h9 : m9 = 11) (hm : m = 600) (hN : 601 ≤ N) :
    if (rdTx (s.1 5) m9 m t st).1 = true then (ldX N s).2.2.1 0 = 0 ∧ NV (rdTx (s.1 5) m9 m t st).2.2 ((ldX N s).1 0) 0 ∧ 2 ≤ (rdTx (s.1 5) m9 m t st).2.2.1 1 ∧ (rdTx (s.1 5) m9 m t st).2.1.1 = (0, -1, -1)
    else (ldX N s).2.2.1 0 ≠ 0 ∧ (rdTx (s.1 5) m9 m t st).2.1.1 = (0, (ldX N s).2.2.1 0, nI ((ldX N s).2.1 7)) := by
  have hm2 : 600 ≤ m := by omega
  have hb0 : ∀ k, s.1 5 k < 256 := hb.1
  have er : ∀ {T : Tr} {S : Mo}, ER T S → S.2.2.1 0 ≠ 0 ∧ (sLen T 0).1 = (0, S.2.2.1 0, nI (S.2.1 7)) := fun {T S} q => ⟨q.2.1, by rw [q.1, ← q.2.2]⟩
  have ep8 : ∀ S : Mo, EP S (ld8 S) := fun S => by
    unfold ld8
    split
    · exact EP.fl _ _
    · exact EP.rf _
  have epP : ∀ S : Mo, EP S (lwP N N S) := fun S q => by rw [lwP_wr q]; exact ⟨rfl, rfl⟩
  have epN : ∀ S : Mo, EP S (lwN N S) := fun S q => by rw [lwN_wr q]; exact ⟨rfl, rfl⟩
  obtain ⟨k1, k1i⟩ := p_rdHead (t := t) (st := st) hb hl (m9 := m9) (N := N) (by omega) hN
  have dX : ldX N s = ld8 (lwP N N (lwN N (lwF N (ld5 s)))) := rfl
  rw [dX]
  unfold rdTx
  generalize rdHead (s.1 5) m9 (tr0 t) st = H at *
  generalize lwF N (ld5 s) = s1 at *
  generalize s.1 5 = b at *
  by_cases c1 : H.1 = true
  rotate_left
  · rw [if_neg c1]
    exact er ((k1.wr c1).go ((epN _).tr ((epP _).tr (ep8 _))))
  rw [if_pos c1]
  have k1 := k1.good c1
  obtain ⟨hI1, hF1⟩ := k1i c1
  obtain ⟨k2, k2i⟩ := p_rdNs hb0 m N H.2.1 s1 H.2.2 hI1 k1.1 k1.2 (fun _ => by omega) (fun _ => by omega)
  have f2 := rdNs_1 (b := b) m (t := H.2.1) (st := H.2.2)
  generalize rdNs b m H.2.1 H.2.2 = J at *
  generalize lwN N s1 = s2 at *
  by_cases c2 : J.1 = true
  rotate_left
  · rw [if_neg c2]
    exact er ((k2.wr c2).go ((epP _).tr (ep8 _)))
  rw [if_pos c2]
  have k2 := k2.good c2
  obtain ⟨k3, k3i⟩ := p_rdPs (N := N) hm2 hN hb0 m N J.2.1 s2 J.2.2 (k2i c2) k2.1 k2.2 (fun _ => by omega) (fun _ => by omega)
  have f3 := rdPs_1 (b := b) (m := m) m (t := J.2.1) (st := J.2.2)
  generalize rdPs b m m J.2.1 J.2.2 = P at *
  generalize lwP N N s2 = s3 at *
  unfold finS
  by_cases c3 : P.1 = true
  rotate_left
  · rw [if_neg c3]
    exact er ((k3.wr c3).go (ep8 _))
  rw [if_pos c3]
  have k3 := k3.good c3
  obtain ⟨z1, z2⟩ := k3.1.tok
  have hk : (trSk b P.2.1).2.1 = skp b P.2.1.1.1 P.2.1.2.1 := rfl
  show if (endS b P.2.1).1 = true then (ld8 s3).2.2.1 0 = 0 ∧ NV P.2.2 ((ld8 s3).1 0) 0 ∧ 2 ≤ P.2.2.1 1 ∧ (sLen (endS b P.2.1).2 0).1 = (0, -1, -1) else (ld8 s3).2.2.1 0 ≠ 0 ∧ (sLen (endS b P.2.1).2 0).1 = (0, (ld8 s3).2.2.1 0, nI ((ld8 s3).2.1 7))
  unfold endS
  rw [hk]
  by_cases c4 : skp b P.2.1.1.1 P.2.1.2.1 < P.2.1.1.1
  · rw [if_pos c4]
    have n3 : s3.2.1 5 ≠ 3 := by omega
    have e8 : ld8 s3 = flS s3 (-2) := by
      unfold ld8
      rw [if_pos ⟨k3.1.2.2.1, n3⟩]
    rw [if_neg (fun q => by cases q), e8]
    exact er (ER.fl k3.1.2.2.1 (by decide) z1)
  · rw [if_neg c4]
    have n3 : s3.2.1 5 = 3 := by omega
    have e8 : ld8 s3 = s3 := by
      unfold ld8
      rw [if_neg (fun q => q.2 n3)]
    rw [if_pos rfl, e8]
    refine ⟨k3.1.2.2.1, k3.2, by rw [f3, f2]; exact hF1, ?_⟩
    have e9 := k3.1.2.2.2.2
    show (0, P.2.1.1.2) = _
    rw [e9]
