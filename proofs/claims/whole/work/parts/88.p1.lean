/-! ===== a text is read the same: tokens, names ===== -/
theorem lex_lex (s : Mo) (a q : Nat) : lexS (lexS s a) q = lexS s q := by
  obtain ⟨x1, x2, x3, x4, e, -, -⟩ := lexS_form s a
  have e5 : (lexS s a).1 5 = s.1 5 := by rw [lex_1]
  have e2 : (lexS s a).2.1 2 = s.2.1 2 := (lex_LF s a).2.1 2 (by decide)
  have mm : ∀ a' b' k' n', mk4 (lexS s a) a' b' k' n' = mk4 s a' b' k' n' := by
    intro a' b' k' n'
    rw [e]
    refine Prod.ext rfl (Prod.ext (funext fun j => ?_) rfl)
    show (if j = 3 then a' else if j = 4 then b' else if j = 5 then k' else if j = 6 then n' else (if j = 3 then x1 else if j = 4 then x2 else if j = 5 then x3 else if j = 6 then x4 else s.2.1 j)) = (if j = 3 then a' else if j = 4 then b' else if j = 5 then k' else if j = 6 then n' else s.2.1 j)
    by_cases h3 : j = 3
    · rw [if_pos h3, if_pos h3]
    · by_cases h4 : j = 4
      · simp only [if_neg h3, if_pos h4]
      · by_cases h5 : j = 5
        · simp only [if_neg h3, if_neg h4, if_pos h5]
        · by_cases h6 : j = 6
          · simp only [if_neg h3, if_neg h4, if_neg h5, if_pos h6]
          · simp only [if_neg h3, if_neg h4, if_neg h5, if_neg h6]
  have u : ∀ S : Mo, lexS S q = (if S.2.1 2 ≤ skp (S.1 5) (S.2.1 2) q then mk4 S (skp (S.1 5) (S.2.1 2) q) (skp (S.1 5) (S.2.1 2) q) 3 0 else if ltAt (S.1 5) (S.2.1 2) (skp (S.1 5) (S.2.1 2) q) = true then mk4 S (skp (S.1 5) (S.2.1 2) q) (wEnd (S.1 5) (S.2.1 2) (skp (S.1 5) (S.2.1 2) q)) 0 0 else if digAt (S.1 5) (S.2.1 2) (skp (S.1 5) (S.2.1 2) q) = true then mk4 S (skp (S.1 5) (S.2.1 2) q) (dgF (S.1 5) (S.2.1 2 - skp (S.1 5) (S.2.1 2) q) (skp (S.1 5) (S.2.1 2) q) 0).1 1 (dgF (S.1 5) (S.2.1 2 - skp (S.1 5) (S.2.1 2) q) (skp (S.1 5) (S.2.1 2) q) 0).2 else mk4 S (skp (S.1 5) (S.2.1 2) q) (skp (S.1 5) (S.2.1 2) q + 1) 2 0) := fun _ => rfl
  rw [u, u s, e5, e2, mm, mm, mm, mm]
theorem skp_id (b : Nat → Nat) (n p : Nat) : skp b n (skp b n p) = skp b n p := by
  have h1 := runF_le (fun i => isSp (b i)) (n - p) p
  have h2 := runF_end (fun i => isSp (b i)) (n - p) p
  have e : skp b n p = runF (fun i => isSp (b i)) (n - p) p := rfl
  rw [← e] at h1 h2
  generalize skp b n p = k at *
  unfold skp
  cases hc : n - k with
  | zero => rfl
  | succ d =>
    rw [runF, if_neg (by rw [h2 (by omega)]; decide)]
theorem lex_skp (s : Mo) (p : Nat) : lexS s (skp (s.1 5) (s.2.1 2) p) = lexS s p := by
  unfold lexS
  dsimp only
  rw [skp_id]
/-- the model's token is the one that stands behind the place of the reader -/
def PT (b : Nat → Nat) (t : Tr) (s : Mo) : Prop := s.1 5 = b ∧ s.2.1 2 = t.1.1 ∧ s.2.2.1 0 = 0 ∧ lexS s t.2.1 = s ∧ t.1.2 = (-1, -1)
/-- what that token is -/
theorem PT.tok {b : Nat → Nat} {t : Tr} {s : Mo} (h : PT b t s) : s.2.1 3 = skp b t.1.1 t.2.1 ∧
    ((t.1.1 ≤ skp b t.1.1 t.2.1 ∧ s.2.1 4 = skp b t.1.1 t.2.1 ∧ s.2.1 5 = 3) ∨
     (skp b t.1.1 t.2.1 < t.1.1 ∧ isLt (b (skp b t.1.1 t.2.1)) = true ∧ s.2.1 4 = wEnd b t.1.1 (skp b t.1.1 t.2.1) ∧ s.2.1 5 = 0) ∨
     (skp b t.1.1 t.2.1 < t.1.1 ∧ isLt (b (skp b t.1.1 t.2.1)) = false ∧ isDg (b (skp b t.1.1 t.2.1)) = true ∧ s.2.1 4 = (dgF b (t.1.1 - skp b t.1.1 t.2.1) (skp b t.1.1 t.2.1) 0).1 ∧ s.2.1 5 = 1 ∧ s.2.1 6 = (dgF b (t.1.1 - skp b t.1.1 t.2.1) (skp b t.1.1 t.2.1) 0).2) ∨
     (skp b t.1.1 t.2.1 < t.1.1 ∧ isLt (b (skp b t.1.1 t.2.1)) = false ∧ isDg (b (skp b t.1.1 t.2.1)) = false ∧ s.2.1 4 = skp b t.1.1 t.2.1 + 1 ∧ s.2.1 5 = 2)) := by
  obtain ⟨h1, h2, h3, h4, -⟩ := h
  have u : lexS s t.2.1 = (if s.2.1 2 ≤ skp (s.1 5) (s.2.1 2) t.2.1 then mk4 s (skp (s.1 5) (s.2.1 2) t.2.1) (skp (s.1 5) (s.2.1 2) t.2.1) 3 0 else if ltAt (s.1 5) (s.2.1 2) (skp (s.1 5) (s.2.1 2) t.2.1) = true then mk4 s (skp (s.1 5) (s.2.1 2) t.2.1) (wEnd (s.1 5) (s.2.1 2) (skp (s.1 5) (s.2.1 2) t.2.1)) 0 0 else if digAt (s.1 5) (s.2.1 2) (skp (s.1 5) (s.2.1 2) t.2.1) = true then mk4 s (skp (s.1 5) (s.2.1 2) t.2.1) (dgF (s.1 5) (s.2.1 2 - skp (s.1 5) (s.2.1 2) t.2.1) (skp (s.1 5) (s.2.1 2) t.2.1) 0).1 1 (dgF (s.1 5) (s.2.1 2 - skp (s.1 5) (s.2.1 2) t.2.1) (skp (s.1 5) (s.2.1 2) t.2.1) 0).2 else mk4 s (skp (s.1 5) (s.2.1 2) t.2.1) (skp (s.1 5) (s.2.1 2) t.2.1 + 1) 2 0) := rfl
  rw [h1, h2] at u
  rw [u] at h4
  generalize skp b t.1.1 t.2.1 = k at *
  have f3 : ∀ a c d e, (mk4 s a c d e).2.1 3 = a := fun _ _ _ _ => rfl
  have f4 : ∀ a c d e, (mk4 s a c d e).2.1 4 = c := fun _ _ _ _ => rfl
  have f5 : ∀ a c d e, (mk4 s a c d e).2.1 5 = d := fun _ _ _ _ => rfl
  have f6 : ∀ a c d e, (mk4 s a c d e).2.1 6 = e := fun _ _ _ _ => rfl
  by_cases c1 : t.1.1 ≤ k
  · rw [if_pos c1] at h4
    rw [← h4, f3, f4, f5]
    exact ⟨rfl, Or.inl ⟨c1, rfl, rfl⟩⟩
  · rw [if_neg c1] at h4
    by_cases c2 : ltAt b t.1.1 k = true
    · rw [if_pos c2] at h4
      unfold ltAt at c2
      rw [Bool.and_eq_true] at c2
      rw [← h4, f3, f4, f5]
      exact ⟨rfl, Or.inr (Or.inl ⟨by omega, c2.2, rfl, rfl⟩)⟩
    · rw [if_neg c2] at h4
      have l2 : isLt (b k) = false := by
        unfold ltAt at c2
        rw [decide_eq_true (show k < t.1.1 by omega), Bool.true_and] at c2
        simpa using c2
      by_cases c3 : digAt b t.1.1 k = true
      · rw [if_pos c3] at h4
        unfold digAt at c3
        rw [Bool.and_eq_true] at c3
        rw [← h4, f3, f4, f5, f6]
        exact ⟨rfl, Or.inr (Or.inr (Or.inl ⟨by omega, l2, c3.2, rfl, rfl, rfl⟩))⟩
      · rw [if_neg c3] at h4
        have l3 : isDg (b k) = false := by
          unfold digAt at c3
          rw [decide_eq_true (show k < t.1.1 by omega), Bool.true_and] at c3
          simpa using c3
        rw [← h4, f3, f4, f5]
        exact ⟨rfl, Or.inr (Or.inr (Or.inr ⟨by omega, l2, l3, rfl, rfl⟩))⟩
theorem wEnd_gt {b : Nat → Nat} {n k : Nat} (h1 : k < n) (h2 : isLt (b k) = true) : k < wEnd b n k := by
  unfold wEnd
  obtain ⟨d, hd⟩ : ∃ d, n - k = d + 1 := ⟨n - k - 1, by omega⟩
  rw [hd, runF, if_pos h2]
  have := (runF_le (fun i => isLt (b i)) d (k + 1)).1
  omega
theorem wEnd_eq {b : Nat → Nat} {n k : Nat} (h : ¬ (k < n ∧ isLt (b k) = true)) : wEnd b n k = k := by
  unfold wEnd
  cases hd : n - k with
  | zero => rfl
  | succ d =>
    rw [runF, if_neg (fun q => h ⟨by omega, q⟩)]
/-- a word stands there, or none -/
theorem PT.word {b : Nat → Nat} {t : Tr} {s : Mo} (h : PT b t s) : (s.2.1 5 = 0 ∧ s.2.1 4 = wEnd b t.1.1 (skp b t.1.1 t.2.1) ∧ skp b t.1.1 t.2.1 < wEnd b t.1.1 (skp b t.1.1 t.2.1)) ∨ (s.2.1 5 ≠ 0 ∧ wEnd b t.1.1 (skp b t.1.1 t.2.1) = skp b t.1.1 t.2.1) := by
  obtain ⟨-, h2⟩ := h.tok
  rcases h2 with ⟨a, b1, c⟩ | ⟨a, b1, c, d⟩ | ⟨a, b1, c, d, e, f⟩ | ⟨a, b1, c, d, e⟩
  · exact Or.inr ⟨by omega, wEnd_eq (by omega)⟩
  · exact Or.inl ⟨d, c, wEnd_gt a b1⟩
  · exact Or.inr ⟨by omega, wEnd_eq (by rw [b1]; simp)⟩
  · exact Or.inr ⟨by omega, wEnd_eq (by rw [b1]; simp)⟩
theorem PT.next {b : Nat → Nat} {t : Tr} {s : Mo} (h : PT b t s) {q : Nat} {t' : Tr} (e1 : t'.1 = t.1) (e2 : t'.2.1 = q) : PT b t' (lexS s q) := by
  obtain ⟨h1, h2, h3, h4, h5⟩ := h
  refine ⟨by rw [lex_1]; exact h1, by rw [(lex_LF s q).2.1 2 (by decide), e1]; exact h2, by rw [(lex_row s q).2]; exact h3, ?_, by rw [e1]; exact h5⟩
  rw [e2, lex_lex]
theorem PT.skip {b : Nat → Nat} {t : Tr} {s : Mo} (h : PT b t s) : PT b (trSk b t) s := by
  obtain ⟨h1, h2, h3, h4, h5⟩ := h
  refine ⟨h1, h2, h3, ?_, h5⟩
  show lexS s (skp b t.1.1 t.2.1) = s
  rw [← h1, ← h2, lex_skp]
  exact h4
theorem PT.isW {b : Nat → Nat} {t : Tr} {s : Mo} (h : PT b t s) {W : List Nat} (hW : 0 < W.length) : isWB s W = (tkW b W t).1 := by
  obtain ⟨k1, -⟩ := h.tok
  have hw := h.word
  have hk : (trSk b t).2.1 = skp b t.1.1 t.2.1 := rfl
  unfold isWB tkW
  rw [hk, h.1, k1, h.2.2.1]
  rcases hw with ⟨a, c, d⟩ | ⟨a, c⟩
  · rw [a, c]
    by_cases e : wEnd b t.1.1 (skp b t.1.1 t.2.1) - skp b t.1.1 t.2.1 = W.length
    · rw [decide_eq_true ⟨rfl, rfl, e⟩, Bool.true_and]
      cases hm : mtB b (skp b t.1.1 t.2.1) W with
      | true => rw [if_pos ⟨e, rfl⟩]
      | false => rw [if_neg (fun q => by cases q.2)]
    · rw [decide_eq_false (fun q => e q.2.2), Bool.false_and, if_neg (fun q => e q.1)]
  · rw [decide_eq_false (fun q => a q.2.1), Bool.false_and, if_neg (fun q => by rw [c] at q; omega)]
/-- the word is passed -/
theorem PT.pass {b : Nat → Nat} {t : Tr} {s : Mo} (h : PT b t s) {W : List Nat} (hW : 0 < W.length) (hc : (tkW b W t).1 = true) : PT b (tkW b W t).2 (lexS s (s.2.1 4)) ∧ (tkW b W t).2.2.2.1 = s.2.1 3 := by
  have hi := h.isW hW
  rw [hc] at hi
  have ht := isWB_tok hi
  obtain ⟨k1, -⟩ := h.tok
  have hw := h.word
  unfold tkW at hc ⊢
  split
  · rename_i c
    rcases hw with ⟨a, d, e⟩ | ⟨a, d⟩
    · exact ⟨h.next rfl d.symm, k1.symm⟩
    · exact absurd ht.2.1 a
  · rename_i c
    rw [if_neg c] at hc
    cases hc
theorem PT.stay {b : Nat → Nat} {t : Tr} {s : Mo} (h : PT b t s) {W : List Nat} (hc : (tkW b W t).1 = false) : PT b (tkW b W t).2 s ∧ (tkW b W t).2 = trSk b t := by
  unfold tkW at hc ⊢
  split
  · rename_i c; rw [if_pos c] at hc; cases hc
  · exact ⟨h.skip, rfl⟩
/-! errors stay -/
def EP (s s' : Mo) : Prop := s.2.2.1 0 ≠ 0 → s'.2.2.1 0 = s.2.2.1 0 ∧ s'.2.1 7 = s.2.1 7
theorem EP.rf (s : Mo) : EP s s := fun _ => ⟨rfl, rfl⟩
theorem EP.tr {a b c : Mo} (h1 : EP a b) (h2 : EP b c) : EP a c := fun q => by
  have k1 := h1 q
  have k2 := h2 (by rw [k1.1]; exact q)
  exact ⟨k2.1.trans k1.1, k2.2.trans k1.2⟩
theorem EP.fl (s : Mo) (c : Int32) : EP s (flS s c) := fun q => by unfold flS; rw [if_neg q]; exact ⟨rfl, rfl⟩
theorem EP.nx (s : Mo) : EP s (nxS s) := fun q => by unfold nxS; rw [if_neg q]; exact ⟨rfl, rfl⟩
theorem EP.mu (r : Bool) (s : Mo) : EP s (muS r s) := by
  unfold muS
  refine EP.tr ?_ (EP.nx _)
  split
  · exact EP.rf s
  · exact EP.fl s _
theorem EP.mn (s : Mo) : EP s (mnS s) := by
  unfold mnS
  split
  · exact EP.fl s _
  · exact EP.rf s
theorem EP.st (lo hi : Nat) (s : Mo) : EP s (stS lo hi s) := by
  have k1 : EP s (st1 s) := by
    unfold st1
    split
    · exact EP.fl s _
    · exact EP.rf s
  refine k1.tr ?_
  show EP (st1 s) (st2 lo hi (st1 s))
  unfold st2
  split
  · exact EP.fl _ _
  · exact EP.rf _
theorem EP.fh (s : Mo) : EP s (fhS s) := by
  unfold fhS
  refine (EP.mn s).tr ?_
  split
  · exact EP.fl _ _
  · exact EP.rf _
theorem EP.row (s : Mo) (A : Nat → Nat) : EP s (mR s 0 A) := fun _ => ⟨rfl, rfl⟩
/-- how an error of the reader, and of the model, look -/
def ER (t : Tr) (s : Mo) : Prop := s.2.2.1 0 = t.1.2.1 ∧ s.2.2.1 0 ≠ 0 ∧ t.1.2.2 = nI (s.2.1 7)
theorem ER.go {t : Tr} {s s' : Mo} (h : ER t s) (e : EP s s') : ER t s' := by
  obtain ⟨h1, h2, h3⟩ := h
  have k := e h2
  exact ⟨k.1.trans h1, by rw [k.1]; exact h2, by rw [k.2]; exact h3⟩
theorem ER.fl {s : Mo} {t : Tr} {c : Int32} (h0 : s.2.2.1 0 = 0) (hc : c ≠ 0) {k : Nat} (hk : s.2.1 3 = k) : ER (trFail t c (nI k)) (flS s c) := by
  unfold flS
  rw [if_pos h0]
  exact ⟨rfl, hc, by rw [← hk]; rfl⟩
/-! numbers, ends -/
theorem p_sem {b : Nat → Nat} {t : Tr} {s : Mo} (hb : ∀ k, b k < 256) (h : PT b t s) : if (semS b t).1 = true then PT b (semS b t).2 (muS (endB s) s) else ER (semS b t).2 (muS (endB s) s) := by
  obtain ⟨k1, k2⟩ := h.tok
  have hk : (trSk b t).2.1 = skp b t.1.1 t.2.1 := rfl
  unfold semS
  rw [hk]
  have ee : endB s = decide (skp b t.1.1 t.2.1 < t.1.1 ∧ b (skp b t.1.1 t.2.1) = 59) ∧ (endB s = true → s.2.1 4 = skp b t.1.1 t.2.1 + 1) := by
    unfold endB seV
    rw [h.1, h.2.1, k1]
    generalize skp b t.1.1 t.2.1 = k at *
    have l59 : b k = 59 → isLt (b k) = false ∧ isDg (b k) = false := fun q => by rw [q]; exact ⟨rfl, rfl⟩
    by_cases c : k < t.1.1 ∧ b k = 59
    · rw [decide_eq_true c, if_pos c.1, c.2]
      rcases k2 with ⟨a, d, e⟩ | ⟨a, d, e, f⟩ | ⟨a, d, e, f, g, i⟩ | ⟨a, d, e, f, g⟩
      · omega
      · rw [(l59 c.2).1] at d; cases d
      · rw [(l59 c.2).2] at e; cases e
      · rw [g]; exact ⟨rfl, fun _ => f⟩
    · rw [decide_eq_false c]
      by_cases c1 : k < t.1.1
      · rw [if_pos c1]
        have : ¬ nI (b k) = nI 59 ∨ s.2.1 5 ≠ 2 := by
          by_cases z : s.2.1 5 = 2
          · left
            intro q
            have := hb k
            exact c ⟨c1, (nI_eq (by omega) (by omega)).mp q⟩
          · exact Or.inr z
        rcases this with z | z
        · rw [decide_eq_false z, Bool.and_false]; exact ⟨rfl, fun q => by cases q⟩
        · rw [decide_eq_false z, Bool.false_and]; exact ⟨rfl, fun q => by cases q⟩
      · rw [if_neg c1]
        have : decide ((-1 : Int32) = nI 59) = false := by decide
        rw [this, Bool.and_false]
        exact ⟨rfl, fun q => by cases q⟩
  by_cases c : skp b t.1.1 t.2.1 < t.1.1 ∧ b (skp b t.1.1 t.2.1) = 59
  · rw [decide_eq_true c] at ee
    rw [if_pos c, if_pos rfl, ee.1]
    unfold muS nxS
    rw [if_pos rfl, if_pos h.2.2.1, ee.2 ee.1]
    exact h.next rfl rfl
  · rw [decide_eq_false c] at ee
    rw [if_neg c, ee.1]
    show ER (trFail (trSk b t) (-2) (nI (skp b t.1.1 t.2.1))) (muS false s)
    unfold muS
    rw [if_neg (by decide)]
    exact (ER.fl h.2.2.1 (by decide) k1).go (EP.nx _)
