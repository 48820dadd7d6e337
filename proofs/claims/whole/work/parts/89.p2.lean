/-! ===== a text is read the same: numbers, words, names ===== -/
theorem p_num {b : Nat → Nat} {t : Tr} {s : Mo} {lo hi : Nat} (hlo : lo < 2 ^ 31) (hhi : hi < 2 ^ 31) (hn : s.2.1 6 ≤ 1000) (h : PT b t s) :
    if (ndD b lo hi t).1 = true then PT b (ndD b lo hi t).2 (lexS s (s.2.1 4)) ∧ s.2.1 5 = 1 ∧ stS lo hi s = s ∧ stV (stS lo hi s) = (ndD b lo hi t).2.2.2.2.1 ∧ (ndD b lo hi t).2.2.2.1 = s.2.1 3 ∧ (ndD b lo hi t).2.1.1 = t.1.1 else ER (ndD b lo hi t).2 (stS lo hi s) := by
  obtain ⟨k1, k2⟩ := h.tok
  have hk : (trSk b t).2.1 = skp b t.1.1 t.2.1 := rfl
  have in9 : isInB (nI (s.2.1 6)) (nI lo) (nI hi) = decide (lo ≤ s.2.1 6 ∧ s.2.1 6 ≤ hi) := by rw [isIn_gen hlo hhi, ix_nI (by omega)]
  have e9 : ndD b lo hi t = (if digAt b t.1.1 (skp b t.1.1 t.2.1) = true then (if lo ≤ (dgF b (t.1.1 - skp b t.1.1 t.2.1) (skp b t.1.1 t.2.1) 0).2 ∧ (dgF b (t.1.1 - skp b t.1.1 t.2.1) (skp b t.1.1 t.2.1) 0).2 ≤ hi then (true, sPos (sNum (sTok (trSk b t) (skp b t.1.1 t.2.1)) (dgF b (t.1.1 - skp b t.1.1 t.2.1) (skp b t.1.1 t.2.1) 0).2) (dgF b (t.1.1 - skp b t.1.1 t.2.1) (skp b t.1.1 t.2.1) 0).1) else (false, trFail (sPos (sNum (sTok (trSk b t) (skp b t.1.1 t.2.1)) (dgF b (t.1.1 - skp b t.1.1 t.2.1) (skp b t.1.1 t.2.1) 0).2) (dgF b (t.1.1 - skp b t.1.1 t.2.1) (skp b t.1.1 t.2.1) 0).1) (-3) (nI (skp b t.1.1 t.2.1)))) else (false, trFail (trSk b t) (-2) (nI (skp b t.1.1 t.2.1)))) := rfl
  rw [e9]
  by_cases c : digAt b t.1.1 (skp b t.1.1 t.2.1) = true
  · have c' := c
    unfold digAt at c'
    rw [Bool.and_eq_true, decide_eq_true_eq] at c'
    have kk : s.2.1 5 = 1 ∧ s.2.1 4 = (dgF b (t.1.1 - skp b t.1.1 t.2.1) (skp b t.1.1 t.2.1) 0).1 ∧ s.2.1 6 = (dgF b (t.1.1 - skp b t.1.1 t.2.1) (skp b t.1.1 t.2.1) 0).2 := by
      rcases k2 with ⟨a, d, e⟩ | ⟨a, d, e, f⟩ | ⟨a, d, e, f, g, i⟩ | ⟨a, d, e, f, g⟩
      · omega
      · exfalso
        have h1 := isLt_lt d
        have h2 := isDg_lt c'.2
        omega
      · exact ⟨g, f, i⟩
      · rw [c'.2] at e; cases e
    have s1 : st1 s = s := by unfold st1; rw [if_neg (fun q => q.2 kk.1)]
    rw [if_pos c, ← kk.2.2]
    by_cases d : lo ≤ s.2.1 6 ∧ s.2.1 6 ≤ hi
    · rw [if_pos d]
      have s2 : stS lo hi s = s := by
        unfold stS
        rw [s1]
        unfold st2
        rw [in9, decide_eq_true d, if_neg (fun q => by cases q.2)]
      show PT b _ (lexS s (s.2.1 4)) ∧ _
      refine ⟨h.next rfl kk.2.1.symm, kk.1, s2, ?_, k1.symm, rfl⟩
      rw [s2]
      unfold stV
      rw [if_pos h.2.2.1]
    · rw [if_neg d]
      have s2 : stS lo hi s = flS s (-3) := by
        unfold stS
        rw [s1]
        unfold st2
        rw [in9, decide_eq_false d, if_pos ⟨h.2.2.1, rfl⟩]
      show ER _ (stS lo hi s)
      rw [s2]
      exact ER.fl h.2.2.1 (by decide) k1
  · rw [if_neg c]
    have n1 : s.2.1 5 ≠ 1 := by
      intro z
      rcases k2 with ⟨a, d, e⟩ | ⟨a, d, e, f⟩ | ⟨a, d, e, f, g, i⟩ | ⟨a, d, e, f, g⟩
      · omega
      · omega
      · unfold digAt at c
        rw [decide_eq_true a, e] at c
        exact c rfl
      · omega
    have s2 : stS lo hi s = st2 lo hi (flS s (-2)) := by
      unfold stS
      rw [show st1 s = flS s (-2) by unfold st1; rw [if_pos ⟨h.2.2.1, n1⟩]]
    show ER _ (stS lo hi s)
    rw [s2]
    refine (ER.fl h.2.2.1 (by decide) k1).go ?_
    unfold st2
    split
    · exact EP.fl _ _
    · exact EP.rf _
theorem p_takes {b : Nat → Nat} {t : Tr} {s : Mo} {lo hi : Nat} (hlo : lo < 2 ^ 31) (hhi : hi < 2 ^ 31) (hn : s.2.1 6 ≤ 1000) (h : PT b t s) :
    if (ndD b lo hi t).1 = true then PT b (ndD b lo hi t).2 (nxS (stS lo hi s)) ∧ stV (stS lo hi s) = (ndD b lo hi t).2.2.2.2.1 ∧ (ndD b lo hi t).2.1.1 = t.1.1 else ER (ndD b lo hi t).2 (nxS (stS lo hi s)) := by
  have k := p_num hlo hhi hn h
  split
  · rename_i c
    rw [if_pos c] at k
    obtain ⟨k1, k2, k3, k4, k5, k6⟩ := k
    refine ⟨?_, k4, k6⟩
    rw [k3]
    unfold nxS
    rw [if_pos h.2.2.1]
    exact k1
  · rename_i c
    rw [if_neg c] at k
    exact k.go (EP.nx _)
theorem p_word {b : Nat → Nat} {t : Tr} {s : Mo} {W : List Nat} (hW : 0 < W.length) (h : PT b t s) :
    if (ndW b W t).1 = true then PT b (ndW b W t).2 (muS (isWB s W) s) ∧ (ndW b W t).2.1.1 = t.1.1 else ER (ndW b W t).2 (muS (isWB s W) s) := by
  have hi := h.isW hW
  obtain ⟨k1, -⟩ := h.tok
  unfold ndW
  cases c : (tkW b W t).1 with
  | true =>
    have hp := h.pass hW c
    rw [if_pos rfl, c, if_pos rfl, hi, c]
    refine ⟨?_, ?_⟩
    · unfold muS nxS
      rw [if_pos rfl, if_pos h.2.2.1]
      exact hp.1
    · unfold tkW
      split <;> rfl
  | false =>
    have hs := h.stay c
    show ER (trFail (tkW b W t).2 (-2) (nI (tkW b W t).2.2.1)) (muS (isWB s W) s)
    rw [hi, c]
    rw [hs.2]
    unfold muS
    rw [if_neg (by decide)]
    exact (ER.fl h.2.2.1 (by decide) k1).go (EP.nx _)
/-! a name -/
def pr (L : List Nat) : Nat := L.foldr (fun c n => n * 32 + (c - 96)) 0
theorem pk_pr (L : List Nat) : pk L = pr L.reverse := by
  unfold pk pr
  rw [List.foldr_reverse]
theorem pr_inj : ∀ (L M : List Nat), (∀ c, c ∈ L → 97 ≤ c ∧ c ≤ 122) → (∀ c, c ∈ M → 97 ≤ c ∧ c ≤ 122) → pr L = pr M → L = M := by
  intro L
  induction L with
  | nil =>
    intro M _ hM e
    cases M with
    | nil => rfl
    | cons c M =>
      have h1 := hM c List.mem_cons_self
      have e : 0 = pr M * 32 + (c - 96) := e
      omega
  | cons c L ih =>
    intro M hL hM e
    have h1 := hL c List.mem_cons_self
    cases M with
    | nil =>
      have e : pr L * 32 + (c - 96) = 0 := e
      omega
    | cons d M =>
      have h2 := hM d List.mem_cons_self
      have e : pr L * 32 + (c - 96) = pr M * 32 + (d - 96) := e
      have e1 : c = d := by omega
      have e2 : pr L = pr M := by omega
      rw [e1, ih M (fun x hx => hL x (List.mem_cons_of_mem _ hx)) (fun x hx => hM x (List.mem_cons_of_mem _ hx)) e2]
theorem pk_inj {L M : List Nat} (hL : ∀ c, c ∈ L → 97 ≤ c ∧ c ≤ 122) (hM : ∀ c, c ∈ M → 97 ≤ c ∧ c ≤ 122) (e : pk L = pk M) : L = M := by
  rw [pk_pr, pk_pr] at e
  have := pr_inj L.reverse M.reverse (fun c hc => hL c (List.mem_reverse.mp hc)) (fun c hc => hM c (List.mem_reverse.mp hc)) e
  rw [← List.reverse_reverse L, this, List.reverse_reverse]
theorem pr_lt : ∀ (L : List Nat), (∀ c, c ∈ L → 97 ≤ c ∧ c ≤ 122) → pr L < 32 ^ L.length := by
  intro L
  induction L with
  | nil => intro _; decide
  | cons c L ih =>
    intro h
    have h1 := h c List.mem_cons_self
    have h2 := ih (fun x hx => h x (List.mem_cons_of_mem _ hx))
    show pr L * 32 + (c - 96) < 32 ^ (L.length + 1)
    rw [Nat.pow_succ]
    omega
theorem pk_27 {L : List Nat} (h : ∀ c, c ∈ L → 97 ≤ c ∧ c ≤ 122) : pk L ≠ 27 := by
  rw [pk_pr]
  have h2 : ∀ c, c ∈ L.reverse → 97 ≤ c ∧ c ≤ 122 := fun c hc => h c (List.mem_reverse.mp hc)
  generalize L.reverse = M at *
  cases M with
  | nil => decide
  | cons c M =>
    have h1 := h2 c List.mem_cons_self
    show ¬ pr M * 32 + (c - 96) = 27
    cases M with
    | nil => show ¬ 0 * 32 + (c - 96) = 27; omega
    | cons d M =>
      have h3 := h2 d (List.mem_cons_of_mem _ List.mem_cons_self)
      show ¬ (pr M * 32 + (d - 96)) * 32 + (c - 96) = 27
      omega
theorem nmR_val {r : Nat → Nat} {x : Int64} (h : nmR r x) : ∃ (L : List Nat) (v : Nat), L.length ≤ 8 ∧ (∀ c, c ∈ L → 97 ≤ c ∧ c ≤ 122) ∧ (∀ k, k < 8 → r k = L.getD k 0) ∧ x = lN v ∧ v < 2 ^ 40 ∧ v = (if L = [] then 27 else pk L) := by
  obtain ⟨L, l1, l2, l3, l4⟩ := h
  refine ⟨L, _, l1, l2, l3, l4, ?_, rfl⟩
  split
  · decide
  · rw [pk_pr]
    have := pr_lt L.reverse (fun c hc => l2 c (List.mem_reverse.mp hc))
    rw [List.length_reverse] at this
    refine Nat.lt_of_lt_of_le this ?_
    rw [show (32 : Nat) = 2 ^ 5 from rfl, ← Nat.pow_mul]
    exact Nat.pow_le_pow_right (by decide) (by omega)
theorem getD_list {L M : List Nat} (hL : L.length ≤ 8) (hM : M.length ≤ 8) (cL : ∀ c, c ∈ L → 97 ≤ c ∧ c ≤ 122) (cM : ∀ c, c ∈ M → 97 ≤ c ∧ c ≤ 122) (h : ∀ k, k < 8 → L.getD k 0 = M.getD k 0) : L = M := by
  have len : ∀ (L M : List Nat), L.length ≤ 8 → (∀ c, c ∈ L → 97 ≤ c ∧ c ≤ 122) → (∀ k, k < 8 → L.getD k 0 = M.getD k 0) → L.length ≤ M.length := by
    intro L M hL cL h
    rcases Nat.lt_or_ge M.length L.length with q | q
    · exfalso
      have := h M.length (by omega)
      have e1 : M.getD M.length 0 = 0 := by simp
      rw [e1, List.getD_eq_getElem?_getD, List.getElem?_eq_getElem q, Option.getD_some] at this
      have := cL _ (List.getElem_mem q)
      omega
    · exact q
  have l1 := len L M hL cL h
  have l2 := len M L hM cM (fun k hk => (h k hk).symm)
  refine List.ext_getElem (by omega) fun i h1 h2 => ?_
  have := h i (by omega)
  rw [List.getD_eq_getElem?_getD, List.getD_eq_getElem?_getD, List.getElem?_eq_getElem h1, List.getElem?_eq_getElem h2] at this
  exact this
theorem nmR_eq {r r' : Nat → Nat} {x y : Int64} (h : nmR r x) (h' : nmR r' y) : x = y ↔ ∀ k, k < 8 → r k = r' k := by
  obtain ⟨L, v, l1, l2, l3, l4, l5, l6⟩ := nmR_val h
  obtain ⟨M, w, m1, m2, m3, m4, m5, m6⟩ := nmR_val h'
  rw [l4, m4, fb_lN_inj (by omega) (by omega), l6, m6]
  constructor
  · intro e k hk
    rw [l3 k hk, m3 k hk]
    by_cases a : L = []
    · by_cases c : M = []
      · rw [a, c]
      · rw [if_pos a, if_neg c] at e
        exact absurd e.symm (pk_27 m2)
    · by_cases c : M = []
      · rw [if_neg a, if_pos c] at e
        exact absurd e (pk_27 l2)
      · rw [if_neg a, if_neg c] at e
        rw [pk_inj l2 m2 e]
  · intro e
    have : L = M := getD_list l1 m1 l2 m2 (fun k hk => by rw [← l3 k hk, ← m3 k hk]; exact e k hk)
    rw [this]
/-- a name stands there; it isn't passed yet -/
def PN (b : Nat → Nat) (t : Tr) (s : Mo) : Prop := s.1 5 = b ∧ s.2.1 2 = t.1.1 ∧ s.2.2.1 0 = 0 ∧ s.2.1 3 = t.2.2.1 ∧ s.2.1 4 = t.2.1 ∧ s.2.1 5 = 0 ∧ nmR (sgW s) (lN t.2.2.2.2) ∧ t.1.2 = (-1, -1)
theorem PN.next {b : Nat → Nat} {t t' : Tr} {s : Mo} (h : PN b t s) (e1 : t'.1 = t.1) (e2 : t'.2.1 = t.2.1) : PT b t' (lexS s (s.2.1 4)) := by
  obtain ⟨h1, h2, h3, h4, h5, -, -, h8⟩ := h
  refine ⟨by rw [lex_1]; exact h1, by rw [(lex_LF s _).2.1 2 (by decide), e1]; exact h2, by rw [(lex_row s _).2]; exact h3, ?_, by rw [e1]; exact h8⟩
  rw [e2, ← h5, lex_lex]
theorem nmF_pk {b : Nat → Nat} {p : Nat} : ∀ i, (∀ k, k < i → isLt (b (p + k)) = true) → nmF b p i = pk ((List.range i).map (fun j => b (p + j))) := by
  intro i
  induction i with
  | zero => intro _; rfl
  | succ i ih =>
    intro h
    have h1 := isLt_lt (h i (by omega))
    rw [nmF, ih (fun k hk => h k (by omega)), List.range_succ, List.map_append]
    unfold pk
    rw [List.foldl_append]
    show _ * 32 + codeV (b (p + i)) = _ * 32 + (b (p + i) - 96)
    unfold codeV
    rw [if_neg (by omega)]
theorem p_name {b : Nat → Nat} {t : Tr} {s : Mo} (h : PT b t s) : if (ndN b t).1 = true then PN b (ndN b t).2 s ∧ mnS s = s ∧ (ndN b t).2.1.1 = t.1.1 else ER (ndN b t).2 (mnS s) := by
  obtain ⟨k1, -⟩ := h.tok
  have hw := h.word
  have hk : (trSk b t).2.1 = skp b t.1.1 t.2.1 := rfl
  unfold ndN
  rw [hk]
  by_cases c : wEnd b t.1.1 (skp b t.1.1 t.2.1) = skp b t.1.1 t.2.1 ∨ 8 < wEnd b t.1.1 (skp b t.1.1 t.2.1) - skp b t.1.1 t.2.1
  · rw [if_pos c]
    show ER (trFail (trSk b t) (-2) (nI (skp b t.1.1 t.2.1))) (mnS s)
    have : mnS s = flS s (-2) := by
      unfold mnS
      rw [if_pos ⟨h.2.2.1, by
        rcases hw with ⟨a, d, e⟩ | ⟨a, d⟩
        · right
          rw [k1, d]
          omega
        · exact Or.inl a⟩]
    rw [this]
    exact ER.fl h.2.2.1 (by decide) k1
  · rw [if_neg c]
    rcases hw with ⟨a, d, e⟩ | ⟨a, d⟩
    · show PN b _ s ∧ mnS s = s ∧ _
      refine ⟨⟨h.1, h.2.1, h.2.2.1, k1, d, a, ?_, h.2.2.2.2⟩, ?_, rfl⟩
      · have hall : ∀ j, j < wEnd b t.1.1 (skp b t.1.1 t.2.1) - skp b t.1.1 t.2.1 → isLt (b (skp b t.1.1 t.2.1 + j)) = true := fun j hj => runF_all (fun i => isLt (b i)) (t.1.1 - skp b t.1.1 t.2.1) (skp b t.1.1 t.2.1) (skp b t.1.1 t.2.1 + j) (by omega) (by
          show _ < wEnd b t.1.1 (skp b t.1.1 t.2.1)
          omega)
        have e7 := nmF_pk (b := b) (p := skp b t.1.1 t.2.1) _ hall
        have esg : ∀ k, sgW s k = if skp b t.1.1 t.2.1 + k < wEnd b t.1.1 (skp b t.1.1 t.2.1) then b (skp b t.1.1 t.2.1 + k) else 0 := fun k => by
          unfold sgW
          rw [k1, d, h.1]
        show nmR (sgW s) (lN (nmF b (skp b t.1.1 t.2.1) (wEnd b t.1.1 (skp b t.1.1 t.2.1) - skp b t.1.1 t.2.1)))
        rw [e7]
        generalize hlen : wEnd b t.1.1 (skp b t.1.1 t.2.1) - skp b t.1.1 t.2.1 = m at *
        refine ⟨(List.range m).map (fun j => b (skp b t.1.1 t.2.1 + j)), by rw [List.length_map, List.length_range]; omega, fun x hx => ?_, fun k hk => ?_, ?_⟩
        · rw [List.mem_map] at hx
          obtain ⟨j, hj, rfl⟩ := hx
          rw [List.mem_range] at hj
          exact isLt_lt (hall j hj)
        · rw [esg]
          by_cases q : k < m
          · rw [if_pos (by omega), List.getD_eq_getElem?_getD, List.getElem?_map, List.getElem?_range q]
            rfl
          · rw [if_neg (by omega), List.getD_eq_getElem?_getD, List.getElem?_eq_none (by rw [List.length_map, List.length_range]; omega)]
            rfl
        · rw [if_neg (fun q => by
            have := congrArg List.length q
            rw [List.length_map, List.length_range] at this
            have : m = 0 := this
            omega)]
      · unfold mnS
        rw [if_neg (fun q => by
          rcases q.2 with z | z
          · exact z a
          · rw [k1, d] at z; omega)]
    · exact absurd (Or.inl d) c
/-- where a name stands among the known ones -/
theorem al_iff {s : Mo} {p : Nat} : ∀ n, alB s p n = true ↔ ∀ k, k < n → s.1 0 (p + k) = sgW s k := by
  intro n
  induction n with
  | zero => exact ⟨fun _ k hk => by omega, fun _ => rfl⟩
  | succ n ih =>
    rw [alB, Bool.and_eq_true, ih, decide_eq_true_eq]
    constructor
    · intro h k hk
      by_cases e : k = n
      · rw [e]; exact h.2
      · exact h.1 k (by omega)
    · intro h
      exact ⟨fun k hk => h k (by omega), h n (by omega)⟩
theorem p_place {b : Nat → Nat} {t : Tr} {s : Mo} (h : PN b t s) {nm : Nat → Int64} {fr sz N : Nat} (hn : ∀ i, i < N → nmR (fun k => s.1 0 (fr + sz * i + k)) (nm i)) : namedV s fr N sz = plF nm t.2.2.2.2 N 0 := by
  unfold namedV
  rw [if_pos h.2.2.1]
  have key : ∀ m i, i + m = N → nmO s fr sz m i = plF nm t.2.2.2.2 m i := by
    intro m
    induction m with
    | zero => intro i _; rfl
    | succ m ih =>
      intro i hi
      rw [nmO, plF, ih (i + 1) (by omega)]
      have e := nmR_eq (hn i (by omega)) h.2.2.2.2.2.2.1
      by_cases c : alB s (fr + sz * i) 8 = true
      · rw [if_pos c, if_pos (e.mpr (fun k hk => (al_iff 8).mp c k hk))]
      · rw [if_neg c, if_neg (fun q => c ((al_iff 8).mpr (fun k hk => e.mp q k hk)))]
  exact key N 0 (by omega)
/-- the family that stands there -/
theorem p_fam {b : Nat → Nat} {t : Tr} {s : Mo} {st : Ar} {n : Nat} (h : PT b t s) (hv : NV st (s.1 0) n) :
    match (ndF b (st.2.1 0) (st.1 1) t).1 with
    | none => ER (ndF b (st.2.1 0) (st.1 1) t).2 (fhS s)
    | some f => fhV s = some f ∧ f < st.1 1 ∧ fhS s = s ∧ PN b (ndF b (st.2.1 0) (st.1 1) t).2 s ∧ (ndF b (st.2.1 0) (st.1 1) t).2.1.1 = t.1.1 := by
  have k := p_name h
  have eN := hv.r0.2.1
  unfold ndF
  by_cases c : (ndN b t).1 = true
  · rw [if_pos c] at k ⊢
    have hp := p_place k.1 (nm := st.2.1 0) (fr := 9) (sz := 12) (N := st.1 1) (fun i hi => by
      have := (hv.rf i hi).2.2.2.2
      have e : ∀ k, 9 + 12 * i + k = 5 + 12 * i + 4 + k := fun k => by omega
      simp only [e]
      exact this)
    have ev : fhV s = namedV s 9 (st.1 1) 12 := by
      unfold fhV
      rw [k.2.1, eN]
    cases hq : plF (st.2.1 0) (ndN b t).2.2.2.2.2 (st.1 1) 0 with
    | none =>
      rw [if_pos rfl]
      show ER (trFail (ndN b t).2 (-4) (nI (ndN b t).2.2.2.1)) (fhS s)
      have ef : fhS s = flS s (-4) := by
        unfold fhS
        rw [k.2.1, if_pos (by rw [eN, hp, hq])]
      rw [ef]
      exact ER.fl h.2.2.1 (by decide) k.1.2.2.2.1
    | some f =>
      rw [if_neg (by simp)]
      show fhV s = some f ∧ _
      have hf := plF_lt _ _ _ hq
      refine ⟨by rw [ev, hp, hq], by omega, ?_, k.1, k.2.2⟩
      unfold fhS
      rw [k.2.1, if_neg (by rw [eN, hp, hq]; simp)]
  · rw [if_neg c] at k ⊢
    show ER (ndN b t).2 (fhS s)
    unfold fhS
    refine k.go ?_
    split
    · exact EP.fl _ _
    · exact EP.rf _
