/-! ===== the world and the model: the written text, the beginning ===== -/
theorem foldl_pk : ∀ (L : List Nat) (x : Nat), L.foldl (fun n c => n * 32 + (c - 96)) x = x * 2 ^ (5 * L.length) + pk L := by
  intro L
  induction L with
  | nil => intro x; show x = x * 2 ^ 0 + 0; omega
  | cons c L ih =>
    intro x
    have e1 : pk (c :: L) = (0 * 32 + (c - 96)) * 2 ^ (5 * L.length) + pk L := ih (0 * 32 + (c - 96))
    rw [e1]
    show L.foldl (fun n c => n * 32 + (c - 96)) (x * 32 + (c - 96)) = x * 2 ^ (5 * (L.length + 1)) + _
    rw [ih, show 5 * (L.length + 1) = 5 * L.length + 5 by omega, Nat.pow_add, Nat.add_mul, Nat.zero_mul, Nat.zero_add, Nat.mul_assoc, Nat.mul_comm 32, show (2 : Nat) ^ 5 = 32 from rfl, Nat.add_assoc]
theorem pk_cons (c : Nat) (L : List Nat) : pk (c :: L) = (c - 96) * 2 ^ (5 * L.length) + pk L := by
  have e1 : pk (c :: L) = (0 * 32 + (c - 96)) * 2 ^ (5 * L.length) + pk L := foldl_pk L (0 * 32 + (c - 96))
  rw [e1, Nat.zero_mul, Nat.zero_add]
theorem pkl_lt {L : List Nat} (h : ∀ c, c ∈ L → 97 ≤ c ∧ c ≤ 122) : pk L < 2 ^ (5 * L.length) := by
  rw [pk_pr]
  have := pr_lt L.reverse (fun c hc => h c (List.mem_reverse.mp hc))
  rw [List.length_reverse, show (32 : Nat) = 2 ^ 5 from rfl, ← Nat.pow_mul] at this
  exact this
theorem digV_low {a n K j : Nat} (hj : j < K) : digV (a * 2 ^ (5 * K) + n) j = digV n j := by
  unfold digV
  have e : 5 * K = 5 * j + (5 + 5 * (K - j - 1)) := by omega
  rw [e, Nat.pow_add, Nat.pow_add, show a * (2 ^ (5 * j) * (2 ^ 5 * 2 ^ (5 * (K - j - 1)))) = 2 ^ (5 * j) * (2 ^ 5 * (a * 2 ^ (5 * (K - j - 1)))) by simp only [Nat.mul_comm, Nat.mul_left_comm, Nat.mul_assoc], Nat.mul_add_div (Nat.two_pow_pos _), show (2 : Nat) ^ 5 = 32 from rfl, Nat.mul_add_mod]
theorem nmL_low {a n K : Nat} : ∀ k, k ≤ K → nmL (a * 2 ^ (5 * K) + n) k = nmL n k := by
  intro k
  induction k with
  | zero => intro _; rfl
  | succ k ih =>
    intro hk
    rw [nmL, nmL, ih (by omega), digV_low (by omega)]
theorem nmL_pk : ∀ (k : Nat) (L : List Nat), L.length ≤ k → (∀ c, c ∈ L → 97 ≤ c ∧ c ≤ 122) → nmL (pk L) k = L := by
  intro k
  induction k with
  | zero =>
    intro L hl _
    cases L with
    | nil => rfl
    | cons c L => simp at hl
  | succ k ih =>
    intro L hl hc
    rw [nmL]
    rcases Nat.lt_or_ge k L.length with q | q
    · cases L with
      | nil => simp at q
      | cons c L =>
        rw [List.length_cons] at hl q
        have hk : L.length = k := by omega
        have c1 := hc c List.mem_cons_self
        have hL : ∀ d, d ∈ L → 97 ≤ d ∧ d ≤ 122 := fun d hd => hc d (List.mem_cons_of_mem _ hd)
        have hlt := pkl_lt hL
        have ed : digV (pk (c :: L)) k = c - 96 := by
          unfold digV
          rw [pk_cons, hk, Nat.mul_comm, Nat.mul_add_div (Nat.two_pow_pos _), Nat.div_eq_of_lt (by rw [← hk]; exact hlt)]
          omega
        rw [ed, if_neg (by omega), pk_cons, hk, nmL_low _ (Nat.le_refl k), ih L (by omega) hL]
        unfold sgnV
        rw [if_neg (by omega), if_neg (by omega), show c - 96 + 96 = c by omega]
        rfl
    · have hlt := pkl_lt hc
      have : 2 ^ (5 * L.length) ≤ 2 ^ (5 * k) := Nat.pow_le_pow_right (by decide) (by omega)
      have ed : digV (pk L) k = 0 := by
        unfold digV
        rw [Nat.div_eq_of_lt (by omega)]
      rw [ed, if_pos rfl, ih L q hc]
      rfl
theorem snG_L {A : Nat → Nat} {fr : Nat} {L : List Nat} (hl : L.length ≤ 8) (hc : ∀ c, c ∈ L → 97 ≤ c ∧ c ≤ 122) (he : ∀ k, k < 8 → A (fr + k) = L.getD k 0) : ∀ f k, k + f = 8 → snG A fr f k = L.drop k := by
  intro f
  induction f with
  | zero =>
    intro k hk
    rw [List.drop_eq_nil_of_le (by omega)]
    rfl
  | succ f ih =>
    intro k hk
    rw [snG, he k (by omega)]
    rcases Nat.lt_or_ge k L.length with q | q
    · have e1 : L.getD k 0 = L[k] := by rw [List.getD_eq_getElem?_getD, List.getElem?_eq_getElem q, Option.getD_some]
      have := hc _ (List.getElem_mem q)
      rw [e1, if_neg (by omega), ih (k + 1) (by omega), List.drop_eq_getElem_cons q]
    · have e1 : L.getD k 0 = 0 := by rw [List.getD_eq_getElem?_getD, List.getElem?_eq_none q]; rfl
      rw [e1, if_pos rfl, List.drop_eq_nil_of_le q]
theorem nm_sn {A : Nat → Nat} {fr : Nat} {nm : Int64} (h : nmR (fun k => A (fr + k)) nm) : nmL nm.toBitVec.toNat 8 = snL A fr := by
  obtain ⟨L, v, l1, l2, l3, l4, l5, l6⟩ := nmR_val h
  have l3 : ∀ k, k < 8 → A (fr + k) = L.getD k 0 := l3
  rw [l4, wb_tn (Nat.lt_trans l5 (by decide)), l6]
  unfold snL
  rw [snG_L l1 l2 l3 8 0 rfl]
  have e0 : A fr = L.getD 0 0 := l3 0 (by decide)
  rw [e0]
  cases L with
  | nil => rw [if_pos rfl]; decide
  | cons c L =>
    have c1 := l2 c List.mem_cons_self
    rw [if_neg (by simp), nmL_pk 8 _ l1 l2, if_neg (by show ¬ c = 0; omega)]
    rfl
section W3
variable {w w' w1 : Wd} {s s' K : Mo} {st P : Ar} {A B : Nat → Nat} {n m : Nat}
theorem hTx_hp (h : NV st A n) {p : Nat} (hp : p < st.1 2) (T : List Nat) : ∀ k, k ≤ st.1 1 → hTx st p T k = (T ++ (hpL A p k).1, decide ((hpL A p k).2 = 0)) := by
  intro k
  induction k with
  | zero => intro _; show (T, true) = (T ++ [], _); rw [List.append_nil]; rfl
  | succ k ih =>
    intro hk
    have hz := h.nz hp (show k < st.1 1 by omega)
    have hb := h.brk hp (show k < st.1 1 by omega)
    have hd := h.2.2.1 p k (by have := h.K12; omega) (by have := h.N10; omega)
    have hn := nm_sn (h.rf k (by omega)).2.2.2.2
    cases c : hasB st p k with
    | false =>
      rw [hTx_step0 c, ih (by omega), hpL, if_pos (hz.mpr c)]
    | true =>
      rw [hTx_step1 c, ih (by omega), hpL, if_neg (show ¬ rC A p k = 0 from fun q => by rw [hz.mp q] at c; cases c), hn, hb]
      have e1 : (if heldB st p k = true then [] else [33] : List Nat) = (if brkB st p k = true then [33] else []) := by
        unfold hasB at c
        cases c1 : heldB st p k <;> cases c2 : brkB st p k <;> rw [c1, c2] at c hd <;> first | rfl | exact absurd c (by decide) | exact absurd hd (by decide)
      have e2 : (if decide ((hpL A p k).2 = 0) = true then [] else [44] : List Nat) = (if 0 < (hpL A p k).2 then [44] else []) := by
        by_cases q : (hpL A p k).2 = 0
        · rw [decide_eq_true q, if_pos rfl, if_neg (by omega)]
        · rw [decide_eq_false q, if_neg (by decide), if_pos (by omega)]
      rw [e1, e2]
      refine Prod.ext ?_ ?_
      · show T ++ _ ++ _ ++ _ ++ _ = T ++ (_ ++ _ ++ _ ++ _)
        simp only [List.append_assoc]
      · show false = decide ((hpL A p k).2 + 1 = 0)
        rw [decide_eq_false (by omega)]
theorem wTx_pp (h : NV st A n) : ∀ k, k ≤ st.1 2 → wTx st k = ppL A k := by
  intro k
  induction k with
  | zero => intro _; rfl
  | succ k ih =>
    intro hk
    have hn := nm_sn (h.rp k (by omega)).2
    have e1 : (if k = 0 then [] else [32] : List Nat) = (if 0 < k then [32] else []) := by
      by_cases q : k = 0
      · rw [if_pos q, if_neg (by omega)]
      · rw [if_neg q, if_pos (by omega)]
    rw [wTx, ppL, hTx_hp h (by omega) _ _ (Nat.le_refl _), ih (by omega), hn, e1, h.dan (by omega), h.r0.2.1]
theorem rWM.writ (h : rWM w s n) (f : Nat → Int32) : wTx w.1.1 (w.1.1.1 2) = ppL (s.1 0) (s.1 0 2) ∧ rWM (sWr w f (wTx w.1.1 (w.1.1.1 2))) (wrM s) n := by
  obtain ⟨b1, b2, b3, b4, b5⟩ := h
  have e := wTx_pp b1.1 _ (Nat.le_refl _)
  have hl := wTx_len b1.1.ok _ b1.1.K12
  have eK := b1.1.r0.2.2.1
  rw [eK]
  refine ⟨e, ?_⟩
  have e9 : wrM s = syF (mN (mN s 1 0) 11 0) (wTx w.1.1 (w.1.1.1 2)) := by
    unfold wrM
    rw [eK, e]
  rw [e9]
  have hK := b1.1.K12
  generalize wTx w.1.1 (w.1.1.1 2) = L at *
  have r0 : ∀ j, j ≠ 7 → (syF (mN (mN s 1 0) 11 0) L).1 j = s.1 j := fun j hj => syF_row hj L
  have n0 : ∀ j, j ≠ 1 → j ≠ 11 → (syF (mN (mN s 1 0) 11 0) L).2.1 j = s.2.1 j := fun j h1 h2 => (syF_nat h2 L).trans ((va_up_ne _ _ h2).trans (va_up_ne _ _ h1))
  have q0 : (syF (mN (mN s 1 0) 11 0) L).2.2 = s.2.2 := syF_rest L
  have z11 : (mN (mN s 1 0) 11 0).2.1 11 = 0 := rfl
  refine ⟨by rw [r0 0 (by decide)]; exact b1, b2.cong rfl rfl (n0 0 (by decide) (by decide)) (r0 3 (by decide)), b3.cong rfl (by rw [q0]) (r0 4 (by decide)), b4.cong rfl (r0 5 (by decide)) (n0 2 (by decide) (by decide)) (by rw [q0]), ?_, ?_, fun k hk => ?_⟩
  · show L.length ≤ 1332
    omega
  · rw [syF_len, z11]
    show 0 + L.length = L.length
    omega
  · have hk : k < L.length := hk
    rw [syF_at, z11, if_pos ⟨Nat.zero_le _, by omega⟩]
    rfl
/-- the beginning -/
theorem NV_0 : NV (addFamS (addFamS (emptyS 4) (lN 1) 1) (lN 2) 1) mA0 0 := by
  have n1 : ∀ (fr c : Nat), 97 ≤ c ∧ c ≤ 122 → (∀ k, k < 8 → mA0 (fr + k) = [c].getD k 0) → nmR (fun k => mA0 (fr + k)) (lN (pk [c])) := fun fr c hc he => ⟨[c], Nat.le_of_ble_eq_true rfl, fun d hd => by rw [List.mem_singleton.mp hd]; exact hc, he, by rw [if_neg (by simp)]⟩
  refine ⟨⟨⟨rfl, rfl, rfl, rfl, rfl⟩, fun f hf => ?_, fun p hp => absurd hp (Nat.not_lt_zero p), fun p f hp => absurd hp (Nat.not_lt_zero p)⟩, addFam_ok (addFam_ok (empty_ok (by decide) (by decide)) _ (by decide) (by decide)) _ (by decide) (by decide), fun p f _ _ => ?_, fun f hf => ?_, by decide, by decide, ?_⟩
  · have hf : f < 2 := hf
    have : f = 0 ∨ f = 1 := by omega
    rcases this with rfl | rfl
    · exact ⟨rfl, rfl, rfl, rfl, n1 9 97 (by decide) (by decide)⟩
    · exact ⟨rfl, rfl, rfl, rfl, n1 21 98 (by decide) (by decide)⟩
  · show (Nat.testBit 0 f && Nat.testBit 0 f) = false
    rw [Nat.zero_testBit]
    rfl
  · rfl
  · decide +kernel
theorem rWM_0 : rWM w0 mS0 0 := by
  have e0 : mS0.1 0 = mA0 := rfl
  refine ⟨⟨?_, by decide⟩, ⟨⟨⟨by decide, by decide⟩, rfl⟩, fun i hi => absurd hi (Nat.not_lt_zero i)⟩, fun i hi => ⟨rfl, fun q => by cases q⟩, ⟨⟨fun k => by show 0 < 256; decide, by decide⟩, rfl, rfl, rfl⟩, ⟨by decide, rfl, fun k hk => absurd hk (Nat.not_lt_zero k)⟩⟩
  rw [e0]
  exact NV_0
end W3
