/-! ===== Archive: reading ===== -/
abbrev aT (st : Ar) : Nat := st.1 0
abbrev aN (st : Ar) : Nat := st.1 1
abbrev aK (st : Ar) : Nat := st.1 2
abbrev aHeld (st : Ar) (p : Nat) : Nat := st.2.2 6 p
abbrev aBrk (st : Ar) (p : Nat) : Nat := st.2.2 7 p
abbrev aSp (st : Ar) (p f : Nat) : Nat := st.2.2 8 (10 * p + f)
/-- what holds of every Archive that is used: the numbers are in their ranges -/
def aOk (st : Ar) : Prop := (4 ≤ aT st ∧ aT st ≤ 16) ∧ aN st ≤ 10 ∧ aK st ≤ 12 ∧ (∀ p, p < 12 → aHeld st p < 2 ^ aN st ∧ aBrk st p < 2 ^ aN st) ∧ (∀ f, f < 10 → st.2.2 1 f < 2 ^ aN st) ∧ (∀ i, i < 120 → st.2.2 8 i < 2 ^ aT st) ∧ (∀ f, f < 10 → st.2.2 0 f ≤ 20 ∧ st.2.2 4 f ≤ st.2.2 0 f) ∧ ∀ p, p < 12 → st.2.2 5 p ≤ 10
/-- how many answers a family has given at most -/
def aCn (st : Ar) (B : Nat) : Prop := ∀ f, f < 10 → st.2.2 2 f ≤ B ∧ st.2.2 3 f ≤ B
theorem aOk.held {st : Ar} (hw : aOk st) {p : Nat} (hp : p < 12) : st.2.2 6 p < 1024 := Nat.lt_of_lt_of_le (hw.2.2.2.1 p hp).1 (Nat.pow_le_pow_right (by decide) hw.2.1)
theorem aOk.brk {st : Ar} (hw : aOk st) {p : Nat} (hp : p < 12) : st.2.2 7 p < 1024 := Nat.lt_of_lt_of_le (hw.2.2.2.1 p hp).2 (Nat.pow_le_pow_right (by decide) hw.2.1)
theorem aOk.near {st : Ar} (hw : aOk st) {f : Nat} (hf : f < 10) : st.2.2 1 f < 1024 := Nat.lt_of_lt_of_le (hw.2.2.2.2.1 f hf) (Nat.pow_le_pow_right (by decide) hw.2.1)
theorem x_ishl1_n {g : xG} {l : Launch} {M : xM} {tb : List (Nat × Nat × Nat × Nat)} {R : Room} {Z : List Frame → Array Value → State → State → Prop} {pc : Nat} {V : List (Option Value)} {S : List Value} {h : xH} {kc ks y : Nat} (hd : decode M.2.1 pc = .ok (.ishl, 1)) (h1 : y < 32) (K : xP g l M tb R Z (pc + 1) V (.int (nI (2 ^ y)) :: S) h kc ks) : xP g l M tb R Z pc V (.int (nI y) :: .int (nI 1) :: S) h kc ks := x_ishl_n hd h1 (by rw [Nat.one_mul]; exact Nat.pow_lt_pow_right (by decide) h1) (by rw [Nat.one_mul]; exact K)
theorem aOk.cell {st : Ar} (hw : aOk st) {i : Nat} (hi : i < 120) : st.2.2 8 i < 65536 := Nat.lt_of_lt_of_le (hw.2.2.2.2.2.1 i hi) (Nat.pow_le_pow_right (n := 2) (by decide) hw.1.2)
theorem aOk.T16 {st : Ar} (hw : aOk st) : 2 ^ st.1 0 ≤ 65536 := Nat.pow_le_pow_right (n := 2) (by decide) hw.1.2
section J2
variable {g : xG} {l : Launch} {h : xH}
theorem c_bitCount {x : Nat} (hx : x < 65536) : xDet g l mJ6_bitCount_0f7a4 0 0 0 [.int (nI x)] h (some (.int (nI (popc x)))) h := by
  rw [← bcC_ok hx]
  refine xMet.of (V := [some (.int (nI x))]) moJ6_bitCount_0f7a4 (Nat.le_of_ble_eq_true rfl) rfl ?_
  have h1 : x / 2 ^ 1 &&& 1431655765 ≤ x / 2 ^ 1 := Nat.and_le_left
  refine x_iload_n dJ6_bitCount_0f7a4_0 rfl ?_
  refine x_iload_n dJ6_bitCount_0f7a4_1 rfl ?_
  refine x_iconst (nI 1) dJ6_bitCount_0f7a4_2 (by decide) ?_
  refine x_iushr_n dJ6_bitCount_0f7a4_3 (by omega) (by omega) ?_
  refine x_ldcw (v := nI 1431655765) dJ6_bitCount_0f7a4_4 k_J6_265 ?_
  refine x_iand_n dJ6_bitCount_0f7a4_7 ?_
  refine x_isub_n dJ6_bitCount_0f7a4_8 (by omega) ?_
  obtain ⟨a, ha⟩ : ∃ a, a = x - (x / 2 ^ 1 &&& 1431655765) := ⟨_, rfl⟩
  rw [← ha]
  refine x_istore_n dJ6_bitCount_0f7a4_9 (by decide) rfl rfl ?_
  refine x_iload_n dJ6_bitCount_0f7a4_10 rfl ?_
  refine x_ldcw (v := nI 858993459) dJ6_bitCount_0f7a4_11 k_J6_266 ?_
  refine x_iand_n dJ6_bitCount_0f7a4_14 ?_
  refine x_iload_n dJ6_bitCount_0f7a4_15 rfl ?_
  refine x_iconst (nI 2) dJ6_bitCount_0f7a4_16 (by decide) ?_
  refine x_iushr_n dJ6_bitCount_0f7a4_17 (by omega) (by omega) ?_
  refine x_ldcw (v := nI 858993459) dJ6_bitCount_0f7a4_18 k_J6_266 ?_
  refine x_iand_n dJ6_bitCount_0f7a4_21 ?_
  refine x_iadd_n dJ6_bitCount_0f7a4_22 ?_
  obtain ⟨b, hb⟩ : ∃ b, b = (a &&& 858993459) + (a / 2 ^ 2 &&& 858993459) := ⟨_, rfl⟩
  have h2 : a &&& 858993459 ≤ a := Nat.and_le_left
  have h3 : a / 2 ^ 2 &&& 858993459 ≤ a / 2 ^ 2 := Nat.and_le_left
  rw [← hb]
  refine x_istore_n dJ6_bitCount_0f7a4_23 (by decide) rfl rfl ?_
  refine x_iload_n dJ6_bitCount_0f7a4_24 rfl ?_
  refine x_iload_n dJ6_bitCount_0f7a4_25 rfl ?_
  refine x_iconst (nI 4) dJ6_bitCount_0f7a4_26 (by decide) ?_
  refine x_iushr_n dJ6_bitCount_0f7a4_27 (by omega) (by omega) ?_
  refine x_iadd_n dJ6_bitCount_0f7a4_28 ?_
  refine x_ldcw (v := nI 252645135) dJ6_bitCount_0f7a4_29 k_J6_267 ?_
  refine x_iand_n dJ6_bitCount_0f7a4_32 ?_
  obtain ⟨c, hc⟩ : ∃ c, c = (b + b / 2 ^ 4) &&& 252645135 := ⟨_, rfl⟩
  have h4 : (b + b / 2 ^ 4) &&& 252645135 ≤ b + b / 2 ^ 4 := Nat.and_le_left
  rw [← hc]
  refine x_istore_n dJ6_bitCount_0f7a4_33 (by decide) rfl rfl ?_
  refine x_iload_n dJ6_bitCount_0f7a4_34 rfl ?_
  refine x_iload_n dJ6_bitCount_0f7a4_35 rfl ?_
  refine x_bipush (nI 8) dJ6_bitCount_0f7a4_36 (by decide) ?_
  refine x_iushr_n dJ6_bitCount_0f7a4_38 (by omega) (by omega) ?_
  refine x_iadd_n dJ6_bitCount_0f7a4_39 ?_
  obtain ⟨d, hd⟩ : ∃ d, d = c + c / 2 ^ 8 := ⟨_, rfl⟩
  rw [← hd]
  refine x_istore_n dJ6_bitCount_0f7a4_40 (by decide) rfl rfl ?_
  refine x_iload_n dJ6_bitCount_0f7a4_41 rfl ?_
  refine x_iload_n dJ6_bitCount_0f7a4_42 rfl ?_
  refine x_bipush (nI 16) dJ6_bitCount_0f7a4_43 (by decide) ?_
  refine x_iushr_n dJ6_bitCount_0f7a4_45 (by omega) (by omega) ?_
  refine x_iadd_n dJ6_bitCount_0f7a4_46 ?_
  refine x_istore_n dJ6_bitCount_0f7a4_47 (by decide) rfl rfl ?_
  refine x_iload_n dJ6_bitCount_0f7a4_48 rfl ?_
  refine x_bipush (nI 63) dJ6_bitCount_0f7a4_49 (by decide) ?_
  refine x_iand_n dJ6_bitCount_0f7a4_51 ?_
  exact x_iret .int dJ6_bitCount_0f7a4_52 rfl rfl (by decide) (by decide) (by rw [hd, hc, hb, ha]; rfl) (rfl)
theorem c_fillI {a n : Nat} {f : Nat → Int32} {x : Int32} (ha : h.1 a = some (.inl (0, n, .inl f))) (hn : n < 2 ^ 31) : xDet g l mJ7_fill_53178 0 0 0 [.ref a, .int x] h none (hset h a (.inl (0, n, .inl (fun k => if k < n then x else f k)))) := by
  refine xMet.of (V := [some (.ref a), some (.int x), none, none]) moJ7_fill_53178 (Nat.le_of_ble_eq_true rfl) rfl ?_
  refine x_iconst (nI 0) dJ7_fill_53178_0 (by decide) ?_
  refine x_istore_n dJ7_fill_53178_1 (by decide) rfl rfl ?_
  refine x_aload_n dJ7_fill_53178_2 rfl ?_
  refine x_alen dJ7_fill_53178_3 ha (by decide) ?_
  refine x_istore_n dJ7_fill_53178_4 (by decide) rfl rfl ?_
  have loop := xP.loop (g := g) (l := l) (M := mJ7_fill_53178) (tb := []) (R := xR 0 0 0) (Z := xZ g (fun r' h' => r' = none ∧ h' = hset h a (.inl (0, n, .inl (fun k => if k < n then x else f k)))) xno 0 0) (pc := 5) (S := []) (kc := 0) (ks := 0)
    (fun i => [some (.ref a), some (.int x), some (.int (nI i)), some (.int (nI n))]) (fun i => hset h a (.inl (0, n, .inl (fun k => if k < i then x else f k)))) n ?_ ?_
  · refine xP.eq rfl rfl rfl ?_ loop
    refine xH_ext (fun b => ?_) rfl
    unfold hset
    dsimp only
    split
    · rename_i e; subst e
      rw [ha]
      simp
    · rfl
  · intro i hi ih
    refine x_iload_n dJ7_fill_53178_5 rfl ?_
    refine x_iload_n dJ7_fill_53178_6 rfl ?_
    refine x_icmp_ge_n 20 dJ7_fill_53178_7 (by decide) (by omega) (by omega) (fun c => ?_) (fun c => ?_)
    · omega
    · have ha2 : (hset h a (.inl (0, n, .inl (fun k => if k < i then x else f k)))).1 a = some (.inl (0, n, .inl (fun k => if k < i then x else f k))) := by simp [hset]
      refine x_aload_n dJ7_fill_53178_10 rfl ?_
      refine x_iload_n dJ7_fill_53178_11 rfl ?_
      refine x_iload_n dJ7_fill_53178_12 rfl ?_
      refine x_iast dJ7_fill_53178_13 ha2 hi hn ?_
      refine x_iinc_n (k := 1) dJ7_fill_53178_14 rfl (by decide) (by decide) rfl rfl ?_
      refine x_goto 5 dJ7_fill_53178_17 (by decide) ?_
      refine xP.eq rfl rfl rfl ?_ ih
      refine xH_ext (fun b => ?_) rfl
      unfold hset
      dsimp only
      split
      · congr 5
        funext k
        unfold upd
        by_cases e : k = i
        · subst e; simp
        · simp only [e, if_false]
          by_cases e2 : k < i
          · simp [e2, Nat.lt_succ_of_lt e2]
          · have : ¬ k < i + 1 := by omega
            simp [e2, this]
      · rfl
  · refine x_iload_n dJ7_fill_53178_5 rfl ?_
    refine x_iload_n dJ7_fill_53178_6 rfl ?_
    refine x_icmp_ge_n 20 dJ7_fill_53178_7 (by decide) (by omega) (by omega) (fun c => ?_) (fun c => ?_)
    · exact x_vret dJ7_fill_53178_20 rfl (by decide) (by decide) rfl (rfl)
    · omega
theorem c_fillJ {a n : Nat} {f : Nat → Int64} {x : Int64} (ha : h.1 a = some (.inl (2, n, .inr (.inl f)))) (hn : n < 2 ^ 31) : xDet g l mJ7_fill_d0a16 0 0 0 [.ref a, .long x] h none (hset h a (.inl (2, n, .inr (.inl (fun k => if k < n then x else f k))))) := by
  refine xMet.of (V := [some (.ref a), some (.long x), none, none, none]) moJ7_fill_d0a16 (Nat.le_of_ble_eq_true rfl) rfl ?_
  refine x_iconst (nI 0) dJ7_fill_d0a16_0 (by decide) ?_
  refine x_istore_n dJ7_fill_d0a16_1 (by decide) rfl rfl ?_
  refine x_aload_n dJ7_fill_d0a16_2 rfl ?_
  refine x_alen dJ7_fill_d0a16_3 ha (by decide) ?_
  refine x_istore dJ7_fill_d0a16_4 (by decide) rfl rfl ?_
  have loop := xP.loop (g := g) (l := l) (M := mJ7_fill_d0a16) (tb := []) (R := xR 0 0 0) (Z := xZ g (fun r' h' => r' = none ∧ h' = hset h a (.inl (2, n, .inr (.inl (fun k => if k < n then x else f k))))) xno 0 0) (pc := 6) (S := []) (kc := 0) (ks := 0)
    (fun i => [some (.ref a), some (.long x), none, some (.int (nI i)), some (.int (nI n))]) (fun i => hset h a (.inl (2, n, .inr (.inl (fun k => if k < i then x else f k))))) n ?_ ?_
  · refine xP.eq rfl rfl rfl ?_ loop
    refine xH_ext (fun b => ?_) rfl
    unfold hset
    dsimp only
    split
    · rename_i e; subst e
      rw [ha]
      simp
    · rfl
  · intro i hi ih
    refine x_iload_n dJ7_fill_d0a16_6 rfl ?_
    refine x_iload dJ7_fill_d0a16_7 rfl ?_
    refine x_icmp_ge_n 22 dJ7_fill_d0a16_9 (by decide) (by omega) (by omega) (fun c => ?_) (fun c => ?_)
    · omega
    · have ha2 : (hset h a (.inl (2, n, .inr (.inl (fun k => if k < i then x else f k))))).1 a = some (.inl (2, n, .inr (.inl (fun k => if k < i then x else f k)))) := by simp [hset]
      refine x_aload_n dJ7_fill_d0a16_12 rfl ?_
      refine x_iload_n dJ7_fill_d0a16_13 rfl ?_
      refine x_lload_n dJ7_fill_d0a16_14 rfl ?_
      refine x_last dJ7_fill_d0a16_15 ha2 hi hn ?_
      refine x_iinc_n (k := 1) dJ7_fill_d0a16_16 rfl (by decide) (by decide) rfl rfl ?_
      refine x_goto 6 dJ7_fill_d0a16_19 (by decide) ?_
      refine xP.eq rfl rfl rfl ?_ ih
      refine xH_ext (fun b => ?_) rfl
      unfold hset
      dsimp only
      split
      · congr 6
        funext k
        unfold vp_updL
        by_cases e : k = i
        · subst e; simp
        · simp only [e, if_false]
          by_cases e2 : k < i
          · simp [e2, Nat.lt_succ_of_lt e2]
          · have : ¬ k < i + 1 := by omega
            simp [e2, this]
      · rfl
  · refine x_iload_n dJ7_fill_d0a16_6 rfl ?_
    refine x_iload dJ7_fill_d0a16_7 rfl ?_
    refine x_icmp_ge_n 22 dJ7_fill_d0a16_9 (by decide) (by omega) (by omega) (fun c => ?_) (fun c => ?_)
    · exact x_vret dJ7_fill_d0a16_22 rfl (by decide) (by decide) rfl (rfl)
    · omega
end J2
