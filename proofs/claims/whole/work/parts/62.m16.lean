/-! ===== the model: bounds of its rows; rounds ===== -/
/-- the greatest number that may stand in place k, where counters stand at n at most -/
def cbd (n k : Nat) : Nat := if k = 0 then 16 else if k = 1 then 10 else if k = 2 then 12 else if k < 5 then n
  else if k < 125 then (if (k - 5) % 12 = 0 then 20 else if (k - 5) % 12 < 3 then n else if (k - 5) % 12 = 3 then 1023 else 255)
  else if (k - 125) % 19 = 0 then 10 else if (k - 125) % 19 < 9 then 255 else 262143
def rK (A : Nat → Nat) (n : Nat) : Prop := n < 2 ^ 23 ∧ 4 ≤ A 0 ∧ ∀ k, k < 353 → A k ≤ cbd n k
theorem cbd_c {n p f : Nat} (hp : p < 12) (hf : f < 10) : cbd n (125 + 19 * p + 9 + f) = 262143 := by
  unfold cbd
  rw [if_neg (by omega), if_neg (by omega), if_neg (by omega), if_neg (by omega), if_neg (by omega), if_neg (by omega), if_neg (by omega)]
theorem cbd_f {n f i : Nat} (hf : f < 10) (hi : i < 12) : cbd n (5 + 12 * f + i) = if i = 0 then 20 else if i < 3 then n else if i = 3 then 1023 else 255 := by
  unfold cbd
  rw [if_neg (by omega), if_neg (by omega), if_neg (by omega), if_neg (by omega), if_pos (by omega), show (5 + 12 * f + i - 5) % 12 = i by omega]
theorem cbd_p {n p i : Nat} (hp : p < 12) (hi : i < 9) : cbd n (125 + 19 * p + i) = if i = 0 then 10 else 255 := by
  unfold cbd
  rw [if_neg (by omega), if_neg (by omega), if_neg (by omega), if_neg (by omega), if_neg (by omega), show (125 + 19 * p + i - 125) % 19 = i by omega]
  split
  · rfl
  · first | rfl | rw [if_pos hi]
theorem cbd_le {n k : Nat} (hn : n < 2 ^ 23) : cbd n k < 2 ^ 24 := by
  unfold cbd
  split
  · decide
  split
  · decide
  split
  · decide
  split
  · omega
  split
  · split
    · decide
    split
    · omega
    split <;> decide
  · split
    · decide
    split <;> decide
theorem cbd_mono {n n' k : Nat} (h : n ≤ n') : cbd n k ≤ cbd n' k := by
  unfold cbd
  split
  · exact Nat.le_refl _
  split
  · exact Nat.le_refl _
  split
  · exact Nat.le_refl _
  split
  · exact h
  split
  · split
    · exact Nat.le_refl _
    split
    · exact h
    exact Nat.le_refl _
  · exact Nat.le_refl _
theorem rK.mono {A : Nat → Nat} {n n' : Nat} (h : rK A n) (hn : n ≤ n') (h2 : n' < 2 ^ 23) : rK A n' := ⟨h2, h.2.1, fun k hk => Nat.le_trans (h.2.2 k hk) (cbd_mono hn)⟩
theorem rK.copy {A : Nat → Nat} {n p f : Nat} (h : rK A n) (hp : p < 12) (hf : f < 10) : rC A p f < 262144 := by
  have := h.2.2 (125 + 19 * p + 9 + f) (by omega)
  rw [cbd_c hp hf] at this
  unfold rC
  omega
theorem rK.fam {A : Nat → Nat} {n f i : Nat} (h : rK A n) (hf : f < 10) (hi : i < 12) : rF A f i ≤ if i = 0 then 20 else if i < 3 then n else if i = 3 then 1023 else 255 := by
  have := h.2.2 (5 + 12 * f + i) (by omega)
  rw [cbd_f hf hi] at this
  exact this
theorem rK.pic {A : Nat → Nat} {n p i : Nat} (h : rK A n) (hp : p < 12) (hi : i < 9) : A (125 + 19 * p + i) ≤ if i = 0 then 10 else 255 := by
  have := h.2.2 (125 + 19 * p + i) (by omega)
  rw [cbd_p hp hi] at this
  exact this
theorem rK.ok {A : Nat → Nat} {n : Nat} (h : rK A n) : rOk A :=
  ⟨⟨h.2.1, h.2.2 0 (by decide)⟩, h.2.2 1 (by decide), h.2.2 2 (by decide), fun p f hp hf => h.copy hp hf, fun f hf => ⟨Nat.lt_succ_of_le (h.fam (i := 3) hf (by decide)), h.fam (i := 0) hf (by decide)⟩, fun k hk => Nat.lt_of_le_of_lt (h.2.2 k hk) (cbd_le h.1)⟩
theorem va_upE {α : Type} (f : Nat → α) (k : Nat) (x : α) : va_up f k x k = x := if_pos rfl
theorem rK.up {A : Nat → Nat} {n k x : Nat} (h : rK A n) (hx : x ≤ cbd n k) (h0 : k = 0 → 4 ≤ x) : rK (va_up A k x) n := by
  refine ⟨h.1, ?_, fun j hj => ?_⟩
  · by_cases e : 0 = k
    · rw [← e, va_upE]; exact h0 e.symm
    · rw [va_up_ne _ _ e]; exact h.2.1
  · by_cases e : j = k
    · rw [e, va_upE]; exact hx
    · rw [va_up_ne _ _ e]; exact h.2.2 j hj
theorem rK.upC {A : Nat → Nat} {n p f x : Nat} (h : rK A n) (hp : p < 12) (hf : f < 10) (hx : x < 262144) : rK (va_up A (125 + 19 * p + 9 + f) x) n := h.up (by rw [cbd_c hp hf]; omega) (by omega)
theorem akA_rK {A : Nat → Nat} {n p f t : Nat} (h : rK A n) (hp : p < 12) (hf : f < 10) (hn : n + 1 < 2 ^ 23) : rK (akA A p f t) (n + 1) := by
  have hm := h.mono (n' := n + 1) (by omega) hn
  have s1 : ∀ i, i = 1 ∨ i = 2 → rK (ak2 (ak1 A f i)) (n + 1) := by
    intro i hi
    have hi2 : i < 12 := by omega
    have h1 : rF A f i ≤ n := by
      have := h.fam (i := i) hf hi2
      rw [if_neg (by omega), if_pos (by omega)] at this
      exact this
    have h2 : rK (ak1 A f i) (n + 1) := hm.up (by rw [cbd_f hf hi2, if_neg (by omega), if_pos (by omega)]; omega) (by omega)
    have h3 : ak1 A f i 4 = A 4 := va_up_ne _ _ (by omega)
    have h4 : A 4 ≤ n := h.2.2 4 (by decide)
    exact h2.up (by rw [h3]; show A 4 + 1 ≤ n + 1; omega) (by omega)
  unfold akA
  split
  · exact s1 1 (Or.inl rfl)
  · have hs := s1 2 (Or.inr rfl)
    exact hs.upC hp hf (Nat.or_lt_two_pow (n := 18) (hs.copy hp hf) (by decide))
theorem mrS_rK {q : (Nat → Nat) × Nat × Nat} {n p f : Nat} (h : rK q.1 n) (hp : p < 12) (hf : f < 10) (hn : n + 1 < 2 ^ 23) : rK (mrS q p f).1 (n + 1) := by
  unfold mrS
  split
  · exact akA_rK h hp hf hn
  · exact h.mono (by omega) hn
theorem mrI_rK {q : (Nat → Nat) × Nat × Nat} {n p : Nat} (h : rK q.1 n) (hp : p < 12) : ∀ j, j ≤ 10 → n + j < 2 ^ 23 → rK (mrI q p j).1 (n + j) := by
  intro j
  induction j with
  | zero => intro _ _; exact h
  | succ j ih =>
    intro hj hn
    exact mrS_rK (ih (by omega) (by omega)) hp (by omega) (by omega)
theorem mrO_rK {q : (Nat → Nat) × Nat × Nat} {n : Nat} (h : rK q.1 n) : ∀ i, i ≤ 12 → n + 10 * i < 2 ^ 23 → rK (mrO q i).1 (n + 10 * i) := by
  intro i
  induction i with
  | zero => intro _ _; exact h
  | succ i ih =>
    intro hi hn
    have h1 := ih (by omega) (by omega)
    have hN : q.1 1 ≤ 10 := h.2.2 1 (by decide)
    exact (mrI_rK h1 (p := i) (by omega) (q.1 1) hN (by omega)).mono (by omega) (by omega)
theorem mrS_x {q : (Nat → Nat) × Nat × Nat} {p f : Nat} (h : q.2.1 < 2 ^ 31) : (mrS q p f).2.1 < 2 ^ 31 := by
  unfold mrS
  split
  · exact nxtX_lt _
  · exact h
theorem mrI_x {q : (Nat → Nat) × Nat × Nat} {p : Nat} (h : q.2.1 < 2 ^ 31) : ∀ j, (mrI q p j).2.1 < 2 ^ 31 := by
  intro j
  induction j with
  | zero => exact h
  | succ j ih => exact mrS_x ih
theorem mrO_x {q : (Nat → Nat) × Nat × Nat} (h : q.2.1 < 2 ^ 31) : ∀ i, (mrO q i).2.1 < 2 ^ 31 := by
  intro i
  induction i with
  | zero => exact h
  | succ i ih => exact mrI_x ih _
theorem mrS_n {q : (Nat → Nat) × Nat × Nat} {p f : Nat} : (mrS q p f).2.2 ≤ q.2.2 + 1 := by
  unfold mrS
  split
  · show q.2.2 + (if _ then 0 else 1) ≤ _
    split <;> omega
  · exact Nat.le_succ _
theorem mrI_n {q : (Nat → Nat) × Nat × Nat} {p : Nat} : ∀ j, (mrI q p j).2.2 ≤ q.2.2 + j := by
  intro j
  induction j with
  | zero => exact Nat.le_refl _
  | succ j ih => have := mrS_n (q := mrI q p j) (p := p) (f := j); rw [mrI]; omega
theorem mrO_n {q : (Nat → Nat) × Nat × Nat} (hN : q.1 1 ≤ 10) : ∀ i, (mrO q i).2.2 ≤ q.2.2 + 10 * i := by
  intro i
  induction i with
  | zero => exact Nat.le_refl _
  | succ i ih => have := mrI_n (q := mrO q i) (p := i) (q.1 1); rw [mrO]; omega
theorem lN_div {a b : Nat} (ha : a < 2 ^ 63) (hb : b < 2 ^ 63) : lN a / lN b = lN (a / b) := by
  have h1 : (lN a / lN b).toInt = (a / b : Nat) := by
    rw [Int64.toInt_div, pf_lI ha, pf_lI hb]
    have : Int.tdiv (a : Int) (b : Int) = ((a / b : Nat) : Int) := by rw [Int.ofNat_tdiv]
    rw [this]
    have hq : a / b ≤ a := Nat.div_le_self _ _
    have h0 : (0 : Int) ≤ ((a / b : Nat) : Int) := Int.natCast_nonneg _
    have h9 : ((a / b : Nat) : Int) < 9223372036854775808 := by omega
    exact fb_bmodL (by omega) h9
  have h2 : (lN (a / b)).toInt = (a / b : Nat) := pf_lI (Nat.lt_of_le_of_lt (Nat.div_le_self _ _) ha)
  exact Int64.toInt_inj.mp (h1.trans h2.symm)
theorem lN_sub9 {a b : Nat} (h : b ≤ a) : lN a - lN b = lN (a - b) := by
  have : lN (a - b) + lN b = lN a := by rw [lN_add, Nat.sub_add_cancel h]
  rw [← this, Int64.add_sub_cancel]
theorem lN_rem {a b : Nat} (ha : a < 2 ^ 63) (hb : b < 2 ^ 63) : lN a - lN a / lN b * lN b = lN (a % b) := by
  have h1 := Nat.div_add_mod a b
  have h3 : a / b * b = b * (a / b) := Nat.mul_comm _ _
  rw [lN_div ha hb, lN_mul, lN_sub9 (by omega)]
  congr 1
  omega
theorem lN_i9 {a : Nat} (ha : a < 2 ^ 31) : (lN a).toInt32 = nI a := by
  refine Int32.toBitVec_inj.mp ?_
  refine BitVec.eq_of_toNat_eq ?_
  rw [pk_tn (show a < 2 ^ 32 by omega)]
  show ((lN a).toBitVec.signExtend 32).toNat = a
  rw [wb_tb]
  have : BitVec.signExtend 32 (BitVec.ofNat 64 a) = BitVec.setWidth 32 (BitVec.ofNat 64 a) := BitVec.signExtend_eq_setWidth_of_le _ (by decide)
  rw [this, BitVec.toNat_setWidth, BitVec.toNat_ofNat]
  omega
section M16
variable {g : xG} {l : Launch} {h : xH} {m : Nat} {s : Mo}
theorem mN_N {s : Mo} {j x y : Nat} : mN (mN s j x) j y = mN s j y := by
  refine Prod.ext rfl (Prod.ext (funext fun i => ?_) rfl)
  show va_up (va_up s.2.1 j x) j y i = va_up s.2.1 j y i
  unfold va_up
  split <;> rfl
/-- the state with row and x -/
def rdM (s : Mo) (q : (Nat → Nat) × Nat × Nat) : Mo := mX (mR s 0 q.1) (lN q.2.1)
theorem rdM_R {s : Mo} {q : (Nat → Nat) × Nat × Nat} {A : Nat → Nat} {x : Nat} : mR (mX (rdM s q) (lN x)) 0 A = rdM s (A, x, 0) := by
  refine Prod.ext (funext fun i => ?_) rfl
  show va_up (va_up s.1 0 q.1) 0 A i = va_up s.1 0 A i
  unfold va_up
  split <;> rfl
theorem c_mRounds {n x : Nat} (hw : rK (s.1 0) n) (hn : n + 200 < 2 ^ 23) (hx : x < 2 ^ 31) (hsx : s.2.2.2.2 = lN x) : xDet g l mX6_rounds 2 0 0 [.ref m] (putMod h m s) (some (.int (nI (mrO (s.1 0, x, 0) (s.1 0 2)).2.2))) (putMod h m (rdM s (mrO (s.1 0, x, 0) (s.1 0 2)))) := by
  have hK : s.1 0 2 ≤ 12 := hw.2.2 2 (by decide)
  have hN : s.1 0 1 ≤ 10 := hw.2.2 1 (by decide)
  have e0 : s = rdM s (mrO (s.1 0, x, 0) 0) := by
    show s = mX (mR s 0 (s.1 0)) (lN x)
    rw [mR_self, ← hsx]
    rfl
  have row : ∀ q : (Nat → Nat) × Nat × Nat, (rdM s q).1 0 = q.1 := fun q => rfl
  have hq0 : rK ((s.1 0, x, 0) : (Nat → Nat) × Nat × Nat).1 n := hw
  refine xMet.of (V := [some (.ref m), none, none, none]) moX6_rounds (Nat.le_of_ble_eq_true rfl) rfl ?_
  refine x_iconst (nI 0) dX6_rounds_0 (by decide) ?_
  refine x_istore_n dX6_rounds_1 (by decide) rfl rfl ?_
  refine x_iconst (nI 0) dX6_rounds_2 (by decide) ?_
  refine x_istore_n dX6_rounds_3 (by decide) rfl rfl ?_
  refine xP.eq (h' := putMod h m (rdM s (mrO (s.1 0, x, 0) 0))) rfl rfl rfl (by rw [← e0]) ?_
  refine xP.weak (V' := [some (.ref m), some (.int (nI (mrO (s.1 0, x, 0) 0).2.2)), some (.int (nI 0)), none]) (by simp [xle, xset1, fin3, mrO]) ?_
  refine xP.loop (fun i => [some (.ref m), some (.int (nI (mrO (s.1 0, x, 0) i).2.2)), some (.int (nI i)), none]) (fun i => putMod h m (rdM s (mrO (s.1 0, x, 0) i))) (s.1 0 2) ?_ ?_
  · intro i hi ih
    have h1 := mrO_rK hq0 i (by omega) (by omega)
    have h2 := mrO_x (q := (s.1 0, x, 0)) hx i
    have e2 : (mrO (s.1 0, x, 0) i).1 2 = s.1 0 2 := mrO_lo (by decide) i
    have e1 : (mrO (s.1 0, x, 0) i).1 1 = s.1 0 1 := mrO_lo (by decide) i
    have hn1 := mrO_n (q := (s.1 0, x, 0)) hN i
    dsimp only at hn1
    rw [mrO] at ih
    refine x_iload_n dX6_rounds_4 rfl ?_
    refine x_aload_n dX6_rounds_5 rfl ?_
    refine x_vi0 dX6_rounds_6 cV_X6_169 (c_mPictures putMod_at) rfl rfl ⟨⟨by decide, by decide⟩, by decide, by decide⟩ (Nat.le_of_ble_eq_true rfl) (xrecv putMod_at.o rfl xcl5) ?_
    refine xP.eq (S' := [.int (nI (s.1 0 2)), .int (nI i)]) rfl rfl (by show _ = [Value.int (nI ((mrO (s.1 0, x, 0) i).1 2)), _]; rw [e2]) rfl ?_
    refine x_icmp_ge_n 102 dX6_rounds_9 (by decide) (by omega) (by omega) (fun c0 => ?_) (fun c0 => ?_)
    · omega
    · refine x_iconst (nI 0) dX6_rounds_12 (by decide) ?_
      refine x_istore_n dX6_rounds_13 (by decide) rfl rfl ?_
      generalize mrO (s.1 0, x, 0) i = q at *
      refine xP.eq (h' := putMod h m (rdM s (mrI q i 0))) rfl rfl rfl rfl ?_
      refine xP.weak (V' := [some (.ref m), some (.int (nI (mrI q i 0).2.2)), some (.int (nI i)), some (.int (nI 0))]) (by simp [xle, xset1, fin3, mrI]) ?_
      refine xP.loop (fun k => [some (.ref m), some (.int (nI (mrI q i k).2.2)), some (.int (nI i)), some (.int (nI k))]) (fun k => putMod h m (rdM s (mrI q i k))) (s.1 0 1) ?_ ?_
      · intro k hk ih
        have h3 := mrI_rK h1 (p := i) (by omega) k (by omega) (by omega)
        have h4 := mrI_x (p := i) h2 k
        have e3 : (mrI q i k).1 1 = s.1 0 1 := (mrI_lo (by decide) k).trans e1
        have hn2 := mrI_n (q := q) (p := i) k
        have hc := h3.copy (p := i) (f := k) (by omega) (by omega)
        have h0 := h3.2.1
        rw [mrI] at ih
        generalize mrI q i k = r at *
        refine x_iload_n dX6_rounds_14 rfl ?_
        refine x_aload_n dX6_rounds_15 rfl ?_
        refine x_vi0 dX6_rounds_16 cV_X6_67 (c_mFamilies putMod_at) rfl rfl ⟨⟨by decide, by decide⟩, by decide, by decide⟩ (Nat.le_of_ble_eq_true rfl) (xrecv putMod_at.o rfl xcl5) ?_
        refine xP.eq (S' := [.int (nI (s.1 0 1)), .int (nI k)]) rfl rfl (by show _ = [Value.int (nI (r.1 1)), _]; rw [e3]) rfl ?_
        refine x_icmp_ge_n 96 dX6_rounds_19 (by decide) (by omega) (by omega) (fun c1 => ?_) (fun c1 => ?_)
        · omega
        · refine x_aload_n dX6_rounds_22 rfl ?_
          refine x_iload_n dX6_rounds_23 rfl ?_
          refine x_iload_n dX6_rounds_24 rfl ?_
          refine x_vi0 dX6_rounds_25 cV_X6_182 (c_mCopyOf putMod_at (show i < 12 by omega) (show k < 10 by omega)) rfl rfl ⟨⟨by decide, by decide⟩, by decide, by decide⟩ (Nat.le_of_ble_eq_true rfl) (xrecv putMod_at.o rfl xcl5) ?_
          refine xP.eq (S' := [.int (nI (rC r.1 i k))]) rfl rfl rfl rfl ?_
          refine x_si0 dX6_rounds_28 cS_X6_211 (c_mIsHeld (show rC r.1 i k < 2 ^ 24 by omega)) rfl rfl ⟨⟨by decide, by decide⟩, by decide, by decide⟩ (Nat.le_of_ble_eq_true rfl) ?_
          refine x_if_ne_b 37 dX6_rounds_31 (by decide) (fun c2 => ?_) (fun c2 => ?_)
          · have e : mrS r i k = (akA r.1 i k (nxtX r.2.1 / 65536 % r.1 0), nxtX r.2.1, r.2.2 + (if rgt r.1 i k (nxtX r.2.1 / 65536 % r.1 0) = true then 0 else 1)) := by unfold mrS; rw [if_pos c2]
            rw [e] at ih
            have hnx := nxtX_lt r.2.1
            have ht : nxtX r.2.1 / 65536 % r.1 0 < 16 := Nat.lt_of_lt_of_le (Nat.mod_lt _ (by omega)) (h3.2.2 0 (by decide))
            refine x_aload_n dX6_rounds_37 rfl ?_
            refine x_ldc2 (v := lN 1103515245) dX6_rounds_38 k_X6_264 ?_
            refine x_aload_n dX6_rounds_41 rfl ?_
            refine x_getf dX6_rounds_42 f_X6_266 putMod_at.o rfl ?_
            refine xP.eq (S' := [.long (lN r.2.1), .long (lN 1103515245), .ref m]) rfl rfl rfl rfl ?_
            refine x_lmul dX6_rounds_45 ?_
            refine x_ldc2 (v := lN 12345) dX6_rounds_46 k_X6_270 ?_
            refine x_ladd dX6_rounds_49 ?_
            refine x_ldc2 (v := lN 2147483648) dX6_rounds_50 k_X6_272 ?_
            refine x_lrem dX6_rounds_53 (by decide) ?_
            rw [lN_mul, lN_add, lN_rem (by omega) (by decide)]
            refine xP.eq (S' := [.long (lN (nxtX r.2.1)), .ref m]) rfl rfl rfl rfl ?_
            refine xq_X6_x dX6_rounds_54 f_X6_266 ?_
            refine x_iload_n dX6_rounds_57 rfl ?_
            refine x_aload_n dX6_rounds_58 rfl ?_
            refine x_iload_n dX6_rounds_59 rfl ?_
            refine x_iload_n dX6_rounds_60 rfl ?_
            refine x_aload_n dX6_rounds_61 rfl ?_
            refine x_getf dX6_rounds_62 f_X6_266 putMod_at.o rfl ?_
            refine xP.eq (S' := [.long (lN (nxtX r.2.1)), .int (nI k), .int (nI i), .ref m, .int (nI r.2.2)]) rfl rfl rfl rfl ?_
            refine x_ldc2 (v := lN 65536) dX6_rounds_65 k_X6_274 ?_
            refine x_ldiv dX6_rounds_68 (by decide) ?_
            rw [lN_div (by omega) (by decide)]
            refine x_l2i _ dX6_rounds_69 (lN_i9 (by omega)) ?_
            refine x_aload_n dX6_rounds_70 rfl ?_
            refine x_getf dX6_rounds_71 f_X6_7 putMod_at.o rfl ?_
            refine x_iconst (nI 0) dX6_rounds_74 (by decide) ?_
            refine x_iald_n dX6_rounds_75 putMod_at.a (by omega) (by decide) ?_
            refine xP.eq (S' := [.int (nI (r.1 0)), .int (nI (nxtX r.2.1 / 65536)), .int (nI k), .int (nI i), .ref m, .int (nI r.2.2)]) rfl rfl rfl rfl ?_
            have h00 : r.1 0 ≤ 16 := h3.2.2 0 (by decide)
            have ca := c_mAsks (g := g) (l := l) (h := h) (m := m) (s := mX (rdM s r) (lN (nxtX r.2.1))) h3.ok (p := i) (f := k) (by omega) (by omega) ht
            refine x_irem_n dX6_rounds_76 (by omega) (by omega) (by omega) ?_
            refine x_vi0 dX6_rounds_77 cV_X6_276 (ca) rfl rfl ⟨⟨by decide, by decide⟩, by decide, by decide⟩ (Nat.le_of_ble_eq_true rfl) (xrecv putMod_at.o rfl xcl5) ?_
            refine xP.eq (S' := [.int (xb (rgt r.1 i k (nxtX r.2.1 / 65536 % r.1 0))), .int (nI r.2.2)]) (h' := putMod h m (rdM s (akA r.1 i k (nxtX r.2.1 / 65536 % r.1 0), nxtX r.2.1, 0))) rfl rfl rfl (by rw [rdM_R]; rfl) ?_
            refine x_if_eq_b 87 dX6_rounds_80 (by decide) (fun c3 => ?_) (fun c3 => ?_)
            · rw [c3, if_neg (by decide)] at ih
              refine x_iconst (nI 1) dX6_rounds_87 (by decide) ?_
              refine x_iadd_n dX6_rounds_88 ?_
              refine x_istore_n dX6_rounds_89 (by decide) rfl rfl ?_
              refine x_iinc_n (k := 1) dX6_rounds_90 rfl (by decide) (by decide) rfl rfl ?_
              refine x_goto 14 dX6_rounds_93 (by decide) ?_
              exact xP.weak (by simp [xle, xset1, fin3]) ih
            · rw [c3, if_pos rfl] at ih
              refine x_iconst (nI 0) dX6_rounds_83 (by decide) ?_
              refine x_goto 88 dX6_rounds_84 (by decide) ?_
              refine x_iadd_n dX6_rounds_88 ?_
              refine x_istore_n dX6_rounds_89 (by decide) rfl rfl ?_
              refine x_iinc_n (k := 1) dX6_rounds_90 rfl (by decide) (by decide) rfl rfl ?_
              refine x_goto 14 dX6_rounds_93 (by decide) ?_
              exact xP.weak (by simp [xle, xset1, fin3]) ih
          · have e : mrS r i k = r := by unfold mrS; rw [if_neg (by rw [c2]; decide)]
            rw [e] at ih
            refine x_goto 90 dX6_rounds_34 (by decide) ?_
            refine x_iinc_n (k := 1) dX6_rounds_90 rfl (by decide) (by decide) rfl rfl ?_
            refine x_goto 14 dX6_rounds_93 (by decide) ?_
            exact xP.weak (by simp [xle, xset1, fin3]) ih
      · have e3 : (mrI q i (s.1 0 1)).1 1 = s.1 0 1 := (mrI_lo (by decide) _).trans e1
        refine x_iload_n dX6_rounds_14 rfl ?_
        refine x_aload_n dX6_rounds_15 rfl ?_
        refine x_vi0 dX6_rounds_16 cV_X6_67 (c_mFamilies putMod_at) rfl rfl ⟨⟨by decide, by decide⟩, by decide, by decide⟩ (Nat.le_of_ble_eq_true rfl) (xrecv putMod_at.o rfl xcl5) ?_
        refine xP.eq (S' := [.int (nI (s.1 0 1)), .int (nI (s.1 0 1))]) rfl rfl (by show _ = [Value.int (nI ((mrI q i (s.1 0 1)).1 1)), _]; rw [e3]) rfl ?_
        refine x_icmp_ge_n 96 dX6_rounds_19 (by decide) (by omega) (by omega) (fun c1 => ?_) (fun c1 => ?_)
        · refine x_iinc_n (k := 1) dX6_rounds_96 rfl (by decide) (by decide) rfl rfl ?_
          refine x_goto 4 dX6_rounds_99 (by decide) ?_
          exact xP.weak (by simp [xle, xset1, fin3]) ih
        · omega
  · have e2 : (mrO (s.1 0, x, 0) (s.1 0 2)).1 2 = s.1 0 2 := mrO_lo (by decide) _
    refine x_iload_n dX6_rounds_4 rfl ?_
    refine x_aload_n dX6_rounds_5 rfl ?_
    refine x_vi0 dX6_rounds_6 cV_X6_169 (c_mPictures putMod_at) rfl rfl ⟨⟨by decide, by decide⟩, by decide, by decide⟩ (Nat.le_of_ble_eq_true rfl) (xrecv putMod_at.o rfl xcl5) ?_
    refine xP.eq (S' := [.int (nI (s.1 0 2)), .int (nI (s.1 0 2))]) rfl rfl (by show _ = [Value.int (nI ((mrO (s.1 0, x, 0) (s.1 0 2)).1 2)), _]; rw [e2]) rfl ?_
    refine x_icmp_ge_n 102 dX6_rounds_9 (by decide) (by omega) (by omega) (fun c0 => ?_) (fun c0 => ?_)
    · refine x_iload_n dX6_rounds_102 rfl ?_
      exact x_iret .int dX6_rounds_103 rfl rfl (by decide) (by decide) (rfl) (rfl)
    · omega
end M16
