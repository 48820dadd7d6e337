/-! ===== the same answers ===== -/
def sOk (R : Rs) (M : Ms) (m : Nat) : Prop := R.1 = M.1 ∧ (R.1 = 0 → R.2.1 = M.2.1) ∧ ((R.2.2 = none ∧ M.2.2 = none) ∨ ∃ P B, R.2.2 = some P ∧ M.2.2 = some B ∧ NV P B m)
theorem sOk.ans {k : Nat} {v v' : Int32} {m : Nat} (h : k = 0 → v = v') : sOk (k, v, none) (k, v', none) m := ⟨rfl, h, Or.inl ⟨rfl, rfl⟩⟩
theorem sOk.chg {v v' : Int32} {P : Ar} {B : Nat → Nat} {m : Nat} (h : v = v') (hn : NV P B m) : sOk (0, v, some P) (0, v', some B) m := ⟨rfl, fun _ => h, Or.inr ⟨P, B, rfl, rfl, hn⟩⟩
theorem amax_cong {F G : Nat → Nat} : ∀ {m : Nat}, (∀ k, k < m → F k = G k) → amax F m = amax G m := by
  intro m
  induction m with
  | zero => intro _; rfl
  | succ m ih =>
    intro h
    rw [amax, amax, ih (fun k hk => h k (by omega)), h m (by omega)]
section R7
variable {st : Ar} {A : Nat → Nat} {n m : Nat}
theorem NV.okP (h : NV st A n) (p f : Int32) : mOkPF A p f = okPF st p f := by
  unfold mOkPF okPF
  rw [h.r0.2.1, h.r0.2.2.1]
theorem PF_lt {st : Ar} {p f : Int32} (h : okPF st p f = true) : ix p < st.1 2 ∧ ix f < st.1 1 := by
  unfold okPF at h
  rw [Bool.and_eq_true] at h
  exact ⟨okB_lt h.1, okB_lt h.2⟩
theorem NV.need (h : NV st A n) {p : Nat} (hp : p < st.1 2) : mDep A p = needV st p := by
  unfold mDep needV
  rw [h.hold1 hp, (h.rp p hp).1]
theorem s_count (h : NV st A n) (a : Int32) : sOk (countR st a) (if okB a 11 = true then 0 else 1, if okB a 11 = true then mCntV A (ix a) else 0, none) m := by
  unfold countR
  cases c : okB a 11 with
  | false => rw [if_neg (by decide), if_neg (by decide), if_neg (by decide)]; exact sOk.ans (fun q => by cases q)
  | true =>
    rw [if_pos rfl, if_pos rfl, if_pos rfl]
    refine sOk.ans fun _ => ?_
    have hk := okB_lt c
    have hu := h.uns
    generalize ix a = k at *
    obtain ⟨a0, a1, a2, a3, a4⟩ := h.r0
    have hk9 : k = 0 ∨ k = 1 ∨ k = 2 ∨ k = 3 ∨ k = 4 ∨ k = 5 ∨ k = 6 ∨ k = 7 ∨ k = 8 ∨ k = 9 ∨ k = 10 := by omega
    rcases hk9 with rfl | rfl | rfl | rfl | rfl | rfl | rfl | rfl | rfl | rfl | rfl
    · show nI (st.1 0) = nI (A 0); rw [a0]
    · show nI (st.1 1) = nI (A 1); rw [a1]
    · show nI (st.1 2) = nI (A 2); rw [a2]
    · show nI _ = nI (mAll A 0); rw [h.all0]
    · show nI _ = nI (mAll A 2); rw [h.all2]
    · show nI (unsV st) = nI (mAll A 1) - nI (mAll A 3)
      rw [pk_sub (by omega), hu, Nat.add_sub_cancel_left]
    · show nI _ = nI (mDgs A false); rw [h.dgs.1]
    · show nI _ = nI (mDgs A true); rw [h.dgs.2]
    · show nI (st.1 3) = nI (A 4); rw [a4]
    · show nI (st.1 4) = nI (A 3); rw [a3]
    · show nI _ = nI (mPairs A); rw [h.pairs]
theorem s_family (h : NV st A n) (f a : Int32) : sOk (familyR st f a) (if okB f (A 1) = true then (if okB a 7 = true then 0 else 2) else 1, if okB f (A 1) = true ∧ okB a 7 = true then mFamV A (ix f) (ix a) else 0, none) m := by
  unfold familyR
  rw [h.r0.2.1]
  cases c : okB f (st.1 1) with
  | false => rw [if_neg (by decide), if_neg (by decide), if_neg (by simp)]; exact sOk.ans (fun q => by cases q)
  | true =>
    rw [if_pos rfl, if_pos rfl]
    cases c2 : okB a 7 with
    | false => rw [if_neg (by decide), if_neg (by decide), if_neg (by simp)]; exact sOk.ans (fun q => by cases q)
    | true =>
      rw [if_pos rfl, if_pos rfl, if_pos ⟨rfl, rfl⟩]
      refine sOk.ans fun _ => ?_
      have hk := okB_lt c2
      have hf := okB_lt c
      generalize ix a = k at *
      obtain ⟨b0, b1, b2, b3, -⟩ := h.rf _ hf
      have hk9 : k = 0 ∨ k = 1 ∨ k = 2 ∨ k = 3 ∨ k = 4 ∨ k = 5 ∨ k = 6 := by omega
      rcases hk9 with rfl | rfl | rfl | rfl | rfl | rfl | rfl
      · show _ = nI (rF A (ix f) 0); rw [b0]; rfl
      · show _ = nI (mCop A (ix f) 0); rw [h.cop0 hf]; rfl
      · show _ = nI (mCop A (ix f) 2); rw [h.cop2 hf]; rfl
      · show _ = nI (rF A (ix f) 1); rw [b1]; rfl
      · show _ = nI (rF A (ix f) 2); rw [b2]; rfl
      · show _ = nI (mTrust A (ix f)); rw [h.trust hf]; rfl
      · show _ = nI (rF A (ix f) 3); rw [b3]; rfl
theorem s_picture (h : NV st A n) (p a : Int32) : sOk (pictureR st p a) (if okB p (A 2) = true then (if okB a 6 = true then 0 else 2) else 1, if okB p (A 2) = true ∧ okB a 6 = true then mPicV A (ix p) (ix a) else 0, none) m := by
  unfold pictureR
  rw [h.r0.2.2.1]
  cases c : okB p (st.1 2) with
  | false => rw [if_neg (by decide), if_neg (by decide), if_neg (by simp)]; exact sOk.ans (fun q => by cases q)
  | true =>
    rw [if_pos rfl, if_pos rfl]
    cases c2 : okB a 6 with
    | false => rw [if_neg (by decide), if_neg (by decide), if_neg (by simp)]; exact sOk.ans (fun q => by cases q)
    | true =>
      rw [if_pos rfl, if_pos rfl, if_pos ⟨rfl, rfl⟩]
      refine sOk.ans fun _ => ?_
      have hk := okB_lt c2
      have hp := okB_lt c
      generalize ix a = k at *
      have hk9 : k = 0 ∨ k = 1 ∨ k = 2 ∨ k = 3 ∨ k = 4 ∨ k = 5 := by omega
      rcases hk9 with rfl | rfl | rfl | rfl | rfl | rfl
      · show _ = nI (rPl A (ix p)); rw [(h.rp _ hp).1]; rfl
      · show _ = nI (mHold A (ix p) 1); rw [h.hold1 hp]; rfl
      · show _ = nI (mHold A (ix p) 2); rw [h.hold2 hp]; rfl
      · show _ = nI (mHold A (ix p) 3); rw [h.hold3 hp]; rfl
      · show _ = xb (mDan A (ix p)); rw [h.dan hp]; rfl
      · show _ = xb (mTru A (ix p)); rw [h.tru hp]; rfl
theorem s_copy (h : NV st A n) (p f : Int32) : sOk (copyR st p f) (if mOkPF A p f = true then 0 else 1, if mOkPF A p f = true then mCopyV A (ix p) (ix f) else 0, none) m := by
  unfold copyR
  rw [h.okP]
  cases c : okPF st p f with
  | false => rw [if_neg (by decide), if_neg (by decide), if_neg (by decide)]; exact sOk.ans (fun q => by cases q)
  | true =>
    rw [if_pos rfl, if_pos rfl, if_pos rfl]
    refine sOk.ans fun _ => ?_
    obtain ⟨hp, hf⟩ := PF_lt c
    have hz := h.nz hp hf
    unfold mCopyV
    cases hh : hasB st (ix p) (ix f) with
    | false => rw [if_neg (by decide), if_pos (hz.mpr hh)]
    | true =>
      rw [if_pos rfl, if_neg (fun q => by rw [hz.mp q] at hh; cases hh), h.rc _ _ hp hf, cp_sp (h.sp hp hf) hh]
theorem s_why (h : NV st A n) (p f : Int32) : sOk (whyR st p f) (if mOkPF A p f = true then 0 else 1, if mOkPF A p f = true then nI (mWhyV A (ix p) (ix f)) else 0, none) m := by
  unfold whyR
  rw [h.okP]
  cases c : okPF st p f with
  | false => rw [if_neg (by decide), if_neg (by decide), if_neg (by decide)]; exact sOk.ans (fun q => by cases q)
  | true =>
    rw [if_pos rfl, if_pos rfl, if_pos rfl]
    refine sOk.ans fun _ => ?_
    obtain ⟨hp, hf⟩ := PF_lt c
    have hz := h.nz hp hf
    have hN := h.N10
    have hK := h.K12
    have hd := h.2.2.1 (ix p) (ix f) (by omega) (by omega)
    unfold mWhyV
    rw [h.brk hp hf, h.snd hp hf]
    unfold soundB
    cases hh : hasB st (ix p) (ix f) with
    | false => rw [if_neg (by decide), if_pos (hz.mpr hh)]; rfl
    | true =>
      have hne : ¬ rC A (ix p) (ix f) = 0 := fun q => by rw [hz.mp q] at hh; cases hh
      rw [if_pos rfl, if_neg hne]
      cases h1 : heldB st (ix p) (ix f) with
      | true =>
        rw [h1, Bool.true_and] at hd
        rw [hd, if_pos rfl, Bool.true_and]
        by_cases e : st.2.2 8 (10 * ix p + ix f) = 0
        · rw [if_pos e, if_neg (show ¬ false = true by decide), if_pos (by simpa using e)]; rfl
        · rw [if_neg e, if_neg (show ¬ false = true by decide), if_neg (by simpa using e)]; rfl
      | false =>
        unfold hasB at hh
        rw [h1, Bool.false_or] at hh
        rw [if_neg (by decide), hh, if_pos rfl]
        rfl
theorem s_sources (h : NV st A n) (p f : Int32) : sOk (sourcesR st p f) (if mOkPF A p f = true then 0 else 1, if mOkPF A p f = true then nI (mSrc A (ix p) (ix f)) else 0, none) m := by
  unfold sourcesR
  rw [h.okP]
  cases c : okPF st p f with
  | false => rw [if_neg (by decide), if_neg (by decide), if_neg (by decide)]; exact sOk.ans (fun q => by cases q)
  | true =>
    obtain ⟨hp, hf⟩ := PF_lt c
    rw [if_pos rfl, if_pos rfl, if_pos rfl, h.src hp hf]
    exact sOk.ans fun _ => rfl
theorem s_wouldGet (h : NV st A n) (p f : Int32) : sOk (wouldGetR st p f) (if mOkPF A p f = true then 0 else 1, if mOkPF A p f = true then mGetV A (ix p) (ix f) else 0, none) m := by
  unfold wouldGetR
  rw [h.okP]
  cases c : okPF st p f with
  | false => rw [if_neg (by decide), if_neg (by decide), if_neg (by decide)]; exact sOk.ans (fun q => by cases q)
  | true =>
    obtain ⟨hp, hf⟩ := PF_lt c
    rw [if_pos rfl, if_pos rfl, if_pos rfl]
    refine sOk.ans fun _ => ?_
    unfold mGetV
    rw [h.src hp hf]
    by_cases e : srcV st (ix p) (ix f) = 0
    · rw [if_pos e, if_pos e]
    · have hT := h.ok.1
      unfold aT at hT
      have hT2 : 2 ^ st.1 0 ≤ 65536 := pow_le2 (a := st.1 0) (b := 16) hT.2
      have hl : spAll st (ix p) (srcV st (ix p) (ix f)) (st.1 1) < 65536 := Nat.lt_of_lt_of_le (spAll_lt st _ _ _) hT2
      rw [if_neg e, if_neg e, h.gets hp hf e, cp_sp hl rfl]
theorem NV.tile (h : NV st A n) {p t : Nat} (hp : p < st.1 2) (ht : t < 16) : mTl A p t = spAtV st p t := by
  unfold mTl spAtV
  rw [h.r0.2.1]
  refine fb_sm_cong fun f hf => ?_
  unfold mTl1
  rw [h.held hp hf]
  cases hh : heldB st p f with
  | false => rw [if_neg (by decide), if_neg (by decide)]
  | true =>
    rw [if_pos rfl, if_pos rfl, bit_n, bit_n, h.rc p f hp hf, cp_bit (h.sp hp hf) (by rw [hh]; rfl) ht]
theorem s_bestTile (h : NV st A n) (p : Int32) : sOk (bestTileR st p) (b01 (okB p (A 2)), if okB p (A 2) = true then (amax (mTl A (ix p)) (A 0)).2 else 0, none) m := by
  unfold bestTileR b01
  rw [h.r0.2.2.1]
  cases c : okB p (st.1 2) with
  | false => rw [if_neg (by decide), if_neg (by decide), if_neg (by decide)]; exact sOk.ans (fun q => by cases q)
  | true =>
    have hT := h.ok.1
    unfold aT at hT
    rw [if_pos rfl, if_pos rfl, if_pos rfl, h.r0.1, amax_cong fun k hk => h.tile (okB_lt c) (show k < 16 by omega)]
    exact sOk.ans fun _ => rfl
theorem s_depends (h : NV st A n) (p : Int32) : sOk (dependsR st p) (b01 (okB p (A 2)), if okB p (A 2) = true then nI (mDep A (ix p)) else 0, none) m := by
  unfold dependsR b01
  rw [h.r0.2.2.1]
  cases c : okB p (st.1 2) with
  | false => rw [if_neg (by decide), if_neg (by decide), if_neg (by decide)]; exact sOk.ans (fun q => by cases q)
  | true =>
    rw [if_pos rfl, if_pos rfl, if_pos rfl, h.need (okB_lt c)]
    exact sOk.ans fun _ => rfl
theorem s_least (h : NV st A n) : sOk (leastR st) (0, nI (mLst A (A 1)), none) m := by
  unfold leastR
  rw [h.r0.2.1]
  refine sOk.ans fun _ => congrArg nI ?_
  have key : ∀ k, k ≤ st.1 1 → mLst A k = leastF st k ∧ (0 < st.1 1 → leastF st k < st.1 1) := by
    intro k
    induction k with
    | zero => intro _; exact ⟨rfl, fun q => q⟩
    | succ k ih =>
      intro hk
      obtain ⟨i1, i2⟩ := ih (by omega)
      have i3 := i2 (by omega)
      rw [mLst, leastF, i1, h.trust (by omega), h.trust i3]
      refine ⟨rfl, fun q => ?_⟩
      split
      · exact q
      · split
        · omega
        · exact i3
  exact (key _ (Nat.le_refl _)).1.symm
theorem s_most (h : NV st A n) : sOk (mostR st) (0, (amax (mNe A) (A 1)).2, none) m := by
  unfold mostR
  rw [h.r0.2.1, amax_cong (F := mNe A) (G := needOfV st) fun k hk => ?_]
  · exact sOk.ans fun _ => rfl
  · unfold mNe needOfV
    rw [h.r0.2.2.1]
    exact fb_sm_cong fun p hp => by unfold mNe1; rw [h.need hp]
theorem s_waves (h : NV st A n) (hn : n + 20000 < 2 ^ 23) : sOk (wavesR st) (0, nI (mwN A), none) m := by
  unfold wavesR
  rw [h.wavNum hn]
  exact sOk.ans fun _ => rfl
theorem s_lost (h : NV st A n) (hn : n + 20000 < 2 ^ 23) : sOk (lostR st) (0, nI (mAll (mwS A (mwN A + 1)) 2), none) m := by
  unfold lostR
  refine sOk.ans fun _ => congrArg nI ?_
  have hle : mwN A ≤ 120 := fa_first_le _ _
  have hz := mwN_zero h.k
  have e := h.wavNum hn
  unfold wavE
  rw [e]
  generalize mwN A = K at *
  have k1 := h.waves (K + 1) (by omega)
  by_cases c : K < 120
  · rw [if_pos c, k1.all2]
  · have : K = 120 := by omega
    subst this
    rw [if_neg c]
    have k0 := h.waves 120 (by omega)
    have hb := bC_wave (A := mwS A 120) k0.k.ok.2.1
    have hz2 : (wvA (mwS A 120)).2 = 0 := hz
    rw [hz2, Nat.add_zero] at hb
    have e1 : (wvA (mwS A 120)).1 1 ≤ 10 := by rw [wvA_lo (by decide) (by decide)]; exact k0.k.ok.2.1
    rw [bC_all e1, bC_all k0.k.ok.2.1, k0.all2] at hb
    exact hb.symm
theorem s_spreads (h : NV st A n) : sOk (spreadsR st) (0, nI (spO A (A 2)).2, none) m := by
  unfold spreadsR
  rw [h.r0.2.2.1, (h.spr _ (Nat.le_refl _)).2.1]
  exact sOk.ans fun _ => rfl
theorem NV.dang (h : NV st A n) : dwV A = dangV st := by
  obtain ⟨k1, k2, k3⟩ := h.spr _ (Nat.le_refl _)
  unfold dwV dangV
  rw [h.r0.2.2.1, k1.dgs.1, k3]
theorem s_pair (h : NV st A n) : sOk (pairR st) (0, oI (mbO A (A 1)).2, none) m := by
  unfold pairR
  rw [h.r0.2.1]
  refine sOk.ans fun _ => ?_
  have e1 : ∀ f k s, f < st.1 1 → k < st.1 1 → mb1 A f k s = bp1 st f k s := fun f k s hf hk => by
    unfold mb1 bp1
    rw [(h.rf f hf).2.2.2.1, (h.meet hf hk).dang]
  have e2 : ∀ f s, f < st.1 1 → ∀ k, k ≤ st.1 1 → mbI A f s k = bpI st f s k := fun f s hf k => by
    induction k with
    | zero => intro _; rfl
    | succ k ih => intro hk; rw [mbI, bpI, ih (by omega), e1 f k _ hf (by omega)]
  have e3 : ∀ k, k ≤ st.1 1 → mbO A k = bpO st k := by
    intro k
    induction k with
    | zero =>
      intro _
      show (dwV A, none) = (dangV st, none)
      rw [h.dang]
    | succ k ih => intro hk; rw [mbO, bpO, ih (by omega), h.r0.2.1, e2 k _ (by omega) _ (Nat.le_refl _)]
  rw [e3 _ (Nat.le_refl _)]
theorem s_rounds (h : NV st A n) (hn : n + 10000 < 2 ^ 23) (x : Int32) : sOk (roundsR st x) (if ix x < 2 ^ 31 then 0 else 1, if ix x < 2 ^ 31 then rtM (A, ix x, 0) 60 0 else 0, none) m := by
  unfold roundsR
  by_cases c : ix x < 2 ^ 31
  · rw [if_pos c, if_pos c, if_pos c]
    refine sOk.ans fun _ => ?_
    have key : ∀ (f i : Nat) (s : Ar × Nat) (q : (Nat → Nat) × Nat × Nat), f + i = 60 → NV s.1 q.1 (n + 120 * i) → s.2 = q.2.1 → rtF s f i = rtM q f i := by
      intro f
      induction f with
      | zero =>
        intro i s q hf hv hx
        have hu := hv.uns
        rw [rtF, rtM]
        by_cases e : unsV s.1 = 0
        · rw [if_pos e, if_pos (by omega)]
        · rw [if_neg e, if_neg (by omega)]
      | succ f ih =>
        intro i s q hf hv hx
        have hu := hv.uns
        rw [rtF, rtM]
        by_cases e : unsV s.1 = 0
        · rw [if_pos e, if_neg (by omega), if_pos (by omega)]
        · rw [if_neg e, if_pos (by omega)]
          have hK := hv.K12
          obtain ⟨k1, k2, k3⟩ := rnd_all (x := s.2) hv (s.1.1 2) (Nat.le_refl _) (by omega)
          unfold rtN
          rw [hv.r0.2.2.1, ← hx]
          exact ih (i + 1) _ _ (by omega) (k1.mono (by omega) (by omega)) k2
    exact key 60 0 (st, ix x) (A, ix x, 0) rfl h rfl
  · rw [if_neg c, if_neg c, if_neg c]
    exact sOk.ans fun q => by cases q
/-! numbers of floating point -/
theorem NV.sdn (h : NV st A n) : mSd A = sdF st := by
  have hu := h.uns
  unfold mSd sdF
  rw [h.all1] at hu ⊢
  rw [show heldV st - unsV st = mAll A 3 by omega]
theorem NV.chK (h : NV st A n) (p f q : Int32) : mChK A p f q = chanceK st p f q := by
  unfold mChK chanceK
  rw [h.okP, h.r0.1]
  cases c : okPF st p f with
  | false => rfl
  | true =>
    obtain ⟨hp, hf⟩ := PF_lt c
    rw [if_pos rfl, if_pos rfl, h.held hp hf]
theorem NV.chV (h : NV st A n) {p f : Nat} (hp : p < st.1 2) (hf : f < st.1 1) (hh : heldB st p f = true) (q : Nat) : mChV A p f q = chanceV st p f q := by
  unfold mChV chanceV
  rw [h.r0.1, h.rc p f hp hf, cp_sp (h.sp hp hf) (by rw [hh]; rfl)]
theorem NV.chB (h : NV st A n) {p f : Nat} (hp : p < st.1 2) (hf : f < st.1 1) : popc (rC A p f &&& 65535) ≤ A 0 := by
  have hT := h.ok.1
  unfold aT at hT
  have hz := h.nz hp hf
  rw [h.r0.1]
  cases hh : hasB st p f with
  | false =>
    rw [hz.mpr hh, Nat.zero_and]
    exact Nat.le_trans (popc_le (x := 0) (n := 0) (by decide) (by decide)) (Nat.zero_le _)
  | true =>
    rw [h.rc p f hp hf, cp_sp (h.sp hp hf) hh]
    exact popc_le (h.ok.2.2.2.2.2.1 _ (by have := h.N10; have := h.K12; omega)) (by omega)
end R7
