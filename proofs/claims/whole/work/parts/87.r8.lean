/-! ===== the same changes ===== -/
section R8
variable {st : Ar} {A : Nat → Nat} {n : Nat}
theorem popc_set {b f : Nat} (hf : f < 32) (h : b.testBit f = false) : popc (b ||| 2 ^ f) = popc b + 1 := by
  unfold popc
  have k1 := fb_ct_upd (fun k => b.testBit k) true hf
  have k2 : fb_ct (fun k => if k = f then true else (fun k => b.testBit k) k) 32 = fb_ct (fun k => (b ||| 2 ^ f).testBit k) 32 := fb_ct_cong fun k _ => or_bit.symm
  rw [k2] at k1
  rw [h] at k1
  simpa using k1
theorem ans_brk {st : Ar} {p f t : Nat} (hp : p < st.1 2) (hf : f < 32) (hb : brkB st p f = false) : brkV (ansS st p f t) = brkV st + (if rightB st p f t = true then 0 else 1) := by
  unfold ansS
  cases hr : rightB st p f t with
  | true => rw [if_pos rfl, if_pos rfl]; rfl
  | false =>
    rw [if_neg (by decide), if_neg (by decide)]
    have k1 : fb_sm (fun k => if k = p then popc (st.2.2 7 p) + 1 else (fun p => popc (st.2.2 7 p)) k) (st.1 2) + popc (st.2.2 7 p) = fb_sm (fun p => popc (st.2.2 7 p)) (st.1 2) + (popc (st.2.2 7 p) + 1) := fb_sm_upd (fun p => popc (st.2.2 7 p)) (popc (st.2.2 7 p) + 1) hp
    have k2 : brkV (aF (aF (aF (aI st 3 (st.1 3 + 1)) 3 (va_up (st.2.2 3) f (st.2.2 3 f + 1))) 6 (va_up (st.2.2 6) p (andn (st.2.2 6 p) (2 ^ f)))) 7 (va_up (st.2.2 7) p (st.2.2 7 p ||| 2 ^ f))) = fb_sm (fun k => if k = p then popc (st.2.2 7 p) + 1 else (fun p => popc (st.2.2 7 p)) k) (st.1 2) := by
      show fb_sm (fun q => popc (va_up (st.2.2 7) p (st.2.2 7 p ||| 2 ^ f) q)) (st.1 2) = _
      refine fb_sm_cong fun k _ => ?_
      by_cases e : k = p
      · rw [if_pos e, e, va_upE, popc_set hf hb]
      · rw [if_neg e, va_up_ne _ _ e]
    rw [k2]
    have k3 : brkV st = fb_sm (fun p => popc (st.2.2 7 p)) (st.1 2) := rfl
    rw [k3]
    omega
theorem rnd_cnt1 {q : Ar × Nat} {r : (Nat → Nat) × Nat × Nat} {p : Nat} (h : NV q.1 r.1 n) (hx : q.2 = r.2.1) (hp : p < q.1.1 2) : ∀ j, j ≤ q.1.1 1 → n + j < 2 ^ 23 → brkV (rndI q p j).1 + r.2.2 = brkV q.1 + (mrI r p j).2.2 := by
  intro j
  induction j with
  | zero => intro _ _; rfl
  | succ j ih =>
    intro hj hn
    have ih := ih (by omega) (by omega)
    obtain ⟨k1, k2, k3⟩ := rnd_same h hx hp j (by omega) (by omega)
    rw [rndI, mrI]
    unfold mrS
    have e1 := k3 1 (by decide)
    have e2 := k3 2 (by decide)
    generalize rndI q p j = Q at *
    generalize mrI r p j = R at *
    have hT := k1.ok.1
    unfold aT at hT
    have hN := k1.N10
    have hK := k1.K12
    have eh : cHeld (rC R.1 p j) = heldB Q.1 p j := k1.held (by omega) (by omega)
    rw [eh]
    by_cases c : heldB Q.1 p j = true
    · rw [if_pos c, if_pos c]
      have ht : nxtX Q.2 / 65536 % Q.1.1 0 < 16 := Nat.lt_of_lt_of_le (Nat.mod_lt _ (by omega)) hT.2
      have hd := k1.2.2.1 p j (by omega) (by omega)
      rw [c, Bool.true_and] at hd
      have a := ans_brk (st := Q.1) (p := p) (f := j) (t := nxtX Q.2 / 65536 % Q.1.1 0) (by omega) (by omega) hd
      have eg := k1.askR (p := p) (f := j) (t := nxtX Q.2 / 65536 % Q.1.1 0) (by omega) (by omega) c ht
      rw [← k2, k1.r0.1]
      show brkV (ansS Q.1 p j (nxtX Q.2 / 65536 % Q.1.1 0)) + r.2.2 = brkV q.1 + (R.2.2 + (if rgt R.1 p j (nxtX Q.2 / 65536 % Q.1.1 0) = true then 0 else 1))
      rw [a, eg]
      omega
    · rw [if_neg c, if_neg c]
      exact ih
theorem rnd_cnt {x : Nat} (h : NV st A n) : ∀ i, i ≤ st.1 2 → n + 10 * i < 2 ^ 23 → brkV (rndO (st, x) i).1 = brkV st + (mrO (A, x, 0) i).2.2 := by
  intro i
  induction i with
  | zero => intro _ _; rfl
  | succ i ih =>
    intro hi hn
    have ih := ih (by omega) (by omega)
    obtain ⟨k1, k2, k3⟩ := rnd_all (x := x) h i (by omega) (by omega)
    rw [rndO, mrO]
    have e1 : (st, x).1.1 1 = (rndO (st, x) i).1.1 1 := (k3 1 (by decide)).symm
    have e2 : (A, x, 0).1 1 = (rndO (st, x) i).1.1 1 := by rw [k3 1 (by decide)]; exact h.r0.2.1
    rw [e1, e2]
    have hN := k1.N10
    have := rnd_cnt1 k1 k2 (p := i) (by rw [k3 2 (by decide)]; omega) _ (Nat.le_refl _) (by omega)
    omega
theorem s_round (h : NV st A n) (hn : n + 120 < 2 ^ 23) (x : Int32) : sOk (roundR st x) (roundM A x) (n + 120) := by
  unfold roundR roundM
  have hK := h.K12
  by_cases c : ix x < 2 ^ 31
  · rw [if_pos c, if_pos c, h.r0.2.2.1]
    have k := rnd_cnt (x := ix x) h (st.1 2) (Nat.le_refl _) (by omega)
    refine sOk.chg ?_ ((rnd_all (x := ix x) h (st.1 2) (Nat.le_refl _) (by omega)).1.mono (by omega) hn)
    rw [pk_sub (by omega), k, Nat.add_sub_cancel_left]
  · rw [if_neg c, if_neg c]
    exact sOk.ans fun q => by cases q
theorem s_ask (h : NV st A n) (hn : n + 120 < 2 ^ 23) (p f t : Int32) : sOk (askR st p f t) (askM A p f t) (n + 120) := by
  have hT := h.ok.1
  unfold aT at hT
  have ec : (okB p (A 2) && okB f (A 1) && okB t (A 0)) = (okPF st p f && okB t (st.1 0)) := by
    unfold okPF
    rw [h.r0.1, h.r0.2.1, h.r0.2.2.1]
  unfold askR askM
  rw [ec]
  cases c : okPF st p f with
  | false => rw [if_neg (by decide), if_neg (by simp)]; exact sOk.ans fun q => by cases q
  | true =>
    rw [if_pos rfl, Bool.true_and]
    cases c2 : okB t (st.1 0) with
    | false => rw [if_neg (by decide), if_neg (by decide)]; exact sOk.ans fun q => by cases q
    | true =>
      obtain ⟨hp, hf⟩ := PF_lt c
      have ht := okB_lt c2
      have hz := h.nz hp hf
      have hd := h.2.2.1 (ix p) (ix f) (by have := h.K12; omega) (by have := h.N10; omega)
      rw [if_pos rfl, if_pos rfl]
      cases hh : hasB st (ix p) (ix f) with
      | false => rw [if_neg (by decide), if_pos (hz.mpr hh)]; exact sOk.ans fun _ => rfl
      | true =>
        have hne : ¬ rC A (ix p) (ix f) = 0 := fun q => by rw [hz.mp q] at hh; cases hh
        rw [if_pos rfl, if_neg hne, h.brk hp hf]
        cases h1 : heldB st (ix p) (ix f) with
        | true =>
          rw [h1, Bool.true_and] at hd
          rw [if_pos rfl, hd, if_neg (by decide)]
          exact sOk.chg (by rw [h.askR hp hf h1 (by omega)]) ((h.ask hp hf h1 (by omega) (by omega)).mono (by omega) hn)
        | false =>
          unfold hasB at hh
          rw [h1, Bool.false_or] at hh
          rw [if_neg (by decide), hh, if_pos rfl]
          exact sOk.ans fun _ => rfl
theorem s_wave (h : NV st A n) (hn : n + 120 < 2 ^ 23) : sOk (waveR st) (waveM A) (n + 120) := by
  have k := h.wave hn
  unfold waveR waveM
  exact sOk.chg (by rw [k.2]) k.1
theorem s_spread (h : NV st A n) (hn : n + 120 < 2 ^ 23) : sOk (spreadR st) (spreadM A) (n + 120) := by
  obtain ⟨k1, k2, k3⟩ := h.spr _ (Nat.le_refl _)
  unfold spreadR spreadM
  rw [h.r0.2.2.1]
  exact sOk.chg (by rw [k2]) (k1.mono (by omega) hn)
theorem s_join (h : NV st A n) (hn : n + 120 < 2 ^ 23) (r : Int32) : sOk (joinR st r) (joinM A r) (n + 120) := by
  unfold joinR joinM
  have hN := h.N10
  by_cases c : 1 ≤ ix r ∧ ix r ≤ 20
  · rw [if_pos c, if_pos c, h.r0.2.1]
    by_cases d : st.1 1 < 10
    · rw [if_pos d, if_neg (by omega)]
      exact sOk.chg rfl ((h.join d c.2).mono (by omega) hn)
    · rw [if_neg d, if_pos (by omega)]
      exact sOk.ans fun _ => rfl
  · rw [if_neg c, if_neg c]
    exact sOk.ans fun q => by cases q
theorem s_meet (h : NV st A n) (hn : n + 120 < 2 ^ 23) (a b : Int32) : sOk (meetR st a b) (meetM A a b) (n + 120) := by
  unfold meetR meetM
  rw [h.r0.2.1]
  cases c : okB a (st.1 1) with
  | false => rw [if_neg (by decide), if_neg (by simp)]; exact sOk.ans fun q => by cases q
  | true =>
    rw [if_pos rfl, Bool.true_and]
    cases c2 : okB b (st.1 1) with
    | false => rw [if_neg (by decide), if_neg (by decide)]; exact sOk.ans fun q => by cases q
    | true =>
      have ha := okB_lt c
      have hb := okB_lt c2
      rw [if_pos rfl, if_pos rfl]
      by_cases e : a = b
      · rw [if_pos e, if_pos e]; exact sOk.ans fun q => by cases q
      · rw [if_neg e, if_neg e, (h.rf _ ha).2.2.2.1]
        by_cases d : (st.2.2 1 (ix a)).testBit (ix b) = true
        · rw [if_pos d, if_pos d]; exact sOk.ans fun _ => rfl
        · rw [if_neg d, if_neg d]
          have k := h.meet ha hb
          exact sOk.chg (by rw [k.pairs]) (k.mono (by omega) hn)
theorem s_leave (h : NV st A n) (hn : n + 120 < 2 ^ 23) (h2 : 2 ≤ st.1 1) (f : Int32) : sOk (leaveR st f) (leaveM A f) (n + 120) := by
  unfold leaveR leaveM
  rw [h.r0.2.1]
  cases c : okB f (st.1 1) with
  | false => rw [if_neg (by decide), if_neg (by decide)]; exact sOk.ans fun q => by cases q
  | true =>
    have hf := okB_lt c
    rw [if_pos rfl, if_pos rfl]
    by_cases d : 2 < st.1 1
    · rw [if_pos d, if_neg (by omega)]
      exact sOk.chg (by rw [h.cop0 hf]) ((h.leave hf d).mono (by omega) hn)
    · rw [if_neg d, if_pos (by omega)]
      exact sOk.ans fun _ => rfl
theorem s_pledge (h : NV st A n) (hn : n + 120 < 2 ^ 23) (p x : Int32) : sOk (pledgeR st p x) (pledgeM A p x) (n + 120) := by
  unfold pledgeR pledgeM
  rw [h.r0.2.2.1]
  cases c : okB p (st.1 2) with
  | false => rw [if_neg (by decide), if_neg (by decide)]; exact sOk.ans fun q => by cases q
  | true =>
    have hp := okB_lt c
    rw [if_pos rfl, if_pos rfl]
    by_cases d : 1 ≤ ix x ∧ ix x ≤ 10
    · rw [if_pos d, if_pos d]
      exact sOk.chg (by rw [(h.rp _ hp).1]) ((h.pledge hp d.2).mono (by omega) hn)
    · rw [if_neg d, if_neg d]
      exact sOk.ans fun q => by cases q
theorem s_repair (h : NV st A n) (hn : n + 120 < 2 ^ 23) (p f : Int32) : sOk (repairR st p f) (repairM A p f) (n + 120) := by
  unfold repairR repairM
  rw [h.okP]
  cases c : okPF st p f with
  | false => rw [if_neg (by decide), if_neg (by decide)]; exact sOk.ans fun q => by cases q
  | true =>
    obtain ⟨hp, hf⟩ := PF_lt c
    have hN := h.N10
    have hK := h.K12
    have hz := h.nz hp hf
    have hd := h.2.2.1 (ix p) (ix f) (by omega) (by omega)
    rw [if_pos rfl, if_pos rfl]
    cases hh : hasB st (ix p) (ix f) with
    | false => rw [if_neg (by decide), if_pos (hz.mpr hh)]; exact sOk.ans fun _ => rfl
    | true =>
      have hne : ¬ rC A (ix p) (ix f) = 0 := fun q => by rw [hz.mp q] at hh; cases hh
      rw [if_pos rfl, if_neg hne, h.brk hp hf, h.src hp hf]
      cases h1 : heldB st (ix p) (ix f) with
      | true =>
        rw [h1, Bool.true_and] at hd
        rw [if_pos rfl, hd, if_pos rfl]
        exact sOk.ans fun _ => rfl
      | false =>
        have hb := hh
        unfold hasB at hb
        rw [h1, Bool.false_or] at hb
        rw [if_neg (show ¬ false = true by decide), hb, if_neg (show ¬ true = false by decide)]
        by_cases e : srcV st (ix p) (ix f) = 0
        · rw [if_pos e, if_pos e]; exact sOk.ans fun _ => rfl
        · rw [if_neg e, if_neg e]
          refine sOk.chg rfl ?_
          have hg := h.gets hp hf e
          have hlt := mGets_lt A (ix p) (ix f)
          have hA3 : A 3 ≤ n := h.k.2.2 3 (by decide)
          have hrk : rK (reA A (ix p) (ix f)) (n + 120) := ((h.k.upC (p := ix p) (f := ix f) (x := mGets A (ix p) (ix f)) (by omega) (by omega) (by omega)).mono (by omega) hn).up (by show _ ≤ n + 120; omega) (by omega)
          refine h.mend hp hf hh hrk (fun k hk => ?_) ?_
          · unfold reA
            rw [va_up_ne _ _ hk, hg]
          · unfold reA
            rw [va_upE, h.r0.2.2.2.1]
/-! harm -/
theorem mAll_sum {A : Nat → Nat} {k : Nat} (hN : A 1 ≤ 10) : mAll A k = fb_sm (fun p => fb_ct (fun f => cSort (rC A p f) k) (A 1)) (A 2) := by
  unfold mAll
  refine fb_sm_cong fun p _ => ?_
  rw [popc_of (n := A 1) (show mHold A p k < 2 ^ A 1 from hoS_lt A p k _) (by omega)]
  refine fb_ct_cong fun f hf => ?_
  rw [mHold_bit, decide_eq_true hf, Bool.true_and]
theorem haA_at {A : Nat → Nat} {f t p g : Nat} (hf : f < 10) (hg : g < 10) : ∀ m, rC (haA A f t m) p g = if p < m ∧ g = f ∧ rC A p f ≠ 0 then rC A p f ||| t else rC A p g := by
  intro m
  induction m with
  | zero => rw [if_neg (by omega)]; rfl
  | succ m ih =>
    have hm : rC (haA A f t m) m f = rC A m f := by
      have key : ∀ r, r ≤ m → rC (haA A f t r) m f = rC A m f := by
        intro r
        induction r with
        | zero => intro _; rfl
        | succ r ihr =>
          intro hr
          rw [haA]
          split
          · exact ihr (by omega)
          · rw [rC_put hf hf, if_neg (by omega)]; exact ihr (by omega)
      exact key m (Nat.le_refl _)
    rw [haA, hm]
    by_cases c : rC A m f = 0
    · rw [if_pos c, ih]
      by_cases d : p < m ∧ g = f ∧ rC A p f ≠ 0
      · rw [if_pos d, if_pos ⟨by omega, d.2⟩]
      · rw [if_neg d, if_neg (fun q => d ⟨by
          have : p ≠ m := fun e => by rw [e] at q; exact q.2.2 c
          omega, q.2⟩)]
    · rw [if_neg c, rC_put hf hg]
      by_cases e : p = m ∧ g = f
      · rw [if_pos e, if_pos ⟨by omega, e.2, by rw [e.1]; exact c⟩, e.1]
      · rw [if_neg e, ih]
        by_cases d : p < m ∧ g = f ∧ rC A p f ≠ 0
        · rw [if_pos d, if_pos ⟨by omega, d.2⟩]
        · rw [if_neg d, if_neg (fun q => d ⟨by
            have : p ≠ m := fun z => e ⟨z, q.2.1⟩
            omega, q.2⟩)]
theorem s_harm (h : NV st A n) (hn : n + 120 < 2 ^ 23) (f t : Int32) : sOk (harmR st f t) (harmM A f t) (n + 120) := by
  unfold harmR harmM harmOk
  have hN := h.N10
  have hK := h.K12
  rw [h.r0.2.1, h.r0.1, h.r0.2.2.1]
  have hpos : 0 < 2 ^ st.1 0 := Nat.two_pow_pos _
  have hT := h.ok.1
  unfold aT at hT
  have hT2 : 2 ^ st.1 0 ≤ 65536 := pow_le2 (a := st.1 0) (b := 16) hT.2
  cases c : okB f (st.1 1) with
  | false => rw [if_neg (by decide), if_neg (by decide)]; exact sOk.ans fun q => by cases q
  | true =>
    have hf := okB_lt c
    rw [if_pos rfl, if_pos rfl]
    by_cases d : 1 ≤ ix t ∧ ix t ≤ 2 ^ st.1 0 - 1
    · rw [if_pos d, if_pos (by rw [decide_eq_true (show 0 < ix t by omega), decide_eq_true (show ix t < 2 ^ st.1 0 by omega)]; rfl)]
      have k := h.spoil hf (show ix t < 2 ^ st.1 0 by omega) _ (Nat.le_refl _)
      refine sOk.chg ?_ (k.mono (by omega) hn)
      have u1 := h.uns
      have u2 := k.uns
      have s1 : (spoilS st (ix f) (ix t) (st.1 2)).1 = st.1 := spoilS_1 _
      have e1 : mAll (haA A (ix f) (ix t) (st.1 2)) 1 = mAll A 1 := by
        rw [k.all1, h.all1]
        unfold heldV
        rw [s1, spoilS_ne (by decide)]
      have e3 : mAll (haA A (ix f) (ix t) (st.1 2)) 3 + mCop A (ix f) 3 = mAll A 3 := by
        have l1 : haA A (ix f) (ix t) (st.1 2) 1 = A 1 := haA_lo (by decide) _
        have l2 : haA A (ix f) (ix t) (st.1 2) 2 = A 2 := haA_lo (by decide) _
        have a1 := h.r0.2.1
        have a2 := h.r0.2.2.1
        rw [mAll_sum (by rw [l1]; omega), mAll_sum (by omega), l1, l2]
        have ec : mCop A (ix f) 3 = fb_sm (fun p => (cSnd (rC A p (ix f))).toNat) (A 2) := by
          unfold mCop
          have key : ∀ m, fb_ct (fun p => cSort (rC A p (ix f)) 3) m = fb_sm (fun p => (cSnd (rC A p (ix f))).toNat) m := by
            intro m
            induction m with
            | zero => rfl
            | succ m ih =>
              rw [fb_ct_succ, fb_sm_succ, ih]
              congr 1
              show (if cSnd (rC A m (ix f)) = true then 1 else 0) = _
              cases cSnd (rC A m (ix f)) <;> rfl
          exact key _
        rw [ec]
        refine fb_sm_add9 fun p hp => ?_
        have hp2 : p < st.1 2 := by omega
        have k1 := fb_ct_upd (fun g => cSort (rC A p g) 3) false (show ix f < A 1 by omega)
        have k2 : fb_ct (fun k => if k = ix f then false else (fun g => cSort (rC A p g) 3) k) (A 1) = fb_ct (fun g => cSort (rC (haA A (ix f) (ix t) (st.1 2)) p g) 3) (A 1) := fb_ct_cong fun g hg => by
          rw [haA_at (by omega) (by omega)]
          by_cases e : g = ix f
          · rw [if_pos e]
            subst e
            show false = cSnd _
            by_cases z : rC A p (ix f) = 0
            · rw [if_neg (fun q => q.2.2 z), z]
              rfl
            · rw [if_pos ⟨hp2, rfl, z⟩]
              have hh : hasB st p (ix f) = true := by
                cases hh : hasB st p (ix f) with
                | true => rfl
                | false => exact absurd ((h.nz hp2 hf).mpr hh) z
              rw [h.rc p _ hp2 hf, cp_or (h.sp hp2 hf) (by omega) hh, cp_snd]
              have : ¬ (st.2.2 8 (10 * p + ix f) ||| ix t) = 0 := fun q => by
                have : ix t ≤ st.2.2 8 (10 * p + ix f) ||| ix t := Nat.right_le_or
                omega
              rw [beq_eq_false_iff_ne.mpr this, Bool.and_false]
          · rw [if_neg e, if_neg (fun q => e q.2.1)]
        rw [k2] at k1
        have e9 : ∀ b : Bool, (if b = true then 1 else 0) = b.toNat := fun b => by cases b <;> rfl
        have e10 : cSort (rC A p (ix f)) 3 = cSnd (rC A p (ix f)) := rfl
        rw [e9, e9, e10] at k1
        simpa using k1
      have le31 := mAll_31 A
      have le31' := mAll_31 (haA A (ix f) (ix t) (st.1 2))
      rw [pk_sub (by omega)]
      congr 1
      omega
    · rw [if_neg d, if_neg (by
        intro q
        rw [Bool.and_eq_true, decide_eq_true_eq, decide_eq_true_eq] at q
        omega)]
      exact sOk.ans fun q => by cases q
/-! reach -/
def sbs (P Q : Nat) : Prop := ∀ i, P.testBit i = true → Q.testBit i = true
theorem sbs_eq {P Q : Nat} (h1 : sbs P Q) (h2 : sbs Q P) : P = Q := Nat.eq_of_testBit_eq fun i => by
  cases h : P.testBit i with
  | true => exact (h1 i h).symm
  | false =>
    cases h' : Q.testBit i with
    | false => rfl
    | true => rw [h2 i h'] at h; cases h
theorem sbs_or {P Q X : Nat} (h1 : sbs P X) (h2 : sbs Q X) : sbs (P ||| Q) X := fun i h => by
  rw [Nat.testBit_or, Bool.or_eq_true] at h
  rcases h with h | h
  · exact h1 i h
  · exact h2 i h
theorem sbs_l (P Q : Nat) : sbs P (P ||| Q) := fun i h => by rw [Nat.testBit_or, h]; rfl
theorem sbs_r (P Q : Nat) : sbs Q (P ||| Q) := fun i h => by rw [Nat.testBit_or, h, Bool.or_true]
/-- closed under neighbours -/
def clo (st : Ar) (X : Nat) : Prop := ∀ f, f < st.1 1 → X.testBit f = true → sbs (st.2.2 1 f) X
theorem rin_up {st : Ar} {s : Nat} : ∀ m k, k ≤ m → sbs (rin st s k) (rin st s m) := by
  intro m
  induction m with
  | zero => intro k hk; have : k = 0 := by omega
            subst this; exact fun _ h => h
  | succ m ih =>
    intro k hk
    by_cases e : k = m + 1
    · subst e; exact fun _ h => h
    · intro i h
      have := ih k (by omega) i h
      rw [rin]
      split
      · exact sbs_l _ _ i this
      · exact this
theorem rin_in {st : Ar} {s X : Nat} (hX : clo st X) (hs : sbs s X) : ∀ m, m ≤ st.1 1 → sbs (rin st s m) X := by
  intro m
  induction m with
  | zero => intro _; exact hs
  | succ m ih =>
    intro hm
    have ih := ih (by omega)
    rw [rin]
    split
    · rename_i c
      exact sbs_or ih (hX m (by omega) (ih m c))
    · exact ih
theorem rin_fix {st : Ar} {s : Nat} (h : rin st s (st.1 1) = s) : clo st s := by
  intro f hf hb i hi
  have h1 : (rin st s f).testBit f = true := rin_up f 0 (Nat.zero_le _) f hb
  have h2 : sbs (rin st s (f + 1)) s := by
    have := rin_up (st := st) (s := s) (st.1 1) (f + 1) (by omega)
    rw [h] at this
    exact this
  refine h2 i ?_
  rw [rin, if_pos h1]
  exact sbs_r _ _ i hi
theorem popc_lt {P Q : Nat} (h : sbs P Q) (hne : P ≠ Q) (hQ : Q < 2 ^ 32) : popc P < popc Q := by
  have hex : ∃ i, Q.testBit i = true ∧ P.testBit i = false := by
    refine Classical.byContradiction fun q => hne (sbs_eq h fun i hi => ?_)
    cases hp : P.testBit i with
    | true => rfl
    | false => exact absurd ⟨i, hi, hp⟩ q
  obtain ⟨i, h1, h2⟩ := hex
  have hi : i < 32 := by
    rcases Nat.lt_or_ge i 32 with z | z
    · exact z
    · rw [Nat.testBit_lt_two_pow (Nat.lt_of_lt_of_le hQ (Nat.pow_le_pow_right (by decide) z))] at h1
      cases h1
  unfold popc
  have k1 := fb_ct_upd (fun k => P.testBit k) true hi
  rw [h2] at k1
  have k2 : fb_ct (fun k => if k = i then true else P.testBit k) 32 ≤ fb_ct (fun k => Q.testBit k) 32 := fb_ct_sub fun k _ hk => by
    by_cases e : k = i
    · rw [e]; exact h1
    · rw [if_neg e] at hk; exact h k hk
  have k3 : fb_ct (fun k => if k = i then true else P.testBit k) 32 = fb_ct (fun k => P.testBit k) 32 + 1 := k1
  omega
theorem rAll_clo {st : Ar} (hw : aOk st) {s : Nat} (hs : s < 1024) : clo st (rAll st s 10) ∧ sbs s (rAll st s 10) ∧ ∀ X, clo st X → sbs s X → sbs (rAll st s 10) X := by
  have up : ∀ k, sbs (rAll st s k) (rAll st s (k + 1)) := fun k => rin_up (st.1 1) 0 (Nat.zero_le _)
  have lt : ∀ k, rAll st s k < 1024 := rAll_lt hw hs
  have p0 : ∀ k, popc (rAll st s k) ≤ 10 := fun k => popc_le (n := 10) (lt k) (by decide)
  have sub0 : ∀ k, sbs s (rAll st s k) := by
    intro k
    induction k with
    | zero => exact fun _ h => h
    | succ k ih => exact fun i h => up k i (ih i h)
  refine ⟨?_, sub0 10, fun X hX hsX => ?_⟩
  · by_cases hz : s = 0
    · have all0 : ∀ m, rin st 0 m = 0 := by
        intro m
        induction m with
        | zero => rfl
        | succ m ih => rw [rin, ih, Nat.zero_testBit, if_neg (by decide)]
      have a0 : ∀ k, rAll st 0 k = 0 := by
        intro k
        induction k with
        | zero => rfl
        | succ k ih => rw [rAll, ih, all0]
      rw [hz, a0]
      intro f _ hb
      rw [Nat.zero_testBit] at hb
      cases hb
    · have p1 : 1 ≤ popc (rAll st s 0) := by
        obtain ⟨j, hj⟩ := Nat.exists_testBit_of_ne_zero hz
        have hj2 : j < 32 := by
          rcases Nat.lt_or_ge j 32 with z | z
          · exact z
          · rw [Nat.testBit_lt_two_pow (Nat.lt_of_lt_of_le hs (Nat.le_trans (show 1024 ≤ 2 ^ 32 by decide) (Nat.pow_le_pow_right (by decide) z)))] at hj
            cases hj
        exact fb_ct_pos.mpr ⟨j, hj2, hj⟩
      have key : ∀ k, k ≤ 10 → (∃ j, j < k ∧ rAll st s (j + 1) = rAll st s j) ∨ k + 1 ≤ popc (rAll st s k) := by
        intro k
        induction k with
        | zero => intro _; exact Or.inr p1
        | succ k ih =>
          intro hk
          rcases ih (by omega) with ⟨j, h1, h2⟩ | h1
          · exact Or.inl ⟨j, by omega, h2⟩
          · by_cases e : rAll st s (k + 1) = rAll st s k
            · exact Or.inl ⟨k, by omega, e⟩
            · right
              have := popc_lt (up k) (fun q => e q.symm) (Nat.lt_trans (lt (k + 1)) (by decide))
              omega
      rcases key 10 (Nat.le_refl _) with ⟨j, h1, h2⟩ | h1
      · have stay : ∀ d, rAll st s (j + d) = rAll st s j := by
          intro d
          induction d with
          | zero => rfl
          | succ d ih =>
            show rin st (rAll st s (j + d)) (st.1 1) = _
            rw [ih]
            exact h2
        have e10 : rAll st s 10 = rAll st s j := by
          have := stay (10 - j)
          rw [show j + (10 - j) = 10 by omega] at this
          exact this
        rw [e10]
        exact rin_fix h2
      · have := p0 10
        omega
  · have key : ∀ k, sbs (rAll st s k) X := by
      intro k
      induction k with
      | zero => exact hsX
      | succ k ih => exact rin_in hX ih _ (Nat.le_refl _)
    exact key 10
theorem NV.reI_up {A : Nat → Nat} {was set : Nat} : ∀ m k, k ≤ m → sbs (reI A was set k) (reI A was set m) := by
  intro m
  induction m with
  | zero => intro k hk; have : k = 0 := by omega
            subst this; exact fun _ h => h
  | succ m ih =>
    intro k hk
    by_cases e : k = m + 1
    · subst e; exact fun _ h => h
    · intro i h
      have := ih k (by omega) i h
      rw [reI]
      split
      · exact sbs_l _ _ i this
      · exact this
theorem NV.reach (h : NV st A n) {s : Nat} (hs : s < 1024) : reF A 1024 0 s = rAll st s 10 := by
  obtain ⟨c1, c2, c3⟩ := rAll_clo h.ok hs
  have eN := h.r0.2.1
  have hw := h.k.ok
  have inI : ∀ (was set X : Nat), clo st X → sbs was X → sbs set X → ∀ m, m ≤ st.1 1 → sbs (reI A was set m) X := by
    intro was set X hX h1 h2 m
    induction m with
    | zero => intro _; exact h2
    | succ m ih =>
      intro hm
      rw [reI]
      split
      · rename_i c
        rw [(h.rf m (by omega)).2.2.2.1]
        exact sbs_or (ih (by omega)) (hX m (by omega) (h1 m c))
      · exact ih (by omega)
  have key : ∀ (f was set : Nat), 1024 ≤ was + f → was ≤ set → set < 1024 → sbs s set → sbs set (rAll st s 10) → ((was = 0 ∧ set = s) ∨ set = reI A was was (A 1)) → reF A f was set = rAll st s 10 := by
    intro f
    induction f with
    | zero => intro was set h1 h2 h3 _ _ _; omega
    | succ f ih =>
      intro was set h1 h2 h3 h4 h5 h6
      rw [reF]
      by_cases e : was = set
      · rw [if_pos e]
        have hc : clo st set := by
          rcases h6 with ⟨z1, z2⟩ | z
          · intro f' _ hb
            rw [← e, z1, Nat.zero_testBit] at hb
            cases hb
          · rw [← e]
            rw [← e] at z
            intro f' hf hb i hi
            have hz : sbs (reI A was was (f' + 1)) was := by
              have := NV.reI_up (A := A) (was := was) (set := was) (A 1) (f' + 1) (by omega)
              rw [← z] at this
              exact this
            refine hz i ?_
            rw [reI, if_pos hb, (h.rf f' hf).2.2.2.1]
            exact sbs_r _ _ i hi
        exact sbs_eq h5 (c3 set hc h4)
      · rw [if_neg e]
        have hg := reI_ge (A := A) (was := set) (set := set) (A 1)
        have hN := h.N10
        refine ih set _ (by omega) hg (reI_lt hw h3 _ (by omega)) (fun i q => NV.reI_up (A := A) (was := set) (set := set) (A 1) 0 (Nat.zero_le _) i (h4 i q)) ?_ (Or.inr rfl)
        rw [eN]
        exact inI set set _ c1 h5 h5 _ (Nat.le_refl _)
  exact key 1024 0 s (by omega) (Nat.zero_le _) hs (fun _ q => q) c2 (Or.inl ⟨rfl, rfl⟩)
theorem s_reach (h : NV st A n) (p : Int32) {m : Nat} : sOk (reachR st p) (b01 (okB p (A 2)), if okB p (A 2) = true then nI (popc (reF A 1024 0 (mHold A (ix p) 1))) else 0, none) m := by
  unfold reachR b01
  rw [h.r0.2.2.1]
  cases c : okB p (st.1 2) with
  | false => rw [if_neg (by decide), if_neg (by decide), if_neg (by decide)]; exact sOk.ans (fun q => by cases q)
  | true =>
    have hp := okB_lt c
    have hK := h.K12
    rw [if_pos rfl, if_pos rfl, if_pos rfl, h.hold1 hp, h.reach (h.ok.held (by omega))]
    exact sOk.ans fun _ => rfl
end R8
