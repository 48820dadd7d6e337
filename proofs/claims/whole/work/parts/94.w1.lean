/-! ===== the world of a VillagePhotos and the model: the same ===== -/
def rLV (st : Ar) (A : Nat → Nat) (n : Nat) : Prop := NV st A n ∧ 2 ≤ st.1 1
/-- where the i-th that is kept lies, the oldest first -/
def slF (nx sz i : Nat) : Nat := (nx + 8 - sz + i) % 8
def rHS (w : Wd) (s : Mo) (n : Nat) : Prop := (hisOk w ∧ s.2.1 0 = w.2.1.2) ∧ ∀ i, i < w.2.1.2 → (∃ x, wD w (slF w.2.1.1 w.2.1.2 i) = some x) ∧ rLV (wS w (slF w.2.1.1 w.2.1.2 i)) (fun k => s.1 3 (353 * i + k)) n
def rSV (w : Wd) (s : Mo) (n : Nat) : Prop := ∀ i, i < 2 → (wD w (8 + i)).isSome = s.2.2.2.1 i ∧ (s.2.2.2.1 i = true → rLV (wS w (8 + i)) (fun k => s.1 4 (353 * i + k)) n)
def rRD (w : Wd) (s : Mo) : Prop := rdOk w ∧ s.1 5 = w.2.2.2.1.1 ∧ s.2.1 2 = w.2.2.2.1.2.1.1 ∧ s.2.2.1 1 = w.2.2.2.1.2.1.2.2
def rWR (w : Wd) (s : Mo) : Prop := w.2.2.2.2.2.length ≤ 1332 ∧ s.2.1 11 = w.2.2.2.2.2.length ∧ ∀ k, k < w.2.2.2.2.2.length → s.1 7 k = w.2.2.2.2.2.getD k 0
def rWM (w : Wd) (s : Mo) (n : Nat) : Prop := rLV w.1.1 (s.1 0) n ∧ rHS w s n ∧ rSV w s n ∧ rRD w s ∧ rWR w s
section W1
variable {w w' w1 : Wd} {s s' K : Mo} {st P : Ar} {A B : Nat → Nat} {n m : Nat}
theorem rLV.mono (h : rLV st A n) (hm : n ≤ m) (h2 : m < 2 ^ 23) : rLV st A m := ⟨h.1.mono hm h2, h.2⟩
theorem rLV.cong (h : rLV st A n) (he : ∀ k, k < 353 → B k = A k) : rLV st B n := ⟨h.1.cong he, h.2⟩
theorem rHS.mono (h : rHS w s n) (hm : n ≤ m) (h2 : m < 2 ^ 23) : rHS w s m := ⟨h.1, fun i hi => ⟨(h.2 i hi).1, (h.2 i hi).2.mono hm h2⟩⟩
theorem rSV.mono (h : rSV w s n) (hm : n ≤ m) (h2 : m < 2 ^ 23) : rSV w s m := fun i hi => ⟨(h i hi).1, fun q => ((h i hi).2 q).mono hm h2⟩
theorem rWM.mono (h : rWM w s n) (hm : n ≤ m) (h2 : m < 2 ^ 23) : rWM w s m := ⟨h.1.mono hm h2, h.2.1.mono hm h2, h.2.2.1.mono hm h2, h.2.2.2⟩
theorem rHS.cong (h : rHS w s n) (e1 : w'.2.1 = w.2.1) (e2 : w'.2.2.1 = w.2.2.1) (e3 : s'.2.1 0 = s.2.1 0) (e4 : s'.1 3 = s.1 3) : rHS w' s' n := by
  obtain ⟨⟨h1, h2⟩, h3⟩ := h
  refine ⟨⟨by unfold hisOk; rw [e1]; exact h1, by rw [e3, e1]; exact h2⟩, fun i hi => ?_⟩
  rw [e1] at hi ⊢
  have d1 : wD w' = wD w := congrArg Prod.fst e2
  have d2 : wS w' = wS w := congrArg Prod.snd e2
  rw [d1, d2, e4]
  exact h3 i hi
theorem rSV.cong (h : rSV w s n) (e2 : w'.2.2.1 = w.2.2.1) (e3 : s'.2.2.2.1 = s.2.2.2.1) (e4 : s'.1 4 = s.1 4) : rSV w' s' n := fun i hi => by
  have d1 : wD w' = wD w := congrArg Prod.fst e2
  have d2 : wS w' = wS w := congrArg Prod.snd e2
  rw [d1, d2, e3, e4]
  exact h i hi
theorem rRD.cong (h : rRD w s) (e1 : w'.2.2.2.1 = w.2.2.2.1) (e2 : s'.1 5 = s.1 5) (e3 : s'.2.1 2 = s.2.1 2) (e4 : s'.2.2.1 1 = s.2.2.1 1) : rRD w' s' := by
  obtain ⟨h1, h2, h3, h4⟩ := h
  unfold rRD rdOk at *
  rw [e1, e2, e3, e4]
  exact ⟨h1, h2, h3, h4⟩
theorem rWR.cong (h : rWR w s) (e1 : w'.2.2.2.2.2 = w.2.2.2.2.2) (e2 : s'.1 7 = s.1 7) (e3 : s'.2.1 11 = s.2.1 11) : rWR w' s' := by
  unfold rWR at *
  rw [e1, e2, e3]
  exact h
theorem rWM.same (h : rWM w s n) (hw : wSame w w') (hs : mSame s s') : rWM w' s' n := by
  obtain ⟨w1, w2⟩ := hw
  obtain ⟨a0, a1, a2, a3, a4, a5, a6, a7, a8, a9⟩ := hs
  obtain ⟨b1, b2, b3, b4, b5⟩ := h
  refine ⟨?_, b2.cong (by rw [w2]) (by rw [w2]) a5 a1, b3.cong (by rw [w2]) a9 a2, b4.cong (by rw [w2]) a3 a6 a8, b5.cong (by rw [w2]) a4 a7⟩
  rw [w1]
  exact b1.cong a0
theorem rWM.thr (h : rWM w s n) (k : Nat) : rWM w (mN s 1 k) n := h.same (wSame.rf w) mSame.th
theorem kp2_3 {j : Nat} (S : Mo) : (kp2 S j).1 3 = cpT (S.1 3) (S.1 j) (353 * S.2.1 0) 0 353 := by
  have e : ∀ (T : Mo) (F : Nat → Nat) (x : Nat), (mN (mR T 3 F) 0 x).1 3 = F := fun T F x => by show va_up T.1 3 F 3 = F; rw [va_upE]
  exact e _ _ _
theorem kr_3 (T : Mo) (F : Nat → Nat) (x : Nat) : (mN (mR T 3 F) 0 x).1 3 = F := by show va_up T.1 3 F 3 = F; rw [va_upE]
theorem kr_j (T : Mo) (F : Nat → Nat) (x : Nat) {j : Nat} (hj : j ≠ 3) : (mN (mR T 3 F) 0 x).1 j = T.1 j := by show va_up T.1 3 F j = _; rw [va_up_ne _ _ hj]
theorem kr_0 (T : Mo) (F : Nat → Nat) (x : Nat) : (mN (mR T 3 F) 0 x).2.1 0 = x := by show va_up T.2.1 0 x 0 = x; rw [va_upE]
/-- the present one is kept -/
theorem rHS.kp {j : Nat} (h : rHS w s n) (hl : rLV w.1.1 (s.1 j) n) (hj : j ≠ 3) (hk : kpW w w1) (e1 : K.1 3 = (kpM s j).1 3) (e2 : K.2.1 0 = (kpM s j).2.1 0) : rHS w1 K n := by
  obtain ⟨⟨⟨h1, h2⟩, h3⟩, h4⟩ := h
  obtain ⟨k1, k2, ⟨x, k3⟩, k4, k5⟩ := hk
  have m1 : w1.2.1.1 = (w.2.1.1 + 1) % 8 := congrArg Prod.fst k2
  have m2 : w1.2.1.2 = min (w.2.1.2 + 1) 8 := congrArg Prod.snd k2
  unfold rHS hisOk
  rw [e1, e2, m1, m2]
  by_cases c : s.2.1 0 = 8
  · have z : min (w.2.1.2 + 1) 8 = 8 := by omega
    rw [z]
    have eK : kpM s j = kp2 (mN (mR s 3 (shF (s.1 3) 2471)) 0 7) j := by unfold kpM kp1; rw [if_pos c]
    rw [eK]
    refine ⟨⟨⟨Nat.mod_lt _ (by decide), Nat.le_refl _⟩, rfl⟩, fun i hi => ?_⟩
    have row : ∀ k, (kp2 (mN (mR s 3 (shF (s.1 3) 2471)) 0 7) j).1 3 k = cpT (shF (s.1 3) 2471) (s.1 j) (353 * 7) 0 353 k := fun k => by
      rw [kp2_3, kr_3, kr_j _ _ _ hj, kr_0]
    by_cases e : i = 7
    · have es : slF ((w.2.1.1 + 1) % 8) 8 i = w.2.1.1 := by unfold slF; omega
      rw [es, k3, k4, va_upE, va_upE]
      refine ⟨⟨x, rfl⟩, hl.cong fun k hk => ?_⟩
      rw [row]
      unfold cpT
      rw [if_pos (by omega)]
      exact congrArg _ (by omega)
    · have es : slF ((w.2.1.1 + 1) % 8) 8 i = slF w.2.1.1 w.2.1.2 (i + 1) := by unfold slF; omega
      have en : slF w.2.1.1 w.2.1.2 (i + 1) ≠ w.2.1.1 := by unfold slF; omega
      rw [es, k3, k4, va_up_ne _ _ en, va_up_ne _ _ en]
      have hh := h4 (i + 1) (by omega)
      refine ⟨hh.1, hh.2.cong fun k hk => ?_⟩
      rw [row]
      unfold cpT
      rw [if_neg (by omega)]
      unfold shF
      rw [if_pos (by omega)]
      exact congrArg _ (by omega)
  · have z : min (w.2.1.2 + 1) 8 = w.2.1.2 + 1 := by omega
    rw [z]
    have eK : kpM s j = kp2 s j := by unfold kpM kp1; rw [if_neg c]
    rw [eK]
    refine ⟨⟨⟨Nat.mod_lt _ (by decide), by omega⟩, by show s.2.1 0 + 1 = _; omega⟩, fun i hi => ?_⟩
    have row : ∀ k, (kp2 s j).1 3 k = cpT (s.1 3) (s.1 j) (353 * w.2.1.2) 0 353 k := fun k => by rw [kp2_3, h3]
    by_cases e : i = w.2.1.2
    · have es : slF ((w.2.1.1 + 1) % 8) (w.2.1.2 + 1) i = w.2.1.1 := by unfold slF; omega
      rw [es, k3, k4, va_upE, va_upE]
      refine ⟨⟨x, rfl⟩, hl.cong fun k hk => ?_⟩
      rw [row, e]
      unfold cpT
      rw [if_pos (by omega)]
      exact congrArg _ (by omega)
    · have es : slF ((w.2.1.1 + 1) % 8) (w.2.1.2 + 1) i = slF w.2.1.1 w.2.1.2 i := by unfold slF; omega
      have en : slF w.2.1.1 w.2.1.2 i ≠ w.2.1.1 := by unfold slF; omega
      rw [es, k3, k4, va_up_ne _ _ en, va_up_ne _ _ en]
      have hh := h4 i (by omega)
      refine ⟨hh.1, hh.2.cong fun k hk => ?_⟩
      rw [row]
      unfold cpT
      rw [if_neg (by omega)]
theorem rSV.kp (h : rSV w s n) (hn : w.2.1.1 < 8) (hk : kpW w w1) (e1 : K.1 4 = s.1 4) (e2 : K.2.2.2.1 = s.2.2.2.1) : rSV w1 K n := fun i hi => by
  obtain ⟨k1, k2, ⟨x, k3⟩, k4, k5⟩ := hk
  rw [k3, k4, e1, e2, va_up_ne _ _ (by omega), va_up_ne _ _ (by omega)]
  exact h i hi
/-- a change -/
theorem rWM.kp (h : rWM w s n) (hk : kpP w P w') (hs : kFrm s K) (hl : rLV P (K.1 0) m) (hm : n ≤ m) (h2 : m < 2 ^ 23) : rWM w' K m := by
  obtain ⟨w1, hk, rfl⟩ := hk
  obtain ⟨b1, b2, b3, b4, b5⟩ := h.mono hm h2
  obtain ⟨a0, a1, a2, a3, a4, a5, a6, a7, a8, a9⟩ := hs
  have eq := hk.2.2.2.2
  refine ⟨hl, (b2.kp b1 (by decide) hk a0 a1).cong rfl rfl rfl rfl, (b3.kp b2.1.1.1 hk a2 a8).cong rfl rfl rfl, b4.cong (by rw [show (sP w1 P).2.2.2 = w1.2.2.2 from rfl, eq]) a3 a5 a7, b5.cong (by rw [show (sP w1 P).2.2.2 = w1.2.2.2 from rfl, eq]) a4 a6⟩
/-- an asking that the two answer alike -/
theorem rWM.op {R : Rs} {M : Ms} (h : rWM w s n) (hR : sOk R M m) (hf : ∀ Q, R.2.2 = some Q → 2 ≤ Q.1 1) (hm : n ≤ m) (h2 : m < 2 ^ 23) (hw : wBy w R.2.2 w') (hs : mBy s s' M.2.2) : rWM w' s' m := by
  rcases hR.2.2 with ⟨e1, e2⟩ | ⟨Q, B, e1, e2, e3⟩
  · rw [e1] at hw
    rw [e2] at hs
    exact (h.mono hm h2).same hw hs
  · rw [e1] at hw
    rw [e2] at hs
    obtain ⟨s0, s1⟩ := hs
    exact h.kp hw s1 ⟨by rw [s0]; exact e3, hf Q e1⟩ hm h2
theorem rWM.hisAt (h : rWM w s n) : hisAt w := fun q => by
  obtain ⟨⟨h1, h2⟩, h3⟩ := h.2.1
  have hn := h1.1
  have h8 := h1.2
  have := (h3 (w.2.1.2 - 1) (by omega)).1
  rw [show slF w.2.1.1 w.2.1.2 (w.2.1.2 - 1) = (w.2.1.1 + 8 - 1) % 8 by unfold slF; omega] at this
  exact this
theorem rWM.undo (h : rWM w s n) (hq : 0 < w.2.1.2) : rWM (undoW w) (unM s) n := by
  obtain ⟨b1, ⟨⟨h1, h2⟩, h3⟩, b3, b4, b5⟩ := h
  have hn := h1.1
  have h8 := h1.2
  have eU : unM s = mR (mN (mN s 1 0) 0 (s.2.1 0 - 1)) 0 (cpT (s.1 0) (s.1 3) 0 (353 * (s.2.1 0 - 1)) 353) := by unfold unM; rw [if_neg (by omega)]
  rw [eU]
  refine ⟨?_, ⟨⟨⟨Nat.mod_lt _ (by decide), by show w.2.1.2 - 1 ≤ 8; omega⟩, by show s.2.1 0 - 1 = w.2.1.2 - 1; rw [h2]⟩, fun i hi => ?_⟩, b3.cong rfl rfl rfl, b4.cong rfl rfl rfl rfl, b5.cong rfl rfl rfl⟩
  · have hh := (h3 (w.2.1.2 - 1) (by omega)).2
    rw [show slF w.2.1.1 w.2.1.2 (w.2.1.2 - 1) = (w.2.1.1 + 8 - 1) % 8 by unfold slF; omega] at hh
    refine hh.cong fun k hk => ?_
    show cpT (s.1 0) (s.1 3) 0 (353 * (s.2.1 0 - 1)) 353 k = _
    unfold cpT
    rw [if_pos (by omega), h2]
    exact congrArg (s.1 3) (by omega)
  · have hi : i < w.2.1.2 - 1 := hi
    show (∃ x, wD w (slF ((w.2.1.1 + 8 - 1) % 8) (w.2.1.2 - 1) i) = some x) ∧ rLV (wS w (slF ((w.2.1.1 + 8 - 1) % 8) (w.2.1.2 - 1) i)) (fun k => s.1 3 (353 * i + k)) n
    rw [show slF ((w.2.1.1 + 8 - 1) % 8) (w.2.1.2 - 1) i = slF w.2.1.1 w.2.1.2 i by unfold slF; omega]
    exact h3 i (by omega)
theorem rWM.save {i : Nat} (h : rWM w s n) (hi : i < 2) (hk : svW w i w') : rWM w' (svM (mN s 1 0) i) n := by
  obtain ⟨b1, ⟨⟨h1, h2⟩, h3⟩, b3, b4, b5⟩ := h
  obtain ⟨k1, k2, ⟨x, k3⟩, k4, k5⟩ := hk
  have hn := h1.1
  have h8 := h1.2
  refine ⟨?_, ⟨⟨?_, ?_⟩, fun j hj => ?_⟩, fun j hj => ?_, b4.cong (by rw [k5]) rfl rfl rfl, b5.cong (by rw [k5]) rfl rfl⟩
  · rw [k1]; exact b1
  · unfold hisOk; rw [k2]; exact h1
  · rw [k2]; exact h2
  · rw [k2] at hj ⊢
    have : slF w.2.1.1 w.2.1.2 j < 8 := Nat.mod_lt _ (by decide)
    rw [k3, k4, va_up_ne _ _ (by omega), va_up_ne _ _ (by omega)]
    exact h3 j hj
  · have e4 : (svM (mN s 1 0) i).1 4 = cpT (s.1 4) (s.1 0) (353 * i) 0 353 := by
      show va_up s.1 4 _ 4 = _
      rw [va_upE]
      rfl
    have e5 : (svM (mN s 1 0) i).2.2.2.1 = va_up s.2.2.2.1 i true := rfl
    rw [k3, k4, e4, e5]
    by_cases e : j = i
    · subst e
      rw [va_upE, va_upE, va_upE]
      refine ⟨rfl, fun _ => b1.cong fun k hk => ?_⟩
      unfold cpT
      rw [if_pos (by omega)]
      exact congrArg _ (by omega)
    · have en : 8 + j ≠ 8 + i := by omega
      rw [va_up_ne _ _ en, va_up_ne _ _ en, va_up_ne _ _ e]
      refine ⟨(b3 j hj).1, fun q => ((b3 j hj).2 q).cong fun k hk => ?_⟩
      unfold cpT
      rw [if_neg (by omega)]
theorem rWM.rest (h : rWM w s n) (a : Int32) : sOk (restoreR w a) (restoreM s a) n ∧ ∀ Q, (restoreR w a).2.2 = some Q → 2 ≤ Q.1 1 := by
  unfold restoreR restoreM
  cases c : okB a 2 with
  | false => exact ⟨sOk.ans (fun q => by cases q), fun Q q => by cases q⟩
  | true =>
    have hi := okB_lt c
    obtain ⟨h1, h2⟩ := h.2.2.1 (ix a) hi
    rw [if_pos rfl, if_pos rfl]
    cases hd : wD w (8 + ix a) with
    | none =>
      rw [hd] at h1
      rw [← h1]
      exact ⟨sOk.ans (fun q => by cases q), fun Q q => by cases q⟩
    | some x =>
      rw [hd] at h1
      have h1 : s.2.2.2.1 (ix a) = true := h1.symm
      have h2 := h2 h1
      rw [h1, if_pos rfl]
      refine ⟨sOk.chg ?_ (h2.1.cong fun k hk => ?_), fun Q q => by cases q; exact h2.2⟩
      · rw [← h2.1.r0.2.1]
      · unfold cpT
        rw [if_pos (by omega)]
        exact congrArg _ (by omega)
end W1
