/-! ===== the model: what must stand ===== -/
def flS (s : Mo) (c : Int32) : Mo := if s.2.2.1 0 = 0 then mN (mZ s 0 c) 7 (s.2.1 3) else s
def nxS (s : Mo) : Mo := if s.2.2.1 0 = 0 then lexS s (s.2.1 4) else s
def muS (r : Bool) (s : Mo) : Mo := nxS (if r = true then s else flS s (-2))
def mnS (s : Mo) : Mo := if s.2.2.1 0 = 0 ∧ (s.2.1 5 ≠ 0 ∨ 8 < s.2.1 4 - s.2.1 3) then flS s (-2) else s
/-- a token that may be looked at -/
def lxOk (s : Mo) : Prop := s.2.1 3 ≤ s.2.1 4 ∧ s.2.1 4 ≤ 600 ∧ s.2.1 5 < 4 ∧ s.2.1 6 ≤ 1000
section M5
variable {g : xG} {l : Launch} {h : xH} {m : Nat} {s : Mo}
theorem c_mFails {c : Int32} : xDet g l mX6_fails 0 0 0 [.ref m, .int c] (putMod h m s) none (putMod h m (flS s c)) := by
  unfold flS
  refine xMet.of (V := [some (.ref m), some (.int c)]) moX6_fails (Nat.le_of_ble_eq_true rfl) rfl ?_
  refine x_aload_n dX6_fails_0 rfl ?_
  refine x_getf dX6_fails_1 f_X6_107 putMod_at.o rfl ?_
  refine x_if_eq 8 dX6_fails_4 (by decide) (fun c1 => ?_) (fun c1 => ?_)
  · rw [if_pos c1]
    refine x_aload_n dX6_fails_8 rfl ?_
    refine x_iload_n dX6_fails_9 rfl ?_
    refine xq_X6_wrong dX6_fails_10 f_X6_107 ?_
    refine x_aload_n dX6_fails_13 rfl ?_
    refine x_aload_n dX6_fails_14 rfl ?_
    refine x_getf dX6_fails_15 f_X6_85 putMod_at.o rfl ?_
    refine xq_X6_wrongAt dX6_fails_18 f_X6_119 ?_
    exact x_vret dX6_fails_21 rfl (by decide) (by decide) rfl (rfl)
  · rw [if_neg c1]
    exact x_vret dX6_fails_7 rfl (by decide) (by decide) rfl (rfl)
theorem c_mMust (hb : bOk s) (hl : s.2.1 4 < 1000) {r : Bool} : xDet g l mX6_must 3 0 0 [.ref m, .int (xb r)] (putMod h m s) none (putMod h m (muS r s)) := by
  unfold muS
  refine xMet.of (V := [some (.ref m), some (.int (xb r))]) moX6_must (Nat.le_of_ble_eq_true rfl) rfl ?_
  have tail : ∀ s1 : Mo, bOk s1 → s1.2.1 4 < 1000 → xP g l mX6_must [] (xR 3 0 0) (xZ g (fun r' h' => r' = none ∧ h' = putMod h m (nxS s1)) xno 0 0) 10 [some (.ref m), some (.int (xb r))] [] (putMod h m s1) 0 0 := by
    intro s1 h1 h2
    unfold nxS
    refine x_aload_n dX6_must_10 rfl ?_
    refine x_getf dX6_must_11 f_X6_107 putMod_at.o rfl ?_
    refine x_if_ne 21 dX6_must_14 (by decide) (fun c1 => ?_) (fun c1 => ?_)
    · rw [if_neg c1]
      exact x_vret dX6_must_21 rfl (by decide) (by decide) rfl (rfl)
    · rw [if_pos c1]
      refine x_aload_n dX6_must_17 rfl ?_
      refine x_vv0 dX6_must_18 cV_X6_126 (c_mNext h1 h2) rfl rfl ⟨⟨by decide, by decide⟩, by decide, by decide⟩ (Nat.le_of_ble_eq_true rfl) (xrecv putMod_at.o rfl xcl5) ?_
      exact x_vret dX6_must_21 rfl (by decide) (by decide) rfl (rfl)
  refine x_iload_n dX6_must_0 rfl ?_
  refine x_if_ne_b 10 dX6_must_1 (by decide) (fun c0 => ?_) (fun c0 => ?_)
  · rw [if_pos c0]
    exact tail s hb hl
  · rw [if_neg (show ¬ r = true by rw [c0]; decide)]
    refine x_aload_n dX6_must_4 rfl ?_
    refine x_bipush (-2) dX6_must_5 (by decide) ?_
    refine x_vv0 dX6_must_7 cV_X6_122 (c_mFails) rfl rfl ⟨⟨by decide, by decide⟩, by decide, by decide⟩ (Nat.le_of_ble_eq_true rfl) (xrecv putMod_at.o rfl xcl5) ?_
    refine tail (flS s (-2)) ?_ ?_
    · unfold flS
      split
      · exact hb
      · exact hb
    · unfold flS
      split
      · exact hl
      · exact hl
theorem c_mMustName (hl : lxOk s) : xDet g l mX6_mustName 1 0 0 [.ref m] (putMod h m s) none (putMod h m (mnS s)) := by
  obtain ⟨h1, h2, h3, -⟩ := hl
  unfold mnS
  refine xMet.of (V := [some (.ref m)]) moX6_mustName (Nat.le_of_ble_eq_true rfl) rfl ?_
  refine x_aload_n dX6_mustName_0 rfl ?_
  refine x_getf dX6_mustName_1 f_X6_107 putMod_at.o rfl ?_
  refine x_if_ne 34 dX6_mustName_4 (by decide) (fun c1 => ?_) (fun c1 => ?_)
  · rw [if_neg (fun q => c1 q.1)]
    exact x_vret dX6_mustName_34 rfl (by decide) (by decide) rfl (rfl)
  · refine x_aload_n dX6_mustName_7 rfl ?_
    refine x_getf dX6_mustName_8 f_X6_91 putMod_at.o rfl ?_
    refine x_if_ne_n 28 dX6_mustName_11 (by decide) (by omega) (fun c2 => ?_) (fun c2 => ?_)
    · rw [if_pos ⟨c1, Or.inl (by omega)⟩]
      refine x_aload_n dX6_mustName_28 rfl ?_
      refine x_bipush (-2) dX6_mustName_29 (by decide) ?_
      refine x_vv0 dX6_mustName_31 cV_X6_122 (c_mFails) rfl rfl ⟨⟨by decide, by decide⟩, by decide, by decide⟩ (Nat.le_of_ble_eq_true rfl) (xrecv putMod_at.o rfl xcl5) ?_
      exact x_vret dX6_mustName_34 rfl (by decide) (by decide) rfl (rfl)
    · refine x_aload_n dX6_mustName_14 rfl ?_
      refine x_getf dX6_mustName_15 f_X6_82 putMod_at.o rfl ?_
      refine x_aload_n dX6_mustName_18 rfl ?_
      refine x_getf dX6_mustName_19 f_X6_85 putMod_at.o rfl ?_
      refine x_isub_n dX6_mustName_22 (by omega) ?_
      refine x_bipush (nI 8) dX6_mustName_23 (by decide) ?_
      refine x_icmp_le_n 34 dX6_mustName_25 (by decide) (by omega) (by omega) (fun c3 => ?_) (fun c3 => ?_)
      · rw [if_neg (by omega)]
        exact x_vret dX6_mustName_34 rfl (by decide) (by decide) rfl (rfl)
      · rw [if_pos ⟨c1, Or.inr (by omega)⟩]
        refine x_aload_n dX6_mustName_28 rfl ?_
        refine x_bipush (-2) dX6_mustName_29 (by decide) ?_
        refine x_vv0 dX6_mustName_31 cV_X6_122 (c_mFails) rfl rfl ⟨⟨by decide, by decide⟩, by decide, by decide⟩ (Nat.le_of_ble_eq_true rfl) (xrecv putMod_at.o rfl xcl5) ?_
        exact x_vret dX6_mustName_34 rfl (by decide) (by decide) rfl (rfl)
def isWB (s : Mo) (W : List Nat) : Bool := decide (s.2.2.1 0 = 0 ∧ s.2.1 5 = 0 ∧ s.2.1 4 - s.2.1 3 = W.length) && mtB (s.1 5) (s.2.1 3) W
theorem c_mIsWord {j : Nat} {W : List Nat} (hW : xWd j W) (hM : ModAt h m s) (hb : bOk s) (hl : lxOk s) : xDet g l mX6_isWord 4 0 0 [.ref m, .ref (gS g j)] h (some (.int (xb (isWB s W)))) h := by
  obtain ⟨q, hq, hqW, hWl, hWc⟩ := hW
  obtain ⟨h1, h2, h3, -⟩ := hl
  have hlen : q.2.2.2.length = W.length := by rw [hqW, List.length_map]
  have hL : ∀ {h' : xH}, xDet g l mJ0_length_8abf5 1 0 0 [.ref (gS g j)] h' (some (.int (nI W.length))) h' := fun {h'} => by rw [← hlen]; exact c_length hq (by rw [hlen]; exact hWl)
  have no : ∀ V, ¬ (s.2.2.1 0 = 0 ∧ s.2.1 5 = 0 ∧ s.2.1 4 - s.2.1 3 = W.length) → xP g l mX6_isWord [] (xR 4 0 0) (xZ g (fun r' h' => r' = some (.int (xb (isWB s W))) ∧ h' = h) xno 0 0) 30 V [] h 0 0 := by
    intro V hc
    have e : isWB s W = false := by unfold isWB; rw [decide_eq_false hc, Bool.false_and]
    rw [e]
    refine x_iconst (nI 0) dX6_isWord_30 (by decide) ?_
    exact x_iret .boolean dX6_isWord_31 rfl rfl (by decide) (by decide) (rfl) (rfl)
  refine xMet.of (V := [some (.ref m), some (.ref (gS g j)), none]) moX6_isWord (Nat.le_of_ble_eq_true rfl) rfl ?_
  refine x_aload_n dX6_isWord_0 rfl ?_
  refine x_getf dX6_isWord_1 f_X6_107 hM.o rfl ?_
  refine x_if_ne 30 dX6_isWord_4 (by decide) (fun c1 => ?_) (fun c1 => ?_)
  · exact no _ (fun q => c1 q.1)
  refine x_aload_n dX6_isWord_7 rfl ?_
  refine x_getf dX6_isWord_8 f_X6_91 hM.o rfl ?_
  refine x_if_ne_n 30 dX6_isWord_11 (by decide) (by omega) (fun c2 => ?_) (fun c2 => ?_)
  · exact no _ (by omega)
  refine x_aload_n dX6_isWord_14 rfl ?_
  refine x_getf dX6_isWord_15 f_X6_82 hM.o rfl ?_
  refine x_aload_n dX6_isWord_18 rfl ?_
  refine x_getf dX6_isWord_19 f_X6_85 hM.o rfl ?_
  refine x_isub_n dX6_isWord_22 (by omega) ?_
  refine x_aload_n dX6_isWord_23 rfl ?_
  refine x_viS0 hq rfl dX6_isWord_24 cV_X6_110 hL rfl rfl ⟨⟨by decide, by decide⟩, by decide, by decide⟩ (Nat.le_of_ble_eq_true rfl) ?_
  refine x_icmp_eq_n 32 dX6_isWord_27 (by decide) (by omega) (by omega) (fun c3 => ?_) (fun c3 => ?_)
  rotate_left
  · exact no _ (by omega)
  have yes : isWB s W = mtB (s.1 5) (s.2.1 3) W := by unfold isWB; rw [decide_eq_true ⟨c1, c2, c3⟩, Bool.true_and]
  rw [yes]
  refine x_iconst (nI 0) dX6_isWord_32 (by decide) ?_
  refine x_istore_n dX6_isWord_33 (by decide) rfl rfl ?_
  have key : ∀ (f k : Nat), f + k = W.length → (∀ i, i < k → s.1 5 (s.2.1 3 + i) = W.getD i 0) → xP g l mX6_isWord [] (xR 4 0 0) (xZ g (fun r' h' => r' = some (.int (xb (mtB (s.1 5) (s.2.1 3) W))) ∧ h' = h) xno 0 0) 34 [some (.ref m), some (.ref (gS g j)), some (.int (nI k))] [] h 0 0 := by
    intro f
    induction f with
    | zero =>
      intro k hf hm
      have hmt : mtB (s.1 5) (s.2.1 3) W = true := by
        unfold mtB
        rw [List.all_eq_true]
        intro i hi
        rw [List.mem_range] at hi
        simpa using hm i (by omega)
      rw [hmt]
      refine x_iload_n dX6_isWord_34 rfl ?_
      refine x_aload_n dX6_isWord_35 rfl ?_
      refine x_viS0 hq rfl dX6_isWord_36 cV_X6_110 hL rfl rfl ⟨⟨by decide, by decide⟩, by decide, by decide⟩ (Nat.le_of_ble_eq_true rfl) ?_
      refine x_icmp_ge_n 69 dX6_isWord_39 (by decide) (by omega) (by omega) (fun c => ?_) (fun c => ?_)
      · refine x_iconst (nI 1) dX6_isWord_69 (by decide) ?_
        exact x_iret .boolean dX6_isWord_70 rfl rfl (by decide) (by decide) (rfl) (rfl)
      · omega
    | succ f ih =>
      intro k hf hm
      refine x_iload_n dX6_isWord_34 rfl ?_
      refine x_aload_n dX6_isWord_35 rfl ?_
      refine x_viS0 hq rfl dX6_isWord_36 cV_X6_110 hL rfl rfl ⟨⟨by decide, by decide⟩, by decide, by decide⟩ (Nat.le_of_ble_eq_true rfl) ?_
      refine x_icmp_ge_n 69 dX6_isWord_39 (by decide) (by omega) (by omega) (fun c => ?_) (fun c => ?_)
      · omega
      · have hc : W.getD k 0 < 128 := by
          rw [List.getD_eq_getElem?_getD, List.getElem?_eq_getElem (by omega), Option.getD_some]
          exact hWc _ (List.getElem_mem _)
        have hba := hb.1 (s.2.1 3 + k)
        refine x_aload_n dX6_isWord_42 rfl ?_
        refine x_getf dX6_isWord_43 f_X6_29 hM.o rfl ?_
        refine x_aload_n dX6_isWord_46 rfl ?_
        refine x_getf dX6_isWord_47 f_X6_85 hM.o rfl ?_
        refine x_iload_n dX6_isWord_50 rfl ?_
        refine x_iadd_n dX6_isWord_51 ?_
        refine x_iald_n dX6_isWord_52 hM.buffer (by omega) (by decide) ?_
        refine x_aload_n dX6_isWord_53 rfl ?_
        refine x_iload_n dX6_isWord_54 rfl ?_
        refine x_viS0 hq rfl dX6_isWord_55 cV_X6_115 (c_charAt hq (by rw [hlen]; exact hWl) (by rw [hlen]; omega) (by rw [hqW]; exact xWd_get (by omega)) hc) rfl rfl ⟨⟨by decide, by decide⟩, by decide, by decide⟩ (Nat.le_of_ble_eq_true rfl) ?_
        refine x_icmp_eq_n 63 dX6_isWord_58 (by decide) (by omega) (by omega) (fun c5 => ?_) (fun c5 => ?_)
        · refine x_iinc_n (k := 1) dX6_isWord_63 rfl (by decide) (by decide) rfl rfl ?_
          refine x_goto 34 dX6_isWord_66 (by decide) ?_
          refine xP.weak (by simp [xle, xset1, fin3]) (ih (k + 1) (by omega) fun i hi => ?_)
          by_cases e : i = k
          · rw [e]; exact c5
          · exact hm i (by omega)
        · have hmt : mtB (s.1 5) (s.2.1 3) W = false := by
            rw [← Bool.not_eq_true]
            intro q9
            unfold mtB at q9
            rw [List.all_eq_true] at q9
            have := q9 k (List.mem_range.mpr (by omega))
            exact c5 (by simpa using this)
          rw [hmt]
          refine x_iconst (nI 0) dX6_isWord_61 (by decide) ?_
          exact x_iret .boolean dX6_isWord_62 rfl rfl (by decide) (by decide) (rfl) (rfl)
  exact xP.weak (by simp [xle, xset1, fin3]) (key W.length 0 rfl (fun i hi => absurd hi (Nat.not_lt_zero i)))
end M5
