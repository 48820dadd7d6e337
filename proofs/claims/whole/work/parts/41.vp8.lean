/-! ===== VillagePhotos: undo, save, restore, load, texts ===== -/
/-- the world behind undo -/
def undoW (w : Wd) : Wd := sNx (sP w (wS w ((w.2.1.1 + 8 - 1) % 8))) ((w.2.1.1 + 8 - 1) % 8) (w.2.1.2 - 1)
def hisAt (w : Wd) : Prop := 0 < w.2.1.2 → ∃ x, wD w ((w.2.1.1 + 8 - 1) % 8) = some x
def svW (w : Wd) (s : Nat) (w' : Wd) : Prop := w'.1 = w.1 ∧ w'.2.1 = w.2.1 ∧ (∃ x, wD w' = va_up (wD w) (8 + s) (some x)) ∧ wS w' = va_up (wS w) (8 + s) w.1.1 ∧ w'.2.2.2 = w.2.2.2
def restoreR (w : Wd) (a : Int32) : Rs := if okB a 2 = true then (match wD w (8 + ix a) with
  | none => (2, 0, none)
  | some _ => (0, nI ((wS w (8 + ix a)).1 1), some (wS w (8 + ix a)))) else (1, 0, none)
section V8
variable {g : xG} {l : Launch} {h : xH} {v : Nat} {w : Wd}
theorem c_undo (hW : WAt h v w) (hh : hisOk w) (ha : hisAt w) : xMet g l mX5_undo 6 1 6 [.ref v] h (fun r h' => 0 < w.2.1.2 ∧ r = some (.int (nI (w.2.1.2 - 1))) ∧ wTo v w h (undoW w) h') (fun E h' => E = nISE ∧ w.2.1.2 = 0 ∧ wTo v w h w h') := by
  refine xMet.of (V := [some (.ref v)]) moX5_undo (Nat.le_of_ble_eq_true rfl) rfl ?_
  refine x_aload_n dX5_undo_0 rfl ?_
  refine x_getf dX5_undo_1 f_X5_22 hW.o rfl ?_
  refine x_aload_n dX5_undo_4 rfl ?_
  refine x_getf dX5_undo_5 f_X5_12 hW.o rfl ?_
  refine x_callV dX5_undo_8 cV_X5_286 (c_giveBack hW hh.1 hh.2 ha) rfl rfl ⟨⟨by decide, by decide⟩, by decide, by decide⟩ (Nat.le_of_ble_eq_true rfl) (xrecv hW.history rfl xcl1) (fun _ _ q => q.elim) (fun v9 h9 q9 => ?_)
  split at q9
  · rename_i c0
    obtain ⟨rfl, rfl⟩ := q9
    refine x_if_ne_b (b := false) 25 dX5_undo_11 (by decide) (fun c => by cases c) (fun _ => ?_)
    exact x_throwW (j := 28) th_ISE rfl rfl dX5_undo_14 dX5_undo_17 dX5_undo_18 dX5_undo_21 dX5_undo_24 (by decide) (Nat.le_of_ble_eq_true rfl) (by decide) (by decide) (by decide) (by decide) fun n hn => ⟨rfl, c0, wTo.thr hW hn⟩
  · rename_i c0
    obtain ⟨rfl, hto⟩ := q9
    have hW1 := hto.1
    refine x_if_ne_b (b := true) 25 dX5_undo_11 (by decide) (fun _ => ?_) (fun c => by cases c)
    refine x_aload_n dX5_undo_25 rfl ?_
    refine x_getf dX5_undo_26 f_X5_22 hW1.o rfl ?_
    refine x_getf dX5_undo_29 f_X5_291 hW1.history rfl ?_
    exact x_ireturn dX5_undo_32 rfl rfl (by decide) (by decide) ⟨by omega, rfl, hto⟩
theorem c_save (hW : WAt h v w) (a : Int32) : xMet g l mX5_save 7 13 250 [.ref v, .int a] h (fun r h' => r = none ∧ okB a 2 = true ∧ ∃ w', wTo v w h w' h' ∧ svW w (ix a) w') (fun E h' => E = nIOB ∧ okB a 2 = false ∧ wTo v w h w h') := by
  refine xMet.of (V := [some (.ref v), some (.int a), none]) moX5_save (Nat.le_of_ble_eq_true rfl) rfl ?_
  refine x_iload_n dX5_save_0 rfl ?_
  refine x_callS dX5_save_1 cS_X5_294 (c_needSlot hW a) rfl rfl ⟨⟨by decide, by decide⟩, by decide, by decide⟩ (Nat.le_of_ble_eq_true rfl) (fun E h9 q9 => x_out rfl (by decide) (by decide) ?_) (fun v9 h9 q9 => ?_)
  · exact q9
  obtain ⟨rfl, rfl, q3⟩ := q9
  have hs := okB_lt q3
  have e4 := nI_ix a
  refine xP.weak (V' := [some (.ref v), some (.int (nI (ix a))), none]) (by simp [xle, xset1, fin3, e4]) ?_
  have tail : ∀ (x : Nat) (w1 : Wd) (h1 : xH), wTo v w h9 w1 h1 → wD w1 = va_up (wD w) (8 + ix a) (some x) → w1.1 = w.1 → w1.2.1 = w.2.1 → w1.2.2.2 = w.2.2.2 → (∀ j, j ≠ 8 + ix a → wS w1 j = wS w j) → xP g l mX5_save [] (xR 7 13 250) (xZ g (fun r h' => r = none ∧ okB a 2 = true ∧ ∃ w', wTo v w h9 w' h' ∧ svW w (ix a) w') (fun E h' => E = nIOB ∧ okB a 2 = false ∧ wTo v w h9 w h') 13 250) 30 [some (.ref v), some (.int (nI (ix a))), some (.ref x)] [] h1 13 250 := by
    intro x w1 h1 hto hD1 e1 e2 e3 hS1
    have hW1 := hto.1
    have hx1 : wD w1 (8 + ix a) = some x := by rw [hD1, va_up_self]
    have hdx := hW1.dyn (8 + ix a) x (by omega) hx1
    have self : putArch h1 x (wS w1 (8 + ix a)) = h1 := putArch_self hdx.2.2.1
    have hb : v + 13 ≤ x := by have := hdx.1; omega
    have hto2 := hto.tr (hW1.setD (by omega) hx1 w.1.1)
    have ct : xDet g l mX0_takeFrom 1 0 0 [.ref x, .ref (v + 1)] h1 none (putArch h1 x w.1.1) := by
      have := c_takeFrom (g := g) (l := l) (h := h1) (o := x) (st := wS w1 (8 + ix a)) hW1.present (Or.inl (by omega))
      rw [self, e1] at this
      exact this
    refine x_aload_n dX5_save_30 rfl ?_
    refine x_aload_n dX5_save_31 rfl ?_
    refine x_getf dX5_save_32 f_X5_12 hW1.o rfl ?_
    refine x_vv0 dX5_save_35 cV_X5_87 (ct) rfl rfl ⟨⟨by decide, by decide⟩, by decide, by decide⟩ (Nat.le_of_ble_eq_true rfl) (xrecv hdx.2.2.1.o rfl xcl0) ?_
    refine x_return dX5_save_38 rfl (by decide) (by decide) ⟨rfl, q3, _, hto2, e1, e2, ⟨x, hD1⟩, ?_, e3⟩
    funext j
    show va_up (wS w1) (8 + ix a) w.1.1 j = va_up (wS w) (8 + ix a) w.1.1 j
    unfold va_up
    split
    · rfl
    · exact hS1 j (by assumption)
  cases hx : wD w (8 + ix a) with
  | some x =>
    refine x_aload_n dX5_save_4 rfl ?_
    refine x_getf dX5_save_5 f_X5_26 hW.o rfl ?_
    refine x_iload_n dX5_save_8 rfl ?_
    refine x_aald dX5_save_9 hW.saved hs (by decide) ?_
    rw [wV_lt hs, hx]
    refine x_astore_n dX5_save_10 (by decide) rfl rfl ?_
    refine x_aload_n dX5_save_11 rfl ?_
    refine x_ifnonnull 30 dX5_save_12 (by decide) ?_
    refine xP.widen (kc' := 13) (ks' := 250) (by decide) (by decide) ?_
    refine tail x w h9 (wTo.rf hW) ?_ rfl rfl rfl (fun _ _ => rfl)
    funext j
    unfold va_up
    split
    · rename_i e; rw [e]; exact hx
    · rfl
  | none =>
    have hl := hW.low
    refine x_aload_n dX5_save_4 rfl ?_
    refine x_getf dX5_save_5 f_X5_26 hW.o rfl ?_
    refine x_iload_n dX5_save_8 rfl ?_
    refine x_aald dX5_save_9 hW.saved hs (by decide) ?_
    rw [wV_lt hs, hx]
    refine x_astoreN_n dX5_save_10 (by decide) rfl rfl ?_
    refine x_aloadN_n dX5_save_11 rfl ?_
    refine x_ifnonnullN dX5_save_12 ?_
    refine x_new dX5_save_15 n_X5_9 (fs := flds h9.2 0) (flds_new _) (by decide) (by decide) ?_
    refine x_dup dX5_save_18 rfl ?_
    refine x_nv dX5_save_19 cN_X5_11 rfl (c_init (o := h9.2) (hf := (hnew h9 (.inr (0, flds h9.2 0))).1) (by unfold hnew; dsimp only; rw [if_pos rfl])) (As := []) rfl rfl ⟨⟨by decide, by decide⟩, by decide, by decide⟩ (Nat.le_of_ble_eq_true rfl) ?_
    obtain ⟨hN, ehN⟩ : ∃ hN, hN = ((putArch ((hnew h9 (.inr (0, flds h9.2 0))).1, h9.2 + 1) h9.2 zeroS).1, h9.2 + 12) := ⟨_, rfl⟩
    have g1 : hN.2 = h9.2 + 12 := by rw [ehN]
    have g2 : ArchAt hN h9.2 zeroS := by rw [ehN]; exact fun k hk => putArch_at (h := ((hnew h9 (.inr (0, flds h9.2 0))).1, h9.2 + 1)) k hk
    have g3 : ∀ a, a < h9.2 → hN.1 a = h9.1 a := fun a q => by
      rw [ehN]
      show (putArch ((hnew h9 (.inr (0, flds h9.2 0))).1, h9.2 + 1) h9.2 zeroS).1 a = _
      rw [putArch_out (by omega)]
      show (if a = h9.2 then _ else _) = _
      rw [if_neg (by omega)]
    refine xP.eq (h' := hN) rfl rfl rfl ehN ?_
    have g4 : hN.1 v = some (.inr (4, [.ref (v + 1), .ref (v + 13), .ref (v + 25), .ref (v + 27), .ref (v + 28), .ref (v + 30)])) := by rw [g3 _ (by omega)]; exact hW.o
    have g5 : hN.1 (v + 27) = some (.inl (5, 2, .inr (.inr (.inr (.inr (wV (wD w))))))) := by rw [g3 _ (by omega)]; exact hW.saved
    refine x_astore_n dX5_save_22 (by decide) rfl rfl ?_
    refine x_aload_n dX5_save_23 rfl ?_
    refine x_getf dX5_save_24 f_X5_26 g4 rfl ?_
    refine x_iload_n dX5_save_27 rfl ?_
    refine x_aload_n dX5_save_28 rfl ?_
    refine x_aast (ci := 0) dX5_save_29 g5 (g2.o) hs (by decide) ?_
    have hto : wTo v w h9 (sDy w (va_up (wD w) (8 + ix a) (some h9.2)) (va_up (wS w) (8 + ix a) zeroS)) (hset hN (v + 27) (.inl (5, 2, .inr (.inr (.inr (.inr (va_up (wV (wD w)) (ix a) (some h9.2)))))))) := by
      have hf : ∀ b, b ≠ v + 27 → (hset hN (v + 27) (.inl (5, 2, .inr (.inr (.inr (.inr (va_up (wV (wD w)) (ix a) (some h9.2)))))))).1 b = hN.1 b := fun b q => by unfold hset; dsimp only; rw [if_neg q]
      refine hW.made (by omega) hx g1 (arch_same g2 fun b q1 q2 => hf b (by omega)) ?_ (by rw [← wV_up hs]; exact hset_at) fun b q1 q2 q3 => (hf b q3).trans (g3 b q1)
      rw [hf _ (by omega), g3 _ (by omega), hW.kept, wK_out (by omega)]
    refine tail h9.2 _ _ hto rfl rfl rfl rfl fun j q => ?_
    show va_up (wS w) (8 + ix a) zeroS j = wS w j
    rw [va_up_ne _ _ q]
theorem c_restore (hW : WAt h v w) (hh : hisOk w) (a : Int32) : xMet g l mX5_restore 7 14 256 [.ref v, .int a] h (opQ v w h (restoreR w a)) (opX v w h [nIOB, nISE] (restoreR w a)) := by
  refine xMet.of (V := [some (.ref v), some (.int a), none]) moX5_restore (Nat.le_of_ble_eq_true rfl) rfl ?_
  unfold restoreR
  refine x_iload_n dX5_restore_0 rfl ?_
  refine x_callS dX5_restore_1 cS_X5_294 (c_needSlot hW a) rfl rfl ⟨⟨by decide, by decide⟩, by decide, by decide⟩ (Nat.le_of_ble_eq_true rfl) (fun E h9 q9 => x_out rfl (by decide) (by decide) ?_) (fun v9 h9 q9 => ?_)
  · obtain ⟨rfl, q2, q3⟩ := q9
    rw [if_neg (by rw [q2]; decide)]
    exact opX.of (Or.inl rfl) rfl q3
  obtain ⟨rfl, rfl, q3⟩ := q9
  rw [if_pos q3]
  have hs := okB_lt q3
  have e4 := nI_ix a
  refine xP.weak (V' := [some (.ref v), some (.int (nI (ix a))), none]) (by simp [xle, xset1, fin3, e4]) ?_
  cases hx : wD w (8 + ix a) with
  | none =>
    refine x_aload_n dX5_restore_4 rfl ?_
    refine x_getf dX5_restore_5 f_X5_26 hW.o rfl ?_
    refine x_iload_n dX5_restore_8 rfl ?_
    refine x_aald dX5_restore_9 hW.saved hs (by decide) ?_
    rw [wV_lt hs, hx]
    refine x_astoreN_n dX5_restore_10 (by decide) rfl rfl ?_
    refine x_aloadN_n dX5_restore_11 rfl ?_
    refine x_ifnonnullN dX5_restore_12 ?_
    exact x_throwW (j := 30) th_ISE rfl rfl dX5_restore_15 dX5_restore_18 dX5_restore_19 dX5_restore_22 dX5_restore_25 (by decide) (Nat.le_of_ble_eq_true rfl) (by decide) (by decide) (by decide) (by decide) fun n hn => opX.of (Or.inr (Or.inl rfl)) rfl (wTo.thr hW hn)
  | some x =>
    refine x_aload_n dX5_restore_4 rfl ?_
    refine x_getf dX5_restore_5 f_X5_26 hW.o rfl ?_
    refine x_iload_n dX5_restore_8 rfl ?_
    refine x_aald dX5_restore_9 hW.saved hs (by decide) ?_
    rw [wV_lt hs, hx]
    refine x_astore_n dX5_restore_10 (by decide) rfl rfl ?_
    refine x_aload_n dX5_restore_11 rfl ?_
    refine x_ifnonnull 26 dX5_restore_12 (by decide) ?_
    refine x_aload_n dX5_restore_26 rfl ?_
    refine x_getf dX5_restore_27 f_X5_22 hW.o rfl ?_
    refine x_aload_n dX5_restore_30 rfl ?_
    refine x_getf dX5_restore_31 f_X5_12 hW.o rfl ?_
    refine x_callV dX5_restore_34 cV_X5_83 (c_keep hW hh.1 hh.2) rfl rfl ⟨⟨by decide, by decide⟩, by decide, by decide⟩ (Nat.le_of_ble_eq_true rfl) (xrecv hW.history rfl xcl1) (fun _ _ q => q.elim) (fun v9 h9 q9 => ?_)
    obtain ⟨rfl, w1, hto, hk⟩ := q9
    have hW1 := hto.1
    have hD : wD w1 (8 + ix a) = some x := by
      obtain ⟨y, hy⟩ := hk.2.2.1
      rw [hy, va_up_ne _ _ (by have := hh.1; omega)]
      exact hx
    have hS : wS w1 (8 + ix a) = wS w (8 + ix a) := by rw [hk.2.2.2.1, va_up_ne _ _ (by have := hh.1; omega)]
    have hdx := hW1.dyn _ x (by omega) hD
    rw [hS] at hdx
    have ct := c_takeFrom (g := g) (l := l) (o := v + 1) (st := w1.1.1) hdx.2.2.1 (Or.inr (by have := hdx.1; omega))
    rw [hW1.P_self] at ct
    refine x_aload_n dX5_restore_37 rfl ?_
    refine x_getf dX5_restore_38 f_X5_12 hW1.o rfl ?_
    refine x_aload_n dX5_restore_41 rfl ?_
    refine x_vv0 dX5_restore_42 cV_X5_87 (ct) rfl rfl ⟨⟨by decide, by decide⟩, by decide, by decide⟩ (Nat.le_of_ble_eq_true rfl) (xrecv hW1.present.o rfl xcl0) ?_
    refine x_aload_n dX5_restore_45 rfl ?_
    refine x_getf dX5_restore_46 f_X5_12 (hW1.setP _).o rfl ?_
    refine x_getf dX5_restore_49 f_X5_99 (hW1.setP _).present.o rfl ?_
    exact x_ireturn dX5_restore_52 rfl rfl (by decide) (by decide) (kp_end hto hk)
end V8
