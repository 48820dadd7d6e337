/-! ===== History ===== -/
section H0
variable {g : xG} {l : Launch} {M : xM} {tb : List (Nat × Nat × Nat × Nat)} {R : Room} {Z : List Frame → Array Value → State → State → Prop} {pc : Nat} {V : List (Option Value)} {S : List Value} {h : xH} {kc ks : Nat}
theorem x_aloadN_n {q : Fin 4} (hd : decode M.2.1 pc = .ok (.aload_n q, 1)) (hv : V[q.val]? = some (some .null)) (k : xP g l M tb R Z (pc + 1) V (.null :: S) h kc ks) : xP g l M tb R Z pc V (S) h kc ks := by
  intro p e s m args below meth c H locs ls B hC hS hl
  exact lv_aload_nN B.1 B.2.1 hd rfl (hl.at hv) (k p e s m args below meth c H locs ls B hC hS hl)
theorem x_astoreN_n {q : Fin 4} {V' : List (Option Value)} (hd : decode M.2.1 pc = .ok (.astore_n q, 1)) (hn : q.val < M.2.2.1) (hok : xok V q.val = true) (hV : xset1 V q.val .null = V') (k : xP g l M tb R Z (pc + 1) V' S h kc ks) : xP g l M tb R Z pc V (.null :: S) h kc ks := by
  intro p e s m args below meth c H locs ls B hC hS hl
  refine lv_astore_nN B.1 B.2.1 hd rfl hl hn rfl (fun ls' hl' => k p e s m args below meth c H locs ls' B hC hS ?_)
  rw [← hV]
  exact xL.set1 hok hl'
end H0
theorem min_8 {x : Nat} (h : x < 2 ^ 31) : (if nI 8 < nI x then nI 8 else nI x) = nI (min x 8) := by
  simp only [nI_ltI (show 8 < 2 ^ 31 by decide) h]
  split
  · rw [Nat.min_eq_right (by omega)]
  · rw [Nat.min_eq_left (by omega)]
theorem WAt.setH {h : xH} {v : Nat} {w : Wd} (hW : WAt h v w) (n s : Nat) : wTo v w h (sNx w n s) (hset h (v + 25) (.inr (1, [.ref (v + 26), .int (nI n), .int (nI s)]))) := by
  have hf : ∀ a, a ≠ v + 25 → (hset h (v + 25) (.inr (1, [.ref (v + 26), .int (nI n), .int (nI s)]))).1 a = h.1 a := fun a q => by unfold hset; dsimp only; rw [if_neg q]
  obtain ⟨h1, h2, h3, h4, h5, h6, h7, h8, h9, h10⟩ := hW
  exact wTo.fix ⟨by rw [hf _ (by omega)]; exact h1, arch_same h2 fun a q1 q2 => hf a (by omega), arch_same h3 fun a q1 q2 => hf a (by omega), by unfold hset; dsimp only; rw [if_pos rfl], by rw [hf _ (by omega)]; exact h5, by rw [hf _ (by omega)]; exact h6, ⟨by rw [hf _ (by omega)]; exact h7.1, by rw [hf _ (by omega)]; exact h7.2⟩, ⟨by rw [hf _ (by omega)]; exact h8.1, by rw [hf _ (by omega)]; exact h8.2⟩, dyn_same h9 (Nat.le_refl _) fun a q1 q2 => hf a (by omega), h10⟩ (Nat.le_refl _) rfl fun a q => hf a (by omega)
theorem hset2 {h : xH} {a : Nat} {e e' : xE} : hset (hset h a e) a e' = hset h a e' := by
  refine xH_ext (fun b => ?_) rfl
  unfold hset
  dsimp only
  split <;> rfl
theorem hset_at {h : xH} {a : Nat} {e : xE} : (hset h a e).1 a = some e := by
  unfold hset
  dsimp only
  rw [if_pos rfl]
/-- the world behind a step that is kept -/
def kpW (w w' : Wd) : Prop := w'.1 = w.1 ∧ w'.2.1 = ((w.2.1.1 + 1) % 8, min (w.2.1.2 + 1) 8) ∧ (∃ x, wD w' = va_up (wD w) w.2.1.1 (some x)) ∧ wS w' = va_up (wS w) w.2.1.1 w.1.1 ∧ w'.2.2.2 = w.2.2.2
theorem flds_new (o : Nat) : ∀ j, j < (xcl 0).2.2.1 → defaultValue ((xcl 0).2.2.2 j) = vp_V (flds o 0) j := fun j hj => by
  match j, hj with
  | 0, _ => rfl
  | 1, _ => rfl
  | 2, _ => rfl
  | 3, _ => rfl
  | 4, _ => rfl
  | 5, _ => rfl
  | 6, _ => rfl
  | 7, _ => rfl
  | 8, _ => rfl
  | 9, _ => rfl
  | 10, _ => rfl
  | 11, _ => rfl
  | 12, _ => rfl
  | 13, _ => rfl
  | 14, _ => rfl
  | 15, _ => rfl
  | j + 16, hj => exact absurd hj (by show ¬ j + 16 < 16; omega)
section H1
variable {g : xG} {l : Launch} {h : xH} {v : Nat} {w : Wd}
theorem dyn_P (hW : WAt h v w) {d x : Nat} (hd : d < 10) (hx : wD w d = some x) : v + 32 ≤ x := (hW.dyn d x hd hx).1
theorem c_keep (hW : WAt h v w) (hn : w.2.1.1 < 8) (hs : w.2.1.2 ≤ 8) : xMet g l mX1_keep 2 12 244 [.ref (v + 25), .ref (v + 1)] h (fun r h' => r = none ∧ ∃ w', wTo v w h w' h' ∧ kpW w w') xno := by
  refine xMet.of (V := [some (.ref (v + 25)), some (.ref (v + 1)), none]) moX1_keep (Nat.le_of_ble_eq_true rfl) rfl ?_
  have tail : ∀ (x : Nat) (w1 : Wd) (h1 : xH), wTo v w h w1 h1 → wD w1 = va_up (wD w) w.2.1.1 (some x) → w1.1 = w.1 → w1.2.1 = w.2.1 → w1.2.2.2 = w.2.2.2 → (∀ j, j ≠ w.2.1.1 → wS w1 j = wS w j) → xP g l mX1_keep [] (xR 2 12 244) (xZ g (fun r h' => r = none ∧ ∃ w', wTo v w h w' h' ∧ kpW w w') xno 12 244) 32 [some (.ref (v + 25)), some (.ref (v + 1)), some (.ref x)] [] h1 12 244 := by
    intro x w1 h1 hto hD1 e1 e2 e3 hS1
    have hW1 := hto.1
    have hx1 : wD w1 w.2.1.1 = some x := by rw [hD1, va_up_self]
    have hdx := hW1.dyn w.2.1.1 x (by omega) hx1
    have self : putArch h1 x (wS w1 w.2.1.1) = h1 := putArch_self hdx.2.2.1
    have hb : v + 13 ≤ x := by have := hdx.1; omega
    have hto2 := hto.tr (hW1.setD (by omega) hx1 w.1.1)
    obtain ⟨w2, hw2⟩ : ∃ w2, w2 = sDy w1 (wD w1) (va_up (wS w1) w.2.1.1 w.1.1) := ⟨_, rfl⟩
    rw [← hw2] at hto2
    have hW2 := hto2.1
    have f1 : w2.2.1.1 = w.2.1.1 := by rw [hw2]; exact congrArg Prod.fst e2
    have f2 : w2.2.1.2 = w.2.1.2 := by rw [hw2]; exact congrArg Prod.snd e2
    have ct : xDet g l mX0_takeFrom 1 0 0 [.ref x, .ref (v + 1)] h1 none (putArch h1 x w.1.1) := by
      have := c_takeFrom (g := g) (l := l) (h := h1) (o := x) (st := wS w1 w.2.1.1) hW1.present (Or.inl (by omega))
      rw [self, e1] at this
      exact this
    refine x_aload_n dX1_keep_32 rfl ?_
    refine x_aload_n dX1_keep_33 rfl ?_
    refine x_vv0 dX1_keep_34 cV_X1_25 (ct) rfl rfl ⟨⟨by decide, by decide⟩, by decide, by decide⟩ (Nat.le_of_ble_eq_true rfl) (xrecv hdx.2.2.1.o rfl xcl0) ?_
    generalize putArch h1 x w.1.1 = h2 at hto2 hW2 ⊢
    have hH := hW2.history
    rw [f1, f2] at hH
    refine x_aload_n dX1_keep_37 rfl ?_
    refine x_aload_n dX1_keep_38 rfl ?_
    refine x_getf dX1_keep_39 f_X1_17 hH rfl ?_
    refine x_iconst (nI 1) dX1_keep_42 (by decide) ?_
    refine x_iadd_n dX1_keep_43 ?_
    refine x_bipush (nI 8) dX1_keep_44 (by decide) ?_
    refine x_irem_n dX1_keep_46 (by omega) (by omega) (by omega) ?_
    refine x_putf dX1_keep_47 f_X1_17 hH rfl rfl rfl (Nat.le_of_ble_eq_true rfl) ?_
    refine x_aload_n dX1_keep_50 rfl ?_
    refine x_aload_n dX1_keep_51 rfl ?_
    refine x_getf dX1_keep_52 f_X1_21 hset_at rfl ?_
    refine x_iconst (nI 1) dX1_keep_55 (by decide) ?_
    refine x_iadd_n dX1_keep_56 ?_
    refine x_bipush (nI 8) dX1_keep_57 (by decide) ?_
    refine x_mmin dX1_keep_59 mn_X1_29 (by decide) (Nat.le_of_ble_eq_true rfl) (by decide) (by decide) ?_
    rw [min_8 (by omega)]
    refine x_putf dX1_keep_62 f_X1_21 hset_at rfl rfl rfl (Nat.le_of_ble_eq_true rfl) ?_
    rw [hset2]
    have hto3 := hto2.tr (hW2.setH ((w.2.1.1 + 1) % 8) (min (w.2.1.2 + 1) 8))
    refine x_return dX1_keep_65 rfl (by decide) (by decide) ⟨rfl, _, hto3, ?_⟩
    rw [hw2]
    refine ⟨e1, rfl, ⟨x, hD1⟩, ?_, e3⟩
    funext j
    show va_up (wS w1) w.2.1.1 w.1.1 j = va_up (wS w) w.2.1.1 w.1.1 j
    unfold va_up
    split
    · rfl
    · exact hS1 j (by assumption)
  cases hx : wD w w.2.1.1 with
  | some x =>
    refine x_aload_n dX1_keep_0 rfl ?_
    refine x_getf dX1_keep_1 f_X1_11 hW.history rfl ?_
    refine x_aload_n dX1_keep_4 rfl ?_
    refine x_getf dX1_keep_5 f_X1_17 hW.history rfl ?_
    refine x_aald dX1_keep_8 hW.kept (by omega) (by decide) ?_
    rw [wK_lt hn, hx]
    refine x_astore_n dX1_keep_9 (by decide) rfl rfl ?_
    refine x_aload_n dX1_keep_10 rfl ?_
    refine x_ifnonnull 32 dX1_keep_11 (by decide) ?_
    refine xP.widen (kc' := 12) (ks' := 244) (by decide) (by decide) ?_
    refine tail x w h (wTo.rf hW) ?_ rfl rfl rfl (fun _ _ => rfl)
    funext j
    unfold va_up
    split
    · rename_i e; rw [e]; exact hx
    · rfl
  | none =>
    have hl := hW.low
    refine x_aload_n dX1_keep_0 rfl ?_
    refine x_getf dX1_keep_1 f_X1_11 hW.history rfl ?_
    refine x_aload_n dX1_keep_4 rfl ?_
    refine x_getf dX1_keep_5 f_X1_17 hW.history rfl ?_
    refine x_aald dX1_keep_8 hW.kept (by omega) (by decide) ?_
    rw [wK_lt hn, hx]
    refine x_astoreN_n dX1_keep_9 (by decide) rfl rfl ?_
    refine x_aloadN_n dX1_keep_10 rfl ?_
    refine x_ifnonnullN dX1_keep_11 ?_
    refine x_new dX1_keep_14 n_X1_9 (fs := flds h.2 0) (flds_new _) (by decide) (by decide) ?_
    refine x_dup dX1_keep_17 rfl ?_
    refine x_nv dX1_keep_18 cN_X1_24 rfl (c_init (o := h.2) (hf := (hnew h (.inr (0, flds h.2 0))).1) (by unfold hnew; dsimp only; rw [if_pos rfl])) (As := []) rfl rfl ⟨⟨by decide, by decide⟩, by decide, by decide⟩ (Nat.le_of_ble_eq_true rfl) ?_
    obtain ⟨hN, ehN⟩ : ∃ hN, hN = ((putArch ((hnew h (.inr (0, flds h.2 0))).1, h.2 + 1) h.2 zeroS).1, h.2 + 12) := ⟨_, rfl⟩
    have g1 : hN.2 = h.2 + 12 := by rw [ehN]
    have g2 : ArchAt hN h.2 zeroS := by rw [ehN]; exact fun k hk => putArch_at (h := ((hnew h (.inr (0, flds h.2 0))).1, h.2 + 1)) k hk
    have g3 : ∀ a, a < h.2 → hN.1 a = h.1 a := fun a q => by
      rw [ehN]
      show (putArch ((hnew h (.inr (0, flds h.2 0))).1, h.2 + 1) h.2 zeroS).1 a = _
      rw [putArch_out (by omega)]
      show (if a = h.2 then _ else _) = _
      rw [if_neg (by omega)]
    refine xP.eq (h' := hN) rfl rfl rfl ehN ?_
    have g4 : hN.1 (v + 25) = some (.inr (1, [.ref (v + 26), .int (nI w.2.1.1), .int (nI w.2.1.2)])) := by rw [g3 _ (by omega)]; exact hW.history
    have g5 : hN.1 (v + 26) = some (.inl (5, 8, .inr (.inr (.inr (.inr (wK (wD w))))))) := by rw [g3 _ (by omega)]; exact hW.kept
    refine x_astore_n dX1_keep_21 (by decide) rfl rfl ?_
    refine x_aload_n dX1_keep_22 rfl ?_
    refine x_getf dX1_keep_23 f_X1_11 g4 rfl ?_
    refine x_aload_n dX1_keep_26 rfl ?_
    refine x_getf dX1_keep_27 f_X1_17 g4 rfl ?_
    refine x_aload_n dX1_keep_30 rfl ?_
    refine x_aast (ci := 0) dX1_keep_31 g5 (g2.o) (by omega) (by decide) ?_
    have hto : wTo v w h (sDy w (va_up (wD w) w.2.1.1 (some h.2)) (va_up (wS w) w.2.1.1 zeroS)) (hset hN (v + 26) (.inl (5, 8, .inr (.inr (.inr (.inr (va_up (wK (wD w)) w.2.1.1 (some h.2)))))))) := by
      have hf : ∀ a, a ≠ v + 26 → (hset hN (v + 26) (.inl (5, 8, .inr (.inr (.inr (.inr (va_up (wK (wD w)) w.2.1.1 (some h.2)))))))).1 a = hN.1 a := fun a q => by unfold hset; dsimp only; rw [if_neg q]
      refine hW.made (by omega) hx g1 (arch_same g2 fun a q1 q2 => hf a (by omega)) (by rw [← wK_up hn]; exact hset_at) ?_ fun a q1 q2 q3 => (hf a q2).trans (g3 a q1)
      rw [hf _ (by omega), g3 _ (by omega), hW.saved, wV_out hn]
    refine tail h.2 _ _ hto rfl rfl rfl rfl fun j q => ?_
    show va_up (wS w) w.2.1.1 zeroS j = wS w j
    rw [va_up_ne _ _ q]
theorem c_giveBack (hW : WAt h v w) (hn : w.2.1.1 < 8) (hs : w.2.1.2 ≤ 8) (hk : 0 < w.2.1.2 → ∃ x, wD w ((w.2.1.1 + 8 - 1) % 8) = some x) : xMet g l mX1_giveBack 2 0 0 [.ref (v + 25), .ref (v + 1)] h (fun r h' => if w.2.1.2 = 0 then r = some (.int (xb false)) ∧ h' = h else r = some (.int (xb true)) ∧ wTo v w h (sNx (sP w (wS w ((w.2.1.1 + 8 - 1) % 8))) ((w.2.1.1 + 8 - 1) % 8) (w.2.1.2 - 1)) h') xno := by
  refine xMet.of (V := [some (.ref (v + 25)), some (.ref (v + 1)), none, none]) moX1_giveBack (Nat.le_of_ble_eq_true rfl) rfl ?_
  have hlt : (w.2.1.1 + 8 - 1) % 8 < 8 := Nat.mod_lt _ (by decide)
  by_cases c0 : w.2.1.2 = 0
  · rw [show (fun (r : Option Value) (h' : xH) => if w.2.1.2 = 0 then r = some (.int (xb false)) ∧ h' = h else r = some (.int (xb true)) ∧ wTo v w h (sNx (sP w (wS w ((w.2.1.1 + 8 - 1) % 8))) ((w.2.1.1 + 8 - 1) % 8) (w.2.1.2 - 1)) h') = fun r h' => r = some (.int (xb false)) ∧ h' = h by funext r h'; rw [if_pos c0]]
    refine x_aload_n dX1_giveBack_0 rfl ?_
    refine x_getf dX1_giveBack_1 f_X1_17 hW.history rfl ?_
    refine x_bipush (nI 8) dX1_giveBack_4 (by decide) ?_
    refine x_iadd_n dX1_giveBack_6 ?_
    refine x_iconst (nI 1) dX1_giveBack_7 (by decide) ?_
    refine x_isub_n dX1_giveBack_8 (by omega) ?_
    refine x_bipush (nI 8) dX1_giveBack_9 (by decide) ?_
    refine x_irem_n dX1_giveBack_11 (by omega) (by omega) (by omega) ?_
    refine x_istore_n dX1_giveBack_12 (by decide) rfl rfl ?_
    refine x_aload_n dX1_giveBack_13 rfl ?_
    refine x_getf dX1_giveBack_14 f_X1_11 hW.history rfl ?_
    refine x_iload_n dX1_giveBack_17 rfl ?_
    refine x_aald dX1_giveBack_18 hW.kept hlt (by decide) ?_
    rw [wK_lt hlt]
    cases hx : wD w ((w.2.1.1 + 8 - 1) % 8) with
    | none =>
      refine x_astoreN_n dX1_giveBack_19 (by decide) rfl rfl ?_
      refine x_aload_n dX1_giveBack_20 rfl ?_
      refine x_getf dX1_giveBack_21 f_X1_21 hW.history rfl ?_
      refine x_if_eq_n 31 dX1_giveBack_24 (by decide) (by omega) (fun c1 => ?_) (fun c1 => ?_)
      · refine x_iconst (nI 0) dX1_giveBack_31 (by decide) ?_
        exact x_iret .boolean dX1_giveBack_32 rfl rfl (by decide) (by decide) (rfl) (rfl)
      · omega
    | some x =>
      refine x_astore_n dX1_giveBack_19 (by decide) rfl rfl ?_
      refine x_aload_n dX1_giveBack_20 rfl ?_
      refine x_getf dX1_giveBack_21 f_X1_21 hW.history rfl ?_
      refine x_if_eq_n 31 dX1_giveBack_24 (by decide) (by omega) (fun c1 => ?_) (fun c1 => ?_)
      · refine x_iconst (nI 0) dX1_giveBack_31 (by decide) ?_
        exact x_iret .boolean dX1_giveBack_32 rfl rfl (by decide) (by decide) (rfl) (rfl)
      · omega
  · obtain ⟨x, hx⟩ := hk (by omega)
    rw [show (fun (r : Option Value) (h' : xH) => if w.2.1.2 = 0 then r = some (.int (xb false)) ∧ h' = h else r = some (.int (xb true)) ∧ wTo v w h (sNx (sP w (wS w ((w.2.1.1 + 8 - 1) % 8))) ((w.2.1.1 + 8 - 1) % 8) (w.2.1.2 - 1)) h') = fun r h' => r = some (.int (xb true)) ∧ wTo v w h (sNx (sP w (wS w ((w.2.1.1 + 8 - 1) % 8))) ((w.2.1.1 + 8 - 1) % 8) (w.2.1.2 - 1)) h' by funext r h'; rw [if_neg c0]]
    refine x_aload_n dX1_giveBack_0 rfl ?_
    refine x_getf dX1_giveBack_1 f_X1_17 hW.history rfl ?_
    refine x_bipush (nI 8) dX1_giveBack_4 (by decide) ?_
    refine x_iadd_n dX1_giveBack_6 ?_
    refine x_iconst (nI 1) dX1_giveBack_7 (by decide) ?_
    refine x_isub_n dX1_giveBack_8 (by omega) ?_
    refine x_bipush (nI 8) dX1_giveBack_9 (by decide) ?_
    refine x_irem_n dX1_giveBack_11 (by omega) (by omega) (by omega) ?_
    refine x_istore_n dX1_giveBack_12 (by decide) rfl rfl ?_
    refine x_aload_n dX1_giveBack_13 rfl ?_
    refine x_getf dX1_giveBack_14 f_X1_11 hW.history rfl ?_
    refine x_iload_n dX1_giveBack_17 rfl ?_
    refine x_aald dX1_giveBack_18 hW.kept hlt (by decide) ?_
    rw [wK_lt hlt, hx]
    refine x_astore_n dX1_giveBack_19 (by decide) rfl rfl ?_
    refine x_aload_n dX1_giveBack_20 rfl ?_
    refine x_getf dX1_giveBack_21 f_X1_21 hW.history rfl ?_
    refine x_if_eq_n 31 dX1_giveBack_24 (by decide) (by omega) (fun c => ?_) (fun c => ?_)
    · omega
    · refine x_aload_n dX1_giveBack_27 rfl ?_
      refine x_ifnonnull 33 dX1_giveBack_28 (by decide) ?_
      have hdx := hW.dyn _ x (by omega) hx
      have ct : xDet g l mX0_takeFrom 1 0 0 [.ref (v + 1), .ref x] h none (putArch h (v + 1) (wS w ((w.2.1.1 + 8 - 1) % 8))) := by
        have := c_takeFrom (g := g) (l := l) (h := h) (o := v + 1) (st := w.1.1) hdx.2.2.1 (Or.inr (by have := hdx.1; omega))
        rw [hW.P_self] at this
        exact this
      refine x_aload_n dX1_giveBack_33 rfl ?_
      refine x_aload_n dX1_giveBack_34 rfl ?_
      refine x_vv0 dX1_giveBack_35 cV_X1_25 (ct) rfl rfl ⟨⟨by decide, by decide⟩, by decide, by decide⟩ (Nat.le_of_ble_eq_true rfl) (xrecv hW.present.o rfl xcl0) ?_
      have hto := wTo.P hW (wS w ((w.2.1.1 + 8 - 1) % 8))
      have hW2 := hto.1
      generalize putArch h (v + 1) (wS w ((w.2.1.1 + 8 - 1) % 8)) = h2 at hto hW2 ⊢
      have hH : h2.1 (v + 25) = some (.inr (1, [.ref (v + 26), .int (nI w.2.1.1), .int (nI w.2.1.2)])) := hW2.history
      refine x_aload_n dX1_giveBack_38 rfl ?_
      refine x_iload_n dX1_giveBack_39 rfl ?_
      refine x_putf dX1_giveBack_40 f_X1_17 hH rfl rfl rfl (Nat.le_of_ble_eq_true rfl) ?_
      refine x_aload_n dX1_giveBack_43 rfl ?_
      refine x_dup dX1_giveBack_44 rfl ?_
      refine x_getf dX1_giveBack_45 f_X1_21 hset_at rfl ?_
      refine x_iconst (nI 1) dX1_giveBack_48 (by decide) ?_
      refine x_isub_n dX1_giveBack_49 (by omega) ?_
      refine x_putf dX1_giveBack_50 f_X1_21 hset_at rfl rfl rfl (Nat.le_of_ble_eq_true rfl) ?_
      rw [hset2]
      refine x_iconst (nI 1) dX1_giveBack_53 (by decide) ?_
      exact x_ireturn dX1_giveBack_54 rfl rfl (by decide) (by decide) ⟨rfl, hto.tr (hW2.setH ((w.2.1.1 + 8 - 1) % 8) (w.2.1.2 - 1))⟩
end H1
