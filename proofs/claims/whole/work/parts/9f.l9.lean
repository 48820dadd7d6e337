/-! ===== the law from its entry ===== -/
theorem vp_fs : ∀ j, j < (xcl 4).2.2.1 → defaultValue ((xcl 4).2.2.2 j) = vp_V [.null, .null, .null, .null, .null, .null] j := fun j hj => by
  match j, hj with
  | 0, _ => rfl
  | 1, _ => rfl
  | 2, _ => rfl
  | 3, _ => rfl
  | 4, _ => rfl
  | 5, _ => rfl
  | j + 6, h => exact absurd h (by show ¬ j + 6 < 6; omega)
theorem mo_fs {m : Nat} : ∀ j, j < (xcl 5).2.2.1 → defaultValue ((xcl 5).2.2.2 j) = vp_V (mfl m 0 0) j := fun j hj => by
  match j, hj with
  | 0, _ => rfl
  | 1, _ => rfl
  | 2, _ => rfl
  | 3, _ => rfl
  | 4, _ => rfl
  | 5, _ => rfl
  | 6, _ => rfl
  | 7, _ => rfl
  | 8, _ => rfl
  | 9, _ => rfl
  | 10, _ => rfl
  | 11, _ => rfl
  | 12, _ => rfl
  | 13, _ => rfl
  | 14, _ => rfl
  | 15, _ => rfl
  | 16, _ => rfl
  | 17, _ => rfl
  | 18, _ => rfl
  | 19, _ => rfl
  | 20, _ => rfl
  | 21, _ => rfl
  | 22, _ => rfl
  | 23, _ => rfl
  | j + 24, h => exact absurd h (by show ¬ j + 24 < 24; omega)
section LG
variable {nm : String} {tb : List (Nat × Nat × Nat × Nat)} {g : xG} {l : Launch} {R9 : Room} {Z : List Frame → Array Value → State → State → Prop} {b L : Nat} {xs : Nat → Int32}
theorem w0_in {v a : Nat} (h : inW v w0 a) : v ≤ a ∧ a < v + 32 := by
  rcases h with q | ⟨d, x, -, q, -⟩
  · exact q
  · cases q
theorem law_open {hf : Nat → Option xE} {v : Nat} (hs : xSc Z g b L xs) (hL : L ≤ 3072) (hF : 11 ≤ R9.frames ∧ 430 ≤ R9.locals) (hR : 60000 ≤ R9.cells ∧ 600000 ≤ R9.slots) (hE : ∀ V h kc ks, kc ≤ R9.cells → ks ≤ R9.slots → xP g l (mL_law nm) tb R9 Z 2005 V [] h kc ks) :
    xP g l (mL_law nm) tb R9 Z 0 [some (.ref b), none, none, none, none, none, none, none, none, none] [] (hf, v) 0 0 := by
  obtain ⟨r1, r2⟩ := hF
  obtain ⟨r3, r4⟩ := hR
  have f6 : (xcl 4).2.2.1 = 6 := rfl
  have f24 : (xcl 5).2.2.1 = 24 := rfl
  refine x_new dL_law_0 n_L_8 (fs := [.null, .null, .null, .null, .null, .null]) vp_fs (Nat.le_trans (Nat.le_of_ble_eq_true rfl) r3) (Nat.le_trans (Nat.le_of_ble_eq_true rfl) r4) ?_
  refine x_dup dL_law_3 rfl ?_
  refine x_callI dL_law_4 cI_L_97 rfl (c_vpInit (hf := (hnew (hf, v) (.inr (4, [.null, .null, .null, .null, .null, .null]))).1) (v := v) (if_pos rfl)) rfl rfl ⟨⟨by omega, by show 8 + (1 + 11) + 36 * 2 ≤ _; omega⟩, (Nat.le_trans (Nat.le_of_ble_eq_true rfl) r3), (Nat.le_trans (Nat.le_of_ble_eq_true rfl) r4)⟩ (Nat.le_of_ble_eq_true rfl) (fun _ _ q => q.elim) (fun v9 h9 q9 => ?_)
  obtain ⟨rfl, hW, z9, -⟩ := q9
  refine x_astore_n dL_law_7 (Nat.le_of_ble_eq_true rfl) rfl rfl ?_
  obtain ⟨h9, y9⟩ := h9
  have z9 : y9 = v + 32 := z9
  subst z9
  refine x_new dL_law_8 n_L_98 (fs := mfl (v + 32) 0 0) mo_fs (Nat.le_trans (Nat.le_of_ble_eq_true rfl) r3) (Nat.le_trans (Nat.le_of_ble_eq_true rfl) r4) ?_
  refine x_dup dL_law_11 rfl ?_
  refine x_callI dL_law_12 cI_L_100 rfl (c_mInit (hf := (hnew (h9, v + 32) (.inr (5, mfl (v + 32) 0 0))).1) (m := v + 32) (if_pos rfl)) rfl rfl ⟨⟨by omega, by show 8 + (2 + 11) + 36 * 1 ≤ _; omega⟩, (Nat.le_trans (Nat.le_of_ble_eq_true rfl) r3), (Nat.le_trans (Nat.le_of_ble_eq_true rfl) r4)⟩ (Nat.le_of_ble_eq_true rfl) (fun _ _ q => q.elim) (fun v8 h8 q8 => ?_)
  obtain ⟨rfl, rfl⟩ := q8
  refine x_astore_n dL_law_15 (Nat.le_of_ble_eq_true rfl) rfl rfl ?_
  refine x_iconst (nI 1) dL_law_16 (by decide) ?_
  refine x_newarray (t := 2) (N := 1) (a0 := (1, .inr (.inl (fun _ => 0)))) dL_law_17 aw_long rfl (by decide) (fun _ => rfl) (by decide) (by decide) (Nat.le_trans (Nat.le_of_ble_eq_true rfl) r3) (Nat.le_trans (Nat.le_of_ble_eq_true rfl) r4) ?_
  refine x_astore_n dL_law_19 (Nat.le_of_ble_eq_true rfl) rfl rfl ?_
  refine x_iconst (nI 1) dL_law_20 (by decide) ?_
  refine x_newarray (t := 4) (N := 1) (a0 := (1, .inr (.inr (.inr (.inl (fun _ => 0)))))) dL_law_21 aw_double rfl (by decide) (fun _ => rfl) (by decide) (by decide) (Nat.le_trans (Nat.le_of_ble_eq_true rfl) r3) (Nat.le_trans (Nat.le_of_ble_eq_true rfl) r4) ?_
  refine x_astore dL_law_23 (Nat.le_of_ble_eq_true rfl) rfl rfl ?_
  refine x_iconst (nI 0) dL_law_25 (by decide) ?_
  refine x_istore dL_law_26 (Nat.le_of_ble_eq_true rfl) rfl rfl ?_
  obtain ⟨P, hP⟩ : ∃ P : xH, P = ((putMod ((hnew (h9, v + 32) (.inr (5, mfl (v + 32) 0 0))).1, v + 32 + 10) (v + 32) mS0).1, v + 32 + 10) := ⟨_, rfl⟩
  rw [← hP]
  have pz : P.2 = v + 42 := by rw [hP]
  have pm : ∀ k, k < 10 → P.1 (v + 32 + k) = some (modE (v + 32) mS0 k) := fun k hk => by rw [hP]; exact putMod_at (h := ((hnew (h9, v + 32) (.inr (5, mfl (v + 32) 0 0))).1, v + 32 + 10)) k hk
  have pl : ∀ a, a < v + 32 → P.1 a = h9 a := fun a ha => by
    rw [hP]
    show (putMod _ (v + 32) mS0).1 a = _
    rw [putMod_out (Or.inl ha)]
    exact if_neg (by show ¬ a = v + 32; omega)
  generalize P = P at *
  obtain ⟨H, hH⟩ : ∃ H : xH, H = hnew (hnew P (.inl (2, 1, .inr (.inl (fun _ => 0))))) (.inl (4, 1, .inr (.inr (.inr (.inl (fun _ => 0)))))) := ⟨_, rfl⟩
  rw [← hH]
  have e0 : (hnew P (.inl (2, 1, .inr (.inl (fun _ => 0))))).2 = v + 43 := by show P.2 + 1 = _; rw [pz]
  rw [e0, pz]
  have hz : H.2 = v + 44 := by rw [hH]; show P.2 + 1 + 1 = _; rw [pz]
  have hl : ∀ a, a < v + 42 → H.1 a = P.1 a := fun a ha => by
    rw [hH]
    unfold hnew
    dsimp only
    rw [pz, if_neg (by omega), if_neg (by omega)]
  have h42 : H.1 (v + 42) = some (.inl (2, 1, .inr (.inl (fun _ => 0)))) := by
    rw [hH]
    unfold hnew
    dsimp only
    rw [pz, if_neg (by omega), if_pos rfl]
  have h43 : H.1 (v + 43) = some (.inl (4, 1, .inr (.inr (.inr (.inl (fun _ => 0)))))) := by
    rw [hH]
    unfold hnew
    dsimp only
    rw [pz, if_pos rfl]
  have HH : xLW v (v + 32) (v + 42) (v + 43) w0 mS0 H := by
    refine ⟨hW.same (by show v + 32 ≤ H.2; omega) fun a ha => ?_, fun k hk => by rw [hl _ (by omega)]; exact pm k hk, ⟨⟨_, h42⟩, _, h43⟩, ⟨by omega, by omega, by omega⟩, fun a q1 q2 q => ?_⟩
    · have := w0_in ha
      rw [hl a (by omega)]
      exact pl a this.2
    · have := w0_in q
      omega
  exact law_loop hs hL ⟨r1, r2⟩ hE 513 0 _ _ w0 mS0 H rfl (Nat.zero_le _) (Nat.le_trans (Nat.le_of_ble_eq_true rfl) r3) (Nat.le_trans (Nat.le_of_ble_eq_true rfl) r4) HH rWM_0
end LG
