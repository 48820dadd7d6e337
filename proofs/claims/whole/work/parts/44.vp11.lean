/-! ===== VillagePhotos: chances, soundness, the making ===== -/
theorem fs_mono9 {f f' : Nat → Nat} (hf : ∀ k, f k ≤ f' k) : ∀ n, fb_sm f n ≤ fb_sm f' n := by
  intro n
  induction n with
  | zero => exact Nat.le_refl _
  | succ n ih =>
    have := hf n
    rw [fb_sm_succ, fb_sm_succ]
    omega
theorem fc_mono9 {f f' : Nat → Bool} (hf : ∀ k, f k = true → f' k = true) : ∀ n, fb_ct f n ≤ fb_ct f' n := by
  intro n
  induction n with
  | zero => exact Nat.le_refl _
  | succ n ih =>
    rw [fb_ct_succ, fb_ct_succ]
    cases h : f n with
    | true => rw [hf n h]; simp; omega
    | false => simp; omega
theorem popc_andn (a b : Nat) : popc (andn a b) ≤ popc a := fc_mono9 (fun k h => by
  rw [Nat.testBit_and, Bool.and_eq_true] at h
  exact h.1) 32
theorem uns_held (st : Ar) : unsV st ≤ heldV st := fs_mono9 (fun p => popc_andn _ _) _
theorem held_le {st : Ar} (hw : aOk st) : heldV st ≤ 120 := by
  have h1 : heldV st ≤ st.1 2 * 10 := fb_sm_bound fun k hk => popc_le (n := 10) (hw.held (by have : st.1 2 ≤ 12 := hw.2.2.1; omega)) (by decide)
  have h2 : st.1 2 ≤ 12 := hw.2.2.1
  omega
def sdF (st : Ar) : UInt32 := if heldV st = 0 then FP.fconst0 else sdV (heldV st - unsV st) (heldV st)
theorem sdF_n (st : Ar) (hw : aOk st) : vf_n64 (FP.f2d (sdF st)) := by
  unfold sdF
  split
  · exact nn64_spec (by decide +kernel)
  · exact (sd_at (held_le hw) (Nat.sub_le _ _) (by omega)).2
def chanceK (st : Ar) (p f q : Int32) : Nat := if okPF st p f = true then if heldB st (ix p) (ix f) = true then if okB q (st.1 0 + 1) = true then 0 else 3 else 2 else 1
def chanceV (st : Ar) (p f q : Nat) : UInt64 := FP.dsub FP.dconst1 (chR (st.1 0) (st.1 0 - popc (st.2.2 8 (10 * p + f))) q)
theorem chance_n {T s q : Nat} (hT : T ≤ 16) (hs : s ≤ T) : vf_n64 (FP.dsub FP.dconst1 (chR T s q)) := by
  unfold chR
  split
  · exact nn64_spec (by decide +kernel)
  · cases q with
    | zero => exact nn64_spec (show nn64 (FP.dsub FP.dconst1 (chP T s 0)) = true by show nn64 (FP.dsub FP.dconst1 FP.dconst1) = true; decide +kernel)
    | succ k => exact (chOk_at hT hs (by omega)).2.2.1
section V11
variable {g : xG} {l : Launch} {h : xH} {v : Nat} {w : Wd}
theorem c_soundness (hW : WAt h v w) (hw : aW w.1.1) : xMet g l mX5_soundness 4 0 0 [.ref v] h (fun r h' => r = some (.float (sdF w.1.1)) ∧ h' = h) xno := by
  have h1 := uns_held w.1.1
  have h2 := held_le hw.1
  unfold sdF
  refine xMet.of (V := [some (.ref v), none]) moX5_soundness (Nat.le_of_ble_eq_true rfl) rfl ?_
  refine x_aload_n dX5_soundness_0 rfl ?_
  refine x_getf dX5_soundness_1 f_X5_12 hW.o rfl ?_
  refine x_vi0 dX5_soundness_4 cV_X5_250 (c_heldCopies hW.present hw.1) rfl rfl ⟨⟨by decide, by decide⟩, by decide, by decide⟩ (Nat.le_of_ble_eq_true rfl) (xrecv hW.present.o rfl xcl0) ?_
  refine x_istore_n dX5_soundness_7 (by decide) rfl rfl ?_
  refine x_iload_n dX5_soundness_8 rfl ?_
  refine x_if_ne_n 14 dX5_soundness_9 (by decide) (by omega) (fun c1 => ?_) (fun c1 => ?_)
  · rw [if_neg (by omega)]
    have hs := sd_at (a := heldV w.1.1 - unsV w.1.1) h2 (Nat.sub_le _ _) c1
    refine x_iload_n dX5_soundness_14 rfl ?_
    refine x_aload_n dX5_soundness_15 rfl ?_
    refine x_getf dX5_soundness_16 f_X5_12 hW.o rfl ?_
    refine x_vi0 dX5_soundness_19 cV_X5_109 (c_unsoundCopies hW.present hw.1) rfl rfl ⟨⟨by decide, by decide⟩, by decide, by decide⟩ (Nat.le_of_ble_eq_true rfl) (xrecv hW.present.o rfl xcl0) ?_
    refine x_isub_n dX5_soundness_22 (by omega) ?_
    refine x_i2f dX5_soundness_23 ?_
    refine x_iload_n dX5_soundness_24 rfl ?_
    refine x_i2f dX5_soundness_25 ?_
    refine x_fdiv dX5_soundness_26 hs.1 ?_
    exact x_freturn dX5_soundness_27 rfl (by decide) (by decide) ⟨rfl, rfl⟩
  · rw [if_pos c1]
    refine x_fconst0 dX5_soundness_12 ?_
    exact x_freturn dX5_soundness_13 rfl (by decide) (by decide) ⟨rfl, rfl⟩
theorem c_chanceX (hW : WAt h v w) (hw : aW w.1.1) (p f q : Int32) : xMet g l mX5_chance 8 3 18 [.ref v, .int p, .int f, .int q] h (fun r h' => chanceK w.1.1 p f q = 0 ∧ r = some (.double (chanceV w.1.1 (ix p) (ix f) (ix q))) ∧ h' = h) (fun E h' => 0 < chanceK w.1.1 p f q ∧ [nIOB, nISE, nIAE][chanceK w.1.1 p f q - 1]? = some E ∧ wTo v w h w h') := by
  have hT : w.1.1.1 0 ≤ 16 := hw.1.1.2
  refine xMet.of (V := [some (.ref v), some (.int p), some (.int f), some (.int q)]) moX5_chance (Nat.le_of_ble_eq_true rfl) rfl ?_
  unfold chanceK
  refine x_aload_n dX5_chance_0 rfl ?_
  refine x_iload_n dX5_chance_1 rfl ?_
  refine x_iload_n dX5_chance_2 rfl ?_
  refine x_callV dX5_chance_3 cV_X5_183 (c_needBoth hW hw p f) rfl rfl ⟨⟨by decide, by decide⟩, by decide, by decide⟩ (Nat.le_of_ble_eq_true rfl) (xrecv hW.o rfl xcl4) (fun E h9 q9 => x_out rfl (by decide) (by decide) ?_) (fun v9 h9 q9 => ?_)
  · obtain ⟨rfl, q2, q3⟩ := q9
    rw [if_neg (by rw [q2]; decide)]
    exact ⟨by decide, rfl, q3⟩
  obtain ⟨rfl, rfl, q3⟩ := q9
  obtain ⟨hp, hf, -, -⟩ := ok_PF hw q3
  rw [if_pos q3]
  have e4 := nI_ix p
  have e5 := nI_ix f
  have e6 := nI_ix q
  refine xP.weak (V' := [some (.ref v), some (.int (nI (ix p))), some (.int (nI (ix f))), some (.int q)]) (by simp [xle, xset1, fin3, e4, e5]) ?_
  refine x_aload_n dX5_chance_6 rfl ?_
  refine x_getf dX5_chance_7 f_X5_12 hW.o rfl ?_
  refine x_iload_n dX5_chance_10 rfl ?_
  refine x_iload_n dX5_chance_11 rfl ?_
  refine x_vi0 dX5_chance_12 cV_X5_195 (c_isHeld hW.present (ix p) (ix f) hp (show ix f < 32 by omega) (hw.1.held hp)) rfl rfl ⟨⟨by decide, by decide⟩, by decide, by decide⟩ (Nat.le_of_ble_eq_true rfl) (xrecv hW.present.o rfl xcl0) ?_
  refine x_if_ne_b 28 dX5_chance_15 (by decide) (fun c4 => ?_) (fun c4 => ?_)
  rotate_left
  · rw [if_neg (show ¬ heldB w.1.1 (ix p) (ix f) = true by rw [show heldB w.1.1 (ix p) (ix f) = false from c4]; decide)]
    exact x_throw (j := 20) th_ISE rfl rfl dX5_chance_18 dX5_chance_21 dX5_chance_22 dX5_chance_24 dX5_chance_27 (by decide) (Nat.le_of_ble_eq_true rfl) (by decide) (by decide) (by decide) (by decide) fun n hn => ⟨by decide, rfl, wTo.thr hW hn⟩
  rw [if_pos (show heldB w.1.1 (ix p) (ix f) = true from c4)]
  refine x_iload_n dX5_chance_28 rfl ?_
  refine x_if_lt 43 dX5_chance_29 (by decide) (fun c1 => ?_) (fun c1 => ?_)
  · rw [if_neg (by rw [okB_no1 (by omega) c1]; decide)]
    exact x_throw (j := 21) th_IAE rfl rfl dX5_chance_43 dX5_chance_46 dX5_chance_47 dX5_chance_49 dX5_chance_52 (by decide) (Nat.le_of_ble_eq_true rfl) (by decide) (by decide) (by decide) (by decide) fun n hn => ⟨by decide, rfl, wTo.thr hW hn⟩
  have hle : q ≤ nI (w.1.1.1 0) ↔ q < nI (w.1.1.1 0 + 1) := by
    have hx := neg_ix (a := q)
    have hxx : ix q < 2 ^ 31 := Nat.lt_of_not_le fun c => c1 (hx.mpr c)
    rw [← e6, nI_leI hxx (by omega), nI_ltI hxx (by omega)]
    omega
  refine x_iload_n dX5_chance_32 rfl ?_
  refine x_aload_n dX5_chance_33 rfl ?_
  refine x_getf dX5_chance_34 f_X5_12 hW.o rfl ?_
  refine x_getf dX5_chance_37 f_X5_96 hW.present.o rfl ?_
  refine x_icmp_le 53 dX5_chance_40 (by decide) (fun c2 => ?_) (fun c2 => ?_)
  rotate_left
  · rw [if_neg (by rw [okB_no2 (by omega) c1 (fun c => c2 (hle.mpr c))]; decide)]
    exact x_throw (j := 21) th_IAE rfl rfl dX5_chance_43 dX5_chance_46 dX5_chance_47 dX5_chance_49 dX5_chance_52 (by decide) (Nat.le_of_ble_eq_true rfl) (by decide) (by decide) (by decide) (by decide) fun n hn => ⟨by decide, rfl, wTo.thr hW hn⟩
  have ho := okB_yes (by omega) c1 (hle.mp c2)
  have hq := okB_lt ho
  rw [if_pos ho]
  refine xP.weak (V' := [some (.ref v), some (.int (nI (ix p))), some (.int (nI (ix f))), some (.int (nI (ix q)))]) (by simp [xle, xset1, fin3, e6]) ?_
  refine x_dconst1 dX5_chance_53 ?_
  refine x_aload_n dX5_chance_54 rfl ?_
  refine x_getf dX5_chance_55 f_X5_12 hW.o rfl ?_
  refine x_iload_n dX5_chance_58 rfl ?_
  refine x_iload_n dX5_chance_59 rfl ?_
  refine x_iload_n dX5_chance_60 rfl ?_
  refine x_vi0 dX5_chance_61 cV_X5_202 (c_chance hW.present hw.1 hp hf (show ix q ≤ w.1.1.1 0 by omega)) rfl rfl ⟨⟨by decide, by decide⟩, by decide, by decide⟩ (Nat.le_of_ble_eq_true rfl) (xrecv hW.present.o rfl xcl0) ?_
  refine x_dsub dX5_chance_64 (chance_n hT (Nat.sub_le _ _)) ?_
  exact x_dreturn dX5_chance_65 rfl (by decide) (by decide) ⟨rfl, rfl, rfl⟩
theorem c_hisInit {hf : Nat → Option xE} {r : Nat} (ho : hf r = some (.inr (1, [.null, .int 0, .int 0]))) : xDet g l mX1_init 1 1 8 [.ref r] (hf, r + 1) none (fun a => if a = r then some (.inr (1, [.ref (r + 1), .int (nI 0), .int (nI 0)])) else if a = r + 1 then some (.inl (5, 8, .inr (.inr (.inr (.inr (fun _ => none)))))) else hf a, r + 2) := by
  refine xMet.of (V := [some (.ref r)]) moX1_init (Nat.le_of_ble_eq_true rfl) rfl ?_
  refine x_aload_n dX1_init_0 rfl ?_
  refine x_objInit dX1_init_1 oi_X1_3 (by decide) (by decide) ?_
  refine x_aload_n dX1_init_4 rfl ?_
  refine x_bipush (nI 8) dX1_init_5 (by decide) ?_
  refine x_anewarray dX1_init_7 l_X1_9 (by decide) (by decide) (by decide) ?_
  refine x_putF dX1_init_10 f_X1_11 (fs := [.null, .int 0, .int 0]) (by show (if r = r + 1 then _ else _) = _; rw [if_neg (by omega)]; exact ho) rfl rfl rfl rfl rfl (by decide) ?_
  refine x_aload_n dX1_init_13 rfl ?_
  refine x_iconst (nI 0) dX1_init_14 (by decide) ?_
  refine x_putf dX1_init_15 f_X1_17 hset_at rfl rfl rfl (Nat.le_of_ble_eq_true rfl) ?_
  refine x_aload_n dX1_init_18 rfl ?_
  refine x_iconst (nI 0) dX1_init_19 (by decide) ?_
  refine x_putf dX1_init_20 f_X1_21 hset_at rfl rfl rfl (Nat.le_of_ble_eq_true rfl) ?_
  have e : hset (hset (hset (hnew (hf, r + 1) (.inl (5, 8, .inr (.inr (.inr (.inr (fun _ => none))))))) r (.inr (1, [.ref (r + 1), .int 0, .int 0]))) r (.inr (1, [.ref (r + 1), .int (nI 0), .int 0]))) r (.inr (1, [.ref (r + 1), .int (nI 0), .int (nI 0)])) = (fun a => if a = r then some (.inr (1, [.ref (r + 1), .int (nI 0), .int (nI 0)])) else if a = r + 1 then some (.inl (5, 8, .inr (.inr (.inr (.inr (fun _ => none)))))) else hf a, r + 2) := by
    rw [hset2, hset2]
    refine xH_ext (fun a => ?_) rfl
    unfold hset hnew
    dsimp only
  exact x_vret dX1_init_23 rfl (by decide) (by decide) rfl e
end V11
