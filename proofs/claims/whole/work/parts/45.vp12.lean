/-! ===== VillagePhotos: the making ===== -/
/-- the world at the start -/
def w0 : Wd := ((addFamS (addFamS (emptyS 4) (lN 1) 1) (lN 2) 1, zeroS), (0, 0), (fun _ => none, fun _ => zeroS), ((fun _ => 0), ((0, -1, -1), 0, 0, 0, 0)), (fun _ => nI 0, []))
def vfl (v k : Nat) : List Value := [if 0 < k then .ref (v + 1) else .null, if 1 < k then .ref (v + 13) else .null, if 2 < k then .ref (v + 25) else .null, if 3 < k then .ref (v + 27) else .null, if 4 < k then .ref (v + 28) else .null, if 5 < k then .ref (v + 30) else .null]
theorem wK_none : wK (fun _ => none) = fun _ => none := by
  funext j
  unfold wK
  split <;> rfl
theorem wV_none : wV (fun _ => none) = fun _ => none := by
  funext j
  unfold wV
  split <;> rfl
section V12
variable {g : xG} {l : Launch} {h : xH} {v : Nat}
theorem c_vpInit {hf : Nat → Option xE} (ho : hf v = some (.inr (4, [.null, .null, .null, .null, .null, .null]))) : xMet g l mX5_init 2 31 2443 [.ref v] (hf, v + 1) (fun r h' => r = none ∧ WAt h' v w0 ∧ h'.2 = v + 32 ∧ ∀ a, a < v → h'.1 a = hf a) xno := by
  refine xMet.of (V := [some (.ref v)]) moX5_init (Nat.le_of_ble_eq_true rfl) rfl ?_
  refine x_aload_n dX5_init_0 rfl ?_
  refine x_objInit dX5_init_1 oi_X5_3 (by decide) (by decide) ?_
  refine x_aload_n dX5_init_4 rfl ?_
  obtain ⟨H0, eH0⟩ : ∃ H0, H0 = ((hf, v + 1) : xH) := ⟨_, rfl⟩
  rw [← eH0]
  have z0 : H0.2 = v + 1 := by rw [eH0]
  have o0 : H0.1 v = some (.inr (4, vfl v 0)) := by rw [eH0]; exact ho
  have b0 : ∀ a, a < v → H0.1 a = hf a := fun a _ => by rw [eH0]
  refine x_new dX5_init_5 n_X5_9 (fs := flds (v + 1) 0) (by exact flds_new _) (by decide) (by decide) ?_
  rw [z0]
  refine x_dup dX5_init_8 rfl ?_
  have en0 : hnew H0 (.inr (0, flds (v + 1) 0)) = ((hnew H0 (.inr (0, flds (v + 1) 0))).1, v + 2) := xH_ext (fun _ => rfl) (by show H0.2 + 1 = _; rw [z0])
  rw [en0]
  have hn0 : (hnew H0 (.inr (0, flds (v + 1) 0))).1 (v + 1) = some (.inr (0, flds (v + 1) 0)) := by unfold hnew; dsimp only; rw [if_pos z0.symm]
  refine x_nv dX5_init_9 cN_X5_11 rfl (c_init (o := v + 1) hn0) (As := []) rfl rfl ⟨⟨by decide, by decide⟩, by decide, by decide⟩ (Nat.le_of_ble_eq_true rfl) ?_
  have ho0 : ∀ a, a < v + 1 → (hnew H0 (.inr (0, flds (v + 1) 0))).1 a = H0.1 a := fun a q => by unfold hnew; dsimp only; rw [if_neg (by omega)]
  obtain ⟨N0, eN0⟩ : ∃ N, N = ((putArch ((hnew H0 (.inr (0, flds (v + 1) 0))).1, v + 2) (v + 1) zeroS).1, v + 13) := ⟨_, rfl⟩
  refine xP.eq (h' := N0) rfl rfl rfl eN0 ?_
  have m0 : N0.2 = v + 13 := congrArg Prod.snd eN0
  have q0 : ∀ a, a < v + 1 → N0.1 a = H0.1 a := fun a q => by rw [eN0]; show (putArch (_, v + 2) (v + 1) zeroS).1 a = _; rw [putArch_out (by omega)]; exact ho0 a q
  have A0 : ArchAt N0 (v + 1) zeroS := by rw [eN0]; exact fun k hk => putArch_at (h := (_, v + 2)) k hk
  refine x_putF dX5_init_12 f_X5_12 (fs := vfl v 0) (by rw [q0 _ (by omega)]; exact o0) rfl rfl rfl rfl rfl (Nat.le_of_ble_eq_true rfl) ?_
  obtain ⟨H1, eH1⟩ : ∃ H, H = hset N0 v (.inr (4, vfl v 1)) := ⟨_, rfl⟩
  refine xP.eq (h' := H1) rfl rfl rfl (by rw [eH1]; rfl) ?_
  have s1 : ∀ a, a ≠ v → H1.1 a = N0.1 a := fun a q => by rw [eH1]; unfold hset; dsimp only; rw [if_neg q]
  have z1 : H1.2 = v + 13 := by rw [eH1]; exact m0
  have o1 : H1.1 v = some (.inr (4, vfl v 1)) := by rw [eH1]; exact hset_at
  have b1 : ∀ a, a < v → H1.1 a = hf a := fun a q => by rw [s1 a (by omega), q0 a (by omega)]; exact b0 a q
  have p1 : ArchAt H1 (v + 1) zeroS := arch_same A0 fun a q1 q2 => s1 a (by omega)
  refine x_aload_n dX5_init_15 rfl ?_
  refine x_new dX5_init_16 n_X5_9 (fs := flds (v + 13) 0) (by exact flds_new _) (by decide) (by decide) ?_
  rw [z1]
  refine x_dup dX5_init_19 rfl ?_
  have en1 : hnew H1 (.inr (0, flds (v + 13) 0)) = ((hnew H1 (.inr (0, flds (v + 13) 0))).1, v + 14) := xH_ext (fun _ => rfl) (by show H1.2 + 1 = _; rw [z1])
  rw [en1]
  have hn1 : (hnew H1 (.inr (0, flds (v + 13) 0))).1 (v + 13) = some (.inr (0, flds (v + 13) 0)) := by unfold hnew; dsimp only; rw [if_pos z1.symm]
  refine x_nv dX5_init_20 cN_X5_11 rfl (c_init (o := v + 13) hn1) (As := []) rfl rfl ⟨⟨by decide, by decide⟩, by decide, by decide⟩ (Nat.le_of_ble_eq_true rfl) ?_
  have ho1 : ∀ a, a < v + 13 → (hnew H1 (.inr (0, flds (v + 13) 0))).1 a = H1.1 a := fun a q => by unfold hnew; dsimp only; rw [if_neg (by omega)]
  obtain ⟨N1, eN1⟩ : ∃ N, N = ((putArch ((hnew H1 (.inr (0, flds (v + 13) 0))).1, v + 14) (v + 13) zeroS).1, v + 25) := ⟨_, rfl⟩
  refine xP.eq (h' := N1) rfl rfl rfl eN1 ?_
  have m1 : N1.2 = v + 25 := congrArg Prod.snd eN1
  have q1 : ∀ a, a < v + 13 → N1.1 a = H1.1 a := fun a q => by rw [eN1]; show (putArch (_, v + 14) (v + 13) zeroS).1 a = _; rw [putArch_out (by omega)]; exact ho1 a q
  have A1 : ArchAt N1 (v + 13) zeroS := by rw [eN1]; exact fun k hk => putArch_at (h := (_, v + 14)) k hk
  refine x_putF dX5_init_23 f_X5_16 (fs := vfl v 1) (by rw [q1 _ (by omega)]; exact o1) rfl rfl rfl rfl rfl (Nat.le_of_ble_eq_true rfl) ?_
  obtain ⟨H2, eH2⟩ : ∃ H, H = hset N1 v (.inr (4, vfl v 2)) := ⟨_, rfl⟩
  refine xP.eq (h' := H2) rfl rfl rfl (by rw [eH2]; rfl) ?_
  have s2 : ∀ a, a ≠ v → H2.1 a = N1.1 a := fun a q => by rw [eH2]; unfold hset; dsimp only; rw [if_neg q]
  have z2 : H2.2 = v + 25 := by rw [eH2]; exact m1
  have o2 : H2.1 v = some (.inr (4, vfl v 2)) := by rw [eH2]; exact hset_at
  have b2 : ∀ a, a < v → H2.1 a = hf a := fun a q => by rw [s2 a (by omega), q1 a (by omega)]; exact b1 a q
  have p2 : ArchAt H2 (v + 1) zeroS := arch_same p1 fun a t1 t2 => by rw [s2 a (by omega), q1 a (by omega)]
  have r2 : ArchAt H2 (v + 13) zeroS := arch_same A1 fun a t1 t2 => s2 a (by omega)
  refine x_aload_n dX5_init_26 rfl ?_
  refine x_new dX5_init_27 n_X5_19 (fs := [.null, .int 0, .int 0]) (fun j hj => by match j, hj with | 0, _ => rfl | 1, _ => rfl | 2, _ => rfl) (by decide) (by decide) ?_
  rw [z2]
  refine x_dup dX5_init_30 rfl ?_
  have en2 : hnew H2 (.inr (1, [.null, .int 0, .int 0])) = ((hnew H2 (.inr (1, [.null, .int 0, .int 0]))).1, v + 26) := xH_ext (fun _ => rfl) (by show H2.2 + 1 = _; rw [z2])
  rw [en2]
  have hn2 : (hnew H2 (.inr (1, [.null, .int 0, .int 0]))).1 (v + 25) = some (.inr (1, [.null, .int 0, .int 0])) := by unfold hnew; dsimp only; rw [if_pos z2.symm]
  refine x_nv dX5_init_31 cN_X5_21 rfl (c_hisInit (r := v + 25) hn2) (As := []) rfl rfl ⟨⟨by decide, by decide⟩, by decide, by decide⟩ (Nat.le_of_ble_eq_true rfl) ?_
  have ho2 : ∀ a, a < v + 25 → (hnew H2 (.inr (1, [.null, .int 0, .int 0]))).1 a = H2.1 a := fun a q => by unfold hnew; dsimp only; rw [if_neg (by omega)]
  obtain ⟨N2, eN2⟩ : ∃ N, N = ((fun a => if a = v + 25 then some (.inr (1, [.ref (v + 25 + 1), .int (nI 0), .int (nI 0)])) else if a = v + 25 + 1 then some (.inl (5, 8, .inr (.inr (.inr (.inr (fun _ => none)))))) else (hnew H2 (.inr (1, [.null, .int 0, .int 0]))).1 a, v + 27) : xH) := ⟨_, rfl⟩
  refine xP.eq (h' := N2) rfl rfl rfl eN2 ?_
  have m2 : N2.2 = v + 27 := congrArg Prod.snd eN2
  have q2 : ∀ a, a < v + 25 → N2.1 a = H2.1 a := fun a q => by rw [eN2]; dsimp only; rw [if_neg (by omega), if_neg (by omega)]; exact ho2 a q
  have A2 : N2.1 (v + 25) = some (.inr (1, [.ref (v + 26), .int (nI 0), .int (nI 0)])) := by rw [eN2]; dsimp only; rw [if_pos rfl]
  have B2 : N2.1 (v + 26) = some (.inl (5, 8, .inr (.inr (.inr (.inr (fun _ => none)))))) := by rw [eN2]; dsimp only; rw [if_neg (by omega), if_pos rfl]
  refine x_putF dX5_init_34 f_X5_22 (fs := vfl v 2) (by rw [q2 _ (by omega)]; exact o2) rfl rfl rfl rfl rfl (Nat.le_of_ble_eq_true rfl) ?_
  obtain ⟨H3, eH3⟩ : ∃ H, H = hset N2 v (.inr (4, vfl v 3)) := ⟨_, rfl⟩
  refine xP.eq (h' := H3) rfl rfl rfl (by rw [eH3]; rfl) ?_
  have s3 : ∀ a, a ≠ v → H3.1 a = N2.1 a := fun a q => by rw [eH3]; unfold hset; dsimp only; rw [if_neg q]
  have z3 : H3.2 = v + 27 := by rw [eH3]; exact m2
  have o3 : H3.1 v = some (.inr (4, vfl v 3)) := by rw [eH3]; exact hset_at
  have b3 : ∀ a, a < v → H3.1 a = hf a := fun a q => by rw [s3 a (by omega), q2 a (by omega)]; exact b2 a q
  have p3 : ArchAt H3 (v + 1) zeroS := arch_same p2 fun a t1 t2 => by rw [s3 a (by omega), q2 a (by omega)]
  have r3 : ArchAt H3 (v + 13) zeroS := arch_same r2 fun a t1 t2 => by rw [s3 a (by omega), q2 a (by omega)]
  have i3 : H3.1 (v + 25) = some (.inr (1, [.ref (v + 26), .int (nI 0), .int (nI 0)])) := by rw [s3 _ (by omega)]; exact A2
  have j3 : H3.1 (v + 26) = some (.inl (5, 8, .inr (.inr (.inr (.inr (fun _ => none)))))) := by rw [s3 _ (by omega)]; exact B2
  refine x_aload_n dX5_init_37 rfl ?_
  refine x_iconst (nI 2) dX5_init_38 (by decide) ?_
  refine x_anewarray dX5_init_39 l_X5_9 (by decide) (by decide) (by decide) ?_
  rw [z3]
  obtain ⟨N3, eN3⟩ : ∃ N, N = hnew H3 (.inl (5, 2, .inr (.inr (.inr (.inr (fun _ => none)))))) := ⟨_, rfl⟩
  rw [← eN3]
  have m3 : N3.2 = v + 28 := by rw [eN3]; show H3.2 + 1 = _; rw [z3]
  have q3 : ∀ a, a < v + 27 → N3.1 a = H3.1 a := fun a q => by rw [eN3]; unfold hnew; dsimp only; rw [if_neg (by omega)]
  have A3 : N3.1 (v + 27) = some (.inl (5, 2, .inr (.inr (.inr (.inr (fun _ => none)))))) := by rw [eN3]; unfold hnew; dsimp only; rw [if_pos z3.symm]
  refine x_putF dX5_init_42 f_X5_26 (fs := vfl v 3) (by rw [q3 _ (by omega)]; exact o3) rfl rfl rfl rfl rfl (Nat.le_of_ble_eq_true rfl) ?_
  obtain ⟨H4, eH4⟩ : ∃ H, H = hset N3 v (.inr (4, vfl v 4)) := ⟨_, rfl⟩
  refine xP.eq (h' := H4) rfl rfl rfl (by rw [eH4]; rfl) ?_
  have s4 : ∀ a, a ≠ v → H4.1 a = N3.1 a := fun a q => by rw [eH4]; unfold hset; dsimp only; rw [if_neg q]
  have z4 : H4.2 = v + 28 := by rw [eH4]; exact m3
  have o4 : H4.1 v = some (.inr (4, vfl v 4)) := by rw [eH4]; exact hset_at
  have b4 : ∀ a, a < v → H4.1 a = hf a := fun a q => by rw [s4 a (by omega), q3 a (by omega)]; exact b3 a q
  have p4 : ArchAt H4 (v + 1) zeroS := arch_same p3 fun a t1 t2 => by rw [s4 a (by omega), q3 a (by omega)]
  have r4 : ArchAt H4 (v + 13) zeroS := arch_same r3 fun a t1 t2 => by rw [s4 a (by omega), q3 a (by omega)]
  have i4 : H4.1 (v + 25) = some (.inr (1, [.ref (v + 26), .int (nI 0), .int (nI 0)])) := by rw [s4 _ (by omega), q3 _ (by omega)]; exact i3
  have j4 : H4.1 (v + 26) = some (.inl (5, 8, .inr (.inr (.inr (.inr (fun _ => none)))))) := by rw [s4 _ (by omega), q3 _ (by omega)]; exact j3
  have k4 : H4.1 (v + 27) = some (.inl (5, 2, .inr (.inr (.inr (.inr (fun _ => none)))))) := by rw [s4 _ (by omega)]; exact A3
  refine x_aload_n dX5_init_45 rfl ?_
  refine x_new dX5_init_46 n_X5_30 (fs := [.null, .int 0, .int 0, .int 0, .int 0, .int 0, .int 0, .long 0]) (fun j hj => by match j, hj with | 0, _ => rfl | 1, _ => rfl | 2, _ => rfl | 3, _ => rfl | 4, _ => rfl | 5, _ => rfl | 6, _ => rfl | 7, _ => rfl) (by decide) (by decide) ?_
  rw [z4]
  refine x_dup dX5_init_49 rfl ?_
  have en4 : hnew H4 (.inr (3, [.null, .int 0, .int 0, .int 0, .int 0, .int 0, .int 0, .long 0])) = ((hnew H4 (.inr (3, [.null, .int 0, .int 0, .int 0, .int 0, .int 0, .int 0, .long 0]))).1, v + 29) := xH_ext (fun _ => rfl) (by show H4.2 + 1 = _; rw [z4])
  rw [en4]
  have hn4 : (hnew H4 (.inr (3, [.null, .int 0, .int 0, .int 0, .int 0, .int 0, .int 0, .long 0]))).1 (v + 28) = some (.inr (3, [.null, .int 0, .int 0, .int 0, .int 0, .int 0, .int 0, .long 0])) := by unfold hnew; dsimp only; rw [if_pos z4.symm]
  refine x_nv dX5_init_50 cN_X5_32 rfl (c_trInit (r := v + 28) hn4) (As := []) rfl rfl ⟨⟨by decide, by decide⟩, by decide, by decide⟩ (Nat.le_of_ble_eq_true rfl) ?_
  have ho4 : ∀ a, a < v + 28 → (hnew H4 (.inr (3, [.null, .int 0, .int 0, .int 0, .int 0, .int 0, .int 0, .long 0]))).1 a = H4.1 a := fun a q => by unfold hnew; dsimp only; rw [if_neg (by omega)]
  obtain ⟨N4, eN4⟩ : ∃ N, N = putTr ((hnew H4 (.inr (3, [.null, .int 0, .int 0, .int 0, .int 0, .int 0, .int 0, .long 0]))).1, v + 30) (v + 28) (fun _ => 0) ((0, -1, -1), 0, 0, 0, 0) := ⟨_, rfl⟩
  refine xP.eq (h' := N4) rfl rfl rfl eN4 ?_
  have m4 : N4.2 = v + 30 := congrArg Prod.snd eN4
  have q4 : ∀ a, a < v + 28 → N4.1 a = H4.1 a := fun a q => by rw [eN4]; rw [putTr_out (by omega) (by omega)]; exact ho4 a q
  have A4 : TrAt N4 (v + 28) (fun _ => 0) ((0, -1, -1), 0, 0, 0, 0) := by rw [eN4]; exact putTr_at
  refine x_putF dX5_init_53 f_X5_33 (fs := vfl v 4) (by rw [q4 _ (by omega)]; exact o4) rfl rfl rfl rfl rfl (Nat.le_of_ble_eq_true rfl) ?_
  obtain ⟨H5, eH5⟩ : ∃ H, H = hset N4 v (.inr (4, vfl v 5)) := ⟨_, rfl⟩
  refine xP.eq (h' := H5) rfl rfl rfl (by rw [eH5]; rfl) ?_
  have s5 : ∀ a, a ≠ v → H5.1 a = N4.1 a := fun a q => by rw [eH5]; unfold hset; dsimp only; rw [if_neg q]
  have z5 : H5.2 = v + 30 := by rw [eH5]; exact m4
  have o5 : H5.1 v = some (.inr (4, vfl v 5)) := by rw [eH5]; exact hset_at
  have b5 : ∀ a, a < v → H5.1 a = hf a := fun a q => by rw [s5 a (by omega), q4 a (by omega)]; exact b4 a q
  have p5 : ArchAt H5 (v + 1) zeroS := arch_same p4 fun a t1 t2 => by rw [s5 a (by omega), q4 a (by omega)]
  have r5 : ArchAt H5 (v + 13) zeroS := arch_same r4 fun a t1 t2 => by rw [s5 a (by omega), q4 a (by omega)]
  have i5 : H5.1 (v + 25) = some (.inr (1, [.ref (v + 26), .int (nI 0), .int (nI 0)])) := by rw [s5 _ (by omega), q4 _ (by omega)]; exact i4
  have j5 : H5.1 (v + 26) = some (.inl (5, 8, .inr (.inr (.inr (.inr (fun _ => none)))))) := by rw [s5 _ (by omega), q4 _ (by omega)]; exact j4
  have k5 : H5.1 (v + 27) = some (.inl (5, 2, .inr (.inr (.inr (.inr (fun _ => none)))))) := by rw [s5 _ (by omega), q4 _ (by omega)]; exact k4
  have l5 : TrAt H5 (v + 28) (fun _ => 0) ((0, -1, -1), 0, 0, 0, 0) := ⟨by rw [s5 _ (by omega)]; exact A4.1, by rw [s5 _ (by omega)]; exact A4.2⟩
  refine x_aload_n dX5_init_56 rfl ?_
  refine x_new dX5_init_57 n_X5_37 (fs := [.null, .int 0]) (fun j hj => by match j, hj with | 0, _ => rfl | 1, _ => rfl) (by decide) (by decide) ?_
  rw [z5]
  refine x_dup dX5_init_60 rfl ?_
  have en5 : hnew H5 (.inr (2, [.null, .int 0])) = ((hnew H5 (.inr (2, [.null, .int 0]))).1, v + 31) := xH_ext (fun _ => rfl) (by show H5.2 + 1 = _; rw [z5])
  rw [en5]
  have hn5 : (hnew H5 (.inr (2, [.null, .int 0]))).1 (v + 30) = some (.inr (2, [.null, .int 0])) := by unfold hnew; dsimp only; rw [if_pos z5.symm]
  refine x_nv dX5_init_61 cN_X5_39 rfl (c_wrInit (r := v + 30) hn5) (As := []) rfl rfl ⟨⟨by decide, by decide⟩, by decide, by decide⟩ (Nat.le_of_ble_eq_true rfl) ?_
  have ho5 : ∀ a, a < v + 30 → (hnew H5 (.inr (2, [.null, .int 0]))).1 a = H5.1 a := fun a q => by unfold hnew; dsimp only; rw [if_neg (by omega)]
  obtain ⟨N5, eN5⟩ : ∃ N, N = putWr ((hnew H5 (.inr (2, [.null, .int 0]))).1, v + 32) (v + 30) (fun _ => nI 0) [] := ⟨_, rfl⟩
  refine xP.eq (h' := N5) rfl rfl rfl eN5 ?_
  have m5 : N5.2 = v + 32 := congrArg Prod.snd eN5
  have q5 : ∀ a, a < v + 30 → N5.1 a = H5.1 a := fun a q => by rw [eN5]; rw [putWr_out (by omega) (by omega)]; exact ho5 a q
  have A5 : WrAt N5 (v + 30) (fun _ => nI 0) [] := by rw [eN5]; exact putWr_at
  refine x_putF dX5_init_64 f_X5_40 (fs := vfl v 5) (by rw [q5 _ (by omega)]; exact o5) rfl rfl rfl rfl rfl (Nat.le_of_ble_eq_true rfl) ?_
  obtain ⟨H6, eH6⟩ : ∃ H, H = hset N5 v (.inr (4, vfl v 6)) := ⟨_, rfl⟩
  refine xP.eq (h' := H6) rfl rfl rfl (by rw [eH6]; rfl) ?_
  have s6 : ∀ a, a ≠ v → H6.1 a = N5.1 a := fun a q => by rw [eH6]; unfold hset; dsimp only; rw [if_neg q]
  have z6 : H6.2 = v + 32 := by rw [eH6]; exact m5
  have o6 : H6.1 v = some (.inr (4, vfl v 6)) := by rw [eH6]; exact hset_at
  have b6 : ∀ a, a < v → H6.1 a = hf a := fun a q => by rw [s6 a (by omega), q5 a (by omega)]; exact b5 a q
  have p6 : ArchAt H6 (v + 1) zeroS := arch_same p5 fun a t1 t2 => by rw [s6 a (by omega), q5 a (by omega)]
  have r6 : ArchAt H6 (v + 13) zeroS := arch_same r5 fun a t1 t2 => by rw [s6 a (by omega), q5 a (by omega)]
  have i6 : H6.1 (v + 25) = some (.inr (1, [.ref (v + 26), .int (nI 0), .int (nI 0)])) := by rw [s6 _ (by omega), q5 _ (by omega)]; exact i5
  have j6 : H6.1 (v + 26) = some (.inl (5, 8, .inr (.inr (.inr (.inr (fun _ => none)))))) := by rw [s6 _ (by omega), q5 _ (by omega)]; exact j5
  have k6 : H6.1 (v + 27) = some (.inl (5, 2, .inr (.inr (.inr (.inr (fun _ => none)))))) := by rw [s6 _ (by omega), q5 _ (by omega)]; exact k5
  have l6 : TrAt H6 (v + 28) (fun _ => 0) ((0, -1, -1), 0, 0, 0, 0) := ⟨by rw [s6 _ (by omega), q5 _ (by omega)]; exact l5.1, by rw [s6 _ (by omega), q5 _ (by omega)]; exact l5.2⟩
  have n6 : WrAt H6 (v + 30) (fun _ => nI 0) [] := ⟨by rw [s6 _ (by omega)]; exact A5.1, by rw [s6 _ (by omega)]; exact A5.2⟩
  have hW : WAt H6 v ((zeroS, zeroS), (0, 0), (fun _ => none, fun _ => zeroS), ((fun _ => 0), ((0, -1, -1), 0, 0, 0, 0)), (fun _ => nI 0, [])) := ⟨o6, p6, r6, i6, by rw [j6]; congr 8; exact wK_none.symm, by rw [k6]; congr 8; exact wV_none.symm, l6, n6, (fun d x _ q => by cases q), by rw [z6]; exact Nat.le_refl _⟩
  have eP := hW.P_self
  rw [← eP]
  refine x_aload_n dX5_init_67 rfl ?_
  refine x_getf dX5_init_68 f_X5_12 (hW.setP _).o rfl ?_
  refine x_iconst (nI 4) dX5_init_71 (by decide) ?_
  refine x_vv0 dX5_init_72 cV_X5_44 (c_startEmpty) rfl rfl ⟨⟨by decide, by decide⟩, by decide, by decide⟩ (Nat.le_of_ble_eq_true rfl) (xrecv (hW.setP _).present.o rfl xcl0) ?_
  refine x_aload_n dX5_init_75 rfl ?_
  refine x_getf dX5_init_76 f_X5_12 (hW.setP _).o rfl ?_
  refine x_lconst (lN 0) dX5_init_79 (by decide) ?_
  refine x_bipush (nI 97) dX5_init_80 (by decide) ?_
  refine x_si0 dX5_init_82 cS_X5_48 (c_withSign (n := 0) (c := 97) (by decide) (Or.inr ⟨by decide, by decide⟩)) rfl rfl ⟨⟨by decide, by decide⟩, by decide, by decide⟩ (Nat.le_of_ble_eq_true rfl) ?_
  rw [show 0 * 32 + codeV 97 = 1 from rfl]
  refine x_iconst (nI 1) dX5_init_85 (by decide) ?_
  refine x_vv0 dX5_init_86 cV_X5_54 (c_addFamily _ (by decide)) rfl rfl ⟨⟨by decide, by decide⟩, by decide, by decide⟩ (Nat.le_of_ble_eq_true rfl) (xrecv (hW.setP _).present.o rfl xcl0) ?_
  refine x_aload_n dX5_init_89 rfl ?_
  refine x_getf dX5_init_90 f_X5_12 (hW.setP _).o rfl ?_
  refine x_lconst (lN 0) dX5_init_93 (by decide) ?_
  refine x_bipush (nI 98) dX5_init_94 (by decide) ?_
  refine x_si0 dX5_init_96 cS_X5_48 (c_withSign (n := 0) (c := 98) (by decide) (Or.inr ⟨by decide, by decide⟩)) rfl rfl ⟨⟨by decide, by decide⟩, by decide, by decide⟩ (Nat.le_of_ble_eq_true rfl) ?_
  rw [show 0 * 32 + codeV 98 = 2 from rfl]
  refine x_iconst (nI 1) dX5_init_99 (by decide) ?_
  refine x_vv0 dX5_init_100 cV_X5_54 (c_addFamily _ (by decide)) rfl rfl ⟨⟨by decide, by decide⟩, by decide, by decide⟩ (Nat.le_of_ble_eq_true rfl) (xrecv (hW.setP _).present.o rfl xcl0) ?_
  exact x_return dX5_init_103 rfl (by decide) (by decide) ⟨rfl, hW.setP _, z6, fun a q => by rw [putArch_out (by omega)]; exact b6 a q⟩
end V12
