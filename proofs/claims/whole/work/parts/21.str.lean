/-! ===== the String constants ===== -/
theorem fs_value : Cond.fieldLink RJ0 9 "java/lang/String" "value" "[B" ∈ xW := x_in 1550 (by decide +kernel) rfl
theorem fs_coder : Cond.fieldLink RJ0 15 "java/lang/String" "coder" "B" ∈ xW := x_in 1551 (by decide +kernel) rfl
theorem fs_compact : Cond.fieldLink RJ0 38 "java/lang/String" "COMPACT_STRINGS" "Z" ∈ xW := x_in 336 (by decide +kernel) rfl
theorem fs_form : Cond.fieldLink RJ0 1053 "jdk/internal/util/Preconditions" "SIOOBE_FORMATTER" "Ljava/util/function/BiFunction;" ∈ xW := x_in 352 (by decide +kernel) rfl
section S1
variable {g : xG} {l : Launch} {M : xM} {tb : List (Nat × Nat × Nat × Nat)} {R : Room} {Z : List Frame → Array Value → State → State → Prop} {pc : Nat} {V : List (Option Value)} {S : List Value} {h : xH} {kc ks : Nat}
theorem x_getsC {i : Nat} (hd : decode M.2.1 pc = .ok (.getstatic i, 3)) (hl : Cond.fieldLink M.1.cls i "java/lang/String" "COMPACT_STRINGS" "Z" ∈ xW) (K : xP g l M tb R Z (pc + 3) V (.int 1 :: S) h kc ks) : xP g l M tb R Z pc V S h kc ks := by
  intro p e s m args below meth c H locs ls B hC hS hl9
  obtain ⟨hx, hb, hr, hml, hown, hts, hlk, hnm, htb, hI, hz, hst⟩ := id B
  exact va_gets hx hb hI.2.2.2.1 hS hown (hts _ hl) (fun x hx9 => hx9) hd (K p e s m args below meth c H locs ls B hC hS hl9)
theorem x_getsQ {i : Nat} (hd : decode M.2.1 pc = .ok (.getstatic i, 3)) (hl : Cond.fieldLink M.1.cls i "jdk/internal/util/Preconditions" "SIOOBE_FORMATTER" "Ljava/util/function/BiFunction;" ∈ xW) (K : ∀ v : Value, v.category = 1 → (v = .null ∨ ∃ t, v = .ref t) → xP g l M tb R Z (pc + 3) V (v :: S) h kc ks) : xP g l M tb R Z pc V S h kc ks := by
  intro p e s m args below meth c H locs ls B hC hS hl9
  obtain ⟨hx, hb, hr, hml, hown, hts, hlk, hnm, htb, hI, hz, hst⟩ := id B
  rcases hI.2.2.2.2.1 with h9 | ⟨t, h9⟩
  · exact va_gets hx hb h9 hS hown (hts _ hl) (fun x hx9 => hx9) hd (K .null rfl (Or.inl rfl) p e s m args below meth c H locs ls B hC hS hl9)
  · exact va_gets hx hb h9 hS hown (hts _ hl) (fun x hx9 => hx9) hd (K (.ref t) rfl (Or.inr ⟨t, rfl⟩) p e s m args below meth c H locs ls B hC hS hl9)
theorem x_getfV {i j : Nat} {q : String × Nat × String × List Int32} (hq : xStr[j]? = some q) (hd : decode M.2.1 pc = .ok (.getfield i, 3)) (hl : Cond.fieldLink M.1.cls i "java/lang/String" "value" "[B" ∈ xW) (K : xP g l M tb R Z (pc + 3) V (.ref (gV g j) :: S) h kc ks) : xP g l M tb R Z pc V (.ref (gS g j) :: S) h kc ks := by
  intro p e s m args below meth c H locs ls B hC hS hl9
  obtain ⟨hx, hb, hr, hml, hown, hts, hlk, hnm, htb, hI, hz, hst⟩ := id B
  obtain ⟨k1, k2, k3, k4, k5⟩ := hI.2.2.2.2.2 j q hq
  exact vk_getf hx hb k4 hS hown (hts _ hl) (fun x hx9 => hx9) hd (K p e s m args below meth c H locs ls B hC hS hl9)
theorem x_getfC {i j : Nat} {q : String × Nat × String × List Int32} (hq : xStr[j]? = some q) (hd : decode M.2.1 pc = .ok (.getfield i, 3)) (hl : Cond.fieldLink M.1.cls i "java/lang/String" "coder" "B" ∈ xW) (K : xP g l M tb R Z (pc + 3) V (.int 0 :: S) h kc ks) : xP g l M tb R Z pc V (.ref (gS g j) :: S) h kc ks := by
  intro p e s m args below meth c H locs ls B hC hS hl9
  obtain ⟨hx, hb, hr, hml, hown, hts, hlk, hnm, htb, hI, hz, hst⟩ := id B
  obtain ⟨k1, k2, k3, k4, k5⟩ := hI.2.2.2.2.2 j q hq
  exact vk_getf hx hb k3 hS hown (hts _ hl) (fun x hx9 => hx9) hd (K p e s m args below meth c H locs ls B hC hS hl9)
theorem x_alenV {j : Nat} {q : String × Nat × String × List Int32} (hq : xStr[j]? = some q) (hd : decode M.2.1 pc = .ok (.arraylength, 1)) (K : xP g l M tb R Z (pc + 1) V (.int (nI q.2.2.2.length) :: S) h kc ks) : xP g l M tb R Z pc V (.ref (gV g j) :: S) h kc ks := by
  intro p e s m args below meth c H locs ls B hC hS hl9
  obtain ⟨hx, hb, hr, hml, hown, hts, hlk, hnm, htb, hI, hz, hst⟩ := id B
  obtain ⟨k1, k2, k3, k4, k5⟩ := hI.2.2.2.2.2 j q hq
  exact va_tlen hx hb k5 hS rfl hd (K p e s m args below meth c H locs ls B hC hS hl9)
theorem x_baldV {j i : Nat} {q : String × Nat × String × List Int32} (hq : xStr[j]? = some q) (hi : i < q.2.2.2.length) (hn : q.2.2.2.length < 2 ^ 31) (hd : decode M.2.1 pc = .ok (.baload, 1)) (K : xP g l M tb R Z (pc + 1) V (.int (q.2.2.2.getD i 0) :: S) h kc ks) : xP g l M tb R Z pc V (.int (nI i) :: .ref (gV g j) :: S) h kc ks := by
  intro p e s m args below meth c H locs ls B hC hS hl9
  obtain ⟨hx, hb, hr, hml, hown, hts, hlk, hnm, htb, hI, hz, hst⟩ := id B
  obtain ⟨k1, k2, k3, k4, k5⟩ := hI.2.2.2.2.2 j q hq
  exact va_tb hx hb k5 hS (vp_in_nI hi hn) (by rw [nI_clamp (show i < 2 ^ 31 by omega)]) hd (K p e s m args below meth c H locs ls B hC hS hl9)
theorem x_ldcS {i j : Nat} {q : String × Nat × String × List Int32} (hq : xStr[j]? = some q) (hw : q.1 = M.1.cls) (hk : q.2.1 = i) (hd : decode M.2.1 pc = .ok (.ldc i, 2)) (K : xP g l M tb R Z (pc + 2) V (.ref (gS g j) :: S) h kc ks) : xP g l M tb R Z pc V S h kc ks := by
  subst hk
  intro p e s m args below meth c H locs ls B hC hS hl9
  obtain ⟨hx, hb, hr, hml, hown, hts, hlk, hnm, htb, hI, hz, hst⟩ := id B
  obtain ⟨k1, k2, k3, k4, k5⟩ := hI.2.2.2.2.2 j q hq
  rw [hw] at k1
  exact va_ldcS hx hb hown k1 hd (K p e s m args below meth c H locs ls B hC hS hl9)
theorem x_i2c {b : Nat} (hb9 : b < 256) (hd : decode M.2.1 pc = .ok (.i2c, 1)) (K : xP g l M tb R Z (pc + 1) V (.int (nI b) :: S) h kc ks) : xP g l M tb R Z pc V (.int (nI b) :: S) h kc ks := by
  intro p e s m args below meth c H locs ls B hC hS hl9
  refine lv_i2c B.1 B.2.1 hd ?_ (K p e s m args below meth c H locs ls B hC hS hl9)
  have : ∀ x : Fin 256, ((nI x.val).toUInt32 % 65536).toInt32 = nI x.val := by decide +kernel
  exact this ⟨b, hb9⟩
theorem x_viS0 {i n j : Nat} {q : String × Nat × String × List Int32} {M' : xM} {As : List Value} {fr : Nat} {v : Value} {h2 : xH} {St : List Value} (hq : xStr[j]? = some q) (hcl : M'.1.cls = "java/lang/String") (hd : decode M.2.1 pc = .ok (.invokevirtual i, 3)) (hc : xCV M.1.cls i M' n) (hM : xDet g l M' fr 0 0 (.ref (gS g j) :: As) h (some v) h2) (hSt : As.reverse ++ .ref (gS g j) :: S = St) (hn : As.length = n)
    (hR : (fr + 1 ≤ R.frames ∧ 8 + (M'.2.2.1 + 11) + 36 * fr ≤ R.locals) ∧ kc + 0 ≤ R.cells ∧ ks + 0 ≤ R.slots) (hW : (S.map fun v => v.category).sum ≤ 8)
    (K : xP g l M tb R Z (pc + 3) V (v :: S) h2 kc ks) : xP g l M tb R Z pc V St h kc ks := by
  intro p e s m args below meth c H locs ls B hC hS hl
  obtain ⟨hx, hb, hr, hml, hown, hts, hlk, hnm, htb, hI, hz, hst⟩ := id B
  obtain ⟨⟨hok, hin, hsel⟩, hln⟩ := hc
  subst hSt
  have hrecv : ∃ cellB : Cell, H[gS g j]? = some cellB ∧ cellB.vm.isStatics = false ∧ s.vm.findClass M'.1.cls = some cellB.cls := by
    obtain ⟨cell, e1, e2, e3, -⟩ := va_O.kept (hI.2.2.2.2.2 j q hq).2.1 hS.2.1
    exact ⟨cell, e1, e2, by rw [hcl]; exact e3⟩
  exact x_fromRun B hC hS hl (vx_runV (As := As) (rest := S) ⟨hx, hb, hml, hown, hts⟩ (hM hst) ⟨x_callB B hok hln hR.1, hts _ hin, hts _ hsel⟩ ⟨xPc_blind, hrecv, (x_preS B hC hS).2⟩ rfl hn hl.1 rfl (lv_room hW) hd hR.2) (fun _ _ q => q.elim) (fun v9 h9 q => by obtain ⟨rfl, rfl⟩ := q; exact K)
end S1
section S2
variable {g : xG} {l : Launch} {h : xH} {j : Nat} {q : String × Nat × String × List Int32}
theorem c_coder (hq : xStr[j]? = some q) : xDet g l mJ0_coder_7d493 0 0 0 [.ref (gS g j)] h (some (.int 0)) h := by
  refine xMet.of (V := [some (.ref (gS g j))]) moJ0_coder_7d493 (Nat.le_of_ble_eq_true rfl) rfl ?_
  refine x_getsC dJ0_coder_7d493_0 fs_compact ?_
  refine x_if_eq_n (x := 1) 13 dJ0_coder_7d493_3 rfl (by decide) (fun c => absurd c (by decide)) fun _ => ?_
  refine x_aload_n dJ0_coder_7d493_6 rfl ?_
  refine x_getfC hq dJ0_coder_7d493_7 fs_coder ?_
  refine x_goto 14 dJ0_coder_7d493_10 rfl ?_
  exact x_iret .byte dJ0_coder_7d493_14 rfl rfl (by decide) (by decide) rfl rfl
theorem c_isLatin1 (hq : xStr[j]? = some q) : xDet g l mJ0_isLatin1_aae02 0 0 0 [.ref (gS g j)] h (some (.int 1)) h := by
  refine xMet.of (V := [some (.ref (gS g j))]) moJ0_isLatin1_aae02 (Nat.le_of_ble_eq_true rfl) rfl ?_
  refine x_getsC dJ0_isLatin1_aae02_0 fs_compact ?_
  refine x_if_eq_n (x := 1) 17 dJ0_isLatin1_aae02_3 rfl (by decide) (fun c => absurd c (by decide)) fun _ => ?_
  refine x_aload_n dJ0_isLatin1_aae02_6 rfl ?_
  refine x_getfC hq dJ0_isLatin1_aae02_7 fs_coder ?_
  refine x_if_ne_n (x := 0) 17 dJ0_isLatin1_aae02_10 rfl (by decide) (fun c => absurd c (by decide)) fun _ => ?_
  refine x_iconst (nI 1) dJ0_isLatin1_aae02_13 (by decide) ?_
  refine x_goto 18 dJ0_isLatin1_aae02_14 rfl ?_
  exact x_iret .boolean dJ0_isLatin1_aae02_18 rfl rfl (by decide) (by decide) rfl rfl
theorem c_length (hq : xStr[j]? = some q) (hn : q.2.2.2.length < 256) : xDet g l mJ0_length_8abf5 1 0 0 [.ref (gS g j)] h (some (.int (nI q.2.2.2.length))) h := by
  refine xMet.of (V := [some (.ref (gS g j))]) moJ0_length_8abf5 (Nat.le_of_ble_eq_true rfl) rfl ?_
  refine x_aload_n dJ0_length_8abf5_0 rfl ?_
  refine x_getfV hq dJ0_length_8abf5_1 fs_value ?_
  refine x_alenV hq dJ0_length_8abf5_4 ?_
  refine x_aload_n dJ0_length_8abf5_5 rfl ?_
  refine x_viS0 hq rfl dJ0_length_8abf5_6 cV_J0_335 (c_coder hq) rfl rfl ⟨⟨by decide, by decide⟩, by decide, by decide⟩ (Nat.le_of_ble_eq_true rfl) ?_
  refine x_ishr_n (y := 0) dJ0_length_8abf5_9 (by decide) (by omega) ?_
  exact x_iret .int dJ0_length_8abf5_10 rfl rfl (by decide) (by decide) (by rw [Nat.pow_zero, Nat.div_one]) rfl
theorem c_pre {n i : Nat} {v : Value} (hi : i < n) (hn : n < 2 ^ 31) (hv : v = .null ∨ ∃ t, v = .ref t) : xDet g l mJ3_checkIndex_8e157 0 0 0 [.int (nI i), .int (nI n), v] h (some (.int (nI i))) h := by
  refine xMet.of (V := [some (.int (nI i)), some (.int (nI n)), some v]) moJ3_checkIndex_8e157 (by rcases hv with rfl | ⟨t, rfl⟩ <;> exact Nat.le_of_ble_eq_true rfl) (by rcases hv with rfl | ⟨t, rfl⟩ <;> rfl) ?_
  refine x_iload_n dJ3_checkIndex_8e157_0 rfl ?_
  refine x_if_lt_n dJ3_checkIndex_8e157_1 (tgt := 9) rfl (by omega) ?_
  refine x_iload_n dJ3_checkIndex_8e157_4 rfl ?_
  refine x_iload_n dJ3_checkIndex_8e157_5 rfl ?_
  refine x_icmp_lt_n 16 dJ3_checkIndex_8e157_6 rfl (by omega) (by omega) (fun _ => ?_) (fun c => absurd hi (by omega))
  refine x_iload_n dJ3_checkIndex_8e157_16 rfl ?_
  exact x_iret .int dJ3_checkIndex_8e157_17 rfl rfl (by decide) (by decide) rfl rfl
theorem c_checkIndex {n i : Nat} (hi : i < n) (hn : n < 2 ^ 31) : xDet g l mJ0_checkIndex_df160 1 0 0 [.int (nI i), .int (nI n)] h none h := by
  refine xMet.of (V := [some (.int (nI i)), some (.int (nI n))]) moJ0_checkIndex_df160 (Nat.le_of_ble_eq_true rfl) rfl ?_
  refine x_iload_n dJ0_checkIndex_df160_0 rfl ?_
  refine x_iload_n dJ0_checkIndex_df160_1 rfl ?_
  refine x_getsQ dJ0_checkIndex_df160_2 fs_form fun v hv1 hv => ?_
  refine x_si0 dJ0_checkIndex_df160_5 cS_J0_1059 (c_pre hi hn hv) rfl rfl ⟨⟨by decide, by decide⟩, by decide, by decide⟩ (Nat.le_of_ble_eq_true rfl) ?_
  refine x_pop dJ0_checkIndex_df160_8 rfl ?_
  exact x_vret dJ0_checkIndex_df160_9 rfl (by decide) (by decide) rfl rfl
theorem and255 {b : Nat} (hb : b < 128) : b &&& 255 = b := by
  have : ∀ x : Fin 128, x.val &&& 255 = x.val := by decide
  exact this ⟨b, hb⟩
theorem c_charAtL {i b : Nat} (hq : xStr[j]? = some q) (hn : q.2.2.2.length < 256) (hi : i < q.2.2.2.length) (hb : q.2.2.2.getD i 0 = nI b) (hb9 : b < 128) : xDet g l mJ1_charAt_3b067 2 0 0 [.ref (gV g j), .int (nI i)] h (some (.int (nI b))) h := by
  refine xMet.of (V := [some (.ref (gV g j)), some (.int (nI i))]) moJ1_charAt_3b067 (Nat.le_of_ble_eq_true rfl) rfl ?_
  refine x_iload_n dJ1_charAt_3b067_0 rfl ?_
  refine x_aload_n dJ1_charAt_3b067_1 rfl ?_
  refine x_alenV hq dJ1_charAt_3b067_2 ?_
  refine x_sv0 dJ1_charAt_3b067_3 cS_J1_9 (c_checkIndex hi (by omega)) rfl rfl ⟨⟨by decide, by decide⟩, by decide, by decide⟩ (Nat.le_of_ble_eq_true rfl) ?_
  refine x_aload_n dJ1_charAt_3b067_6 rfl ?_
  refine x_iload_n dJ1_charAt_3b067_7 rfl ?_
  refine x_baldV hq hi (by omega) dJ1_charAt_3b067_8 ?_
  rw [hb]
  refine x_sipush (nI 255) dJ1_charAt_3b067_9 (by decide) ?_
  refine x_iand_n dJ1_charAt_3b067_12 ?_
  rw [and255 hb9]
  refine x_i2c (by omega) dJ1_charAt_3b067_13 ?_
  have hnr : narrow .char (.int (nI b)) = .int (nI b) := by
    have : ∀ x : Fin 128, narrow .char (.int (nI x.val)) = .int (nI x.val) := by decide +kernel
    exact this ⟨b, hb9⟩
  exact x_iret .char dJ1_charAt_3b067_14 rfl hnr (by decide) (by decide) rfl rfl
theorem c_charAt {i b : Nat} (hq : xStr[j]? = some q) (hn : q.2.2.2.length < 256) (hi : i < q.2.2.2.length) (hb : q.2.2.2.getD i 0 = nI b) (hb9 : b < 128) : xDet g l mJ0_charAt_5068e 3 0 0 [.ref (gS g j), .int (nI i)] h (some (.int (nI b))) h := by
  refine xMet.of (V := [some (.ref (gS g j)), some (.int (nI i))]) moJ0_charAt_5068e (Nat.le_of_ble_eq_true rfl) rfl ?_
  refine x_aload_n dJ0_charAt_5068e_0 rfl ?_
  refine x_viS0 hq rfl dJ0_charAt_5068e_1 cV_J0_492 (c_isLatin1 hq) rfl rfl ⟨⟨by decide, by decide⟩, by decide, by decide⟩ (Nat.le_of_ble_eq_true rfl) ?_
  refine x_if_eq_n (x := 1) 16 dJ0_charAt_5068e_4 rfl (by decide) (fun c => absurd c (by decide)) fun _ => ?_
  refine x_aload_n dJ0_charAt_5068e_7 rfl ?_
  refine x_getfV hq dJ0_charAt_5068e_8 fs_value ?_
  refine x_iload_n dJ0_charAt_5068e_11 rfl ?_
  refine x_si0 dJ0_charAt_5068e_12 cS_J0_495 (c_charAtL hq hn hi hb hb9) rfl rfl ⟨⟨by decide, by decide⟩, by decide, by decide⟩ (Nat.le_of_ble_eq_true rfl) ?_
  have hnr : narrow .char (.int (nI b)) = .int (nI b) := by
    have : ∀ x : Fin 128, narrow .char (.int (nI x.val)) = .int (nI x.val) := by decide +kernel
    exact this ⟨b, hb9⟩
  exact x_iret .char dJ0_charAt_5068e_15 rfl hnr (by decide) (by decide) rfl rfl
end S2
