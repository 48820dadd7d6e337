/-! ===== the law's own methods: append, undo, save, chance ===== -/
section LW2
variable {g : xG} {l : Launch} {h : xH} {v o : Nat} {w : Wd} {f : Nat → Int64} {fd : Nat → UInt64}
def wrA (v : Nat) (w : Wd) (h : xH) (o : Nat) (f : Nat → Int64) (B : (Nat → Nat) × Tr) (N : Nat) (r : Option Value) (h' : xH) : Prop := (w.2.2.2.1.2.1.1 + N ≤ 600 ∧ r = some (.int (nI 0)) ∧ ∃ h1, wTo v w h (sRd w B.1 B.2) h1 ∧ h' = hset h1 o (.inl (2, 1, .inr (.inl (vp_updL f 0 (nI B.2.1.1).toInt64))))) ∨ (¬ w.2.2.2.1.2.1.1 + N ≤ 600 ∧ r = some (.int (nI 1)) ∧ wTo v w h w h')
theorem w_append (hW : WAt h v w) (hr : rdOk w) (ho : h.1 o = some (.inl (2, 1, .inr (.inl f)))) (hz : o < h.2) (hn : ¬ inW v w o) (a b c d e : Int32) : xMetH g l mL_append tbL_append 7 1 6 [.ref v, .int a, .int b, .int c, .int d, .int e, .ref o] h (wrA v w h o f (apS a b c d e w.2.2.2.1) (apN a b c d e)) xno := by
  refine xMetH.of (V := [some (.ref v), some (.int a), some (.int b), some (.int c), some (.int d), some (.int e), some (.ref o), none]) cH_L_101.1.1 (Nat.le_of_ble_eq_true rfl) rfl ?_
  refine x_aload dL_append_0 rfl ?_
  refine x_iconst (nI 0) dL_append_2 (by decide) ?_
  refine x_aload_n dL_append_3 rfl ?_
  refine x_iload_n dL_append_4 rfl ?_
  refine x_iload_n dL_append_5 rfl ?_
  refine x_iload_n dL_append_6 rfl ?_
  refine x_iload dL_append_7 rfl ?_
  refine x_iload dL_append_9 rfl ?_
  refine x_callV dL_append_11 cV_L_7 (c_append hW hr a b c d e) rfl rfl ⟨⟨by decide, by decide⟩, by decide, by decide⟩ (Nat.le_of_ble_eq_true rfl) (xrecv hW.o rfl xcl4) (fun E h9 q9 => ?_) (fun v9 h9 q9 => ?_)
  · obtain ⟨rfl, k2, k3⟩ := q9
    refine x_catch (pre := []) (E := nISE) rfl (fun z hz9 => by cases hz9) (by decide +kernel) (by decide) kl_13 kk_nISE (fun q => ?_)
    refine x_astore dL_append_19 (by decide) rfl rfl ?_
    refine x_iconst (nI 1) dL_append_21 (by decide) ?_
    exact x_ireturn dL_append_22 rfl rfl (by decide) (by decide) (Or.inr ⟨k2, rfl, k3⟩)
  · obtain ⟨k1, rfl, hto⟩ := q9
    refine x_i2l dL_append_14 ?_
    refine x_last dL_append_15 (hto.at ho hz hn) (by decide) (by decide) ?_
    refine x_goto 23 dL_append_16 (by decide) ?_
    refine x_iconst (nI 0) dL_append_23 (by decide) ?_
    exact x_ireturn dL_append_24 rfl rfl (by decide) (by decide) (Or.inl ⟨k1, rfl, _, hto, rfl⟩)
def wrU (v : Nat) (w : Wd) (h : xH) (o : Nat) (f : Nat → Int64) (r : Option Value) (h' : xH) : Prop := (0 < w.2.1.2 ∧ r = some (.int (nI 0)) ∧ ∃ h1, wTo v w h (undoW w) h1 ∧ h' = hset h1 o (.inl (2, 1, .inr (.inl (vp_updL f 0 (nI (w.2.1.2 - 1)).toInt64))))) ∨ (w.2.1.2 = 0 ∧ r = some (.int (nI 1)) ∧ wTo v w h w h')
theorem w_undo (hW : WAt h v w) (hh : hisOk w) (ha : hisAt w) (ho : h.1 o = some (.inl (2, 1, .inr (.inl f)))) (hz : o < h.2) (hn : ¬ inW v w o) : xMetH g l mL_undo tbL_undo 7 1 6 [.ref v, .ref o] h (wrU v w h o f) xno := by
  refine xMetH.of (V := [some (.ref v), some (.ref o), none]) cH_L_219.1.1 (Nat.le_of_ble_eq_true rfl) rfl ?_
  refine x_aload_n dL_undo_0 rfl ?_
  refine x_iconst (nI 0) dL_undo_1 (by decide) ?_
  refine x_aload_n dL_undo_2 rfl ?_
  refine x_callV dL_undo_3 cV_L_83 (c_undo hW hh ha) rfl rfl ⟨⟨by decide, by decide⟩, by decide, by decide⟩ (Nat.le_of_ble_eq_true rfl) (xrecv hW.o rfl xcl4) (fun E h9 q9 => ?_) (fun v9 h9 q9 => ?_)
  · obtain ⟨rfl, k2, k3⟩ := q9
    refine x_catch (pre := []) (E := nISE) rfl (fun z hz9 => by cases hz9) (by decide +kernel) (by decide) kl_13 kk_nISE (fun q => ?_)
    refine x_astore_n dL_undo_11 (by decide) rfl rfl ?_
    refine x_iconst (nI 1) dL_undo_12 (by decide) ?_
    exact x_ireturn dL_undo_13 rfl rfl (by decide) (by decide) (Or.inr ⟨k2, rfl, k3⟩)
  · obtain ⟨k1, rfl, hto⟩ := q9
    refine x_i2l dL_undo_6 ?_
    refine x_last dL_undo_7 (hto.at ho hz hn) (by decide) (by decide) ?_
    refine x_goto 14 dL_undo_8 (by decide) ?_
    refine x_iconst (nI 0) dL_undo_14 (by decide) ?_
    exact x_ireturn dL_undo_15 rfl rfl (by decide) (by decide) (Or.inl ⟨k1, rfl, _, hto, rfl⟩)
theorem w_save (hW : WAt h v w) (a : Int32) : xMetH g l mL_save tbL_save 8 13 250 [.ref v, .int a] h (fun r h' => (okB a 2 = true ∧ r = some (.int (nI 0)) ∧ ∃ w', wTo v w h w' h' ∧ svW w (ix a) w') ∨ (okB a 2 = false ∧ r = some (.int (nI 1)) ∧ wTo v w h w h')) xno := by
  refine xMetH.of (V := [some (.ref v), some (.int a), none]) cH_L_223.1.1 (Nat.le_of_ble_eq_true rfl) rfl ?_
  refine x_aload_n dL_save_0 rfl ?_
  refine x_iload_n dL_save_1 rfl ?_
  refine x_callV dL_save_2 cV_L_87 (c_save hW a) rfl rfl ⟨⟨by decide, by decide⟩, by decide, by decide⟩ (Nat.le_of_ble_eq_true rfl) (xrecv hW.o rfl xcl4) (fun E h9 q9 => ?_) (fun v9 h9 q9 => ?_)
  · obtain ⟨rfl, k2, k3⟩ := q9
    refine x_catch (pre := []) (E := nIOB) rfl (fun z hz9 => by cases hz9) (by decide +kernel) (by decide) kl_25 kk_nIOB (fun q => ?_)
    refine x_astore_n dL_save_8 (by decide) rfl rfl ?_
    refine x_iconst (nI 1) dL_save_9 (by decide) ?_
    exact x_ireturn dL_save_10 rfl rfl (by decide) (by decide) (Or.inr ⟨k2, rfl, k3⟩)
  · obtain ⟨rfl, k1, w1, hto, hk⟩ := q9
    refine x_goto 11 dL_save_5 (by decide) ?_
    refine x_iconst (nI 0) dL_save_11 (by decide) ?_
    exact x_ireturn dL_save_12 rfl rfl (by decide) (by decide) (Or.inl ⟨k1, rfl, w1, hto, hk⟩)
def wrC (v : Nat) (w : Wd) (h : xH) (o : Nat) (f : Nat → UInt64) (k : Nat) (x : UInt64) (r : Option Value) (h' : xH) : Prop := r = some (.int (nI k)) ∧ ((k = 0 ∧ h' = hset h o (.inl (4, 1, .inr (.inr (.inr (.inl (vf_upd f 0 x))))))) ∨ (0 < k ∧ wTo v w h w h'))
theorem w_chance (hW : WAt h v w) (hw : aW w.1.1) (ho : h.1 o = some (.inl (4, 1, .inr (.inr (.inr (.inl fd)))))) (p f9 q9 : Int32) : xMetH g l mL_chance tbL_chance 9 3 18 [.ref v, .int p, .int f9, .int q9, .ref o] h (wrC v w h o fd (chanceK w.1.1 p f9 q9) (chanceV w.1.1 (ix p) (ix f9) (ix q9))) xno := by
  refine xMetH.of (V := [some (.ref v), some (.int p), some (.int f9), some (.int q9), some (.ref o), none]) cH_L_135.1.1 (Nat.le_of_ble_eq_true rfl) rfl ?_
  refine x_aload dL_chance_0 rfl ?_
  refine x_iconst (nI 0) dL_chance_2 (by decide) ?_
  refine x_aload_n dL_chance_3 rfl ?_
  refine x_iload_n dL_chance_4 rfl ?_
  refine x_iload_n dL_chance_5 rfl ?_
  refine x_iload_n dL_chance_6 rfl ?_
  refine x_callV dL_chance_7 cV_L_36 (c_chanceX hW hw p f9 q9) rfl rfl ⟨⟨by decide, by decide⟩, by decide, by decide⟩ (Nat.le_of_ble_eq_true rfl) (xrecv hW.o rfl xcl4) (fun E h9 q9 => ?_) (fun v9 h9 q9 => ?_)
  · obtain ⟨k1, k2, k3⟩ := q9
    generalize chanceK w.1.1 p f9 _ = k at *
    have e1 : k = 1 ∨ k = 2 ∨ k = 3 := by
      rcases k with _ | _ | _ | _ | k
      · omega
      · exact Or.inl rfl
      · exact Or.inr (Or.inl rfl)
      · exact Or.inr (Or.inr rfl)
      · cases k2
    rcases e1 with rfl | rfl | rfl
    · cases k2
      refine x_catch (pre := []) (E := nIOB) rfl (fun z hz9 => by cases hz9) (by decide +kernel) (by decide) kl_25 kk_nIOB (fun q => ?_)
      refine x_astore dL_chance_14 (by decide) rfl rfl ?_
      refine x_iconst (nI 1) dL_chance_16 (by decide) ?_
      exact x_ireturn dL_chance_17 rfl rfl (by decide) (by decide) ⟨rfl, Or.inr ⟨k1, k3⟩⟩
    · cases k2
      refine x_catch (pre := [(0, 11, 14, 25)]) (E := nISE) rfl (fun z hz9 => by rw [List.mem_singleton.mp hz9]; exact ⟨by decide, _, kl_25, kn_nISE_nIOB⟩) (by decide +kernel) (by decide) kl_13 kk_nISE (fun q => ?_)
      refine x_astore dL_chance_18 (by decide) rfl rfl ?_
      refine x_iconst (nI 2) dL_chance_20 (by decide) ?_
      exact x_ireturn dL_chance_21 rfl rfl (by decide) (by decide) ⟨rfl, Or.inr ⟨k1, k3⟩⟩
    · cases k2
      refine x_catch (pre := [(0, 11, 14, 25), (0, 11, 18, 13)]) (E := nIAE) rfl (fun z hz9 => by
        rcases List.mem_cons.mp hz9 with e9 | e9
        · rw [e9]; exact ⟨by decide, _, kl_25, kn_nIAE_nIOB⟩
        · rw [List.mem_singleton.mp e9]; exact ⟨by decide, _, kl_13, kn_nIAE_nISE⟩) (by decide +kernel) (by decide) kl_19 kk_nIAE (fun q => ?_)
      refine x_astore dL_chance_22 (by decide) rfl rfl ?_
      refine x_iconst (nI 3) dL_chance_24 (by decide) ?_
      exact x_ireturn dL_chance_25 rfl rfl (by decide) (by decide) ⟨rfl, Or.inr ⟨k1, k3⟩⟩
  · obtain ⟨k1, rfl, rfl⟩ := q9
    refine x_dast dL_chance_10 ho (by decide) (by decide) ?_
    refine x_goto 26 dL_chance_11 (by decide) ?_
    refine x_iconst (nI 0) dL_chance_26 (by decide) ?_
    exact x_ireturn dL_chance_27 rfl rfl (by decide) (by decide) ⟨by rw [k1], Or.inl ⟨k1, rfl⟩⟩
end LW2
