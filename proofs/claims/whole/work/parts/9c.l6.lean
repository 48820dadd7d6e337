/-! ===== the law's cases that compare at once ===== -/
theorem rWM.cn {w : Wd} {s : Mo} {n : Nat} (h : rWM w s n) (hn : n ≤ 10000000) : aCn w.1.1 10000000 := fun f hf => by
  have k := h.1.1.cn f hf
  exact ⟨by omega, by omega⟩
section LD
variable {nm : String} {tb : List (Nat × Nat × Nat × Nat)} {g : xG} {l : Launch} {R9 : Room} {Z : List Frame → Array Value → State → State → Prop} {b L t v m o od n kc ks : Nat} {xs : Nat → Int32} {w : Wd} {s : Mo} {h : xH}
theorem k_leastTrusted (hs : xSc Z g b L xs) (hL : L ≤ 3072) (H : xLW v m o od w s h) (W9 : rWM w s n) (hi : 6 * t + 6 ≤ L) (hr : xRm R9 n kc ks) (K : xGo nm tb g l R9 Z b t v m o od n kc ks) : xP g l (mL_law nm) tb R9 Z 879 [some (.ref b), some (.ref v), some (.ref m), some (.ref o), some (.ref od), some (.int (nI (6 * t))), none, none, none, none] [] h kc ks := by
  obtain ⟨⟨r1, r2⟩, ⟨r3, r4⟩, r5⟩ := hr
  refine x_aload_n dL_law_879 rfl ?_
  refine x_callV dL_law_880 cV_L_145 (c_leastTrusted H.1 W9.1.1.aw (W9.cn (by omega))) rfl rfl ⟨⟨by omega, by show 8 + (3 + 11) + 36 * 1 ≤ _; omega⟩, by omega, by omega⟩ (Nat.le_of_ble_eq_true rfl) (xrecv H.1.o rfl xcl4) (fun _ _ q => q.elim) (fun v9 h9 q9 => ?_)
  obtain ⟨k0, rfl, w1, hto, hby⟩ := q9
  have hx := H.x hto
  refine x_aload_n dL_law_883 rfl ?_
  refine xP.eq (h' := putMod h9 m s) rfl rfl rfl hx.self ?_
  refine x_callV dL_law_884 cV_L_148 (c_mLeast (h := h9) W9.1.1.k) rfl rfl ⟨⟨by omega, by show 8 + (3 + 11) + 36 * 2 ≤ _; omega⟩, by omega, by omega⟩ (Nat.le_of_ble_eq_true rfl) (xrecv putMod_at.o rfl xcl5) (fun _ _ q => q.elim) (fun v8 h8 q8 => ?_)
  have q7 := (mAns.det q8).op
  obtain ⟨s1, rfl, rfl, e1, e2⟩ := q7
  have hR := s_least (m := n + 120) W9.1.1
  refine x_icmp_eq 1999 dL_law_887 (by decide) (fun _ => ?_) (fun c => absurd (hR.2.1 k0) c)
  exact xP.widen (by omega) (by omega) (K _ _ _ (hx.mod s1) (W9.op hR (fun Q e => by cases e) (by omega) (by omega) hby e2))
theorem k_waves (hs : xSc Z g b L xs) (hL : L ≤ 3072) (H : xLW v m o od w s h) (W9 : rWM w s n) (hi : 6 * t + 6 ≤ L) (hr : xRm R9 n kc ks) (K : xGo nm tb g l R9 Z b t v m o od n kc ks) : xP g l (mL_law nm) tb R9 Z 1028 [some (.ref b), some (.ref v), some (.ref m), some (.ref o), some (.ref od), some (.int (nI (6 * t))), none, none, none, none] [] h kc ks := by
  obtain ⟨⟨r1, r2⟩, ⟨r3, r4⟩, r5⟩ := hr
  refine x_aload_n dL_law_1028 rfl ?_
  refine x_callV dL_law_1029 cV_L_155 (c_waves H.1 W9.1.1.aw) rfl rfl ⟨⟨by omega, by show 8 + (1 + 11) + 36 * 6 ≤ _; omega⟩, by omega, by omega⟩ (Nat.le_of_ble_eq_true rfl) (xrecv H.1.o rfl xcl4) (fun _ _ q => q.elim) (fun v9 h9 q9 => ?_)
  obtain ⟨k0, rfl, w1, hto, hby⟩ := q9
  have hx := H.x hto
  refine x_aload_n dL_law_1032 rfl ?_
  refine xP.eq (h' := putMod h9 m s) rfl rfl rfl hx.self ?_
  refine x_callV dL_law_1033 cV_L_158 (c_mWaves (h := h9) W9.1.1.k (by omega)) rfl rfl ⟨⟨by omega, by show 8 + (1 + 11) + 36 * 7 ≤ _; omega⟩, by omega, by omega⟩ (Nat.le_of_ble_eq_true rfl) (xrecv putMod_at.o rfl xcl5) (fun _ _ q => q.elim) (fun v8 h8 q8 => ?_)
  have q7 := q8.op
  obtain ⟨s1, rfl, rfl, e1, e2⟩ := q7
  have hR := s_waves (m := n + 120) W9.1.1 (by omega)
  refine x_icmp_eq 1999 dL_law_1036 (by decide) (fun _ => ?_) (fun c => absurd (hR.2.1 k0) c)
  exact xP.widen (by omega) (by omega) (K _ _ _ (hx.mod s1) (W9.op hR (fun Q e => by cases e) (by omega) (by omega) hby e2))
theorem k_lost (hs : xSc Z g b L xs) (hL : L ≤ 3072) (H : xLW v m o od w s h) (W9 : rWM w s n) (hi : 6 * t + 6 ≤ L) (hr : xRm R9 n kc ks) (K : xGo nm tb g l R9 Z b t v m o od n kc ks) : xP g l (mL_law nm) tb R9 Z 1041 [some (.ref b), some (.ref v), some (.ref m), some (.ref o), some (.ref od), some (.int (nI (6 * t))), none, none, none, none] [] h kc ks := by
  obtain ⟨⟨r1, r2⟩, ⟨r3, r4⟩, r5⟩ := hr
  refine x_aload_n dL_law_1041 rfl ?_
  refine x_callV dL_law_1042 cV_L_159 (c_lost H.1 W9.1.1.aw) rfl rfl ⟨⟨by omega, by show 8 + (1 + 11) + 36 * 6 ≤ _; omega⟩, by omega, by omega⟩ (Nat.le_of_ble_eq_true rfl) (xrecv H.1.o rfl xcl4) (fun _ _ q => q.elim) (fun v9 h9 q9 => ?_)
  obtain ⟨k0, rfl, w1, hto, hby⟩ := q9
  have hx := H.x hto
  refine x_aload_n dL_law_1045 rfl ?_
  refine xP.eq (h' := putMod h9 m s) rfl rfl rfl hx.self ?_
  refine x_callV dL_law_1046 cV_L_162 (c_mLost (h := h9) W9.1.1.k (by omega)) rfl rfl ⟨⟨by omega, by show 8 + (1 + 11) + 36 * 7 ≤ _; omega⟩, by omega, by omega⟩ (Nat.le_of_ble_eq_true rfl) (xrecv putMod_at.o rfl xcl5) (fun _ _ q => q.elim) (fun v8 h8 q8 => ?_)
  have q7 := q8.op
  obtain ⟨s1, rfl, rfl, e1, e2⟩ := q7
  have hR := s_lost (m := n + 120) W9.1.1 (by omega)
  refine x_icmp_eq 1999 dL_law_1049 (by decide) (fun _ => ?_) (fun c => absurd (hR.2.1 k0) c)
  exact xP.widen (by omega) (by omega) (K _ _ _ (hx.mod s1) (W9.op hR (fun Q e => by cases e) (by omega) (by omega) hby e2))
theorem k_mostNeeded (hs : xSc Z g b L xs) (hL : L ≤ 3072) (H : xLW v m o od w s h) (W9 : rWM w s n) (hi : 6 * t + 6 ≤ L) (hr : xRm R9 n kc ks) (K : xGo nm tb g l R9 Z b t v m o od n kc ks) : xP g l (mL_law nm) tb R9 Z 1110 [some (.ref b), some (.ref v), some (.ref m), some (.ref o), some (.ref od), some (.int (nI (6 * t))), none, none, none, none] [] h kc ks := by
  obtain ⟨⟨r1, r2⟩, ⟨r3, r4⟩, r5⟩ := hr
  refine x_aload_n dL_law_1110 rfl ?_
  refine x_callV dL_law_1111 cV_L_166 (c_mostNeeded H.1 W9.1.1.aw) rfl rfl ⟨⟨by omega, by show 8 + (5 + 11) + 36 * 3 ≤ _; omega⟩, by omega, by omega⟩ (Nat.le_of_ble_eq_true rfl) (xrecv H.1.o rfl xcl4) (fun _ _ q => q.elim) (fun v9 h9 q9 => ?_)
  obtain ⟨k0, rfl, w1, hto, hby⟩ := q9
  have hx := H.x hto
  refine x_aload_n dL_law_1114 rfl ?_
  refine xP.eq (h' := putMod h9 m s) rfl rfl rfl hx.self ?_
  refine x_callV dL_law_1115 cV_L_169 (c_mMost (h := h9) W9.1.1.k) rfl rfl ⟨⟨by omega, by show 8 + (6 + 11) + 36 * 4 ≤ _; omega⟩, by omega, by omega⟩ (Nat.le_of_ble_eq_true rfl) (xrecv putMod_at.o rfl xcl5) (fun _ _ q => q.elim) (fun v8 h8 q8 => ?_)
  have q7 := (mAns.det q8).op
  obtain ⟨s1, rfl, rfl, e1, e2⟩ := q7
  have hR := s_most (m := n + 120) W9.1.1
  refine x_icmp_eq 1999 dL_law_1118 (by decide) (fun _ => ?_) (fun c => absurd (hR.2.1 k0) c)
  exact xP.widen (by omega) (by omega) (K _ _ _ (hx.mod s1) (W9.op hR (fun Q e => by cases e) (by omega) (by omega) hby e2))
theorem k_wouldSpread (hs : xSc Z g b L xs) (hL : L ≤ 3072) (H : xLW v m o od w s h) (W9 : rWM w s n) (hi : 6 * t + 6 ≤ L) (hr : xRm R9 n kc ks) (K : xGo nm tb g l R9 Z b t v m o od n kc ks) : xP g l (mL_law nm) tb R9 Z 1179 [some (.ref b), some (.ref v), some (.ref m), some (.ref o), some (.ref od), some (.int (nI (6 * t))), none, none, none, none] [] h kc ks := by
  obtain ⟨⟨r1, r2⟩, ⟨r3, r4⟩, r5⟩ := hr
  refine x_aload_n dL_law_1179 rfl ?_
  refine x_callV dL_law_1180 cV_L_173 (c_wouldSpread H.1 W9.1.1.aw (W9.cn (by omega))) rfl rfl ⟨⟨by omega, by show 8 + (1 + 11) + 36 * 6 ≤ _; omega⟩, by omega, by omega⟩ (Nat.le_of_ble_eq_true rfl) (xrecv H.1.o rfl xcl4) (fun _ _ q => q.elim) (fun v9 h9 q9 => ?_)
  obtain ⟨k0, rfl, w1, hto, hby⟩ := q9
  have hx := H.x hto
  refine x_aload_n dL_law_1183 rfl ?_
  refine xP.eq (h' := putMod h9 m s) rfl rfl rfl hx.self ?_
  refine x_callV dL_law_1184 cV_L_176 (c_mWouldSpread (h := h9) W9.1.1.k W9.1.1.rl) rfl rfl ⟨⟨by omega, by show 8 + (2 + 11) + 36 * 7 ≤ _; omega⟩, by omega, by omega⟩ (Nat.le_of_ble_eq_true rfl) (xrecv putMod_at.o rfl xcl5) (fun _ _ q => q.elim) (fun v8 h8 q8 => ?_)
  have q7 := q8.op
  obtain ⟨s1, rfl, rfl, e1, e2⟩ := q7
  have hR := s_spreads (m := n + 120) W9.1.1
  refine x_icmp_eq 1999 dL_law_1187 (by decide) (fun _ => ?_) (fun c => absurd (hR.2.1 k0) c)
  exact xP.widen (by omega) (by omega) (K _ _ _ (hx.mod s1) (W9.op hR (fun Q e => by cases e) (by omega) (by omega) hby e2))
theorem k_bestPair (hs : xSc Z g b L xs) (hL : L ≤ 3072) (H : xLW v m o od w s h) (W9 : rWM w s n) (hi : 6 * t + 6 ≤ L) (hr : xRm R9 n kc ks) (K : xGo nm tb g l R9 Z b t v m o od n kc ks) : xP g l (mL_law nm) tb R9 Z 1192 [some (.ref b), some (.ref v), some (.ref m), some (.ref o), some (.ref od), some (.int (nI (6 * t))), none, none, none, none] [] h kc ks := by
  obtain ⟨⟨r1, r2⟩, ⟨r3, r4⟩, r5⟩ := hr
  refine x_aload_n dL_law_1192 rfl ?_
  refine x_callV dL_law_1193 cV_L_177 (c_bestPair H.1 W9.1.1.aw (W9.cn (by omega))) rfl rfl ⟨⟨by omega, by show 8 + (6 + 11) + 36 * 6 ≤ _; omega⟩, by omega, by omega⟩ (Nat.le_of_ble_eq_true rfl) (xrecv H.1.o rfl xcl4) (fun _ _ q => q.elim) (fun v9 h9 q9 => ?_)
  obtain ⟨k0, rfl, w1, hto, hby⟩ := q9
  have hx := H.x hto
  refine x_aload_n dL_law_1196 rfl ?_
  refine xP.eq (h' := putMod h9 m s) rfl rfl rfl hx.self ?_
  refine x_callV dL_law_1197 cV_L_180 (c_mBestPair (h := h9) W9.1.1.k W9.1.1.rl) rfl rfl ⟨⟨by omega, by show 8 + (6 + 11) + 36 * 8 ≤ _; omega⟩, by omega, by omega⟩ (Nat.le_of_ble_eq_true rfl) (xrecv putMod_at.o rfl xcl5) (fun _ _ q => q.elim) (fun v8 h8 q8 => ?_)
  have q7 := q8.op
  obtain ⟨s1, rfl, rfl, e1, e2⟩ := q7
  have hR := s_pair (m := n + 120) W9.1.1
  refine x_icmp_eq 1999 dL_law_1200 (by decide) (fun _ => ?_) (fun c => absurd (hR.2.1 k0) c)
  exact xP.widen (by omega) (by omega) (K _ _ _ (hx.mod s1) (W9.op hR (fun Q e => by cases e) (by omega) (by omega) hby e2))
theorem k_wave (hs : xSc Z g b L xs) (hL : L ≤ 3072) (H : xLW v m o od w s h) (W9 : rWM w s n) (hi : 6 * t + 6 ≤ L) (hr : xRm R9 n kc ks) (K : xGo nm tb g l R9 Z b t v m o od n kc ks) : xP g l (mL_law nm) tb R9 Z 1520 [some (.ref b), some (.ref v), some (.ref m), some (.ref o), some (.ref od), some (.int (nI (6 * t))), none, none, none, none] [] h kc ks := by
  obtain ⟨⟨r1, r2⟩, ⟨r3, r4⟩, r5⟩ := hr
  refine x_aload_n dL_law_1520 rfl ?_
  refine x_callV dL_law_1521 cV_L_199 (c_wave H.1 W9.1.1.aw W9.2.1.1.1) rfl rfl ⟨⟨by omega, by show 8 + (1 + 11) + 36 * 6 ≤ _; omega⟩, by omega, by omega⟩ (Nat.le_of_ble_eq_true rfl) (xrecv H.1.o rfl xcl4) (fun _ _ q => q.elim) (fun v9 h9 q9 => ?_)
  obtain ⟨k0, rfl, w1, hto, hby⟩ := q9
  have hx := H.x hto
  refine x_aload_n dL_law_1524 rfl ?_
  refine xP.eq (h' := putMod h9 m s) rfl rfl rfl hx.self ?_
  refine x_callV dL_law_1525 cV_L_202 (c_mWave (h := h9) W9.1.1.k (by omega) (by rw [W9.2.1.1.2]; exact W9.2.1.1.1.2)) rfl rfl ⟨⟨by omega, by show 8 + (1 + 11) + 36 * 6 ≤ _; omega⟩, by omega, by omega⟩ (Nat.le_of_ble_eq_true rfl) (xrecv putMod_at.o rfl xcl5) (fun _ _ q => q.elim) (fun v8 h8 q8 => ?_)
  have q7 := q8
  obtain ⟨s1, rfl, rfl, e1, e2⟩ := q7
  have hR := s_wave W9.1.1 (by omega)
  refine x_icmp_eq 1999 dL_law_1528 (by decide) (fun _ => ?_) (fun c => absurd (hR.2.1 k0) c)
  exact xP.widen (by omega) (by omega) (K _ _ _ (hx.mod s1) (W9.op hR (f_wave W9.1.2) (by omega) (by omega) hby e2))
theorem k_spread (hs : xSc Z g b L xs) (hL : L ≤ 3072) (H : xLW v m o od w s h) (W9 : rWM w s n) (hi : 6 * t + 6 ≤ L) (hr : xRm R9 n kc ks) (K : xGo nm tb g l R9 Z b t v m o od n kc ks) : xP g l (mL_law nm) tb R9 Z 1533 [some (.ref b), some (.ref v), some (.ref m), some (.ref o), some (.ref od), some (.int (nI (6 * t))), none, none, none, none] [] h kc ks := by
  obtain ⟨⟨r1, r2⟩, ⟨r3, r4⟩, r5⟩ := hr
  refine x_aload_n dL_law_1533 rfl ?_
  refine x_callV dL_law_1534 cV_L_203 (c_spread H.1 W9.1.1.aw (W9.cn (by omega)) W9.2.1.1.1) rfl rfl ⟨⟨by omega, by show 8 + (1 + 11) + 36 * 6 ≤ _; omega⟩, by omega, by omega⟩ (Nat.le_of_ble_eq_true rfl) (xrecv H.1.o rfl xcl4) (fun _ _ q => q.elim) (fun v9 h9 q9 => ?_)
  obtain ⟨k0, rfl, w1, hto, hby⟩ := q9
  have hx := H.x hto
  refine x_aload_n dL_law_1537 rfl ?_
  refine xP.eq (h' := putMod h9 m s) rfl rfl rfl hx.self ?_
  refine x_callV dL_law_1538 cV_L_206 (c_mSpread (h := h9) W9.1.1.k W9.1.1.rl (by rw [W9.2.1.1.2]; exact W9.2.1.1.1.2)) rfl rfl ⟨⟨by omega, by show 8 + (1 + 11) + 36 * 7 ≤ _; omega⟩, by omega, by omega⟩ (Nat.le_of_ble_eq_true rfl) (xrecv putMod_at.o rfl xcl5) (fun _ _ q => q.elim) (fun v8 h8 q8 => ?_)
  have q7 := q8
  obtain ⟨s1, rfl, rfl, e1, e2⟩ := q7
  have hR := s_spread W9.1.1 (by omega)
  refine x_icmp_eq 1999 dL_law_1541 (by decide) (fun _ => ?_) (fun c => absurd (hR.2.1 k0) c)
  exact xP.widen (by omega) (by omega) (K _ _ _ (hx.mod s1) (W9.op hR (f_spread W9.1.1.ok W9.1.2) (by omega) (by omega) hby e2))
theorem k_errorPosition (hs : xSc Z g b L xs) (hL : L ≤ 3072) (H : xLW v m o od w s h) (W9 : rWM w s n) (hi : 6 * t + 6 ≤ L) (hr : xRm R9 n kc ks) (K : xGo nm tb g l R9 Z b t v m o od n kc ks) : xP g l (mL_law nm) tb R9 Z 325 [some (.ref b), some (.ref v), some (.ref m), some (.ref o), some (.ref od), some (.int (nI (6 * t))), none, none, none, none] [] h kc ks := by
  obtain ⟨⟨r1, r2⟩, ⟨r3, r4⟩, r5⟩ := hr
  refine x_aload_n dL_law_325 rfl ?_
  refine x_callV dL_law_326 cV_L_114 (c_errorPosition H.1) rfl rfl ⟨⟨by omega, by show 8 + (1 + 11) + 36 * 0 ≤ _; omega⟩, by omega, by omega⟩ (Nat.le_of_ble_eq_true rfl) (xrecv H.1.o rfl xcl4) (fun _ _ q => q.elim) (fun v9 h9 q9 => ?_)
  obtain ⟨rfl, rfl⟩ := q9
  refine x_aload_n dL_law_329 rfl ?_
  refine xP.eq (h' := putMod h9 m s) rfl rfl rfl H.self ?_
  refine x_callV dL_law_330 cV_L_117 (c_mErrPos (h := h9)) rfl rfl ⟨⟨by omega, by show 8 + (1 + 11) + 36 * 0 ≤ _; omega⟩, by omega, by omega⟩ (Nat.le_of_ble_eq_true rfl) (xrecv putMod_at.o rfl xcl5) (fun _ _ q => q.elim) (fun v8 h8 q8 => ?_)
  obtain ⟨rfl, rfl⟩ := q8
  refine x_icmp_eq 1999 dL_law_333 (by decide) (fun _ => ?_) (fun c => absurd W9.2.2.2.1.2.2.2.symm c)
  exact xP.widen (by omega) (by omega) (K _ _ _ (H.mod _) ((W9.thr 0).mono (by omega) (by omega)))
theorem k_load (hs : xSc Z g b L xs) (hL : L ≤ 3072) (H : xLW v m o od w s h) (W9 : rWM w s n) (hi : 6 * t + 6 ≤ L) (hr : xRm R9 n kc ks) (K : xGo nm tb g l R9 Z b t v m o od n kc ks) : xP g l (mL_law nm) tb R9 Z 312 [some (.ref b), some (.ref v), some (.ref m), some (.ref o), some (.ref od), some (.int (nI (6 * t))), none, none, none, none] [] h kc ks := by
  obtain ⟨⟨r1, r2⟩, ⟨r3, r4⟩, r5⟩ := hr
  obtain ⟨m8, hm8⟩ : ∃ m8 : Nat, m8 = 600 := ⟨_, rfl⟩
  obtain ⟨m9, hm9⟩ : ∃ m9 : Nat, m9 = 11 := ⟨_, rfl⟩
  obtain ⟨X, hX⟩ : ∃ X, X = ldX 601 s := ⟨_, rfl⟩
  refine x_aload_n dL_law_312 rfl ?_
  refine x_callV dL_law_313 cV_L_110 (c_load hm9 hm8 H.1 W9.2.1.1.1 W9.2.2.2.1.1) rfl rfl ⟨⟨by omega, by show 8 + (1 + 11) + 36 * 8 ≤ _; omega⟩, by omega, by omega⟩ (Nat.le_of_ble_eq_true rfl) (xrecv H.1.o rfl xcl4) (fun _ _ q => q.elim) (fun v9 h9 q9 => ?_)
  obtain ⟨R, hR⟩ : ∃ R, R = rdTx w.2.2.2.1.1 m9 m8 w.2.2.2.1.2 w.1.2 := ⟨_, rfl⟩
  rw [← hR] at q9
  have tail : ∀ (w1 : Wd) (r : Int32) (hx : xLW v m o od w1 s h9) (kk : ∀ r' h8, ldQ h9 m X r' h8 → r' = some (.int r) ∧ ∃ s1, h8 = putMod h9 m s1 ∧ rWM w1 s1 n), v9 = some (.int r) → xP g l (mL_law nm) tb R9 Z 316 [some (.ref b), some (.ref v), some (.ref m), some (.ref o), some (.ref od), some (.int (nI (6 * t))), none, none, none, none] (v9.toList ++ []) h9 (kc + 12) (ks + 244) := by
    rintro w1 r hx kk rfl
    refine x_aload_n dL_law_316 rfl ?_
    refine xP.eq (h' := putMod h9 m s) rfl rfl rfl hx.self ?_
    have cm := c_mLoad (g := g) (l := l) (h := h9) (m := m) (s := s) W9.2.2.2.1.b (by rw [W9.2.1.1.2]; exact W9.2.1.1.1.2)
    rw [← hX] at cm
    refine x_callV dL_law_317 cV_L_113 (cm) rfl rfl ⟨⟨by omega, by show 8 + (1 + 11) + 36 * 7 ≤ _; omega⟩, by omega, by omega⟩ (Nat.le_of_ble_eq_true rfl) (xrecv putMod_at.o rfl xcl5) (fun _ _ q => q.elim) (fun v8 h8 q8 => ?_)
    obtain ⟨rfl, s1, rfl, hw⟩ := kk _ _ q8
    refine x_icmp_eq 1999 dL_law_320 (by decide) (fun _ => ?_) (fun c => absurd rfl c)
    exact xP.widen (by omega) (by omega) (K _ _ _ (hx.mod s1) (hw.mono (by omega) (by omega)))
  rcases q9 with ⟨c1, hv, w1, hto, hk⟩ | ⟨c1, hv, hto⟩
  · obtain ⟨x1, x2, x3⟩ := W9.load hm9 hm8 hX hR c1 hk
    refine tail w1 _ (H.x hto) (fun r' h8 q => ?_) hv
    unfold ldQ at q
    rw [if_pos x1] at q
    exact ⟨by rw [q.1, x2], _, q.2, x3⟩
  · obtain ⟨x1, x2, x3⟩ := W9.loadX hm9 hm8 hX hR c1
    refine tail _ _ (H.x hto) (fun r' h8 q => ?_) hv
    unfold ldQ at q
    rw [if_neg x1] at q
    exact ⟨by rw [q.1, x2], _, q.2, x3⟩
theorem k_writePictures (hs : xSc Z g b L xs) (hL : L ≤ 3072) (H : xLW v m o od w s h) (W9 : rWM w s n) (hi : 6 * t + 6 ≤ L) (hr : xRm R9 n kc ks) (K : xGo nm tb g l R9 Z b t v m o od n kc ks) : xP g l (mL_law nm) tb R9 Z 1930 [some (.ref b), some (.ref v), some (.ref m), some (.ref o), some (.ref od), some (.int (nI (6 * t))), none, none, none, none] [] h kc ks := by
  obtain ⟨⟨r1, r2⟩, ⟨r3, r4⟩, r5⟩ := hr
  refine x_aload_n dL_law_1930 rfl ?_
  refine x_callV dL_law_1931 cV_L_230 (c_writePictures H.1 W9.1.1.aw) rfl rfl ⟨⟨by omega, by show 8 + (1 + 11) + 36 * 4 ≤ _; omega⟩, by omega, by omega⟩ (Nat.le_of_ble_eq_true rfl) (xrecv H.1.o rfl xcl4) (fun _ _ q => q.elim) (fun v9 h9 q9 => ?_)
  obtain ⟨rfl, hto⟩ := q9
  have hx := H.x hto
  obtain ⟨x1, x2⟩ := W9.writ (wrF w.2.2.2.2.1 w.2.2.2.2.2)
  refine x_aload_n dL_law_1934 rfl ?_
  refine xP.eq (h' := putMod h9 m s) rfl rfl rfl hx.self ?_
  refine x_callV dL_law_1935 cV_L_233 (c_mWritePictures (h := h9) W9.1.1.k) rfl rfl ⟨⟨by omega, by show 8 + (4 + 11) + 36 * 4 ≤ _; omega⟩, by omega, by omega⟩ (Nat.le_of_ble_eq_true rfl) (xrecv putMod_at.o rfl xcl5) (fun _ _ q => q.elim) (fun v8 h8 q8 => ?_)
  obtain ⟨rfl, rfl⟩ := q8
  refine x_icmp_eq 1999 dL_law_1938 (by decide) (fun _ => ?_) (fun c => absurd (by rw [x1]) c)
  exact xP.widen (by omega) (by omega) (K _ _ _ (hx.mod _) (x2.mono (by omega) (by omega)))
end LD
