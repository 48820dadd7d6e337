/-! ===== the law's switch and loop ===== -/
section LF
variable {nm : String} {tb : List (Nat × Nat × Nat × Nat)} {g : xG} {l : Launch} {R9 : Room} {Z : List Frame → Array Value → State → State → Prop} {b L t v m o od n kc ks : Nat} {xs : Nat → Int32} {w : Wd} {s : Mo} {h : xH}
theorem law_switch (hs : xSc Z g b L xs) (hL : L ≤ 3072) (H : xLW v m o od w s h) (W9 : rWM w s n) (hi : 6 * t + 6 ≤ L) (hr : xRm R9 n kc ks) (K : xGo nm tb g l R9 Z b t v m o od n kc ks) : xP g l (mL_law nm) tb R9 Z 38 [some (.ref b), some (.ref v), some (.ref m), some (.ref o), some (.ref od), some (.int (nI (6 * t))), none, none, none, none] [] h kc ks := by
  refine x_aload_n dL_law_38 rfl ?_
  refine x_iload dL_law_39 rfl ?_
  refine x_ialdB hs dL_law_41 (by omega) (by omega) ?_
  refine x_bipush (nI 63) dL_law_42 (by decide) ?_
  refine xP.eq (S' := [.int (nI 63), .int (nI (ix (xs (6 * t))))]) rfl rfl (by rw [nI_ix]) rfl ?_
  refine x_iand_n dL_law_44 ?_
  have hc : ix (xs (6 * t)) &&& 63 < 64 := Nat.lt_of_le_of_lt Nat.and_le_right (by decide)
  generalize ix (xs (6 * t)) &&& 63 = c at *
  by_cases e0 : c = 0
  · subst e0
    exact x_tableIn 208 dL_law_45 (by decide) (by decide) rfl (by decide) (k_append hs hL H W9 hi hr K)
  by_cases e1 : c = 1
  · subst e1
    exact x_tableIn 312 dL_law_45 (by decide) (by decide) rfl (by decide) (k_load hs hL H W9 hi hr K)
  by_cases e2 : c = 2
  · subst e2
    exact x_tableIn 325 dL_law_45 (by decide) (by decide) rfl (by decide) (k_errorPosition hs hL H W9 hi hr K)
  by_cases e3 : c = 3
  · subst e3
    exact x_tableIn 338 dL_law_45 (by decide) (by decide) rfl (by decide) (k_count hs hL H W9 hi hr K)
  by_cases e4 : c = 4
  · subst e4
    exact x_tableIn 394 dL_law_45 (by decide) (by decide) rfl (by decide) (k_family hs hL H W9 (W9.cn (by have := hr.2.2; omega)) hi hr K)
  by_cases e5 : c = 5
  · subst e5
    exact x_tableIn 462 dL_law_45 (by decide) (by decide) rfl (by decide) (k_picture hs hL H W9 hi hr K)
  by_cases e6 : c = 6
  · subst e6
    exact x_tableIn 530 dL_law_45 (by decide) (by decide) rfl (by decide) (k_copy hs hL H W9 hi hr K)
  by_cases e7 : c = 7
  · subst e7
    exact x_tableIn 598 dL_law_45 (by decide) (by decide) rfl (by decide) (k_why hs hL H W9 hi hr K)
  by_cases e8 : c = 8
  · subst e8
    exact x_tableIn 666 dL_law_45 (by decide) (by decide) rfl (by decide) (k_chance hs hL H W9 hi hr K)
  by_cases e9 : c = 9
  · subst e9
    exact x_tableIn 767 dL_law_45 (by decide) (by decide) rfl (by decide) (k_bestTile hs hL H W9 hi hr K)
  by_cases e10 : c = 10
  · subst e10
    exact x_tableIn 823 dL_law_45 (by decide) (by decide) rfl (by decide) (k_roundsToFind hs hL H W9 hi hr K)
  by_cases e11 : c = 11
  · subst e11
    exact x_tableIn 879 dL_law_45 (by decide) (by decide) rfl (by decide) (k_leastTrusted hs hL H W9 hi hr K)
  by_cases e12 : c = 12
  · subst e12
    exact x_tableIn 892 dL_law_45 (by decide) (by decide) rfl (by decide) (k_sources hs hL H W9 hi hr K)
  by_cases e13 : c = 13
  · subst e13
    exact x_tableIn 960 dL_law_45 (by decide) (by decide) rfl (by decide) (k_wouldGet hs hL H W9 hi hr K)
  by_cases e14 : c = 14
  · subst e14
    exact x_tableIn 1028 dL_law_45 (by decide) (by decide) rfl (by decide) (k_waves hs hL H W9 hi hr K)
  by_cases e15 : c = 15
  · subst e15
    exact x_tableIn 1041 dL_law_45 (by decide) (by decide) rfl (by decide) (k_lost hs hL H W9 hi hr K)
  by_cases e16 : c = 16
  · subst e16
    exact x_tableIn 1054 dL_law_45 (by decide) (by decide) rfl (by decide) (k_depends hs hL H W9 hi hr K)
  by_cases e17 : c = 17
  · subst e17
    exact x_tableIn 1110 dL_law_45 (by decide) (by decide) rfl (by decide) (k_mostNeeded hs hL H W9 hi hr K)
  by_cases e18 : c = 18
  · subst e18
    exact x_tableIn 1123 dL_law_45 (by decide) (by decide) rfl (by decide) (k_reach hs hL H W9 hi hr K)
  by_cases e19 : c = 19
  · subst e19
    exact x_tableIn 1179 dL_law_45 (by decide) (by decide) rfl (by decide) (k_wouldSpread hs hL H W9 hi hr K)
  by_cases e20 : c = 20
  · subst e20
    exact x_tableIn 1192 dL_law_45 (by decide) (by decide) rfl (by decide) (k_bestPair hs hL H W9 hi hr K)
  by_cases e21 : c = 21
  · subst e21
    exact x_tableIn 1205 dL_law_45 (by decide) (by decide) rfl (by decide) (k_soundness hs hL H W9 hi hr K)
  by_cases e22 : c = 22
  · subst e22
    exact x_tableIn 1248 dL_law_45 (by decide) (by decide) rfl (by decide) (k_ask hs hL H W9 hi hr K)
  by_cases e23 : c = 23
  · subst e23
    exact x_tableIn 1328 dL_law_45 (by decide) (by decide) rfl (by decide) (k_round hs hL H W9 hi hr K)
  by_cases e24 : c = 24
  · subst e24
    exact x_tableIn 1384 dL_law_45 (by decide) (by decide) rfl (by decide) (k_harm hs hL H W9 hi hr K)
  by_cases e25 : c = 25
  · subst e25
    exact x_tableIn 1452 dL_law_45 (by decide) (by decide) rfl (by decide) (k_repair hs hL H W9 hi hr K)
  by_cases e26 : c = 26
  · subst e26
    exact x_tableIn 1520 dL_law_45 (by decide) (by decide) rfl (by decide) (k_wave hs hL H W9 hi hr K)
  by_cases e27 : c = 27
  · subst e27
    exact x_tableIn 1533 dL_law_45 (by decide) (by decide) rfl (by decide) (k_spread hs hL H W9 hi hr K)
  by_cases e28 : c = 28
  · subst e28
    exact x_tableIn 1546 dL_law_45 (by decide) (by decide) rfl (by decide) (k_join hs hL H W9 hi hr K)
  by_cases e29 : c = 29
  · subst e29
    exact x_tableIn 1602 dL_law_45 (by decide) (by decide) rfl (by decide) (k_meet hs hL H W9 hi hr K)
  by_cases e30 : c = 30
  · subst e30
    exact x_tableIn 1670 dL_law_45 (by decide) (by decide) rfl (by decide) (k_leave hs hL H W9 hi hr K)
  by_cases e31 : c = 31
  · subst e31
    exact x_tableIn 1726 dL_law_45 (by decide) (by decide) rfl (by decide) (k_setPledge hs hL H W9 hi hr K)
  by_cases e32 : c = 32
  · subst e32
    exact x_tableIn 1794 dL_law_45 (by decide) (by decide) rfl (by decide) (k_undo hs hL H W9 hi hr K)
  by_cases e33 : c = 33
  · subst e33
    exact x_tableIn 1838 dL_law_45 (by decide) (by decide) rfl (by decide) (k_save hs hL H W9 hi hr K)
  by_cases e34 : c = 34
  · subst e34
    exact x_tableIn 1874 dL_law_45 (by decide) (by decide) rfl (by decide) (k_restore hs hL H W9 hi hr K)
  by_cases e35 : c = 35
  · subst e35
    exact x_tableIn 1930 dL_law_45 (by decide) (by decide) rfl (by decide) (k_writePictures hs hL H W9 hi hr K)
  by_cases e36 : c = 36
  · subst e36
    exact x_tableIn 1943 dL_law_45 (by decide) (by decide) rfl (by decide) (k_writtenByte hs hL H W9 hi hr K)
  have i1 : (nI c).toInt = (c : Int) := nI_toInt (by omega)
  refine x_tableOut 1999 dL_law_45 (Or.inr (by rw [i1]; omega)) (by decide) ?_
  exact xP.widen (by omega) (by omega) (K w s h H (W9.mono (by omega) (by have := hr.2.2; omega)))
theorem law_loop (hs : xSc Z g b L xs) (hL : L ≤ 3072) (hF : 11 ≤ R9.frames ∧ 430 ≤ R9.locals) (hE : ∀ V h kc ks, kc ≤ R9.cells → ks ≤ R9.slots → xP g l (mL_law nm) tb R9 Z 2005 V [] h kc ks) :
    ∀ (d t kc ks : Nat) (w : Wd) (s : Mo) (h : xH), d + t = 513 → 6 * t ≤ L → kc + 20 * d ≤ R9.cells → ks + 300 * d ≤ R9.slots → xLW v m o od w s h → rWM w s (120 * t) → xP g l (mL_law nm) tb R9 Z 28 [some (.ref b), some (.ref v), some (.ref m), some (.ref o), some (.ref od), some (.int (nI (6 * t))), none, none, none, none] [] h kc ks := by
  intro d
  induction d with
  | zero => intro t kc ks w s h h1 h2; omega
  | succ d ih =>
    intro t kc ks w s h h1 h2 h3 h4 H W9
    refine x_iload dL_law_28 rfl ?_
    refine x_aload_n dL_law_30 rfl ?_
    refine x_alenB hs dL_law_31 ?_
    refine x_bipush (nI 6) dL_law_32 (by decide) ?_
    by_cases q : 6 ≤ L
    · refine x_isub_n dL_law_34 q ?_
      refine x_icmp_gt_n 2005 dL_law_35 (by decide) (by omega) (by omega) (fun _ => hE _ _ _ _ (by omega) (by omega)) (fun c => ?_)
      have z1 : kc + 20 ≤ R9.cells := by omega
      have z5 : ks + (300 * d + 300) ≤ R9.slots := by rw [← Nat.mul_succ]; exact h4
      have z2 : ks + 300 ≤ R9.slots := Nat.le_trans (Nat.add_le_add_left (Nat.le_add_left 300 (300 * d)) ks) z5
      have z6 : ks + 300 + 300 * d ≤ R9.slots := by rw [Nat.add_assoc, Nat.add_comm 300 (300 * d)]; exact z5
      have z3 : 120 * t + 100000 < 2 ^ 23 := by
        have : 120 * t ≤ 120 * 513 := by omega
        generalize 120 * t = y at *
        omega
      have z4 : 6 * t + 6 ≤ L := by omega
      refine law_switch (n := 120 * t) hs hL H W9 z4 ⟨hF, ⟨z1, z2⟩, z3⟩ ?_
      intro w' s' h' H' W'
      refine x_iinc_n (k := 6) dL_law_1999 rfl (by decide) (Nat.le_of_ble_eq_true rfl) rfl rfl ?_
      refine x_goto 28 dL_law_2002 (by decide) ?_
      refine xP.weak (V' := [some (.ref b), some (.ref v), some (.ref m), some (.ref o), some (.ref od), some (.int (nI (6 * (t + 1)))), none, none, none, none]) (by simp [xle, xset1, fin3]; first | done | omega | (congr 1)) ?_
      exact ih (t + 1) _ _ w' s' h' (by omega) (by omega) (by omega) z6 H' W'
    · refine x_isub dL_law_34 ?_
      have ht : t = 0 := by omega
      subst ht
      refine x_icmp_gt 2005 dL_law_35 (by decide) (fun _ => hE _ _ _ _ (by omega) (by omega)) (fun c => absurd ?_ c)
      have hq : L < 6 := by omega
      have key : ∀ z : Fin 6, nI z.val - nI 6 < nI (6 * 0) := by decide +kernel
      exact key ⟨L, hq⟩
end LF
