/-! ===== the law's own methods: they call, and tell how it threw ===== -/
theorem kl_13 : Cond.classLink RL 13 nISE ∈ xW := (x_in 652 (by decide +kernel) rfl)
theorem kk_nISE : (nISE, nISE) ∈ xKl := by decide +kernel
theorem kl_19 : Cond.classLink RL 19 nIAE ∈ xW := (x_in 734 (by decide +kernel) rfl)
theorem kk_nIAE : (nIAE, nIAE) ∈ xKl := by decide +kernel
theorem kl_25 : Cond.classLink RL 25 nIOB ∈ xW := (x_in 777 (by decide +kernel) rfl)
theorem kk_nIOB : (nIOB, nIOB) ∈ xKl := by decide +kernel
theorem kn_nIOB_nIAE : (nIOB, nIAE) ∈ xNcl := by decide +kernel
theorem kn_nIOB_nISE : (nIOB, nISE) ∈ xNcl := by decide +kernel
theorem kn_nIAE_nIOB : (nIAE, nIOB) ∈ xNcl := by decide +kernel
theorem kn_nIAE_nISE : (nIAE, nISE) ∈ xNcl := by decide +kernel
theorem kn_nISE_nIOB : (nISE, nIOB) ∈ xNcl := by decide +kernel
theorem kn_nISE_nIAE : (nISE, nIAE) ∈ xNcl := by decide +kernel
abbrev mL_append : xM := (yL_append, cL_append, 8, some .int)
abbrev tbL_append : List (Nat × Nat × Nat × Nat) := [(0, 16, 19, 13)]
theorem cH_L_101 : xCH RL 101 mL_append tbL_append 7 := ⟨⟨⟨(x_in 651 (by decide +kernel) rfl), (x_in 85 (by decide +kernel) rfl), by decide +kernel, ⟨by decide +kernel, by decide +kernel⟩, by decide +kernel⟩, (x_in 650 (by decide +kernel) rfl)⟩, (x_in 649 (by decide +kernel) rfl)⟩
abbrev mL_count : xM := (yL_count, cL_count, 4, some .int)
abbrev tbL_count : List (Nat × Nat × Nat × Nat) := [(0, 9, 12, 19)]
theorem cH_L_118 : xCH RL 118 mL_count tbL_count 3 := ⟨⟨⟨(x_in 733 (by decide +kernel) rfl), (x_in 85 (by decide +kernel) rfl), by decide +kernel, ⟨by decide +kernel, by decide +kernel⟩, by decide +kernel⟩, (x_in 732 (by decide +kernel) rfl)⟩, (x_in 731 (by decide +kernel) rfl)⟩
abbrev mL_family : xM := (yL_family, cL_family, 5, some .int)
abbrev tbL_family : List (Nat × Nat × Nat × Nat) := [(0, 10, 13, 25), (0, 10, 17, 19)]
theorem cH_L_122 : xCH RL 122 mL_family tbL_family 4 := ⟨⟨⟨(x_in 776 (by decide +kernel) rfl), (x_in 85 (by decide +kernel) rfl), by decide +kernel, ⟨by decide +kernel, by decide +kernel⟩, by decide +kernel⟩, (x_in 775 (by decide +kernel) rfl)⟩, (x_in 774 (by decide +kernel) rfl)⟩
abbrev mL_picture : xM := (yL_picture, cL_picture, 5, some .int)
abbrev tbL_picture : List (Nat × Nat × Nat × Nat) := [(0, 10, 13, 25), (0, 10, 17, 19)]
theorem cH_L_126 : xCH RL 126 mL_picture tbL_picture 4 := ⟨⟨⟨(x_in 809 (by decide +kernel) rfl), (x_in 85 (by decide +kernel) rfl), by decide +kernel, ⟨by decide +kernel, by decide +kernel⟩, by decide +kernel⟩, (x_in 808 (by decide +kernel) rfl)⟩, (x_in 807 (by decide +kernel) rfl)⟩
abbrev mL_copy : xM := (yL_copy, cL_copy, 5, some .int)
abbrev tbL_copy : List (Nat × Nat × Nat × Nat) := [(0, 10, 13, 25)]
theorem cH_L_129 : xCH RL 129 mL_copy tbL_copy 4 := ⟨⟨⟨(x_in 825 (by decide +kernel) rfl), (x_in 85 (by decide +kernel) rfl), by decide +kernel, ⟨by decide +kernel, by decide +kernel⟩, by decide +kernel⟩, (x_in 824 (by decide +kernel) rfl)⟩, (x_in 823 (by decide +kernel) rfl)⟩
abbrev mL_why : xM := (yL_why, cL_why, 5, some .int)
abbrev tbL_why : List (Nat × Nat × Nat × Nat) := [(0, 10, 13, 25)]
theorem cH_L_132 : xCH RL 132 mL_why tbL_why 4 := ⟨⟨⟨(x_in 838 (by decide +kernel) rfl), (x_in 85 (by decide +kernel) rfl), by decide +kernel, ⟨by decide +kernel, by decide +kernel⟩, by decide +kernel⟩, (x_in 837 (by decide +kernel) rfl)⟩, (x_in 836 (by decide +kernel) rfl)⟩
abbrev mL_chance : xM := (yL_chance, cL_chance, 6, some .int)
abbrev tbL_chance : List (Nat × Nat × Nat × Nat) := [(0, 11, 14, 25), (0, 11, 18, 13), (0, 11, 22, 19)]
theorem cH_L_135 : xCH RL 135 mL_chance tbL_chance 5 := ⟨⟨⟨(x_in 846 (by decide +kernel) rfl), (x_in 85 (by decide +kernel) rfl), by decide +kernel, ⟨by decide +kernel, by decide +kernel⟩, by decide +kernel⟩, (x_in 845 (by decide +kernel) rfl)⟩, (x_in 844 (by decide +kernel) rfl)⟩
abbrev mL_bestTile : xM := (yL_bestTile, cL_bestTile, 4, some .int)
abbrev tbL_bestTile : List (Nat × Nat × Nat × Nat) := [(0, 9, 12, 25)]
theorem cH_L_139 : xCH RL 139 mL_bestTile tbL_bestTile 3 := ⟨⟨⟨(x_in 859 (by decide +kernel) rfl), (x_in 85 (by decide +kernel) rfl), by decide +kernel, ⟨by decide +kernel, by decide +kernel⟩, by decide +kernel⟩, (x_in 858 (by decide +kernel) rfl)⟩, (x_in 857 (by decide +kernel) rfl)⟩
abbrev mL_roundsToFind : xM := (yL_roundsToFind, cL_roundsToFind, 4, some .int)
abbrev tbL_roundsToFind : List (Nat × Nat × Nat × Nat) := [(0, 9, 12, 19)]
theorem cH_L_142 : xCH RL 142 mL_roundsToFind tbL_roundsToFind 3 := ⟨⟨⟨(x_in 874 (by decide +kernel) rfl), (x_in 85 (by decide +kernel) rfl), by decide +kernel, ⟨by decide +kernel, by decide +kernel⟩, by decide +kernel⟩, (x_in 873 (by decide +kernel) rfl)⟩, (x_in 872 (by decide +kernel) rfl)⟩
abbrev mL_sources : xM := (yL_sources, cL_sources, 5, some .int)
abbrev tbL_sources : List (Nat × Nat × Nat × Nat) := [(0, 10, 13, 25)]
theorem cH_L_149 : xCH RL 149 mL_sources tbL_sources 4 := ⟨⟨⟨(x_in 900 (by decide +kernel) rfl), (x_in 85 (by decide +kernel) rfl), by decide +kernel, ⟨by decide +kernel, by decide +kernel⟩, by decide +kernel⟩, (x_in 899 (by decide +kernel) rfl)⟩, (x_in 898 (by decide +kernel) rfl)⟩
abbrev mL_wouldGet : xM := (yL_wouldGet, cL_wouldGet, 5, some .int)
abbrev tbL_wouldGet : List (Nat × Nat × Nat × Nat) := [(0, 10, 13, 25)]
theorem cH_L_152 : xCH RL 152 mL_wouldGet tbL_wouldGet 4 := ⟨⟨⟨(x_in 908 (by decide +kernel) rfl), (x_in 85 (by decide +kernel) rfl), by decide +kernel, ⟨by decide +kernel, by decide +kernel⟩, by decide +kernel⟩, (x_in 907 (by decide +kernel) rfl)⟩, (x_in 906 (by decide +kernel) rfl)⟩
abbrev mL_depends : xM := (yL_depends, cL_depends, 4, some .int)
abbrev tbL_depends : List (Nat × Nat × Nat × Nat) := [(0, 9, 12, 25)]
theorem cH_L_163 : xCH RL 163 mL_depends tbL_depends 3 := ⟨⟨⟨(x_in 916 (by decide +kernel) rfl), (x_in 85 (by decide +kernel) rfl), by decide +kernel, ⟨by decide +kernel, by decide +kernel⟩, by decide +kernel⟩, (x_in 915 (by decide +kernel) rfl)⟩, (x_in 914 (by decide +kernel) rfl)⟩
abbrev mL_reach : xM := (yL_reach, cL_reach, 4, some .int)
abbrev tbL_reach : List (Nat × Nat × Nat × Nat) := [(0, 9, 12, 25)]
theorem cH_L_170 : xCH RL 170 mL_reach tbL_reach 3 := ⟨⟨⟨(x_in 924 (by decide +kernel) rfl), (x_in 85 (by decide +kernel) rfl), by decide +kernel, ⟨by decide +kernel, by decide +kernel⟩, by decide +kernel⟩, (x_in 923 (by decide +kernel) rfl)⟩, (x_in 922 (by decide +kernel) rfl)⟩
abbrev mL_ask : xM := (yL_ask, cL_ask, 6, some .int)
abbrev tbL_ask : List (Nat × Nat × Nat × Nat) := [(0, 12, 15, 25)]
theorem cH_L_186 : xCH RL 186 mL_ask tbL_ask 5 := ⟨⟨⟨(x_in 936 (by decide +kernel) rfl), (x_in 85 (by decide +kernel) rfl), by decide +kernel, ⟨by decide +kernel, by decide +kernel⟩, by decide +kernel⟩, (x_in 935 (by decide +kernel) rfl)⟩, (x_in 934 (by decide +kernel) rfl)⟩
abbrev mL_round : xM := (yL_round, cL_round, 4, some .int)
abbrev tbL_round : List (Nat × Nat × Nat × Nat) := [(0, 9, 12, 19)]
theorem cH_L_190 : xCH RL 190 mL_round tbL_round 3 := ⟨⟨⟨(x_in 945 (by decide +kernel) rfl), (x_in 85 (by decide +kernel) rfl), by decide +kernel, ⟨by decide +kernel, by decide +kernel⟩, by decide +kernel⟩, (x_in 944 (by decide +kernel) rfl)⟩, (x_in 943 (by decide +kernel) rfl)⟩
abbrev mL_harm : xM := (yL_harm, cL_harm, 5, some .int)
abbrev tbL_harm : List (Nat × Nat × Nat × Nat) := [(0, 10, 13, 25), (0, 10, 17, 19)]
theorem cH_L_193 : xCH RL 193 mL_harm tbL_harm 4 := ⟨⟨⟨(x_in 952 (by decide +kernel) rfl), (x_in 85 (by decide +kernel) rfl), by decide +kernel, ⟨by decide +kernel, by decide +kernel⟩, by decide +kernel⟩, (x_in 951 (by decide +kernel) rfl)⟩, (x_in 950 (by decide +kernel) rfl)⟩
abbrev mL_repair : xM := (yL_repair, cL_repair, 5, some .int)
abbrev tbL_repair : List (Nat × Nat × Nat × Nat) := [(0, 10, 13, 25)]
theorem cH_L_196 : xCH RL 196 mL_repair tbL_repair 4 := ⟨⟨⟨(x_in 965 (by decide +kernel) rfl), (x_in 85 (by decide +kernel) rfl), by decide +kernel, ⟨by decide +kernel, by decide +kernel⟩, by decide +kernel⟩, (x_in 964 (by decide +kernel) rfl)⟩, (x_in 963 (by decide +kernel) rfl)⟩
abbrev mL_join : xM := (yL_join, cL_join, 4, some .int)
abbrev tbL_join : List (Nat × Nat × Nat × Nat) := [(0, 9, 12, 19)]
theorem cH_L_207 : xCH RL 207 mL_join tbL_join 3 := ⟨⟨⟨(x_in 973 (by decide +kernel) rfl), (x_in 85 (by decide +kernel) rfl), by decide +kernel, ⟨by decide +kernel, by decide +kernel⟩, by decide +kernel⟩, (x_in 972 (by decide +kernel) rfl)⟩, (x_in 971 (by decide +kernel) rfl)⟩
abbrev mL_meet : xM := (yL_meet, cL_meet, 5, some .int)
abbrev tbL_meet : List (Nat × Nat × Nat × Nat) := [(0, 10, 13, 25), (0, 10, 17, 19)]
theorem cH_L_210 : xCH RL 210 mL_meet tbL_meet 4 := ⟨⟨⟨(x_in 981 (by decide +kernel) rfl), (x_in 85 (by decide +kernel) rfl), by decide +kernel, ⟨by decide +kernel, by decide +kernel⟩, by decide +kernel⟩, (x_in 980 (by decide +kernel) rfl)⟩, (x_in 979 (by decide +kernel) rfl)⟩
abbrev mL_leave : xM := (yL_leave, cL_leave, 4, some .int)
abbrev tbL_leave : List (Nat × Nat × Nat × Nat) := [(0, 9, 12, 25)]
theorem cH_L_213 : xCH RL 213 mL_leave tbL_leave 3 := ⟨⟨⟨(x_in 989 (by decide +kernel) rfl), (x_in 85 (by decide +kernel) rfl), by decide +kernel, ⟨by decide +kernel, by decide +kernel⟩, by decide +kernel⟩, (x_in 988 (by decide +kernel) rfl)⟩, (x_in 987 (by decide +kernel) rfl)⟩
abbrev mL_setPledge : xM := (yL_setPledge, cL_setPledge, 5, some .int)
abbrev tbL_setPledge : List (Nat × Nat × Nat × Nat) := [(0, 10, 13, 25), (0, 10, 17, 19)]
theorem cH_L_216 : xCH RL 216 mL_setPledge tbL_setPledge 4 := ⟨⟨⟨(x_in 1006 (by decide +kernel) rfl), (x_in 85 (by decide +kernel) rfl), by decide +kernel, ⟨by decide +kernel, by decide +kernel⟩, by decide +kernel⟩, (x_in 1005 (by decide +kernel) rfl)⟩, (x_in 1004 (by decide +kernel) rfl)⟩
abbrev mL_undo : xM := (yL_undo, cL_undo, 3, some .int)
abbrev tbL_undo : List (Nat × Nat × Nat × Nat) := [(0, 8, 11, 13)]
theorem cH_L_219 : xCH RL 219 mL_undo tbL_undo 2 := ⟨⟨⟨(x_in 1014 (by decide +kernel) rfl), (x_in 85 (by decide +kernel) rfl), by decide +kernel, ⟨by decide +kernel, by decide +kernel⟩, by decide +kernel⟩, (x_in 1013 (by decide +kernel) rfl)⟩, (x_in 1012 (by decide +kernel) rfl)⟩
abbrev mL_save : xM := (yL_save, cL_save, 3, some .int)
abbrev tbL_save : List (Nat × Nat × Nat × Nat) := [(0, 5, 8, 25)]
theorem cH_L_223 : xCH RL 223 mL_save tbL_save 2 := ⟨⟨⟨(x_in 1026 (by decide +kernel) rfl), (x_in 85 (by decide +kernel) rfl), by decide +kernel, ⟨by decide +kernel, by decide +kernel⟩, by decide +kernel⟩, (x_in 1025 (by decide +kernel) rfl)⟩, (x_in 1024 (by decide +kernel) rfl)⟩
abbrev mL_restore : xM := (yL_restore, cL_restore, 4, some .int)
abbrev tbL_restore : List (Nat × Nat × Nat × Nat) := [(0, 9, 12, 25), (0, 9, 15, 13)]
theorem cH_L_227 : xCH RL 227 mL_restore tbL_restore 3 := ⟨⟨⟨(x_in 1037 (by decide +kernel) rfl), (x_in 85 (by decide +kernel) rfl), by decide +kernel, ⟨by decide +kernel, by decide +kernel⟩, by decide +kernel⟩, (x_in 1036 (by decide +kernel) rfl)⟩, (x_in 1035 (by decide +kernel) rfl)⟩
abbrev mL_writtenByte : xM := (yL_writtenByte, cL_writtenByte, 4, some .int)
abbrev tbL_writtenByte : List (Nat × Nat × Nat × Nat) := [(0, 9, 12, 25)]
theorem cH_L_234 : xCH RL 234 mL_writtenByte tbL_writtenByte 3 := ⟨⟨⟨(x_in 1045 (by decide +kernel) rfl), (x_in 85 (by decide +kernel) rfl), by decide +kernel, ⟨by decide +kernel, by decide +kernel⟩, by decide +kernel⟩, (x_in 1044 (by decide +kernel) rfl)⟩, (x_in 1043 (by decide +kernel) rfl)⟩
/-- what such a method leaves: how it threw, and, if it didn't, the answer at the place o -/
def wrQ (v : Nat) (w : Wd) (h : xH) (o : Nat) (f : Nat → Int64) (R : Rs) (r : Option Value) (h' : xH) : Prop := r = some (.int (nI R.1)) ∧ ∃ w' h1, wTo v w h w' h1 ∧ ((R.1 = 0 ∧ wBy w R.2.2 w' ∧ h' = hset h1 o (.inl (2, 1, .inr (.inl (vp_updL f 0 R.2.1.toInt64))))) ∨ (0 < R.1 ∧ w' = w ∧ h' = h1))
theorem wTo.at {v : Nat} {w w' : Wd} {h h1 : xH} {o : Nat} {e : xE} (hto : wTo v w h w' h1) (ho : h.1 o = some e) (hz : o < h.2) (hn : ¬ inW v w o) : h1.1 o = some e := by rw [(hto.2.2 o hz hn).1]; exact ho
section LW
variable {g : xG} {l : Launch} {h : xH} {v o : Nat} {w : Wd} {f : Nat → Int64}
theorem w_count (hW : WAt h v w) (hw : aW w.1.1) (ho : h.1 o = some (.inl (2, 1, .inr (.inl f)))) (hz : o < h.2) (hn : ¬ inW v w o) (a : Int32) : xMetH g l mL_count tbL_count 7 1 6 [.ref v, .int a, .ref o] h (wrQ v w h o f (countR w.1.1 a)) xno := by
  refine xMetH.of (V := [some (.ref v), some (.int a), some (.ref o), none]) cH_L_118.1.1 (Nat.le_of_ble_eq_true rfl) rfl ?_
  refine x_aload_n dL_count_0 rfl ?_
  refine x_iconst (nI 0) dL_count_1 (by decide) ?_
  refine x_aload_n dL_count_2 rfl ?_
  refine x_iload_n dL_count_3 rfl ?_
  refine x_callV dL_count_4 cV_L_15 (c_count hW hw a) rfl rfl ⟨⟨by decide, by decide⟩, by decide, by decide⟩ (Nat.le_of_ble_eq_true rfl) (xrecv hW.o rfl xcl4) (fun E h9 q9 => ?_) (fun v9 h9 q9 => ?_)
  · obtain ⟨k1, k2, k3⟩ := q9
    generalize hR : (countR w.1.1 a) = R at *
    have e1 : R.1 = 1 := by
      rcases e : R.1 with _ | _ | k
      · omega
      · rfl
      · rw [e] at k2; cases k2
    rw [e1] at k2
    cases k2
    refine x_catch (pre := []) (E := nIAE) rfl (fun z hz9 => by cases hz9) (by decide +kernel) (by decide) kl_19 kk_nIAE (fun q => ?_)
    refine x_astore_n dL_count_12 (by decide) rfl rfl ?_
    refine x_iconst (nI 1) dL_count_13 (by decide) ?_
    exact x_ireturn dL_count_14 rfl rfl (by decide) (by decide) ⟨by rw [e1], w, _, k3, Or.inr ⟨k1, rfl, rfl⟩⟩
  · obtain ⟨k1, rfl, w1, hto, hby⟩ := q9
    generalize hR : (countR w.1.1 a) = R at *
    refine x_i2l dL_count_7 ?_
    refine x_last dL_count_8 (hto.at ho hz hn) (by decide) (by decide) ?_
    refine x_goto 15 dL_count_9 (by decide) ?_
    refine x_iconst (nI 0) dL_count_15 (by decide) ?_
    exact x_ireturn dL_count_16 rfl rfl (by decide) (by decide) ⟨by rw [k1], w1, _, hto, Or.inl ⟨k1, hby, rfl⟩⟩
theorem w_family (hW : WAt h v w) (hw : aW w.1.1) (hc : aCn w.1.1 10000000) (ho : h.1 o = some (.inl (2, 1, .inr (.inl f)))) (hz : o < h.2) (hn : ¬ inW v w o) (f9 a : Int32) : xMetH g l mL_family tbL_family 8 2 12 [.ref v, .int f9, .int a, .ref o] h (wrQ v w h o f (familyR w.1.1 f9 a)) xno := by
  refine xMetH.of (V := [some (.ref v), some (.int f9), some (.int a), some (.ref o), none]) cH_L_122.1.1 (Nat.le_of_ble_eq_true rfl) rfl ?_
  refine x_aload_n dL_family_0 rfl ?_
  refine x_iconst (nI 0) dL_family_1 (by decide) ?_
  refine x_aload_n dL_family_2 rfl ?_
  refine x_iload_n dL_family_3 rfl ?_
  refine x_iload_n dL_family_4 rfl ?_
  refine x_callV dL_family_5 cV_L_21 (c_family hW hw hc f9 a) rfl rfl ⟨⟨by decide, by decide⟩, by decide, by decide⟩ (Nat.le_of_ble_eq_true rfl) (xrecv hW.o rfl xcl4) (fun E h9 q9 => ?_) (fun v9 h9 q9 => ?_)
  · obtain ⟨k1, k2, k3⟩ := q9
    generalize hR : (familyR w.1.1 f9 a) = R at *
    have e1 : R.1 = 1 ∨ R.1 = 2 := by
      rcases e : R.1 with _ | _ | _ | k
      · omega
      · exact Or.inl rfl
      · exact Or.inr rfl
      · rw [e] at k2; cases k2
    rcases e1 with e1 | e1
    · rw [e1] at k2
      cases k2
      refine x_catch (pre := []) (E := nIOB) rfl (fun z hz9 => by cases hz9) (by decide +kernel) (by decide) kl_25 kk_nIOB (fun q => ?_)
      refine x_astore dL_family_13 (by decide) rfl rfl ?_
      refine x_iconst (nI 1) dL_family_15 (by decide) ?_
      exact x_ireturn dL_family_16 rfl rfl (by decide) (by decide) ⟨by rw [e1], w, _, k3, Or.inr ⟨k1, rfl, rfl⟩⟩
    · rw [e1] at k2
      cases k2
      refine x_catch (pre := [(0, 10, 13, 25)]) (E := nIAE) rfl (fun z hz9 => by rw [List.mem_singleton.mp hz9]; exact ⟨by decide, _, kl_25, kn_nIAE_nIOB⟩) (by decide +kernel) (by decide) kl_19 kk_nIAE (fun q => ?_)
      refine x_astore dL_family_17 (by decide) rfl rfl ?_
      refine x_iconst (nI 2) dL_family_19 (by decide) ?_
      exact x_ireturn dL_family_20 rfl rfl (by decide) (by decide) ⟨by rw [e1], w, _, k3, Or.inr ⟨k1, rfl, rfl⟩⟩
  · obtain ⟨k1, rfl, w1, hto, hby⟩ := q9
    generalize hR : (familyR w.1.1 f9 a) = R at *
    refine x_i2l dL_family_8 ?_
    refine x_last dL_family_9 (hto.at ho hz hn) (by decide) (by decide) ?_
    refine x_goto 21 dL_family_10 (by decide) ?_
    refine x_iconst (nI 0) dL_family_21 (by decide) ?_
    exact x_ireturn dL_family_22 rfl rfl (by decide) (by decide) ⟨by rw [k1], w1, _, hto, Or.inl ⟨k1, hby, rfl⟩⟩
theorem w_picture (hW : WAt h v w) (hw : aW w.1.1) (ho : h.1 o = some (.inl (2, 1, .inr (.inl f)))) (hz : o < h.2) (hn : ¬ inW v w o) (p a : Int32) : xMetH g l mL_picture tbL_picture 8 2 12 [.ref v, .int p, .int a, .ref o] h (wrQ v w h o f (pictureR w.1.1 p a)) xno := by
  refine xMetH.of (V := [some (.ref v), some (.int p), some (.int a), some (.ref o), none]) cH_L_126.1.1 (Nat.le_of_ble_eq_true rfl) rfl ?_
  refine x_aload_n dL_picture_0 rfl ?_
  refine x_iconst (nI 0) dL_picture_1 (by decide) ?_
  refine x_aload_n dL_picture_2 rfl ?_
  refine x_iload_n dL_picture_3 rfl ?_
  refine x_iload_n dL_picture_4 rfl ?_
  refine x_callV dL_picture_5 cV_L_27 (c_picture hW hw p a) rfl rfl ⟨⟨by decide, by decide⟩, by decide, by decide⟩ (Nat.le_of_ble_eq_true rfl) (xrecv hW.o rfl xcl4) (fun E h9 q9 => ?_) (fun v9 h9 q9 => ?_)
  · obtain ⟨k1, k2, k3⟩ := q9
    generalize hR : (pictureR w.1.1 p a) = R at *
    have e1 : R.1 = 1 ∨ R.1 = 2 := by
      rcases e : R.1 with _ | _ | _ | k
      · omega
      · exact Or.inl rfl
      · exact Or.inr rfl
      · rw [e] at k2; cases k2
    rcases e1 with e1 | e1
    · rw [e1] at k2
      cases k2
      refine x_catch (pre := []) (E := nIOB) rfl (fun z hz9 => by cases hz9) (by decide +kernel) (by decide) kl_25 kk_nIOB (fun q => ?_)
      refine x_astore dL_picture_13 (by decide) rfl rfl ?_
      refine x_iconst (nI 1) dL_picture_15 (by decide) ?_
      exact x_ireturn dL_picture_16 rfl rfl (by decide) (by decide) ⟨by rw [e1], w, _, k3, Or.inr ⟨k1, rfl, rfl⟩⟩
    · rw [e1] at k2
      cases k2
      refine x_catch (pre := [(0, 10, 13, 25)]) (E := nIAE) rfl (fun z hz9 => by rw [List.mem_singleton.mp hz9]; exact ⟨by decide, _, kl_25, kn_nIAE_nIOB⟩) (by decide +kernel) (by decide) kl_19 kk_nIAE (fun q => ?_)
      refine x_astore dL_picture_17 (by decide) rfl rfl ?_
      refine x_iconst (nI 2) dL_picture_19 (by decide) ?_
      exact x_ireturn dL_picture_20 rfl rfl (by decide) (by decide) ⟨by rw [e1], w, _, k3, Or.inr ⟨k1, rfl, rfl⟩⟩
  · obtain ⟨k1, rfl, w1, hto, hby⟩ := q9
    generalize hR : (pictureR w.1.1 p a) = R at *
    refine x_i2l dL_picture_8 ?_
    refine x_last dL_picture_9 (hto.at ho hz hn) (by decide) (by decide) ?_
    refine x_goto 21 dL_picture_10 (by decide) ?_
    refine x_iconst (nI 0) dL_picture_21 (by decide) ?_
    exact x_ireturn dL_picture_22 rfl rfl (by decide) (by decide) ⟨by rw [k1], w1, _, hto, Or.inl ⟨k1, hby, rfl⟩⟩
theorem w_copy (hW : WAt h v w) (hw : aW w.1.1) (ho : h.1 o = some (.inl (2, 1, .inr (.inl f)))) (hz : o < h.2) (hn : ¬ inW v w o) (p f9 : Int32) : xMetH g l mL_copy tbL_copy 9 3 18 [.ref v, .int p, .int f9, .ref o] h (wrQ v w h o f (copyR w.1.1 p f9)) xno := by
  refine xMetH.of (V := [some (.ref v), some (.int p), some (.int f9), some (.ref o), none]) cH_L_129.1.1 (Nat.le_of_ble_eq_true rfl) rfl ?_
  refine x_aload_n dL_copy_0 rfl ?_
  refine x_iconst (nI 0) dL_copy_1 (by decide) ?_
  refine x_aload_n dL_copy_2 rfl ?_
  refine x_iload_n dL_copy_3 rfl ?_
  refine x_iload_n dL_copy_4 rfl ?_
  refine x_callV dL_copy_5 cV_L_30 (c_copy hW hw p f9) rfl rfl ⟨⟨by decide, by decide⟩, by decide, by decide⟩ (Nat.le_of_ble_eq_true rfl) (xrecv hW.o rfl xcl4) (fun E h9 q9 => ?_) (fun v9 h9 q9 => ?_)
  · obtain ⟨k1, k2, k3⟩ := q9
    generalize hR : (copyR w.1.1 p f9) = R at *
    have e1 : R.1 = 1 := by
      rcases e : R.1 with _ | _ | k
      · omega
      · rfl
      · rw [e] at k2; cases k2
    rw [e1] at k2
    cases k2
    refine x_catch (pre := []) (E := nIOB) rfl (fun z hz9 => by cases hz9) (by decide +kernel) (by decide) kl_25 kk_nIOB (fun q => ?_)
    refine x_astore dL_copy_13 (by decide) rfl rfl ?_
    refine x_iconst (nI 1) dL_copy_15 (by decide) ?_
    exact x_ireturn dL_copy_16 rfl rfl (by decide) (by decide) ⟨by rw [e1], w, _, k3, Or.inr ⟨k1, rfl, rfl⟩⟩
  · obtain ⟨k1, rfl, w1, hto, hby⟩ := q9
    generalize hR : (copyR w.1.1 p f9) = R at *
    refine x_i2l dL_copy_8 ?_
    refine x_last dL_copy_9 (hto.at ho hz hn) (by decide) (by decide) ?_
    refine x_goto 17 dL_copy_10 (by decide) ?_
    refine x_iconst (nI 0) dL_copy_17 (by decide) ?_
    exact x_ireturn dL_copy_18 rfl rfl (by decide) (by decide) ⟨by rw [k1], w1, _, hto, Or.inl ⟨k1, hby, rfl⟩⟩
theorem w_why (hW : WAt h v w) (hw : aW w.1.1) (ho : h.1 o = some (.inl (2, 1, .inr (.inl f)))) (hz : o < h.2) (hn : ¬ inW v w o) (p f9 : Int32) : xMetH g l mL_why tbL_why 9 3 18 [.ref v, .int p, .int f9, .ref o] h (wrQ v w h o f (whyR w.1.1 p f9)) xno := by
  refine xMetH.of (V := [some (.ref v), some (.int p), some (.int f9), some (.ref o), none]) cH_L_132.1.1 (Nat.le_of_ble_eq_true rfl) rfl ?_
  refine x_aload_n dL_why_0 rfl ?_
  refine x_iconst (nI 0) dL_why_1 (by decide) ?_
  refine x_aload_n dL_why_2 rfl ?_
  refine x_iload_n dL_why_3 rfl ?_
  refine x_iload_n dL_why_4 rfl ?_
  refine x_callV dL_why_5 cV_L_33 (c_why hW hw p f9) rfl rfl ⟨⟨by decide, by decide⟩, by decide, by decide⟩ (Nat.le_of_ble_eq_true rfl) (xrecv hW.o rfl xcl4) (fun E h9 q9 => ?_) (fun v9 h9 q9 => ?_)
  · obtain ⟨k1, k2, k3⟩ := q9
    generalize hR : (whyR w.1.1 p f9) = R at *
    have e1 : R.1 = 1 := by
      rcases e : R.1 with _ | _ | k
      · omega
      · rfl
      · rw [e] at k2; cases k2
    rw [e1] at k2
    cases k2
    refine x_catch (pre := []) (E := nIOB) rfl (fun z hz9 => by cases hz9) (by decide +kernel) (by decide) kl_25 kk_nIOB (fun q => ?_)
    refine x_astore dL_why_13 (by decide) rfl rfl ?_
    refine x_iconst (nI 1) dL_why_15 (by decide) ?_
    exact x_ireturn dL_why_16 rfl rfl (by decide) (by decide) ⟨by rw [e1], w, _, k3, Or.inr ⟨k1, rfl, rfl⟩⟩
  · obtain ⟨k1, rfl, w1, hto, hby⟩ := q9
    generalize hR : (whyR w.1.1 p f9) = R at *
    refine x_i2l dL_why_8 ?_
    refine x_last dL_why_9 (hto.at ho hz hn) (by decide) (by decide) ?_
    refine x_goto 17 dL_why_10 (by decide) ?_
    refine x_iconst (nI 0) dL_why_17 (by decide) ?_
    exact x_ireturn dL_why_18 rfl rfl (by decide) (by decide) ⟨by rw [k1], w1, _, hto, Or.inl ⟨k1, hby, rfl⟩⟩
theorem w_bestTile (hW : WAt h v w) (hw : aW w.1.1) (ho : h.1 o = some (.inl (2, 1, .inr (.inl f)))) (hz : o < h.2) (hn : ¬ inW v w o) (p : Int32) : xMetH g l mL_bestTile tbL_bestTile 8 2 12 [.ref v, .int p, .ref o] h (wrQ v w h o f (bestTileR w.1.1 p)) xno := by
  refine xMetH.of (V := [some (.ref v), some (.int p), some (.ref o), none]) cH_L_139.1.1 (Nat.le_of_ble_eq_true rfl) rfl ?_
  refine x_aload_n dL_bestTile_0 rfl ?_
  refine x_iconst (nI 0) dL_bestTile_1 (by decide) ?_
  refine x_aload_n dL_bestTile_2 rfl ?_
  refine x_iload_n dL_bestTile_3 rfl ?_
  refine x_callV dL_bestTile_4 cV_L_40 (c_bestTile hW hw p) rfl rfl ⟨⟨by decide, by decide⟩, by decide, by decide⟩ (Nat.le_of_ble_eq_true rfl) (xrecv hW.o rfl xcl4) (fun E h9 q9 => ?_) (fun v9 h9 q9 => ?_)
  · obtain ⟨k1, k2, k3⟩ := q9
    generalize hR : (bestTileR w.1.1 p) = R at *
    have e1 : R.1 = 1 := by
      rcases e : R.1 with _ | _ | k
      · omega
      · rfl
      · rw [e] at k2; cases k2
    rw [e1] at k2
    cases k2
    refine x_catch (pre := []) (E := nIOB) rfl (fun z hz9 => by cases hz9) (by decide +kernel) (by decide) kl_25 kk_nIOB (fun q => ?_)
    refine x_astore_n dL_bestTile_12 (by decide) rfl rfl ?_
    refine x_iconst (nI 1) dL_bestTile_13 (by decide) ?_
    exact x_ireturn dL_bestTile_14 rfl rfl (by decide) (by decide) ⟨by rw [e1], w, _, k3, Or.inr ⟨k1, rfl, rfl⟩⟩
  · obtain ⟨k1, rfl, w1, hto, hby⟩ := q9
    generalize hR : (bestTileR w.1.1 p) = R at *
    refine x_i2l dL_bestTile_7 ?_
    refine x_last dL_bestTile_8 (hto.at ho hz hn) (by decide) (by decide) ?_
    refine x_goto 15 dL_bestTile_9 (by decide) ?_
    refine x_iconst (nI 0) dL_bestTile_15 (by decide) ?_
    exact x_ireturn dL_bestTile_16 rfl rfl (by decide) (by decide) ⟨by rw [k1], w1, _, hto, Or.inl ⟨k1, hby, rfl⟩⟩
theorem w_roundsToFind (hW : WAt h v w) (hw : aW w.1.1) (ho : h.1 o = some (.inl (2, 1, .inr (.inl f)))) (hz : o < h.2) (hn : ¬ inW v w o) (a : Int32) : xMetH g l mL_roundsToFind tbL_roundsToFind 8 1 6 [.ref v, .int a, .ref o] h (wrQ v w h o f (roundsR w.1.1 a)) xno := by
  refine xMetH.of (V := [some (.ref v), some (.int a), some (.ref o), none]) cH_L_142.1.1 (Nat.le_of_ble_eq_true rfl) rfl ?_
  refine x_aload_n dL_roundsToFind_0 rfl ?_
  refine x_iconst (nI 0) dL_roundsToFind_1 (by decide) ?_
  refine x_aload_n dL_roundsToFind_2 rfl ?_
  refine x_iload_n dL_roundsToFind_3 rfl ?_
  refine x_callV dL_roundsToFind_4 cV_L_43 (c_roundsToFind hW hw a) rfl rfl ⟨⟨by decide, by decide⟩, by decide, by decide⟩ (Nat.le_of_ble_eq_true rfl) (xrecv hW.o rfl xcl4) (fun E h9 q9 => ?_) (fun v9 h9 q9 => ?_)
  · obtain ⟨k1, k2, k3⟩ := q9
    generalize hR : (roundsR w.1.1 a) = R at *
    have e1 : R.1 = 1 := by
      rcases e : R.1 with _ | _ | k
      · omega
      · rfl
      · rw [e] at k2; cases k2
    rw [e1] at k2
    cases k2
    refine x_catch (pre := []) (E := nIAE) rfl (fun z hz9 => by cases hz9) (by decide +kernel) (by decide) kl_19 kk_nIAE (fun q => ?_)
    refine x_astore_n dL_roundsToFind_12 (by decide) rfl rfl ?_
    refine x_iconst (nI 1) dL_roundsToFind_13 (by decide) ?_
    exact x_ireturn dL_roundsToFind_14 rfl rfl (by decide) (by decide) ⟨by rw [e1], w, _, k3, Or.inr ⟨k1, rfl, rfl⟩⟩
  · obtain ⟨k1, rfl, w1, hto, hby⟩ := q9
    generalize hR : (roundsR w.1.1 a) = R at *
    refine x_i2l dL_roundsToFind_7 ?_
    refine x_last dL_roundsToFind_8 (hto.at ho hz hn) (by decide) (by decide) ?_
    refine x_goto 15 dL_roundsToFind_9 (by decide) ?_
    refine x_iconst (nI 0) dL_roundsToFind_15 (by decide) ?_
    exact x_ireturn dL_roundsToFind_16 rfl rfl (by decide) (by decide) ⟨by rw [k1], w1, _, hto, Or.inl ⟨k1, hby, rfl⟩⟩
theorem w_sources (hW : WAt h v w) (hw : aW w.1.1) (ho : h.1 o = some (.inl (2, 1, .inr (.inl f)))) (hz : o < h.2) (hn : ¬ inW v w o) (p f9 : Int32) : xMetH g l mL_sources tbL_sources 9 3 18 [.ref v, .int p, .int f9, .ref o] h (wrQ v w h o f (sourcesR w.1.1 p f9)) xno := by
  refine xMetH.of (V := [some (.ref v), some (.int p), some (.int f9), some (.ref o), none]) cH_L_149.1.1 (Nat.le_of_ble_eq_true rfl) rfl ?_
  refine x_aload_n dL_sources_0 rfl ?_
  refine x_iconst (nI 0) dL_sources_1 (by decide) ?_
  refine x_aload_n dL_sources_2 rfl ?_
  refine x_iload_n dL_sources_3 rfl ?_
  refine x_iload_n dL_sources_4 rfl ?_
  refine x_callV dL_sources_5 cV_L_46 (c_sources hW hw p f9) rfl rfl ⟨⟨by decide, by decide⟩, by decide, by decide⟩ (Nat.le_of_ble_eq_true rfl) (xrecv hW.o rfl xcl4) (fun E h9 q9 => ?_) (fun v9 h9 q9 => ?_)
  · obtain ⟨k1, k2, k3⟩ := q9
    generalize hR : (sourcesR w.1.1 p f9) = R at *
    have e1 : R.1 = 1 := by
      rcases e : R.1 with _ | _ | k
      · omega
      · rfl
      · rw [e] at k2; cases k2
    rw [e1] at k2
    cases k2
    refine x_catch (pre := []) (E := nIOB) rfl (fun z hz9 => by cases hz9) (by decide +kernel) (by decide) kl_25 kk_nIOB (fun q => ?_)
    refine x_astore dL_sources_13 (by decide) rfl rfl ?_
    refine x_iconst (nI 1) dL_sources_15 (by decide) ?_
    exact x_ireturn dL_sources_16 rfl rfl (by decide) (by decide) ⟨by rw [e1], w, _, k3, Or.inr ⟨k1, rfl, rfl⟩⟩
  · obtain ⟨k1, rfl, w1, hto, hby⟩ := q9
    generalize hR : (sourcesR w.1.1 p f9) = R at *
    refine x_i2l dL_sources_8 ?_
    refine x_last dL_sources_9 (hto.at ho hz hn) (by decide) (by decide) ?_
    refine x_goto 17 dL_sources_10 (by decide) ?_
    refine x_iconst (nI 0) dL_sources_17 (by decide) ?_
    exact x_ireturn dL_sources_18 rfl rfl (by decide) (by decide) ⟨by rw [k1], w1, _, hto, Or.inl ⟨k1, hby, rfl⟩⟩
theorem w_wouldGet (hW : WAt h v w) (hw : aW w.1.1) (ho : h.1 o = some (.inl (2, 1, .inr (.inl f)))) (hz : o < h.2) (hn : ¬ inW v w o) (p f9 : Int32) : xMetH g l mL_wouldGet tbL_wouldGet 9 3 18 [.ref v, .int p, .int f9, .ref o] h (wrQ v w h o f (wouldGetR w.1.1 p f9)) xno := by
  refine xMetH.of (V := [some (.ref v), some (.int p), some (.int f9), some (.ref o), none]) cH_L_152.1.1 (Nat.le_of_ble_eq_true rfl) rfl ?_
  refine x_aload_n dL_wouldGet_0 rfl ?_
  refine x_iconst (nI 0) dL_wouldGet_1 (by decide) ?_
  refine x_aload_n dL_wouldGet_2 rfl ?_
  refine x_iload_n dL_wouldGet_3 rfl ?_
  refine x_iload_n dL_wouldGet_4 rfl ?_
  refine x_callV dL_wouldGet_5 cV_L_49 (c_wouldGet hW hw p f9) rfl rfl ⟨⟨by decide, by decide⟩, by decide, by decide⟩ (Nat.le_of_ble_eq_true rfl) (xrecv hW.o rfl xcl4) (fun E h9 q9 => ?_) (fun v9 h9 q9 => ?_)
  · obtain ⟨k1, k2, k3⟩ := q9
    generalize hR : (wouldGetR w.1.1 p f9) = R at *
    have e1 : R.1 = 1 := by
      rcases e : R.1 with _ | _ | k
      · omega
      · rfl
      · rw [e] at k2; cases k2
    rw [e1] at k2
    cases k2
    refine x_catch (pre := []) (E := nIOB) rfl (fun z hz9 => by cases hz9) (by decide +kernel) (by decide) kl_25 kk_nIOB (fun q => ?_)
    refine x_astore dL_wouldGet_13 (by decide) rfl rfl ?_
    refine x_iconst (nI 1) dL_wouldGet_15 (by decide) ?_
    exact x_ireturn dL_wouldGet_16 rfl rfl (by decide) (by decide) ⟨by rw [e1], w, _, k3, Or.inr ⟨k1, rfl, rfl⟩⟩
  · obtain ⟨k1, rfl, w1, hto, hby⟩ := q9
    generalize hR : (wouldGetR w.1.1 p f9) = R at *
    refine x_i2l dL_wouldGet_8 ?_
    refine x_last dL_wouldGet_9 (hto.at ho hz hn) (by decide) (by decide) ?_
    refine x_goto 17 dL_wouldGet_10 (by decide) ?_
    refine x_iconst (nI 0) dL_wouldGet_17 (by decide) ?_
    exact x_ireturn dL_wouldGet_18 rfl rfl (by decide) (by decide) ⟨by rw [k1], w1, _, hto, Or.inl ⟨k1, hby, rfl⟩⟩
theorem w_depends (hW : WAt h v w) (hw : aW w.1.1) (ho : h.1 o = some (.inl (2, 1, .inr (.inl f)))) (hz : o < h.2) (hn : ¬ inW v w o) (p : Int32) : xMetH g l mL_depends tbL_depends 8 2 12 [.ref v, .int p, .ref o] h (wrQ v w h o f (dependsR w.1.1 p)) xno := by
  refine xMetH.of (V := [some (.ref v), some (.int p), some (.ref o), none]) cH_L_163.1.1 (Nat.le_of_ble_eq_true rfl) rfl ?_
  refine x_aload_n dL_depends_0 rfl ?_
  refine x_iconst (nI 0) dL_depends_1 (by decide) ?_
  refine x_aload_n dL_depends_2 rfl ?_
  refine x_iload_n dL_depends_3 rfl ?_
  refine x_callV dL_depends_4 cV_L_52 (c_depends hW hw p) rfl rfl ⟨⟨by decide, by decide⟩, by decide, by decide⟩ (Nat.le_of_ble_eq_true rfl) (xrecv hW.o rfl xcl4) (fun E h9 q9 => ?_) (fun v9 h9 q9 => ?_)
  · obtain ⟨k1, k2, k3⟩ := q9
    generalize hR : (dependsR w.1.1 p) = R at *
    have e1 : R.1 = 1 := by
      rcases e : R.1 with _ | _ | k
      · omega
      · rfl
      · rw [e] at k2; cases k2
    rw [e1] at k2
    cases k2
    refine x_catch (pre := []) (E := nIOB) rfl (fun z hz9 => by cases hz9) (by decide +kernel) (by decide) kl_25 kk_nIOB (fun q => ?_)
    refine x_astore_n dL_depends_12 (by decide) rfl rfl ?_
    refine x_iconst (nI 1) dL_depends_13 (by decide) ?_
    exact x_ireturn dL_depends_14 rfl rfl (by decide) (by decide) ⟨by rw [e1], w, _, k3, Or.inr ⟨k1, rfl, rfl⟩⟩
  · obtain ⟨k1, rfl, w1, hto, hby⟩ := q9
    generalize hR : (dependsR w.1.1 p) = R at *
    refine x_i2l dL_depends_7 ?_
    refine x_last dL_depends_8 (hto.at ho hz hn) (by decide) (by decide) ?_
    refine x_goto 15 dL_depends_9 (by decide) ?_
    refine x_iconst (nI 0) dL_depends_15 (by decide) ?_
    exact x_ireturn dL_depends_16 rfl rfl (by decide) (by decide) ⟨by rw [k1], w1, _, hto, Or.inl ⟨k1, hby, rfl⟩⟩
theorem w_reach (hW : WAt h v w) (hw : aW w.1.1) (ho : h.1 o = some (.inl (2, 1, .inr (.inl f)))) (hz : o < h.2) (hn : ¬ inW v w o) (p : Int32) : xMetH g l mL_reach tbL_reach 8 2 12 [.ref v, .int p, .ref o] h (wrQ v w h o f (reachR w.1.1 p)) xno := by
  refine xMetH.of (V := [some (.ref v), some (.int p), some (.ref o), none]) cH_L_170.1.1 (Nat.le_of_ble_eq_true rfl) rfl ?_
  refine x_aload_n dL_reach_0 rfl ?_
  refine x_iconst (nI 0) dL_reach_1 (by decide) ?_
  refine x_aload_n dL_reach_2 rfl ?_
  refine x_iload_n dL_reach_3 rfl ?_
  refine x_callV dL_reach_4 cV_L_55 (c_reach hW hw p) rfl rfl ⟨⟨by decide, by decide⟩, by decide, by decide⟩ (Nat.le_of_ble_eq_true rfl) (xrecv hW.o rfl xcl4) (fun E h9 q9 => ?_) (fun v9 h9 q9 => ?_)
  · obtain ⟨k1, k2, k3⟩ := q9
    generalize hR : (reachR w.1.1 p) = R at *
    have e1 : R.1 = 1 := by
      rcases e : R.1 with _ | _ | k
      · omega
      · rfl
      · rw [e] at k2; cases k2
    rw [e1] at k2
    cases k2
    refine x_catch (pre := []) (E := nIOB) rfl (fun z hz9 => by cases hz9) (by decide +kernel) (by decide) kl_25 kk_nIOB (fun q => ?_)
    refine x_astore_n dL_reach_12 (by decide) rfl rfl ?_
    refine x_iconst (nI 1) dL_reach_13 (by decide) ?_
    exact x_ireturn dL_reach_14 rfl rfl (by decide) (by decide) ⟨by rw [e1], w, _, k3, Or.inr ⟨k1, rfl, rfl⟩⟩
  · obtain ⟨k1, rfl, w1, hto, hby⟩ := q9
    generalize hR : (reachR w.1.1 p) = R at *
    refine x_i2l dL_reach_7 ?_
    refine x_last dL_reach_8 (hto.at ho hz hn) (by decide) (by decide) ?_
    refine x_goto 15 dL_reach_9 (by decide) ?_
    refine x_iconst (nI 0) dL_reach_15 (by decide) ?_
    exact x_ireturn dL_reach_16 rfl rfl (by decide) (by decide) ⟨by rw [k1], w1, _, hto, Or.inl ⟨k1, hby, rfl⟩⟩
theorem w_ask (hW : WAt h v w) (hw : aW w.1.1) (hh : hisOk w) (ho : h.1 o = some (.inl (2, 1, .inr (.inl f)))) (hz : o < h.2) (hn : ¬ inW v w o) (p f9 a : Int32) : xMetH g l mL_ask tbL_ask 9 15 262 [.ref v, .int p, .int f9, .int a, .ref o] h (wrQ v w h o f (askR w.1.1 p f9 a)) xno := by
  refine xMetH.of (V := [some (.ref v), some (.int p), some (.int f9), some (.int a), some (.ref o), none]) cH_L_186.1.1 (Nat.le_of_ble_eq_true rfl) rfl ?_
  refine x_aload dL_ask_0 rfl ?_
  refine x_iconst (nI 0) dL_ask_2 (by decide) ?_
  refine x_aload_n dL_ask_3 rfl ?_
  refine x_iload_n dL_ask_4 rfl ?_
  refine x_iload_n dL_ask_5 rfl ?_
  refine x_iload_n dL_ask_6 rfl ?_
  refine x_callV dL_ask_7 cV_L_58 (c_ask hW hw hh p f9 a) rfl rfl ⟨⟨by decide, by decide⟩, by decide, by decide⟩ (Nat.le_of_ble_eq_true rfl) (xrecv hW.o rfl xcl4) (fun E h9 q9 => ?_) (fun v9 h9 q9 => ?_)
  · obtain ⟨k1, k2, k3⟩ := q9
    generalize hR : (askR w.1.1 p f9 a) = R at *
    have e1 : R.1 = 1 := by
      rcases e : R.1 with _ | _ | k
      · omega
      · rfl
      · rw [e] at k2; cases k2
    rw [e1] at k2
    cases k2
    refine x_catch (pre := []) (E := nIOB) rfl (fun z hz9 => by cases hz9) (by decide +kernel) (by decide) kl_25 kk_nIOB (fun q => ?_)
    refine x_astore dL_ask_15 (by decide) rfl rfl ?_
    refine x_iconst (nI 1) dL_ask_17 (by decide) ?_
    exact x_ireturn dL_ask_18 rfl rfl (by decide) (by decide) ⟨by rw [e1], w, _, k3, Or.inr ⟨k1, rfl, rfl⟩⟩
  · obtain ⟨k1, rfl, w1, hto, hby⟩ := q9
    generalize hR : (askR w.1.1 p f9 a) = R at *
    refine x_i2l dL_ask_10 ?_
    refine x_last dL_ask_11 (hto.at ho hz hn) (by decide) (by decide) ?_
    refine x_goto 19 dL_ask_12 (by decide) ?_
    refine x_iconst (nI 0) dL_ask_19 (by decide) ?_
    exact x_ireturn dL_ask_20 rfl rfl (by decide) (by decide) ⟨by rw [k1], w1, _, hto, Or.inl ⟨k1, hby, rfl⟩⟩
theorem w_round (hW : WAt h v w) (hw : aW w.1.1) (hh : hisOk w) (ho : h.1 o = some (.inl (2, 1, .inr (.inl f)))) (hz : o < h.2) (hn : ¬ inW v w o) (a : Int32) : xMetH g l mL_round tbL_round 8 13 250 [.ref v, .int a, .ref o] h (wrQ v w h o f (roundR w.1.1 a)) xno := by
  refine xMetH.of (V := [some (.ref v), some (.int a), some (.ref o), none]) cH_L_190.1.1 (Nat.le_of_ble_eq_true rfl) rfl ?_
  refine x_aload_n dL_round_0 rfl ?_
  refine x_iconst (nI 0) dL_round_1 (by decide) ?_
  refine x_aload_n dL_round_2 rfl ?_
  refine x_iload_n dL_round_3 rfl ?_
  refine x_callV dL_round_4 cV_L_62 (c_round hW hw hh a) rfl rfl ⟨⟨by decide, by decide⟩, by decide, by decide⟩ (Nat.le_of_ble_eq_true rfl) (xrecv hW.o rfl xcl4) (fun E h9 q9 => ?_) (fun v9 h9 q9 => ?_)
  · obtain ⟨k1, k2, k3⟩ := q9
    generalize hR : (roundR w.1.1 a) = R at *
    have e1 : R.1 = 1 := by
      rcases e : R.1 with _ | _ | k
      · omega
      · rfl
      · rw [e] at k2; cases k2
    rw [e1] at k2
    cases k2
    refine x_catch (pre := []) (E := nIAE) rfl (fun z hz9 => by cases hz9) (by decide +kernel) (by decide) kl_19 kk_nIAE (fun q => ?_)
    refine x_astore_n dL_round_12 (by decide) rfl rfl ?_
    refine x_iconst (nI 1) dL_round_13 (by decide) ?_
    exact x_ireturn dL_round_14 rfl rfl (by decide) (by decide) ⟨by rw [e1], w, _, k3, Or.inr ⟨k1, rfl, rfl⟩⟩
  · obtain ⟨k1, rfl, w1, hto, hby⟩ := q9
    generalize hR : (roundR w.1.1 a) = R at *
    refine x_i2l dL_round_7 ?_
    refine x_last dL_round_8 (hto.at ho hz hn) (by decide) (by decide) ?_
    refine x_goto 15 dL_round_9 (by decide) ?_
    refine x_iconst (nI 0) dL_round_15 (by decide) ?_
    exact x_ireturn dL_round_16 rfl rfl (by decide) (by decide) ⟨by rw [k1], w1, _, hto, Or.inl ⟨k1, hby, rfl⟩⟩
theorem w_harm (hW : WAt h v w) (hw : aW w.1.1) (hh : hisOk w) (ho : h.1 o = some (.inl (2, 1, .inr (.inl f)))) (hz : o < h.2) (hn : ¬ inW v w o) (f9 a : Int32) : xMetH g l mL_harm tbL_harm 8 14 256 [.ref v, .int f9, .int a, .ref o] h (wrQ v w h o f (harmR w.1.1 f9 a)) xno := by
  refine xMetH.of (V := [some (.ref v), some (.int f9), some (.int a), some (.ref o), none]) cH_L_193.1.1 (Nat.le_of_ble_eq_true rfl) rfl ?_
  refine x_aload_n dL_harm_0 rfl ?_
  refine x_iconst (nI 0) dL_harm_1 (by decide) ?_
  refine x_aload_n dL_harm_2 rfl ?_
  refine x_iload_n dL_harm_3 rfl ?_
  refine x_iload_n dL_harm_4 rfl ?_
  refine x_callV dL_harm_5 cV_L_65 (c_harm hW hw hh f9 a) rfl rfl ⟨⟨by decide, by decide⟩, by decide, by decide⟩ (Nat.le_of_ble_eq_true rfl) (xrecv hW.o rfl xcl4) (fun E h9 q9 => ?_) (fun v9 h9 q9 => ?_)
  · obtain ⟨k1, k2, k3⟩ := q9
    generalize hR : (harmR w.1.1 f9 a) = R at *
    have e1 : R.1 = 1 ∨ R.1 = 2 := by
      rcases e : R.1 with _ | _ | _ | k
      · omega
      · exact Or.inl rfl
      · exact Or.inr rfl
      · rw [e] at k2; cases k2
    rcases e1 with e1 | e1
    · rw [e1] at k2
      cases k2
      refine x_catch (pre := []) (E := nIOB) rfl (fun z hz9 => by cases hz9) (by decide +kernel) (by decide) kl_25 kk_nIOB (fun q => ?_)
      refine x_astore dL_harm_13 (by decide) rfl rfl ?_
      refine x_iconst (nI 1) dL_harm_15 (by decide) ?_
      exact x_ireturn dL_harm_16 rfl rfl (by decide) (by decide) ⟨by rw [e1], w, _, k3, Or.inr ⟨k1, rfl, rfl⟩⟩
    · rw [e1] at k2
      cases k2
      refine x_catch (pre := [(0, 10, 13, 25)]) (E := nIAE) rfl (fun z hz9 => by rw [List.mem_singleton.mp hz9]; exact ⟨by decide, _, kl_25, kn_nIAE_nIOB⟩) (by decide +kernel) (by decide) kl_19 kk_nIAE (fun q => ?_)
      refine x_astore dL_harm_17 (by decide) rfl rfl ?_
      refine x_iconst (nI 2) dL_harm_19 (by decide) ?_
      exact x_ireturn dL_harm_20 rfl rfl (by decide) (by decide) ⟨by rw [e1], w, _, k3, Or.inr ⟨k1, rfl, rfl⟩⟩
  · obtain ⟨k1, rfl, w1, hto, hby⟩ := q9
    generalize hR : (harmR w.1.1 f9 a) = R at *
    refine x_i2l dL_harm_8 ?_
    refine x_last dL_harm_9 (hto.at ho hz hn) (by decide) (by decide) ?_
    refine x_goto 21 dL_harm_10 (by decide) ?_
    refine x_iconst (nI 0) dL_harm_21 (by decide) ?_
    exact x_ireturn dL_harm_22 rfl rfl (by decide) (by decide) ⟨by rw [k1], w1, _, hto, Or.inl ⟨k1, hby, rfl⟩⟩
theorem w_repair (hW : WAt h v w) (hw : aW w.1.1) (hh : hisOk w) (ho : h.1 o = some (.inl (2, 1, .inr (.inl f)))) (hz : o < h.2) (hn : ¬ inW v w o) (p f9 : Int32) : xMetH g l mL_repair tbL_repair 9 14 256 [.ref v, .int p, .int f9, .ref o] h (wrQ v w h o f (repairR w.1.1 p f9)) xno := by
  refine xMetH.of (V := [some (.ref v), some (.int p), some (.int f9), some (.ref o), none]) cH_L_196.1.1 (Nat.le_of_ble_eq_true rfl) rfl ?_
  refine x_aload_n dL_repair_0 rfl ?_
  refine x_iconst (nI 0) dL_repair_1 (by decide) ?_
  refine x_aload_n dL_repair_2 rfl ?_
  refine x_iload_n dL_repair_3 rfl ?_
  refine x_iload_n dL_repair_4 rfl ?_
  refine x_callV dL_repair_5 cV_L_68 (c_repair hW hw hh p f9) rfl rfl ⟨⟨by decide, by decide⟩, by decide, by decide⟩ (Nat.le_of_ble_eq_true rfl) (xrecv hW.o rfl xcl4) (fun E h9 q9 => ?_) (fun v9 h9 q9 => ?_)
  · obtain ⟨k1, k2, k3⟩ := q9
    generalize hR : (repairR w.1.1 p f9) = R at *
    have e1 : R.1 = 1 := by
      rcases e : R.1 with _ | _ | k
      · omega
      · rfl
      · rw [e] at k2; cases k2
    rw [e1] at k2
    cases k2
    refine x_catch (pre := []) (E := nIOB) rfl (fun z hz9 => by cases hz9) (by decide +kernel) (by decide) kl_25 kk_nIOB (fun q => ?_)
    refine x_astore dL_repair_13 (by decide) rfl rfl ?_
    refine x_iconst (nI 1) dL_repair_15 (by decide) ?_
    exact x_ireturn dL_repair_16 rfl rfl (by decide) (by decide) ⟨by rw [e1], w, _, k3, Or.inr ⟨k1, rfl, rfl⟩⟩
  · obtain ⟨k1, rfl, w1, hto, hby⟩ := q9
    generalize hR : (repairR w.1.1 p f9) = R at *
    refine x_i2l dL_repair_8 ?_
    refine x_last dL_repair_9 (hto.at ho hz hn) (by decide) (by decide) ?_
    refine x_goto 17 dL_repair_10 (by decide) ?_
    refine x_iconst (nI 0) dL_repair_17 (by decide) ?_
    exact x_ireturn dL_repair_18 rfl rfl (by decide) (by decide) ⟨by rw [k1], w1, _, hto, Or.inl ⟨k1, hby, rfl⟩⟩
theorem w_join (hW : WAt h v w) (hw : aW w.1.1) (hh : hisOk w) (ho : h.1 o = some (.inl (2, 1, .inr (.inl f)))) (hz : o < h.2) (hn : ¬ inW v w o) (a : Int32) : xMetH g l mL_join tbL_join 7 13 250 [.ref v, .int a, .ref o] h (wrQ v w h o f (joinR w.1.1 a)) xno := by
  refine xMetH.of (V := [some (.ref v), some (.int a), some (.ref o), none]) cH_L_207.1.1 (Nat.le_of_ble_eq_true rfl) rfl ?_
  refine x_aload_n dL_join_0 rfl ?_
  refine x_iconst (nI 0) dL_join_1 (by decide) ?_
  refine x_aload_n dL_join_2 rfl ?_
  refine x_iload_n dL_join_3 rfl ?_
  refine x_callV dL_join_4 cV_L_71 (c_join hW hw hh a) rfl rfl ⟨⟨by decide, by decide⟩, by decide, by decide⟩ (Nat.le_of_ble_eq_true rfl) (xrecv hW.o rfl xcl4) (fun E h9 q9 => ?_) (fun v9 h9 q9 => ?_)
  · obtain ⟨k1, k2, k3⟩ := q9
    generalize hR : (joinR w.1.1 a) = R at *
    have e1 : R.1 = 1 := by
      rcases e : R.1 with _ | _ | k
      · omega
      · rfl
      · rw [e] at k2; cases k2
    rw [e1] at k2
    cases k2
    refine x_catch (pre := []) (E := nIAE) rfl (fun z hz9 => by cases hz9) (by decide +kernel) (by decide) kl_19 kk_nIAE (fun q => ?_)
    refine x_astore_n dL_join_12 (by decide) rfl rfl ?_
    refine x_iconst (nI 1) dL_join_13 (by decide) ?_
    exact x_ireturn dL_join_14 rfl rfl (by decide) (by decide) ⟨by rw [e1], w, _, k3, Or.inr ⟨k1, rfl, rfl⟩⟩
  · obtain ⟨k1, rfl, w1, hto, hby⟩ := q9
    generalize hR : (joinR w.1.1 a) = R at *
    refine x_i2l dL_join_7 ?_
    refine x_last dL_join_8 (hto.at ho hz hn) (by decide) (by decide) ?_
    refine x_goto 15 dL_join_9 (by decide) ?_
    refine x_iconst (nI 0) dL_join_15 (by decide) ?_
    exact x_ireturn dL_join_16 rfl rfl (by decide) (by decide) ⟨by rw [k1], w1, _, hto, Or.inl ⟨k1, hby, rfl⟩⟩
theorem w_meet (hW : WAt h v w) (hw : aW w.1.1) (hh : hisOk w) (ho : h.1 o = some (.inl (2, 1, .inr (.inl f)))) (hz : o < h.2) (hn : ¬ inW v w o) (p a : Int32) : xMetH g l mL_meet tbL_meet 8 15 262 [.ref v, .int p, .int a, .ref o] h (wrQ v w h o f (meetR w.1.1 p a)) xno := by
  refine xMetH.of (V := [some (.ref v), some (.int p), some (.int a), some (.ref o), none]) cH_L_210.1.1 (Nat.le_of_ble_eq_true rfl) rfl ?_
  refine x_aload_n dL_meet_0 rfl ?_
  refine x_iconst (nI 0) dL_meet_1 (by decide) ?_
  refine x_aload_n dL_meet_2 rfl ?_
  refine x_iload_n dL_meet_3 rfl ?_
  refine x_iload_n dL_meet_4 rfl ?_
  refine x_callV dL_meet_5 cV_L_74 (c_meet hW hw hh p a) rfl rfl ⟨⟨by decide, by decide⟩, by decide, by decide⟩ (Nat.le_of_ble_eq_true rfl) (xrecv hW.o rfl xcl4) (fun E h9 q9 => ?_) (fun v9 h9 q9 => ?_)
  · obtain ⟨k1, k2, k3⟩ := q9
    generalize hR : (meetR w.1.1 p a) = R at *
    have e1 : R.1 = 1 ∨ R.1 = 2 := by
      rcases e : R.1 with _ | _ | _ | k
      · omega
      · exact Or.inl rfl
      · exact Or.inr rfl
      · rw [e] at k2; cases k2
    rcases e1 with e1 | e1
    · rw [e1] at k2
      cases k2
      refine x_catch (pre := []) (E := nIOB) rfl (fun z hz9 => by cases hz9) (by decide +kernel) (by decide) kl_25 kk_nIOB (fun q => ?_)
      refine x_astore dL_meet_13 (by decide) rfl rfl ?_
      refine x_iconst (nI 1) dL_meet_15 (by decide) ?_
      exact x_ireturn dL_meet_16 rfl rfl (by decide) (by decide) ⟨by rw [e1], w, _, k3, Or.inr ⟨k1, rfl, rfl⟩⟩
    · rw [e1] at k2
      cases k2
      refine x_catch (pre := [(0, 10, 13, 25)]) (E := nIAE) rfl (fun z hz9 => by rw [List.mem_singleton.mp hz9]; exact ⟨by decide, _, kl_25, kn_nIAE_nIOB⟩) (by decide +kernel) (by decide) kl_19 kk_nIAE (fun q => ?_)
      refine x_astore dL_meet_17 (by decide) rfl rfl ?_
      refine x_iconst (nI 2) dL_meet_19 (by decide) ?_
      exact x_ireturn dL_meet_20 rfl rfl (by decide) (by decide) ⟨by rw [e1], w, _, k3, Or.inr ⟨k1, rfl, rfl⟩⟩
  · obtain ⟨k1, rfl, w1, hto, hby⟩ := q9
    generalize hR : (meetR w.1.1 p a) = R at *
    refine x_i2l dL_meet_8 ?_
    refine x_last dL_meet_9 (hto.at ho hz hn) (by decide) (by decide) ?_
    refine x_goto 21 dL_meet_10 (by decide) ?_
    refine x_iconst (nI 0) dL_meet_21 (by decide) ?_
    exact x_ireturn dL_meet_22 rfl rfl (by decide) (by decide) ⟨by rw [k1], w1, _, hto, Or.inl ⟨k1, hby, rfl⟩⟩
theorem w_leave (hW : WAt h v w) (hw : aW w.1.1) (hh : hisOk w) (ho : h.1 o = some (.inl (2, 1, .inr (.inl f)))) (hz : o < h.2) (hn : ¬ inW v w o) (f9 : Int32) : xMetH g l mL_leave tbL_leave 8 13 250 [.ref v, .int f9, .ref o] h (wrQ v w h o f (leaveR w.1.1 f9)) xno := by
  refine xMetH.of (V := [some (.ref v), some (.int f9), some (.ref o), none]) cH_L_213.1.1 (Nat.le_of_ble_eq_true rfl) rfl ?_
  refine x_aload_n dL_leave_0 rfl ?_
  refine x_iconst (nI 0) dL_leave_1 (by decide) ?_
  refine x_aload_n dL_leave_2 rfl ?_
  refine x_iload_n dL_leave_3 rfl ?_
  refine x_callV dL_leave_4 cV_L_77 (c_leave hW hw hh f9) rfl rfl ⟨⟨by decide, by decide⟩, by decide, by decide⟩ (Nat.le_of_ble_eq_true rfl) (xrecv hW.o rfl xcl4) (fun E h9 q9 => ?_) (fun v9 h9 q9 => ?_)
  · obtain ⟨k1, k2, k3⟩ := q9
    generalize hR : (leaveR w.1.1 f9) = R at *
    have e1 : R.1 = 1 := by
      rcases e : R.1 with _ | _ | k
      · omega
      · rfl
      · rw [e] at k2; cases k2
    rw [e1] at k2
    cases k2
    refine x_catch (pre := []) (E := nIOB) rfl (fun z hz9 => by cases hz9) (by decide +kernel) (by decide) kl_25 kk_nIOB (fun q => ?_)
    refine x_astore_n dL_leave_12 (by decide) rfl rfl ?_
    refine x_iconst (nI 1) dL_leave_13 (by decide) ?_
    exact x_ireturn dL_leave_14 rfl rfl (by decide) (by decide) ⟨by rw [e1], w, _, k3, Or.inr ⟨k1, rfl, rfl⟩⟩
  · obtain ⟨k1, rfl, w1, hto, hby⟩ := q9
    generalize hR : (leaveR w.1.1 f9) = R at *
    refine x_i2l dL_leave_7 ?_
    refine x_last dL_leave_8 (hto.at ho hz hn) (by decide) (by decide) ?_
    refine x_goto 15 dL_leave_9 (by decide) ?_
    refine x_iconst (nI 0) dL_leave_15 (by decide) ?_
    exact x_ireturn dL_leave_16 rfl rfl (by decide) (by decide) ⟨by rw [k1], w1, _, hto, Or.inl ⟨k1, hby, rfl⟩⟩
theorem w_setPledge (hW : WAt h v w) (hw : aW w.1.1) (hh : hisOk w) (ho : h.1 o = some (.inl (2, 1, .inr (.inl f)))) (hz : o < h.2) (hn : ¬ inW v w o) (p a : Int32) : xMetH g l mL_setPledge tbL_setPledge 8 14 256 [.ref v, .int p, .int a, .ref o] h (wrQ v w h o f (pledgeR w.1.1 p a)) xno := by
  refine xMetH.of (V := [some (.ref v), some (.int p), some (.int a), some (.ref o), none]) cH_L_216.1.1 (Nat.le_of_ble_eq_true rfl) rfl ?_
  refine x_aload_n dL_setPledge_0 rfl ?_
  refine x_iconst (nI 0) dL_setPledge_1 (by decide) ?_
  refine x_aload_n dL_setPledge_2 rfl ?_
  refine x_iload_n dL_setPledge_3 rfl ?_
  refine x_iload_n dL_setPledge_4 rfl ?_
  refine x_callV dL_setPledge_5 cV_L_80 (c_setPledge hW hw hh p a) rfl rfl ⟨⟨by decide, by decide⟩, by decide, by decide⟩ (Nat.le_of_ble_eq_true rfl) (xrecv hW.o rfl xcl4) (fun E h9 q9 => ?_) (fun v9 h9 q9 => ?_)
  · obtain ⟨k1, k2, k3⟩ := q9
    generalize hR : (pledgeR w.1.1 p a) = R at *
    have e1 : R.1 = 1 ∨ R.1 = 2 := by
      rcases e : R.1 with _ | _ | _ | k
      · omega
      · exact Or.inl rfl
      · exact Or.inr rfl
      · rw [e] at k2; cases k2
    rcases e1 with e1 | e1
    · rw [e1] at k2
      cases k2
      refine x_catch (pre := []) (E := nIOB) rfl (fun z hz9 => by cases hz9) (by decide +kernel) (by decide) kl_25 kk_nIOB (fun q => ?_)
      refine x_astore dL_setPledge_13 (by decide) rfl rfl ?_
      refine x_iconst (nI 1) dL_setPledge_15 (by decide) ?_
      exact x_ireturn dL_setPledge_16 rfl rfl (by decide) (by decide) ⟨by rw [e1], w, _, k3, Or.inr ⟨k1, rfl, rfl⟩⟩
    · rw [e1] at k2
      cases k2
      refine x_catch (pre := [(0, 10, 13, 25)]) (E := nIAE) rfl (fun z hz9 => by rw [List.mem_singleton.mp hz9]; exact ⟨by decide, _, kl_25, kn_nIAE_nIOB⟩) (by decide +kernel) (by decide) kl_19 kk_nIAE (fun q => ?_)
      refine x_astore dL_setPledge_17 (by decide) rfl rfl ?_
      refine x_iconst (nI 2) dL_setPledge_19 (by decide) ?_
      exact x_ireturn dL_setPledge_20 rfl rfl (by decide) (by decide) ⟨by rw [e1], w, _, k3, Or.inr ⟨k1, rfl, rfl⟩⟩
  · obtain ⟨k1, rfl, w1, hto, hby⟩ := q9
    generalize hR : (pledgeR w.1.1 p a) = R at *
    refine x_i2l dL_setPledge_8 ?_
    refine x_last dL_setPledge_9 (hto.at ho hz hn) (by decide) (by decide) ?_
    refine x_goto 21 dL_setPledge_10 (by decide) ?_
    refine x_iconst (nI 0) dL_setPledge_21 (by decide) ?_
    exact x_ireturn dL_setPledge_22 rfl rfl (by decide) (by decide) ⟨by rw [k1], w1, _, hto, Or.inl ⟨k1, hby, rfl⟩⟩
theorem w_restore (hW : WAt h v w) (hh : hisOk w) (ho : h.1 o = some (.inl (2, 1, .inr (.inl f)))) (hz : o < h.2) (hn : ¬ inW v w o) (a : Int32) : xMetH g l mL_restore tbL_restore 8 14 256 [.ref v, .int a, .ref o] h (wrQ v w h o f (restoreR w a)) xno := by
  refine xMetH.of (V := [some (.ref v), some (.int a), some (.ref o), none]) cH_L_227.1.1 (Nat.le_of_ble_eq_true rfl) rfl ?_
  refine x_aload_n dL_restore_0 rfl ?_
  refine x_iconst (nI 0) dL_restore_1 (by decide) ?_
  refine x_aload_n dL_restore_2 rfl ?_
  refine x_iload_n dL_restore_3 rfl ?_
  refine x_callV dL_restore_4 cV_L_91 (c_restore hW hh a) rfl rfl ⟨⟨by decide, by decide⟩, by decide, by decide⟩ (Nat.le_of_ble_eq_true rfl) (xrecv hW.o rfl xcl4) (fun E h9 q9 => ?_) (fun v9 h9 q9 => ?_)
  · obtain ⟨k1, k2, k3⟩ := q9
    generalize hR : (restoreR w a) = R at *
    have e1 : R.1 = 1 ∨ R.1 = 2 := by
      rcases e : R.1 with _ | _ | _ | k
      · omega
      · exact Or.inl rfl
      · exact Or.inr rfl
      · rw [e] at k2; cases k2
    rcases e1 with e1 | e1
    · rw [e1] at k2
      cases k2
      refine x_catch (pre := []) (E := nIOB) rfl (fun z hz9 => by cases hz9) (by decide +kernel) (by decide) kl_25 kk_nIOB (fun q => ?_)
      refine x_astore_n dL_restore_12 (by decide) rfl rfl ?_
      refine x_iconst (nI 1) dL_restore_13 (by decide) ?_
      exact x_ireturn dL_restore_14 rfl rfl (by decide) (by decide) ⟨by rw [e1], w, _, k3, Or.inr ⟨k1, rfl, rfl⟩⟩
    · rw [e1] at k2
      cases k2
      refine x_catch (pre := [(0, 9, 12, 25)]) (E := nISE) rfl (fun z hz9 => by rw [List.mem_singleton.mp hz9]; exact ⟨by decide, _, kl_25, kn_nISE_nIOB⟩) (by decide +kernel) (by decide) kl_13 kk_nISE (fun q => ?_)
      refine x_astore_n dL_restore_15 (by decide) rfl rfl ?_
      refine x_iconst (nI 2) dL_restore_16 (by decide) ?_
      exact x_ireturn dL_restore_17 rfl rfl (by decide) (by decide) ⟨by rw [e1], w, _, k3, Or.inr ⟨k1, rfl, rfl⟩⟩
  · obtain ⟨k1, rfl, w1, hto, hby⟩ := q9
    generalize hR : (restoreR w a) = R at *
    refine x_i2l dL_restore_7 ?_
    refine x_last dL_restore_8 (hto.at ho hz hn) (by decide) (by decide) ?_
    refine x_goto 18 dL_restore_9 (by decide) ?_
    refine x_iconst (nI 0) dL_restore_18 (by decide) ?_
    exact x_ireturn dL_restore_19 rfl rfl (by decide) (by decide) ⟨by rw [k1], w1, _, hto, Or.inl ⟨k1, hby, rfl⟩⟩
theorem w_writtenByte (hW : WAt h v w) (hl : w.2.2.2.2.2.length ≤ 1332) (ho : h.1 o = some (.inl (2, 1, .inr (.inl f)))) (hz : o < h.2) (hn : ¬ inW v w o) (a : Int32) : xMetH g l mL_writtenByte tbL_writtenByte 7 1 6 [.ref v, .int a, .ref o] h (wrQ v w h o f (writtenR w.2.2.2.2.2 a)) xno := by
  refine xMetH.of (V := [some (.ref v), some (.int a), some (.ref o), none]) cH_L_234.1.1 (Nat.le_of_ble_eq_true rfl) rfl ?_
  refine x_aload_n dL_writtenByte_0 rfl ?_
  refine x_iconst (nI 0) dL_writtenByte_1 (by decide) ?_
  refine x_aload_n dL_writtenByte_2 rfl ?_
  refine x_iload_n dL_writtenByte_3 rfl ?_
  refine x_callV dL_writtenByte_4 cV_L_94 (c_writtenByte hW hl a) rfl rfl ⟨⟨by decide, by decide⟩, by decide, by decide⟩ (Nat.le_of_ble_eq_true rfl) (xrecv hW.o rfl xcl4) (fun E h9 q9 => ?_) (fun v9 h9 q9 => ?_)
  · obtain ⟨k1, k2, k3⟩ := q9
    generalize hR : (writtenR w.2.2.2.2.2 a) = R at *
    have e1 : R.1 = 1 := by
      rcases e : R.1 with _ | _ | k
      · omega
      · rfl
      · rw [e] at k2; cases k2
    rw [e1] at k2
    cases k2
    refine x_catch (pre := []) (E := nIOB) rfl (fun z hz9 => by cases hz9) (by decide +kernel) (by decide) kl_25 kk_nIOB (fun q => ?_)
    refine x_astore_n dL_writtenByte_12 (by decide) rfl rfl ?_
    refine x_iconst (nI 1) dL_writtenByte_13 (by decide) ?_
    exact x_ireturn dL_writtenByte_14 rfl rfl (by decide) (by decide) ⟨by rw [e1], w, _, k3, Or.inr ⟨k1, rfl, rfl⟩⟩
  · obtain ⟨k1, rfl, w1, hto, hby⟩ := q9
    generalize hR : (writtenR w.2.2.2.2.2 a) = R at *
    refine x_i2l dL_writtenByte_7 ?_
    refine x_last dL_writtenByte_8 (hto.at ho hz hn) (by decide) (by decide) ?_
    refine x_goto 15 dL_writtenByte_9 (by decide) ?_
    refine x_iconst (nI 0) dL_writtenByte_15 (by decide) ?_
    exact x_ireturn dL_writtenByte_16 rfl rfl (by decide) (by decide) ⟨by rw [k1], w1, _, hto, Or.inl ⟨k1, hby, rfl⟩⟩
end LW
