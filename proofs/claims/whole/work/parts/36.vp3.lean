/-! ===== VillagePhotos: numbers of an archive, a family, a picture ===== -/
section V3
variable {g : xG} {l : Launch} {h : xH} {v : Nat} {w : Wd}
theorem c_count (hW : WAt h v w) (hw : aW w.1.1) (a : Int32) : xMet g l mX5_count 6 1 6 [.ref v, .int a] h (opQ v w h (countR w.1.1 a)) (opX v w h [nIAE] (countR w.1.1 a)) := by
  refine xMet.of (V := [some (.ref v), some (.int a)]) moX5_count (Nat.le_of_ble_eq_true rfl) rfl ?_
  unfold countR
  cases c0 : okB a 11 with
  | false =>
    rw [if_neg (by decide)]
    refine x_iload_n dX5_count_0 rfl ?_
    refine x_tableOut 148 dX5_count_1 (by have := okB_out c0; omega) (by decide) ?_
    exact x_throw (j := 15) th_IAE rfl rfl dX5_count_148 dX5_count_151 dX5_count_152 dX5_count_154 dX5_count_157 (by decide) (Nat.le_of_ble_eq_true rfl) (by decide) (by decide) (by decide) (by decide) fun n hn => opX.of (Or.inl rfl) rfl (wTo.thr hW hn)
  | true =>
    rw [if_pos rfl]
    have ek := okB_lt c0
    have e9 := nI_ix a
    refine xP.weak (V' := [some (.ref v), some (.int (nI (ix a)))]) (by simp [xle, xset1, fin3, e9]) ?_
    have hk : ix a = 0 ∨ ix a = 1 ∨ ix a = 2 ∨ ix a = 3 ∨ ix a = 4 ∨ ix a = 5 ∨ ix a = 6 ∨ ix a = 7 ∨ ix a = 8 ∨ ix a = 9 ∨ ix a = 10 := by omega
    rcases hk with e | e | e | e | e | e | e | e | e | e | e
    · rw [e]
      refine x_iload_n dX5_count_0 rfl ?_
      refine x_tableIn 60 dX5_count_1 (by decide) (by decide) rfl (by decide) ?_
      refine x_aload_n dX5_count_60 rfl ?_
      refine x_getf dX5_count_61 f_X5_12 hW.o rfl ?_
      refine x_getf dX5_count_64 f_X5_96 hW.present.o rfl ?_
      exact x_ireturn dX5_count_67 rfl rfl (by decide) (by decide) (opQ.rf hW rfl rfl rfl)
    · rw [e]
      refine x_iload_n dX5_count_0 rfl ?_
      refine x_tableIn 68 dX5_count_1 (by decide) (by decide) rfl (by decide) ?_
      refine x_aload_n dX5_count_68 rfl ?_
      refine x_getf dX5_count_69 f_X5_12 hW.o rfl ?_
      refine x_getf dX5_count_72 f_X5_99 hW.present.o rfl ?_
      exact x_ireturn dX5_count_75 rfl rfl (by decide) (by decide) (opQ.rf hW rfl rfl rfl)
    · rw [e]
      refine x_iload_n dX5_count_0 rfl ?_
      refine x_tableIn 76 dX5_count_1 (by decide) (by decide) rfl (by decide) ?_
      refine x_aload_n dX5_count_76 rfl ?_
      refine x_getf dX5_count_77 f_X5_12 hW.o rfl ?_
      refine x_getf dX5_count_80 f_X5_90 hW.present.o rfl ?_
      exact x_ireturn dX5_count_83 rfl rfl (by decide) (by decide) (opQ.rf hW rfl rfl rfl)
    · rw [e]
      refine x_iload_n dX5_count_0 rfl ?_
      refine x_tableIn 84 dX5_count_1 (by decide) (by decide) rfl (by decide) ?_
      refine x_aload_n dX5_count_84 rfl ?_
      refine x_getf dX5_count_85 f_X5_12 hW.o rfl ?_
      refine x_vi0 dX5_count_88 cV_X5_102 (c_allCopies hW.present hw.1) rfl rfl ⟨⟨by decide, by decide⟩, by decide, by decide⟩ (Nat.le_of_ble_eq_true rfl) (xrecv hW.present.o rfl xcl0) ?_
      exact x_ireturn dX5_count_91 rfl rfl (by decide) (by decide) (opQ.rf hW rfl rfl rfl)
    · rw [e]
      refine x_iload_n dX5_count_0 rfl ?_
      refine x_tableIn 92 dX5_count_1 (by decide) (by decide) rfl (by decide) ?_
      refine x_aload_n dX5_count_92 rfl ?_
      refine x_getf dX5_count_93 f_X5_12 hW.o rfl ?_
      refine x_vi0 dX5_count_96 cV_X5_106 (c_brokenCopies hW.present hw.1) rfl rfl ⟨⟨by decide, by decide⟩, by decide, by decide⟩ (Nat.le_of_ble_eq_true rfl) (xrecv hW.present.o rfl xcl0) ?_
      exact x_ireturn dX5_count_99 rfl rfl (by decide) (by decide) (opQ.rf hW rfl rfl rfl)
    · rw [e]
      refine x_iload_n dX5_count_0 rfl ?_
      refine x_tableIn 100 dX5_count_1 (by decide) (by decide) rfl (by decide) ?_
      refine x_aload_n dX5_count_100 rfl ?_
      refine x_getf dX5_count_101 f_X5_12 hW.o rfl ?_
      refine x_vi0 dX5_count_104 cV_X5_109 (c_unsoundCopies hW.present hw.1) rfl rfl ⟨⟨by decide, by decide⟩, by decide, by decide⟩ (Nat.le_of_ble_eq_true rfl) (xrecv hW.present.o rfl xcl0) ?_
      exact x_ireturn dX5_count_107 rfl rfl (by decide) (by decide) (opQ.rf hW rfl rfl rfl)
    · rw [e]
      refine x_iload_n dX5_count_0 rfl ?_
      refine x_tableIn 108 dX5_count_1 (by decide) (by decide) rfl (by decide) ?_
      refine x_aload_n dX5_count_108 rfl ?_
      refine x_getf dX5_count_109 f_X5_12 hW.o rfl ?_
      refine x_vi0 dX5_count_112 cV_X5_112 (c_picturesInDanger hW.present hw.1) rfl rfl ⟨⟨by decide, by decide⟩, by decide, by decide⟩ (Nat.le_of_ble_eq_true rfl) (xrecv hW.present.o rfl xcl0) ?_
      exact x_ireturn dX5_count_115 rfl rfl (by decide) (by decide) (opQ.rf hW rfl rfl rfl)
    · rw [e]
      refine x_iload_n dX5_count_0 rfl ?_
      refine x_tableIn 116 dX5_count_1 (by decide) (by decide) rfl (by decide) ?_
      refine x_aload_n dX5_count_116 rfl ?_
      refine x_getf dX5_count_117 f_X5_12 hW.o rfl ?_
      refine x_vi0 dX5_count_120 cV_X5_115 (c_picturesTrulyInDanger hW.present hw.1) rfl rfl ⟨⟨by decide, by decide⟩, by decide, by decide⟩ (Nat.le_of_ble_eq_true rfl) (xrecv hW.present.o rfl xcl0) ?_
      exact x_ireturn dX5_count_123 rfl rfl (by decide) (by decide) (opQ.rf hW rfl rfl rfl)
    · rw [e]
      refine x_iload_n dX5_count_0 rfl ?_
      refine x_tableIn 124 dX5_count_1 (by decide) (by decide) rfl (by decide) ?_
      refine x_aload_n dX5_count_124 rfl ?_
      refine x_getf dX5_count_125 f_X5_12 hW.o rfl ?_
      refine x_getf dX5_count_128 f_X5_118 hW.present.o rfl ?_
      exact x_ireturn dX5_count_131 rfl rfl (by decide) (by decide) (opQ.rf hW rfl rfl rfl)
    · rw [e]
      refine x_iload_n dX5_count_0 rfl ?_
      refine x_tableIn 132 dX5_count_1 (by decide) (by decide) rfl (by decide) ?_
      refine x_aload_n dX5_count_132 rfl ?_
      refine x_getf dX5_count_133 f_X5_12 hW.o rfl ?_
      refine x_getf dX5_count_136 f_X5_121 hW.present.o rfl ?_
      exact x_ireturn dX5_count_139 rfl rfl (by decide) (by decide) (opQ.rf hW rfl rfl rfl)
    · rw [e]
      refine x_iload_n dX5_count_0 rfl ?_
      refine x_tableIn 140 dX5_count_1 (by decide) (by decide) rfl (by decide) ?_
      refine x_aload_n dX5_count_140 rfl ?_
      refine x_getf dX5_count_141 f_X5_12 hW.o rfl ?_
      refine x_vi0 dX5_count_144 cV_X5_124 (c_neighbourPairs hW.present hw.1) rfl rfl ⟨⟨by decide, by decide⟩, by decide, by decide⟩ (Nat.le_of_ble_eq_true rfl) (xrecv hW.present.o rfl xcl0) ?_
      exact x_ireturn dX5_count_147 rfl rfl (by decide) (by decide) (opQ.rf hW rfl rfl rfl)
theorem c_family (hW : WAt h v w) (hw : aW w.1.1) (hc : aCn w.1.1 10000000) (f a : Int32) : xMet g l mX5_family 7 2 12 [.ref v, .int f, .int a] h (opQ v w h (familyR w.1.1 f a)) (opX v w h [nIOB, nIAE] (familyR w.1.1 f a)) := by
  refine xMet.of (V := [some (.ref v), some (.int f), some (.int a)]) moX5_family (Nat.le_of_ble_eq_true rfl) rfl ?_
  refine x_aload_n dX5_family_0 rfl ?_
  refine x_iload_n dX5_family_1 rfl ?_
  refine x_callV dX5_family_2 cV_X5_132 (c_needFamily hW hw f) rfl rfl ⟨⟨by decide, by decide⟩, by decide, by decide⟩ (Nat.le_of_ble_eq_true rfl) (xrecv hW.o rfl xcl4) (fun E h9 q9 => x_out rfl (by decide) (by decide) ?_) (fun v9 h9 q9 => ?_)
  · obtain ⟨rfl, q2, q3⟩ := q9
    unfold familyR
    rw [if_neg (by rw [q2]; decide)]
    exact opX.of (Or.inl rfl) rfl q3
  obtain ⟨rfl, rfl, q3⟩ := q9
  have hp : ix f < 10 := by have := okB_lt q3; have : w.1.1.1 1 ≤ 10 := hw.1.2.1; omega
  have e1 := nI_ix f
  unfold familyR
  rw [if_pos q3]
  refine xP.weak (V' := [some (.ref v), some (.int (nI (ix f))), some (.int a)]) (by simp [xle, xset1, fin3, e1]) ?_
  cases c0 : okB a 7 with
  | false =>
    rw [if_neg (by decide)]
    refine x_iload_n dX5_family_5 rfl ?_
    refine x_tableOut 116 dX5_family_6 (by have := okB_out c0; omega) (by decide) ?_
    exact x_throw (j := 17) th_IAE rfl rfl dX5_family_116 dX5_family_119 dX5_family_120 dX5_family_122 dX5_family_125 (by decide) (Nat.le_of_ble_eq_true rfl) (by decide) (by decide) (by decide) (by decide) fun n hn => opX.of (Or.inr (Or.inl rfl)) rfl (wTo.thr hW hn)
  | true =>
    rw [if_pos rfl]
    have ek := okB_lt c0
    have e9 := nI_ix a
    refine xP.weak (V' := [some (.ref v), some (.int (nI (ix f))), some (.int (nI (ix a)))]) (by simp [xle, xset1, fin3, e9]) ?_
    have hk : ix a = 0 ∨ ix a = 1 ∨ ix a = 2 ∨ ix a = 3 ∨ ix a = 4 ∨ ix a = 5 ∨ ix a = 6 := by omega
    rcases hk with e | e | e | e | e | e | e
    · rw [e]
      refine x_iload_n dX5_family_5 rfl ?_
      refine x_tableIn 48 dX5_family_6 (by decide) (by decide) rfl (by decide) ?_
      refine x_aload_n dX5_family_48 rfl ?_
      refine x_getf dX5_family_49 f_X5_12 hW.o rfl ?_
      refine x_getf dX5_family_52 f_X5_135 hW.present.o rfl ?_
      refine x_iload_n dX5_family_55 rfl ?_
      refine x_iald_n dX5_family_56 hW.present.rooms (by omega) (by decide) ?_
      exact x_ireturn dX5_family_57 rfl rfl (by decide) (by decide) (opQ.rf hW rfl rfl rfl)
    · rw [e]
      refine x_iload_n dX5_family_5 rfl ?_
      refine x_tableIn 58 dX5_family_6 (by decide) (by decide) rfl (by decide) ?_
      refine x_aload_n dX5_family_58 rfl ?_
      refine x_getf dX5_family_59 f_X5_12 hW.o rfl ?_
      refine x_getf dX5_family_62 f_X5_139 hW.present.o rfl ?_
      refine x_iload_n dX5_family_65 rfl ?_
      refine x_iald_n dX5_family_66 hW.present.copies (by omega) (by decide) ?_
      exact x_ireturn dX5_family_67 rfl rfl (by decide) (by decide) (opQ.rf hW rfl rfl rfl)
    · rw [e]
      refine x_iload_n dX5_family_5 rfl ?_
      refine x_tableIn 68 dX5_family_6 (by decide) (by decide) rfl (by decide) ?_
      refine x_aload_n dX5_family_68 rfl ?_
      refine x_getf dX5_family_69 f_X5_12 hW.o rfl ?_
      refine x_iload_n dX5_family_72 rfl ?_
      refine x_vi0 dX5_family_73 cV_X5_142 (c_brokenCopiesOf hW.present hw.1 hp) rfl rfl ⟨⟨by decide, by decide⟩, by decide, by decide⟩ (Nat.le_of_ble_eq_true rfl) (xrecv hW.present.o rfl xcl0) ?_
      exact x_ireturn dX5_family_76 rfl rfl (by decide) (by decide) (opQ.rf hW rfl rfl rfl)
    · rw [e]
      refine x_iload_n dX5_family_5 rfl ?_
      refine x_tableIn 77 dX5_family_6 (by decide) (by decide) rfl (by decide) ?_
      refine x_aload_n dX5_family_77 rfl ?_
      refine x_getf dX5_family_78 f_X5_12 hW.o rfl ?_
      refine x_getf dX5_family_81 f_X5_145 hW.present.o rfl ?_
      refine x_iload_n dX5_family_84 rfl ?_
      refine x_iald_n dX5_family_85 hW.present.right (by omega) (by decide) ?_
      exact x_ireturn dX5_family_86 rfl rfl (by decide) (by decide) (opQ.rf hW rfl rfl rfl)
    · rw [e]
      refine x_iload_n dX5_family_5 rfl ?_
      refine x_tableIn 87 dX5_family_6 (by decide) (by decide) rfl (by decide) ?_
      refine x_aload_n dX5_family_87 rfl ?_
      refine x_getf dX5_family_88 f_X5_12 hW.o rfl ?_
      refine x_getf dX5_family_91 f_X5_148 hW.present.o rfl ?_
      refine x_iload_n dX5_family_94 rfl ?_
      refine x_iald_n dX5_family_95 hW.present.wrong (by omega) (by decide) ?_
      exact x_ireturn dX5_family_96 rfl rfl (by decide) (by decide) (opQ.rf hW rfl rfl rfl)
    · rw [e]
      refine x_iload_n dX5_family_5 rfl ?_
      refine x_tableIn 97 dX5_family_6 (by decide) (by decide) rfl (by decide) ?_
      refine x_aload_n dX5_family_97 rfl ?_
      refine x_getf dX5_family_98 f_X5_12 hW.o rfl ?_
      refine x_iload_n dX5_family_101 rfl ?_
      refine x_vi0 dX5_family_102 cV_X5_151 (c_trustOf hW.present hc hp) rfl rfl ⟨⟨by decide, by decide⟩, by decide, by decide⟩ (Nat.le_of_ble_eq_true rfl) (xrecv hW.present.o rfl xcl0) ?_
      exact x_ireturn dX5_family_105 rfl rfl (by decide) (by decide) (opQ.rf hW rfl rfl rfl)
    · rw [e]
      refine x_iload_n dX5_family_5 rfl ?_
      refine x_tableIn 106 dX5_family_6 (by decide) (by decide) rfl (by decide) ?_
      refine x_aload_n dX5_family_106 rfl ?_
      refine x_getf dX5_family_107 f_X5_12 hW.o rfl ?_
      refine x_getf dX5_family_110 f_X5_154 hW.present.o rfl ?_
      refine x_iload_n dX5_family_113 rfl ?_
      refine x_iald_n dX5_family_114 hW.present.near (by omega) (by decide) ?_
      exact x_ireturn dX5_family_115 rfl rfl (by decide) (by decide) (opQ.rf hW rfl rfl rfl)
theorem c_picture (hW : WAt h v w) (hw : aW w.1.1) (p a : Int32) : xMet g l mX5_picture 7 2 12 [.ref v, .int p, .int a] h (opQ v w h (pictureR w.1.1 p a)) (opX v w h [nIOB, nIAE] (pictureR w.1.1 p a)) := by
  refine xMet.of (V := [some (.ref v), some (.int p), some (.int a)]) moX5_picture (Nat.le_of_ble_eq_true rfl) rfl ?_
  refine x_aload_n dX5_picture_0 rfl ?_
  refine x_iload_n dX5_picture_1 rfl ?_
  refine x_callV dX5_picture_2 cV_X5_159 (c_needPicture hW hw p) rfl rfl ⟨⟨by decide, by decide⟩, by decide, by decide⟩ (Nat.le_of_ble_eq_true rfl) (xrecv hW.o rfl xcl4) (fun E h9 q9 => x_out rfl (by decide) (by decide) ?_) (fun v9 h9 q9 => ?_)
  · obtain ⟨rfl, q2, q3⟩ := q9
    unfold pictureR
    rw [if_neg (by rw [q2]; decide)]
    exact opX.of (Or.inl rfl) rfl q3
  obtain ⟨rfl, rfl, q3⟩ := q9
  have hp : ix p < 12 := by have := okB_lt q3; have : w.1.1.1 2 ≤ 12 := hw.1.2.2.1; omega
  have e1 := nI_ix p
  unfold pictureR
  rw [if_pos q3]
  refine xP.weak (V' := [some (.ref v), some (.int (nI (ix p))), some (.int a)]) (by simp [xle, xset1, fin3, e1]) ?_
  cases c0 : okB a 6 with
  | false =>
    rw [if_neg (by decide)]
    refine x_iload_n dX5_picture_5 rfl ?_
    refine x_tableOut 117 dX5_picture_6 (by have := okB_out c0; omega) (by decide) ?_
    exact x_throw (j := 19) th_IAE rfl rfl dX5_picture_117 dX5_picture_120 dX5_picture_121 dX5_picture_123 dX5_picture_126 (by decide) (Nat.le_of_ble_eq_true rfl) (by decide) (by decide) (by decide) (by decide) fun n hn => opX.of (Or.inr (Or.inl rfl)) rfl (wTo.thr hW hn)
  | true =>
    rw [if_pos rfl]
    have ek := okB_lt c0
    have e9 := nI_ix a
    refine xP.weak (V' := [some (.ref v), some (.int (nI (ix p))), some (.int (nI (ix a)))]) (by simp [xle, xset1, fin3, e9]) ?_
    have hk : ix a = 0 ∨ ix a = 1 ∨ ix a = 2 ∨ ix a = 3 ∨ ix a = 4 ∨ ix a = 5 := by omega
    rcases hk with e | e | e | e | e | e
    · rw [e]
      refine x_iload_n dX5_picture_5 rfl ?_
      refine x_tableIn 44 dX5_picture_6 (by decide) (by decide) rfl (by decide) ?_
      refine x_aload_n dX5_picture_44 rfl ?_
      refine x_getf dX5_picture_45 f_X5_12 hW.o rfl ?_
      refine x_getf dX5_picture_48 f_X5_162 hW.present.o rfl ?_
      refine x_iload_n dX5_picture_51 rfl ?_
      refine x_iald_n dX5_picture_52 hW.present.pledges (by omega) (by decide) ?_
      exact x_ireturn dX5_picture_53 rfl rfl (by decide) (by decide) (opQ.rf hW rfl rfl rfl)
    · rw [e]
      refine x_iload_n dX5_picture_5 rfl ?_
      refine x_tableIn 54 dX5_picture_6 (by decide) (by decide) rfl (by decide) ?_
      refine x_aload_n dX5_picture_54 rfl ?_
      refine x_getf dX5_picture_55 f_X5_12 hW.o rfl ?_
      refine x_getf dX5_picture_58 f_X5_165 hW.present.o rfl ?_
      refine x_iload_n dX5_picture_61 rfl ?_
      refine x_iald_n dX5_picture_62 hW.present.held (by omega) (by decide) ?_
      exact x_ireturn dX5_picture_63 rfl rfl (by decide) (by decide) (opQ.rf hW rfl rfl rfl)
    · rw [e]
      refine x_iload_n dX5_picture_5 rfl ?_
      refine x_tableIn 64 dX5_picture_6 (by decide) (by decide) rfl (by decide) ?_
      refine x_aload_n dX5_picture_64 rfl ?_
      refine x_getf dX5_picture_65 f_X5_12 hW.o rfl ?_
      refine x_getf dX5_picture_68 f_X5_168 hW.present.o rfl ?_
      refine x_iload_n dX5_picture_71 rfl ?_
      refine x_iald_n dX5_picture_72 hW.present.broken (by omega) (by decide) ?_
      exact x_ireturn dX5_picture_73 rfl rfl (by decide) (by decide) (opQ.rf hW rfl rfl rfl)
    · rw [e]
      refine x_iload_n dX5_picture_5 rfl ?_
      refine x_tableIn 74 dX5_picture_6 (by decide) (by decide) rfl (by decide) ?_
      refine x_aload_n dX5_picture_74 rfl ?_
      refine x_getf dX5_picture_75 f_X5_12 hW.o rfl ?_
      refine x_iload_n dX5_picture_78 rfl ?_
      refine x_vi0 dX5_picture_79 cV_X5_171 (c_soundHolders hW.present hw.1 hp) rfl rfl ⟨⟨by decide, by decide⟩, by decide, by decide⟩ (Nat.le_of_ble_eq_true rfl) (xrecv hW.present.o rfl xcl0) ?_
      exact x_ireturn dX5_picture_82 rfl rfl (by decide) (by decide) (opQ.rf hW rfl rfl rfl)
    · rw [e]
      refine x_iload_n dX5_picture_5 rfl ?_
      refine x_tableIn 83 dX5_picture_6 (by decide) (by decide) rfl (by decide) ?_
      refine x_aload_n dX5_picture_83 rfl ?_
      refine x_getf dX5_picture_84 f_X5_12 hW.o rfl ?_
      refine x_iload_n dX5_picture_87 rfl ?_
      refine x_vi0 dX5_picture_88 cV_X5_174 (c_isInDanger hW.present hw.1 hp) rfl rfl ⟨⟨by decide, by decide⟩, by decide, by decide⟩ (Nat.le_of_ble_eq_true rfl) (xrecv hW.present.o rfl xcl0) ?_
      refine x_if_eq_b 98 dX5_picture_91 (by decide) (fun c1 => ?_) (fun c1 => ?_)
      · refine x_iconst (nI 0) dX5_picture_98 (by decide) ?_
        exact x_ireturn dX5_picture_99 rfl rfl (by decide) (by decide) (opQ.rf hW rfl (by show _ = some (Value.int (xb (inDB w.1.1 (ix p)))); rw [c1]; rfl) rfl)
      · refine x_iconst (nI 1) dX5_picture_94 (by decide) ?_
        refine x_goto 99 dX5_picture_95 (by decide) ?_
        exact x_ireturn dX5_picture_99 rfl rfl (by decide) (by decide) (opQ.rf hW rfl (by show _ = some (Value.int (xb (inDB w.1.1 (ix p)))); rw [c1]; rfl) rfl)
    · rw [e]
      refine x_iload_n dX5_picture_5 rfl ?_
      refine x_tableIn 100 dX5_picture_6 (by decide) (by decide) rfl (by decide) ?_
      refine x_aload_n dX5_picture_100 rfl ?_
      refine x_getf dX5_picture_101 f_X5_12 hW.o rfl ?_
      refine x_iload_n dX5_picture_104 rfl ?_
      refine x_vi0 dX5_picture_105 cV_X5_178 (c_isTrulyInDanger hW.present hw.1 hp) rfl rfl ⟨⟨by decide, by decide⟩, by decide, by decide⟩ (Nat.le_of_ble_eq_true rfl) (xrecv hW.present.o rfl xcl0) ?_
      refine x_if_eq_b 115 dX5_picture_108 (by decide) (fun c1 => ?_) (fun c1 => ?_)
      · refine x_iconst (nI 0) dX5_picture_115 (by decide) ?_
        exact x_ireturn dX5_picture_116 rfl rfl (by decide) (by decide) (opQ.rf hW rfl (by show _ = some (Value.int (xb (trulyB w.1.1 (ix p)))); rw [c1]; rfl) rfl)
      · refine x_iconst (nI 1) dX5_picture_111 (by decide) ?_
        refine x_goto 116 dX5_picture_112 (by decide) ?_
        exact x_ireturn dX5_picture_116 rfl rfl (by decide) (by decide) (opQ.rf hW rfl (by show _ = some (Value.int (xb (trulyB w.1.1 (ix p)))); rw [c1]; rfl) rfl)
end V3
