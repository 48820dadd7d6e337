/-! ===== Archive: a family leaves; an Archive is made; the chance ===== -/
section A6
variable {g : xG} {l : Launch} {h : xH} {o : Nat} {st : Ar}
theorem dr_rooms {f' : Nat → Nat} : hset (putArch h o st) (o + 2) (.inl (0, 10, .inl (fun k => nI (f' k)))) = putArch h o (aF st 0 f') := by
  have k := hset_arch (h := putArch h o st) (o := o) (st := st) (st' := aF st 0 f') 2 (by decide) putArch_at rfl (lt12 ⟨fun _ => rfl, fun _ => rfl, fun q => absurd rfl q, fun _ => rfl, fun _ => rfl, fun _ => rfl, fun _ => rfl, fun _ => rfl, fun _ => rfl, fun _ => rfl, fun _ => rfl, fun _ => rfl⟩)
  rw [putArch_put] at k
  exact k
theorem dr_near {f' : Nat → Nat} : hset (putArch h o st) (o + 3) (.inl (0, 10, .inl (fun k => nI (f' k)))) = putArch h o (aF st 1 f') := by
  have k := hset_arch (h := putArch h o st) (o := o) (st := st) (st' := aF st 1 f') 3 (by decide) putArch_at rfl (lt12 ⟨fun _ => rfl, fun _ => rfl, fun _ => rfl, fun q => absurd rfl q, fun _ => rfl, fun _ => rfl, fun _ => rfl, fun _ => rfl, fun _ => rfl, fun _ => rfl, fun _ => rfl, fun _ => rfl⟩)
  rw [putArch_put] at k
  exact k
theorem dr_right {f' : Nat → Nat} : hset (putArch h o st) (o + 4) (.inl (0, 10, .inl (fun k => nI (f' k)))) = putArch h o (aF st 2 f') := by
  have k := hset_arch (h := putArch h o st) (o := o) (st := st) (st' := aF st 2 f') 4 (by decide) putArch_at rfl (lt12 ⟨fun _ => rfl, fun _ => rfl, fun _ => rfl, fun _ => rfl, fun q => absurd rfl q, fun _ => rfl, fun _ => rfl, fun _ => rfl, fun _ => rfl, fun _ => rfl, fun _ => rfl, fun _ => rfl⟩)
  rw [putArch_put] at k
  exact k
theorem dr_wrong {f' : Nat → Nat} : hset (putArch h o st) (o + 5) (.inl (0, 10, .inl (fun k => nI (f' k)))) = putArch h o (aF st 3 f') := by
  have k := hset_arch (h := putArch h o st) (o := o) (st := st) (st' := aF st 3 f') 5 (by decide) putArch_at rfl (lt12 ⟨fun _ => rfl, fun _ => rfl, fun _ => rfl, fun _ => rfl, fun _ => rfl, fun q => absurd rfl q, fun _ => rfl, fun _ => rfl, fun _ => rfl, fun _ => rfl, fun _ => rfl, fun _ => rfl⟩)
  rw [putArch_put] at k
  exact k
theorem dr_copies {f' : Nat → Nat} : hset (putArch h o st) (o + 6) (.inl (0, 10, .inl (fun k => nI (f' k)))) = putArch h o (aF st 4 f') := by
  have k := hset_arch (h := putArch h o st) (o := o) (st := st) (st' := aF st 4 f') 6 (by decide) putArch_at rfl (lt12 ⟨fun _ => rfl, fun _ => rfl, fun _ => rfl, fun _ => rfl, fun _ => rfl, fun _ => rfl, fun q => absurd rfl q, fun _ => rfl, fun _ => rfl, fun _ => rfl, fun _ => rfl, fun _ => rfl⟩)
  rw [putArch_put] at k
  exact k
theorem c_removeFamily (hw : aOk st) {f : Nat} (hf : f < st.1 1) (h2 : 2 < st.1 1) : xDet g l mX0_removeFamily 2 0 0 [.ref o, .int (nI f)] (putArch h o st) none (putArch h o (rmS st f)) := by
  have hN : st.1 1 ≤ 10 := hw.2.1
  have hK : st.1 2 ≤ 12 := hw.2.2.1
  have h10 : f < 10 := by omega
  refine xMet.of (V := [some (.ref o), some (.int (nI f)), none, none, none]) moX0_removeFamily (Nat.le_of_ble_eq_true rfl) rfl ?_
  refine x_aload_n dX0_removeFamily_0 rfl ?_
  refine x_getf dX0_removeFamily_1 f_X0_50 putArch_at.o rfl ?_
  refine x_iload_n dX0_removeFamily_4 rfl ?_
  refine x_isub_n dX0_removeFamily_5 (by omega) ?_
  refine x_iconst (nI 1) dX0_removeFamily_6 (by decide) ?_
  refine x_isub_n dX0_removeFamily_7 (by omega) ?_
  refine x_istore_n dX0_removeFamily_8 (by decide) rfl rfl ?_
  refine x_aload_n dX0_removeFamily_9 rfl ?_
  refine x_getf dX0_removeFamily_10 f_X0_50 putArch_at.o rfl ?_
  refine x_iconst (nI 1) dX0_removeFamily_13 (by decide) ?_
  refine x_isub_n dX0_removeFamily_14 (by omega) ?_
  refine x_istore_n dX0_removeFamily_15 (by decide) rfl rfl ?_
  refine x_iload_n dX0_removeFamily_16 rfl ?_
  refine x_if_lt_n (tgt := 24) dX0_removeFamily_17 (by decide) (by omega) ?_
  refine x_iload_n dX0_removeFamily_20 rfl ?_
  refine x_if_ge_n 25 dX0_removeFamily_21 (by decide) (by omega) ?_
  refine x_iconst (nI 0) dX0_removeFamily_25 (by decide) ?_
  refine x_istore dX0_removeFamily_26 (by decide) rfl rfl ?_
  refine xP.loop (fun i => [some (.ref o), some (.int (nI f)), some (.int (nI (st.1 1 - f - 1))), some (.int (nI (st.1 1 - 1))), some (.int (nI i))]) (fun i => putArch h o (rmP st f i)) (st.1 2) ?_ ?_
  · intro i hi ih
    have e1 := rmP_1 (st := st) (f := f) i
    have hb := rmP_hb hw h10 i (by omega) i (by omega)
    refine x_iload dX0_removeFamily_28 rfl ?_
    refine x_aload_n dX0_removeFamily_30 rfl ?_
    refine x_getf dX0_removeFamily_31 f_X0_53 putArch_at.o rfl ?_
    rw [e1]
    refine x_icmp_ge_n 117 dX0_removeFamily_34 (by decide) (by omega) (by omega) (fun c => ?_) (fun c => ?_)
    · omega
    · refine x_aload_n dX0_removeFamily_37 rfl ?_
      refine x_getf dX0_removeFamily_38 f_X0_37 putArch_at.o rfl ?_
      refine x_iload dX0_removeFamily_41 rfl ?_
      refine x_aload_n dX0_removeFamily_43 rfl ?_
      refine x_getf dX0_removeFamily_44 f_X0_37 putArch_at.o rfl ?_
      refine x_iload dX0_removeFamily_47 rfl ?_
      refine x_iald_n dX0_removeFamily_49 putArch_at.held (by omega) (by decide) ?_
      refine x_iload_n dX0_removeFamily_50 rfl ?_
      refine x_si0 dX0_removeFamily_51 cS_X0_81 (c_withoutBit hb.1 h10) rfl rfl ⟨⟨by decide, by decide⟩, by decide, by decide⟩ (Nat.le_of_ble_eq_true rfl) ?_
      refine xq_X0_held dX0_removeFamily_54 (by omega) ?_
      refine x_aload_n dX0_removeFamily_55 rfl ?_
      refine x_getf dX0_removeFamily_56 f_X0_40 putArch_at.o rfl ?_
      refine x_iload dX0_removeFamily_59 rfl ?_
      refine x_aload_n dX0_removeFamily_61 rfl ?_
      refine x_getf dX0_removeFamily_62 f_X0_40 putArch_at.o rfl ?_
      refine x_iload dX0_removeFamily_65 rfl ?_
      refine x_iald_n dX0_removeFamily_67 putArch_at.broken (by omega) (by decide) ?_
      refine x_iload_n dX0_removeFamily_68 rfl ?_
      refine x_si0 dX0_removeFamily_69 cS_X0_81 (c_withoutBit hb.2 h10) rfl rfl ⟨⟨by decide, by decide⟩, by decide, by decide⟩ (Nat.le_of_ble_eq_true rfl) ?_
      refine xq_X0_broken dX0_removeFamily_72 (by omega) ?_
      refine x_aload_n dX0_removeFamily_73 rfl ?_
      refine x_getf dX0_removeFamily_74 f_X0_43 putArch_at.o rfl ?_
      refine x_iload dX0_removeFamily_77 rfl ?_
      refine x_iload_n dX0_removeFamily_79 rfl ?_
      refine x_iconst (nI 1) dX0_removeFamily_80 (by decide) ?_
      refine x_iadd_n dX0_removeFamily_81 ?_
      refine x_si0 dX0_removeFamily_82 cS_X0_77 (c_cell i (f + 1)) rfl rfl ⟨⟨by decide, by decide⟩, by decide, by decide⟩ (Nat.le_of_ble_eq_true rfl) ?_
      refine x_aload_n dX0_removeFamily_85 rfl ?_
      refine x_getf dX0_removeFamily_86 f_X0_43 putArch_at.o rfl ?_
      refine x_iload dX0_removeFamily_89 rfl ?_
      refine x_iload_n dX0_removeFamily_91 rfl ?_
      refine x_si0 dX0_removeFamily_92 cS_X0_77 (c_cell i f) rfl rfl ⟨⟨by decide, by decide⟩, by decide, by decide⟩ (Nat.le_of_ble_eq_true rfl) ?_
      refine x_iload_n dX0_removeFamily_95 rfl ?_
      refine xqc_X0_spoiled dX0_removeFamily_96 rfl putArch_at.spoiled (by omega) (by omega) (by decide) (by decide) (by decide) ?_
      refine x_aload_n dX0_removeFamily_99 rfl ?_
      refine x_getf dX0_removeFamily_100 f_X0_43 putArch_at.o rfl ?_
      refine x_iload dX0_removeFamily_103 rfl ?_
      refine x_iload_n dX0_removeFamily_105 rfl ?_
      refine x_si0 dX0_removeFamily_106 cS_X0_77 (c_cell i (st.1 1 - 1)) rfl rfl ⟨⟨by decide, by decide⟩, by decide, by decide⟩ (Nat.le_of_ble_eq_true rfl) ?_
      refine x_iconst (nI 0) dX0_removeFamily_109 (by decide) ?_
      refine xq_X0_spoiled dX0_removeFamily_110 (by omega) ?_
      refine x_iinc_n (k := 1) dX0_removeFamily_111 rfl (by decide) (by decide) rfl rfl ?_
      refine x_goto 28 dX0_removeFamily_114 (by decide) ?_
      exact xP.weak (by simp [xle, xset1, fin3]) ih
  · have e1 := rmP_1 (st := st) (f := f) (st.1 2)
    refine x_iload dX0_removeFamily_28 rfl ?_
    refine x_aload_n dX0_removeFamily_30 rfl ?_
    refine x_getf dX0_removeFamily_31 f_X0_53 putArch_at.o rfl ?_
    rw [e1]
    refine x_icmp_ge_n 117 dX0_removeFamily_34 (by decide) (by omega) (by omega) (fun c => ?_) (fun c => ?_)
    · refine x_aload_n dX0_removeFamily_117 rfl ?_
      refine x_getf dX0_removeFamily_118 f_X0_9 putArch_at.o rfl ?_
      refine x_iload_n dX0_removeFamily_121 rfl ?_
      refine x_iconst (nI 1) dX0_removeFamily_122 (by decide) ?_
      refine x_iadd_n dX0_removeFamily_123 ?_
      refine x_aload_n dX0_removeFamily_124 rfl ?_
      refine x_getf dX0_removeFamily_125 f_X0_9 putArch_at.o rfl ?_
      refine x_iload_n dX0_removeFamily_128 rfl ?_
      refine x_iload_n dX0_removeFamily_129 rfl ?_
      refine xqc_X0_familyNames dX0_removeFamily_130 rfl putArch_at.familyNames (by omega) (by omega) (by decide) (by decide) (by decide) ?_
      refine x_aload_n dX0_removeFamily_133 rfl ?_
      refine x_getf dX0_removeFamily_134 f_X0_9 putArch_at.o rfl ?_
      refine x_iload_n dX0_removeFamily_137 rfl ?_
      refine x_lconst (lN 0) dX0_removeFamily_138 (by decide) ?_
      refine xq_X0_familyNames dX0_removeFamily_139 (by omega) ?_
      refine x_aload_n dX0_removeFamily_140 rfl ?_
      refine x_getf dX0_removeFamily_141 f_X0_15 putArch_at.o rfl ?_
      refine x_iload_n dX0_removeFamily_144 rfl ?_
      refine x_iload_n dX0_removeFamily_145 rfl ?_
      refine x_sv0 dX0_removeFamily_146 cS_X0_84 (c_dropRow putArch_at.rooms (by omega)) rfl rfl ⟨⟨by decide, by decide⟩, by decide, by decide⟩ (Nat.le_of_ble_eq_true rfl) ?_
      rw [dr_rooms]
      refine x_aload_n dX0_removeFamily_149 rfl ?_
      refine x_getf dX0_removeFamily_150 f_X0_22 putArch_at.o rfl ?_
      refine x_iload_n dX0_removeFamily_153 rfl ?_
      refine x_iload_n dX0_removeFamily_154 rfl ?_
      refine x_sv0 dX0_removeFamily_155 cS_X0_84 (c_dropRow putArch_at.right (by omega)) rfl rfl ⟨⟨by decide, by decide⟩, by decide, by decide⟩ (Nat.le_of_ble_eq_true rfl) ?_
      rw [dr_right]
      refine x_aload_n dX0_removeFamily_158 rfl ?_
      refine x_getf dX0_removeFamily_159 f_X0_25 putArch_at.o rfl ?_
      refine x_iload_n dX0_removeFamily_162 rfl ?_
      refine x_iload_n dX0_removeFamily_163 rfl ?_
      refine x_sv0 dX0_removeFamily_164 cS_X0_84 (c_dropRow putArch_at.wrong (by omega)) rfl rfl ⟨⟨by decide, by decide⟩, by decide, by decide⟩ (Nat.le_of_ble_eq_true rfl) ?_
      rw [dr_wrong]
      refine x_aload_n dX0_removeFamily_167 rfl ?_
      refine x_getf dX0_removeFamily_168 f_X0_28 putArch_at.o rfl ?_
      refine x_iload_n dX0_removeFamily_171 rfl ?_
      refine x_iload_n dX0_removeFamily_172 rfl ?_
      refine x_sv0 dX0_removeFamily_173 cS_X0_84 (c_dropRow putArch_at.copies (by omega)) rfl rfl ⟨⟨by decide, by decide⟩, by decide, by decide⟩ (Nat.le_of_ble_eq_true rfl) ?_
      rw [dr_copies]
      refine x_aload_n dX0_removeFamily_176 rfl ?_
      refine x_getf dX0_removeFamily_177 f_X0_19 putArch_at.o rfl ?_
      refine x_iload_n dX0_removeFamily_180 rfl ?_
      refine x_iload_n dX0_removeFamily_181 rfl ?_
      refine x_sv0 dX0_removeFamily_182 cS_X0_84 (c_dropRow putArch_at.near (by omega)) rfl rfl ⟨⟨by decide, by decide⟩, by decide, by decide⟩ (Nat.le_of_ble_eq_true rfl) ?_
      rw [dr_near]
      refine x_aload_n dX0_removeFamily_185 rfl ?_
      refine x_iload_n dX0_removeFamily_186 rfl ?_
      refine xq_X0_families dX0_removeFamily_187 f_X0_50 ?_
      refine x_iconst (nI 0) dX0_removeFamily_190 (by decide) ?_
      refine x_istore dX0_removeFamily_191 (by decide) rfl rfl ?_
      have hq : ∀ k, k < 10 → (rmQ st f).2.2 1 k < 1024 := by
        intro k hk
        show dropF ((rmP st f (st.1 2)).2.2 1) f (st.1 1 - f - 1) k < 1024
        rw [rmP_ne (by decide) (by decide) (by decide)]
        unfold dropF va_up va_cpy
        split
        · decide
        · split
          · exact hw.near (by omega)
          · exact hw.near hk
      refine xP.loop (fun i => [some (.ref o), some (.int (nI f)), some (.int (nI (st.1 1 - f - 1))), some (.int (nI (st.1 1 - 1))), some (.int (nI i))]) (fun i => putArch h o (rmN (rmQ st f) f i)) (st.1 1 - 1) ?_ ?_
      · intro i hi ih
        have e2 : (rmN (rmQ st f) f i).1 1 = st.1 1 - 1 := by rw [rmN_1]; rfl
        have hb2 := rmN_lt hq h10 i (by omega) i (by omega)
        refine x_iload dX0_removeFamily_193 rfl ?_
        refine x_aload_n dX0_removeFamily_195 rfl ?_
        refine x_getf dX0_removeFamily_196 f_X0_50 putArch_at.o rfl ?_
        rw [e2]
        refine x_icmp_ge_n 226 dX0_removeFamily_199 (by decide) (by omega) (by omega) (fun c => ?_) (fun c => ?_)
        · omega
        · refine x_aload_n dX0_removeFamily_202 rfl ?_
          refine x_getf dX0_removeFamily_203 f_X0_19 putArch_at.o rfl ?_
          refine x_iload dX0_removeFamily_206 rfl ?_
          refine x_aload_n dX0_removeFamily_208 rfl ?_
          refine x_getf dX0_removeFamily_209 f_X0_19 putArch_at.o rfl ?_
          refine x_iload dX0_removeFamily_212 rfl ?_
          refine x_iald_n dX0_removeFamily_214 putArch_at.near (by omega) (by decide) ?_
          refine x_iload_n dX0_removeFamily_215 rfl ?_
          refine x_si0 dX0_removeFamily_216 cS_X0_81 (c_withoutBit hb2 h10) rfl rfl ⟨⟨by decide, by decide⟩, by decide, by decide⟩ (Nat.le_of_ble_eq_true rfl) ?_
          refine xq_X0_near dX0_removeFamily_219 (by omega) ?_
          refine x_iinc_n (k := 1) dX0_removeFamily_220 rfl (by decide) (by decide) rfl rfl ?_
          refine x_goto 193 dX0_removeFamily_223 (by decide) ?_
          exact xP.weak (by simp [xle, xset1, fin3]) ih
      · have e2 : (rmN (rmQ st f) f (st.1 1 - 1)).1 1 = st.1 1 - 1 := by rw [rmN_1]; rfl
        refine x_iload dX0_removeFamily_193 rfl ?_
        refine x_aload_n dX0_removeFamily_195 rfl ?_
        refine x_getf dX0_removeFamily_196 f_X0_50 putArch_at.o rfl ?_
        rw [e2]
        refine x_icmp_ge_n 226 dX0_removeFamily_199 (by decide) (by omega) (by omega) (fun c => ?_) (fun c => ?_)
        · exact x_vret dX0_removeFamily_226 rfl (by decide) (by decide) rfl (rfl)
        · omega
    · omega
end A6
