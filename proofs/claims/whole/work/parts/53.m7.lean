/-! ===== the model: names ===== -/
/-- the sign k of the word that stands here -/
def sgW (s : Mo) (k : Nat) : Nat := if s.2.1 3 + k < s.2.1 4 then s.1 5 (s.2.1 3 + k) else 0
def alB (s : Mo) (p : Nat) : Nat → Bool
  | 0 => true
  | k + 1 => alB s p k && decide (s.1 0 (p + k) = sgW s k)
def nmO (s : Mo) (fr sz : Nat) : Nat → Nat → Option Nat
  | 0, _ => none
  | n + 1, i => if alB s (fr + sz * i) 8 = true then some i else nmO s fr sz n (i + 1)
def namedV (s : Mo) (fr many sz : Nat) : Option Nat := if s.2.2.1 0 = 0 then nmO s fr sz many 0 else none
section M7
variable {g : xG} {l : Launch} {h : xH} {m : Nat} {s : Mo}
theorem sgW_lt (hb : bOk s) (k : Nat) : sgW s k < 256 := by
  unfold sgW
  split
  · exact hb.1 _
  · decide
theorem c_mNamed (hM : ModAt h m s) (hw : ∀ k, k < 353 → s.1 0 k < 2 ^ 24) (hb : bOk s) (hl : lxOk s) {fr many sz : Nat} (hm : many ≤ 12) (hf : fr < 200) (hz : sz < 20) (hr : ∀ i, i < many → fr + sz * i + 8 ≤ 353) : xDet g l mX6_named 0 0 0 [.ref m, .int (nI fr), .int (nI many), .int (nI sz)] h (some (.int (oI (namedV s fr many sz)))) h := by
  obtain ⟨h1, h2, h3, -⟩ := hl
  unfold namedV
  refine xMet.of (V := [some (.ref m), some (.int (nI fr)), some (.int (nI many)), some (.int (nI sz)), none, none, none]) moX6_named (Nat.le_of_ble_eq_true rfl) rfl ?_
  refine x_iconst (nI 0) dX6_named_0 (by decide) ?_
  refine x_istore dX6_named_1 (by decide) rfl rfl ?_
  have inner : ∀ {Z : List Frame → Array Value → State → State → Prop} (i : Nat), i < many →
      (∀ v6, xP g l mX6_named [] (xR 0 0 0) Z 94 [some (.ref m), some (.int (nI fr)), some (.int (nI many)), some (.int (nI sz)), some (.int (nI i)), some (.int (xb (alB s (fr + sz * i) 8))), v6] [] h 0 0) →
      ∀ (f k : Nat), f + k = 8 → xP g l mX6_named [] (xR 0 0 0) Z 22 [some (.ref m), some (.int (nI fr)), some (.int (nI many)), some (.int (nI sz)), some (.int (nI i)), some (.int (xb (alB s (fr + sz * i) k))), some (.int (nI k))] [] h 0 0 := by
    intro Z i hi C f
    have hri := hr i hi
    induction f with
    | zero =>
      intro k hk
      refine x_iload dX6_named_22 rfl ?_
      refine x_bipush (nI 8) dX6_named_24 (by decide) ?_
      refine x_icmp_ge_n 94 dX6_named_26 (by decide) (by omega) (by omega) (fun c1 => ?_) (fun c1 => ?_)
      · have e : k = 8 := by omega
        rw [e]
        exact C _
      · omega
    | succ f ih =>
      intro k hk
      have hg := sgW_lt hb k
      have hA := hw (fr + sz * i + k) (by omega)
      have next : ∀ b : Bool, b = alB s (fr + sz * i) (k + 1) → xP g l mX6_named [] (xR 0 0 0) Z 86 [some (.ref m), some (.int (nI fr)), some (.int (nI many)), some (.int (nI sz)), some (.int (nI i)), some (.int (xb (alB s (fr + sz * i) k))), some (.int (nI k))] [.int (xb b)] h 0 0 := by
        intro b hb9
        refine x_istore dX6_named_86 (by decide) rfl rfl ?_
        refine x_iinc_n (k := 1) dX6_named_88 rfl (by decide) (by decide) rfl rfl ?_
        refine x_goto 22 dX6_named_91 (by decide) ?_
        refine xP.weak ?_ (ih (k + 1) (by omega))
        rw [← hb9]
        simp [xle, xset1, fin3]
      refine x_iload dX6_named_22 rfl ?_
      refine x_bipush (nI 8) dX6_named_24 (by decide) ?_
      refine x_icmp_ge_n 94 dX6_named_26 (by decide) (by omega) (by omega) (fun c1 => ?_) (fun c1 => ?_)
      · omega
      · refine x_iload dX6_named_29 rfl ?_
        refine x_if_eq_b 85 dX6_named_31 (by decide) (fun c2 => ?_) (fun c2 => ?_)
        · refine x_iconst (nI 0) dX6_named_85 (by decide) ?_
          exact next false (by rw [alB, c2, Bool.false_and])
        · have cmp : xP g l mX6_named [] (xR 0 0 0) Z 78 [some (.ref m), some (.int (nI fr)), some (.int (nI many)), some (.int (nI sz)), some (.int (nI i)), some (.int (xb (alB s (fr + sz * i) k))), some (.int (nI k))] [.int (nI (sgW s k)), .int (nI (s.1 0 (fr + sz * i + k)))] h 0 0 := by
            refine x_icmp_ne_n 85 dX6_named_78 (by decide) (by omega) (by omega) (fun c3 => ?_) (fun c3 => ?_)
            · refine x_iconst (nI 0) dX6_named_85 (by decide) ?_
              exact next false (by rw [alB, decide_eq_false c3, Bool.and_false])
            · refine x_iconst (nI 1) dX6_named_81 (by decide) ?_
              refine x_goto 86 dX6_named_82 (by decide) ?_
              exact next true (by rw [alB, decide_eq_true c3, c2]; rfl)
          refine x_aload_n dX6_named_34 rfl ?_
          refine x_getf dX6_named_35 f_X6_7 hM.o rfl ?_
          refine x_iload_n dX6_named_38 rfl ?_
          refine x_iload_n dX6_named_39 rfl ?_
          refine x_iload dX6_named_40 rfl ?_
          refine x_imul_n dX6_named_42 ?_
          refine x_iadd_n dX6_named_43 ?_
          refine x_iload dX6_named_44 rfl ?_
          refine x_iadd_n dX6_named_46 ?_
          refine x_iald_n dX6_named_47 hM.a (by omega) (by decide) ?_
          refine x_aload_n dX6_named_48 rfl ?_
          refine x_getf dX6_named_49 f_X6_85 hM.o rfl ?_
          refine x_iload dX6_named_52 rfl ?_
          refine x_iadd_n dX6_named_54 ?_
          refine x_aload_n dX6_named_55 rfl ?_
          refine x_getf dX6_named_56 f_X6_82 hM.o rfl ?_
          refine x_icmp_ge_n 77 dX6_named_59 (by decide) (by omega) (by omega) (fun c4 => ?_) (fun c4 => ?_)
          · have e : sgW s k = 0 := by unfold sgW; rw [if_neg (by omega)]
            rw [e] at cmp
            refine x_iconst (nI 0) dX6_named_77 (by decide) ?_
            exact cmp
          · have e : sgW s k = s.1 5 (s.2.1 3 + k) := by unfold sgW; rw [if_pos c4]
            rw [e] at cmp
            refine x_aload_n dX6_named_62 rfl ?_
            refine x_getf dX6_named_63 f_X6_29 hM.o rfl ?_
            refine x_aload_n dX6_named_66 rfl ?_
            refine x_getf dX6_named_67 f_X6_85 hM.o rfl ?_
            refine x_iload dX6_named_70 rfl ?_
            refine x_iadd_n dX6_named_72 ?_
            refine x_iald_n dX6_named_73 hM.buffer (by omega) (by decide) ?_
            refine x_goto 78 dX6_named_74 (by decide) ?_
            exact cmp
  have outer : ∀ (f i : Nat), f + i = many → xP g l mX6_named [] (xR 0 0 0) (xZ g (fun r' h' => r' = some (.int (oI (if s.2.2.1 0 = 0 then nmO s fr sz f i else none))) ∧ h' = h) xno 0 0) 3 [some (.ref m), some (.int (nI fr)), some (.int (nI many)), some (.int (nI sz)), some (.int (nI i)), none, none] [] h 0 0 := by
    intro f
    induction f with
    | zero =>
      intro i hi
      refine x_iload dX6_named_3 rfl ?_
      refine x_iload_n dX6_named_5 rfl ?_
      refine x_icmp_ge_n 108 dX6_named_6 (by decide) (by omega) (by omega) (fun c1 => ?_) (fun c1 => ?_)
      · refine x_iconst (-1) dX6_named_108 (by decide) ?_
        exact x_iret .int dX6_named_109 rfl rfl (by decide) (by decide) (by rw [nmO]; split <;> rfl) (rfl)
      · omega
    | succ f ih =>
      intro i hi
      refine x_iload dX6_named_3 rfl ?_
      refine x_iload_n dX6_named_5 rfl ?_
      refine x_icmp_ge_n 108 dX6_named_6 (by decide) (by omega) (by omega) (fun c1 => ?_) (fun c1 => ?_)
      · omega
      · refine x_aload_n dX6_named_9 rfl ?_
        refine x_getf dX6_named_10 f_X6_107 hM.o rfl ?_
        refine x_if_ne 108 dX6_named_13 (by decide) (fun c2 => ?_) (fun c2 => ?_)
        · rw [if_neg c2]
          refine x_iconst (-1) dX6_named_108 (by decide) ?_
          exact x_iret .int dX6_named_109 rfl rfl (by decide) (by decide) (rfl) (rfl)
        · have ih2 := ih (i + 1) (by omega)
          rw [if_pos c2] at ih2 ⊢
          rw [nmO]
          refine x_iconst (nI 1) dX6_named_16 (by decide) ?_
          refine x_istore dX6_named_17 (by decide) rfl rfl ?_
          refine x_iconst (nI 0) dX6_named_19 (by decide) ?_
          refine x_istore dX6_named_20 (by decide) rfl rfl ?_
          refine xP.weak ?_ (inner i (by omega) (fun v6 => ?_) 8 0 rfl)
          · simp [xle, xset1, fin3, alB]
            try rfl
          · refine x_iload dX6_named_94 rfl ?_
            refine x_if_eq_b 102 dX6_named_96 (by decide) (fun c3 => ?_) (fun c3 => ?_)
            · rw [if_neg (by rw [c3]; decide)]
              refine x_iinc_n (k := 1) dX6_named_102 rfl (by decide) (by decide) (by cases v6 <;> rfl) rfl ?_
              refine x_goto 3 dX6_named_105 (by decide) ?_
              exact xP.weak (by cases v6 <;> simp [xle, xset1, fin3]) ih2
            · rw [if_pos c3]
              refine x_iload dX6_named_99 rfl ?_
              exact x_iret .int dX6_named_101 rfl rfl (by decide) (by decide) (rfl) (rfl)
  exact xP.weak (by simp [xle, xset1, fin3]) (outer many 0 rfl)
end M7
