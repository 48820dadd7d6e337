/-! ===== the model: texts are appended and written ===== -/
theorem sar_byte (v : Int32) {s : Nat} (hs : s ≤ 24) : (v >>> (nI s &&& 31)) &&& nI 255 = nI (ix v / 2 ^ s % 256) := by
  have e1 : nI (ix v / 2 ^ s % 256) = nI (ix v / 2 ^ s) &&& nI 255 := by
    rw [nx_and, show (255 : Nat) = 2 ^ 8 - 1 from rfl, Nat.and_two_pow_sub_one_eq_mod]
  rw [e1]
  apply Int32.toBitVec_inj.1
  apply BitVec.eq_of_getLsbD_eq
  intro i hi
  have k1 : bt (v >>> (nI s &&& 31)) i = if s + i < 32 then bt v (s + i) else bt v 31 := b_sshr s (by omega) v hi
  have k2 : bt (nI 255) i = decide (i < 8) := b_255 i
  rw [Int32.toBitVec_and, Int32.toBitVec_and, BitVec.getLsbD_and, BitVec.getLsbD_and]
  show (bt (v >>> (nI s &&& 31)) i && bt (nI 255) i) = (bt (nI (ix v / 2 ^ s)) i && bt (nI 255) i)
  rw [k1, k2]
  by_cases c : i < 8
  · rw [if_pos (by omega)]
    congr 1
    show v.toBitVec.getLsbD (s + i) = (BitVec.ofNat 32 (ix v / 2 ^ s)).getLsbD i
    rw [BitVec.getLsbD_ofNat, decide_eq_true (show i < 32 by omega), Bool.true_and, Nat.testBit_div_two_pow]
    rw [Nat.add_comm]
    rfl
  · rw [decide_eq_false c, Bool.and_false, Bool.and_false]
def wd5 (a b c d e : Int32) (k : Nat) : Int32 := if k < 4 then a else if k < 8 then b else if k < 12 then c else if k < 16 then d else e
def by5 (a b c d e : Int32) (k : Nat) : Nat := byW (ix (wd5 a b c d e k)) (3 - k % 4)
def mp1 (x : Nat) (q : (Nat → Nat) × Nat) : (Nat → Nat) × Nat := if x = 0 then q else (va_up q.1 q.2 x, q.2 + 1)
def mpS (b : Nat → Nat) (q : (Nat → Nat) × Nat) : Nat → (Nat → Nat) × Nat
  | 0 => q
  | n + 1 => mp1 (b n) (mpS b q n)
def nz5 (b : Nat → Nat) (k : Nat) : Bool := decide (b k ≠ 0)
theorem mpS_n {b : Nat → Nat} {q : (Nat → Nat) × Nat} : ∀ n, (mpS b q n).2 = q.2 + fb_ct (nz5 b) n := by
  intro n
  induction n with
  | zero => rfl
  | succ n ih =>
    rw [mpS, fb_ct_succ]
    unfold mp1 nz5
    by_cases c : b n = 0
    · rw [if_pos c, ih, decide_eq_false (fun q => q c)]
      rfl
    · rw [if_neg c, decide_eq_true c]
      show (mpS b q n).2 + 1 = _
      rw [ih]
      rfl
def apM (s : Mo) (q : (Nat → Nat) × Nat) : Mo := mN (mR s 5 q.1) 2 q.2
theorem apM_1 {s : Mo} {q : (Nat → Nat) × Nat} {x : Nat} : mN (mR (apM s q) 5 (va_up q.1 q.2 x)) 2 (q.2 + 1) = apM s (va_up q.1 q.2 x, q.2 + 1) := by
  refine Prod.ext (funext fun i => ?_) (Prod.ext (funext fun i => ?_) rfl)
  · show va_up (va_up s.1 5 q.1) 5 (va_up q.1 q.2 x) i = va_up s.1 5 (va_up q.1 q.2 x) i
    unfold va_up
    split <;> rfl
  · show va_up (va_up s.2.1 2 q.2) 2 (q.2 + 1) i = va_up s.2.1 2 (q.2 + 1) i
    unfold va_up
    split <;> rfl
theorem apM_self {s : Mo} : apM s (s.1 5, s.2.1 2) = s := by
  refine Prod.ext (funext fun i => ?_) (Prod.ext (funext fun i => ?_) rfl)
  · show va_up s.1 5 (s.1 5) i = s.1 i
    unfold va_up
    split
    · rename_i e; rw [e]
    · rfl
  · show va_up s.2.1 2 (s.2.1 2) i = s.2.1 i
    unfold va_up
    split
    · rename_i e; rw [e]
    · rfl
theorem byW_lt (x k : Nat) : byW x k < 256 := Nat.mod_lt _ (by decide)
def appM (s : Mo) (b : Nat → Nat) : Mo := if s.2.1 2 + fb_ct (nz5 b) 20 ≤ 600 then apM (mN s 1 0) (mpS b (s.1 5, s.2.1 2) 20) else mN s 1 1
section M27
variable {g : xG} {l : Launch} {h : xH} {m : Nat} {s : Mo}
theorem c_byteOf {a b c d e : Int32} {k : Nat} (hk : k < 20) : xDet g l mX6_byteOf 0 0 0 [.int (nI k), .int a, .int b, .int c, .int d, .int e] h (some (.int (nI (by5 a b c d e k)))) h := by
  have tail : ∀ v : Int32, v = wd5 a b c d e k → xP g l mX6_byteOf [] (xR 0 0 0) (xZ g (fun r' h' => r' = some (.int (nI (by5 a b c d e k))) ∧ h' = h) xno 0 0) 42 [some (.int (nI k)), some (.int a), some (.int b), some (.int c), some (.int d), some (.int e), none] [.int v] h 0 0 := by
    intro v hv
    have e24 : 24 - 8 * (k % 4) = 8 * (3 - k % 4) := by omega
    refine x_istore dX6_byteOf_42 (by decide) rfl rfl ?_
    refine x_iload dX6_byteOf_44 rfl ?_
    refine x_bipush (nI 24) dX6_byteOf_46 (by decide) ?_
    refine x_bipush (nI 8) dX6_byteOf_48 (by decide) ?_
    refine x_iload_n dX6_byteOf_50 rfl ?_
    refine x_iconst (nI 4) dX6_byteOf_51 (by decide) ?_
    refine x_irem_n dX6_byteOf_52 (by omega) (by omega) (by omega) ?_
    refine x_imul_n dX6_byteOf_53 ?_
    refine x_isub_n dX6_byteOf_54 (by omega) ?_
    rw [e24]
    refine x_ishr dX6_byteOf_55 ?_
    refine x_sipush (nI 255) dX6_byteOf_56 (by decide) ?_
    refine x_iand dX6_byteOf_59 ?_
    rw [sar_byte v (by omega), hv]
    exact x_iret .int dX6_byteOf_60 rfl rfl (by decide) (by decide) (rfl) (rfl)
  refine xMet.of (V := [some (.int (nI k)), some (.int a), some (.int b), some (.int c), some (.int d), some (.int e), none]) moX6_byteOf (Nat.le_of_ble_eq_true rfl) rfl ?_
  refine x_iload_n dX6_byteOf_0 rfl ?_
  refine x_iconst (nI 4) dX6_byteOf_1 (by decide) ?_
  refine x_icmp_ge_n 9 dX6_byteOf_2 (by decide) (by omega) (by omega) (fun c1 => ?_) (fun c1 => ?_)
  rotate_left
  · refine x_iload_n dX6_byteOf_5 rfl ?_
    refine x_goto 42 dX6_byteOf_6 (by decide) ?_
    exact tail a (by unfold wd5; rw [if_pos c1])
  refine x_iload_n dX6_byteOf_9 rfl ?_
  refine x_bipush (nI 8) dX6_byteOf_10 (by decide) ?_
  refine x_icmp_ge_n 19 dX6_byteOf_12 (by decide) (by omega) (by omega) (fun c2 => ?_) (fun c2 => ?_)
  rotate_left
  · refine x_iload_n dX6_byteOf_15 rfl ?_
    refine x_goto 42 dX6_byteOf_16 (by decide) ?_
    exact tail b (by unfold wd5; rw [if_neg (by omega), if_pos c2])
  refine x_iload_n dX6_byteOf_19 rfl ?_
  refine x_bipush (nI 12) dX6_byteOf_20 (by decide) ?_
  refine x_icmp_ge_n 29 dX6_byteOf_22 (by decide) (by omega) (by omega) (fun c3 => ?_) (fun c3 => ?_)
  rotate_left
  · refine x_iload_n dX6_byteOf_25 rfl ?_
    refine x_goto 42 dX6_byteOf_26 (by decide) ?_
    exact tail c (by unfold wd5; rw [if_neg (by omega), if_neg (by omega), if_pos c3])
  refine x_iload_n dX6_byteOf_29 rfl ?_
  refine x_bipush (nI 16) dX6_byteOf_30 (by decide) ?_
  refine x_icmp_ge_n 40 dX6_byteOf_32 (by decide) (by omega) (by omega) (fun c4 => ?_) (fun c4 => ?_)
  rotate_left
  · refine x_iload dX6_byteOf_35 rfl ?_
    refine x_goto 42 dX6_byteOf_37 (by decide) ?_
    exact tail d (by unfold wd5; rw [if_neg (by omega), if_neg (by omega), if_neg (by omega), if_pos c4])
  refine x_iload dX6_byteOf_40 rfl ?_
  exact tail e (by unfold wd5; rw [if_neg (by omega), if_neg (by omega), if_neg (by omega), if_neg (by omega)])
theorem c_mAppend (hb : s.2.1 2 ≤ 600) (a b c d e : Int32) : xDet g l mX6_append 1 0 0 [.ref m, .int a, .int b, .int c, .int d, .int e] (putMod h m s) (some (.int (nI (if s.2.1 2 + fb_ct (nz5 (by5 a b c d e)) 20 ≤ 600 then (mpS (by5 a b c d e) (s.1 5, s.2.1 2) 20).2 else 0)))) (putMod h m (appM s (by5 a b c d e))) := by
  have cb : ∀ {h' : xH} {k : Nat}, k < 20 → xDet g l mX6_byteOf 0 0 0 [.int (nI k), .int a, .int b, .int c, .int d, .int e] h' (some (.int (nI (by5 a b c d e k)))) h' := fun {h' k} hk => c_byteOf hk
  have hx : ∀ k, by5 a b c d e k < 256 := fun k => byW_lt _ _
  have hle := fb_ct_le (nz5 (by5 a b c d e))
  have hmono := fun (i : Nat) (hi : i ≤ 20) => fb_ct_mono (nz5 (by5 a b c d e)) hi
  have hsN := mpS_n (b := by5 a b c d e) (q := (s.1 5, s.2.1 2))
  generalize by5 a b c d e = B at *
  unfold appM
  refine xMet.of (V := [some (.ref m), some (.int a), some (.int b), some (.int c), some (.int d), some (.int e), none, none, none]) moX6_append (Nat.le_of_ble_eq_true rfl) rfl ?_
  refine x_iconst (nI 0) dX6_append_0 (by decide) ?_
  refine x_istore dX6_append_1 (by decide) rfl rfl ?_
  refine x_iconst (nI 0) dX6_append_3 (by decide) ?_
  refine x_istore dX6_append_4 (by decide) rfl rfl ?_
  refine xP.weak (V' := [some (.ref m), some (.int a), some (.int b), some (.int c), some (.int d), some (.int e), some (.int (nI (fb_ct (nz5 B) 0))), some (.int (nI 0)), none]) (by simp [xle, xset1, fin3]; first | rfl | exact ⟨rfl, rfl⟩) ?_
  refine xP.loop0 (fun i => [some (.ref m), some (.int a), some (.int b), some (.int c), some (.int d), some (.int e), some (.int (nI (fb_ct (nz5 B) i))), some (.int (nI i)), none]) 20 ?_ ?_
  · intro i hi ih
    have hl := hle i
    have hxi := hx i
    have hc0 := cb (h' := putMod h m s) hi
    refine x_iload dX6_append_6 rfl ?_
    refine x_bipush (nI 20) dX6_append_8 (by decide) ?_
    refine x_icmp_ge_n 44 dX6_append_10 (by decide) (by omega) (by omega) (fun c1 => ?_) (fun c1 => ?_)
    · omega
    · refine x_iload dX6_append_13 rfl ?_
      refine x_iload dX6_append_15 rfl ?_
      refine x_iload_n dX6_append_17 rfl ?_
      refine x_iload_n dX6_append_18 rfl ?_
      refine x_iload_n dX6_append_19 rfl ?_
      refine x_iload dX6_append_20 rfl ?_
      refine x_iload dX6_append_22 rfl ?_
      refine x_si0 dX6_append_24 cS_X6_71 (hc0) rfl rfl ⟨⟨by decide, by decide⟩, by decide, by decide⟩ (Nat.le_of_ble_eq_true rfl) ?_
      refine x_if_ne_n 34 dX6_append_27 (by decide) (by omega) (fun c2 => ?_) (fun c2 => ?_)
      · have e : fb_ct (nz5 B) (i + 1) = fb_ct (nz5 B) i + 1 := by rw [fb_ct_succ, if_pos (show nz5 B i = true by unfold nz5; exact decide_eq_true (by omega))]
        refine x_iconst (nI 1) dX6_append_34 (by decide) ?_
        refine x_iadd_n dX6_append_35 ?_
        refine x_istore dX6_append_36 (by decide) rfl rfl ?_
        refine x_iinc_n (k := 1) dX6_append_38 rfl (by decide) (by decide) rfl rfl ?_
        refine x_goto 6 dX6_append_41 (by decide) ?_
        exact xP.weak (by simp [xle, xset1, fin3, e]) ih
      · have e : fb_ct (nz5 B) (i + 1) = fb_ct (nz5 B) i + 0 := by rw [fb_ct_succ, if_neg (show ¬ nz5 B i = true by unfold nz5; simp; omega)]
        refine x_iconst (nI 0) dX6_append_30 (by decide) ?_
        refine x_goto 35 dX6_append_31 (by decide) ?_
        refine x_iadd_n dX6_append_35 ?_
        refine x_istore dX6_append_36 (by decide) rfl rfl ?_
        refine x_iinc_n (k := 1) dX6_append_38 rfl (by decide) (by decide) rfl rfl ?_
        refine x_goto 6 dX6_append_41 (by decide) ?_
        exact xP.weak (by simp [xle, xset1, fin3, e]) ih
  have h20 := hle 20
  refine x_iload dX6_append_6 rfl ?_
  refine x_bipush (nI 20) dX6_append_8 (by decide) ?_
  refine x_icmp_ge_n 44 dX6_append_10 (by decide) (by omega) (by omega) (fun c1 => ?_) (fun c1 => ?_)
  rotate_left
  · omega
  refine x_aload_n dX6_append_44 rfl ?_
  refine x_aload_n dX6_append_45 rfl ?_
  refine x_getf dX6_append_46 f_X6_75 putMod_at.o rfl ?_
  refine x_iload dX6_append_49 rfl ?_
  refine x_iadd_n dX6_append_51 ?_
  refine x_sipush (nI 600) dX6_append_52 (by decide) ?_
  refine x_icmp_le_n 62 dX6_append_55 (by decide) (by omega) (by omega) (fun c2 => ?_) (fun c2 => ?_)
  rotate_left
  · rw [if_neg (by omega), if_neg (by omega)]
    refine x_iconst (nI 1) dX6_append_58 (by decide) ?_
    refine x_goto 63 dX6_append_59 (by decide) ?_
    refine xq_X6_thrown dX6_append_63 f_X6_49 ?_
    refine x_aload_n dX6_append_66 rfl ?_
    refine x_getf dX6_append_67 f_X6_49 putMod_at.o rfl ?_
    refine xP.eq (S' := [.int (nI 1)]) rfl rfl rfl rfl ?_
    refine x_if_le_n 75 dX6_append_70 (by decide) (by omega) (fun c9 => ?_) (fun c9 => ?_)
    · omega
    · refine x_iconst (nI 0) dX6_append_73 (by decide) ?_
      exact x_iret .int dX6_append_74 rfl rfl (by decide) (by decide) (rfl) (rfl)
  rw [if_pos (by omega), if_pos (by omega)]
  refine x_iconst (nI 0) dX6_append_62 (by decide) ?_
  refine xq_X6_thrown dX6_append_63 f_X6_49 ?_
  refine x_aload_n dX6_append_66 rfl ?_
  refine x_getf dX6_append_67 f_X6_49 putMod_at.o rfl ?_
  refine xP.eq (S' := [.int (nI 0)]) rfl rfl rfl rfl ?_
  refine x_if_le_n 75 dX6_append_70 (by decide) (by omega) (fun c9 => ?_) (fun c9 => ?_)
  rotate_left
  · omega
  refine x_iconst (nI 0) dX6_append_75 (by decide) ?_
  refine x_istore dX6_append_76 (by decide) rfl rfl ?_
  refine xP.eq (h' := putMod h m (apM (mN s 1 0) (mpS B (s.1 5, s.2.1 2) 0))) rfl rfl rfl (by show putMod h m (mN s 1 0) = putMod h m (apM (mN s 1 0) ((mN s 1 0).1 5, (mN s 1 0).2.1 2)); rw [apM_self]) ?_
  refine xP.weak (V' := [some (.ref m), some (.int a), some (.int b), some (.int c), some (.int d), some (.int e), some (.int (nI (fb_ct (nz5 B) 20))), some (.int (nI 0)), none]) (by simp [xle, xset1, fin3]) ?_
  refine xP.loop (fun i => [some (.ref m), some (.int a), some (.int b), some (.int c), some (.int d), some (.int e), some (.int (nI (fb_ct (nz5 B) 20))), some (.int (nI i)), none]) (fun i => putMod h m (apM (mN s 1 0) (mpS B (s.1 5, s.2.1 2) i))) 20 ?_ ?_
  · intro i hi ih
    have hl := hmono (i + 1) (by omega)
    have hxi := hx i
    have hn := hsN i
    dsimp only at hn
    rw [show mpS B (s.1 5, s.2.1 2) (i + 1) = mp1 (B i) (mpS B (s.1 5, s.2.1 2) i) from rfl] at ih
    generalize mpS B (s.1 5, s.2.1 2) i = q at *
    have hc0 := cb (h' := putMod h m (apM (mN s 1 0) q)) hi
    refine x_iload dX6_append_78 rfl ?_
    refine x_bipush (nI 20) dX6_append_80 (by decide) ?_
    refine x_icmp_ge_n 134 dX6_append_82 (by decide) (by omega) (by omega) (fun c3 => ?_) (fun c3 => ?_)
    · omega
    · refine x_iload dX6_append_85 rfl ?_
      refine x_iload_n dX6_append_87 rfl ?_
      refine x_iload_n dX6_append_88 rfl ?_
      refine x_iload_n dX6_append_89 rfl ?_
      refine x_iload dX6_append_90 rfl ?_
      refine x_iload dX6_append_92 rfl ?_
      refine x_si0 dX6_append_94 cS_X6_71 (hc0) rfl rfl ⟨⟨by decide, by decide⟩, by decide, by decide⟩ (Nat.le_of_ble_eq_true rfl) ?_
      refine x_istore dX6_append_97 (by decide) rfl rfl ?_
      refine x_iload dX6_append_99 rfl ?_
      refine x_if_ne_n 107 dX6_append_101 (by decide) (by omega) (fun c4 => ?_) (fun c4 => ?_)
      · have e : mp1 (B i) q = (va_up q.1 q.2 (B i), q.2 + 1) := by unfold mp1; rw [if_neg (by omega)]
        have e2 : fb_ct (nz5 B) (i + 1) = fb_ct (nz5 B) i + 1 := by rw [fb_ct_succ, if_pos (show nz5 B i = true by unfold nz5; exact decide_eq_true (by omega))]
        rw [e] at ih
        refine x_aload_n dX6_append_107 rfl ?_
        refine x_getf dX6_append_108 f_X6_29 putMod_at.o rfl ?_
        refine x_aload_n dX6_append_111 rfl ?_
        refine x_getf dX6_append_112 f_X6_75 putMod_at.o rfl ?_
        refine x_iload dX6_append_115 rfl ?_
        refine xP.eq (S' := [.int (nI (B i)), .int (nI q.2), .ref (m + 7)]) rfl rfl rfl rfl ?_
        refine xq_X6_buffer dX6_append_117 (by omega) ?_
        refine x_aload_n dX6_append_118 rfl ?_
        refine x_dup dX6_append_119 rfl ?_
        refine x_getf dX6_append_120 f_X6_75 putMod_at.o rfl ?_
        refine x_iconst (nI 1) dX6_append_123 (by decide) ?_
        refine x_iadd_n dX6_append_124 ?_
        refine xP.eq (S' := [.int (nI (q.2 + 1)), .ref m]) rfl rfl rfl rfl ?_
        refine xq_X6_buffered dX6_append_125 f_X6_75 ?_
        refine xP.eq (h' := putMod h m (apM (mN s 1 0) (va_up q.1 q.2 (B i), q.2 + 1))) rfl rfl rfl (by rw [← apM_1]; rfl) ?_
        refine x_iinc_n (k := 1) dX6_append_128 rfl (by decide) (by decide) rfl rfl ?_
        refine x_goto 78 dX6_append_131 (by decide) ?_
        exact xP.weak (by simp [xle, xset1, fin3]) ih
      · have e : mp1 (B i) q = q := by unfold mp1; rw [if_pos (by omega)]
        rw [e] at ih
        refine x_goto 128 dX6_append_104 (by decide) ?_
        refine x_iinc_n (k := 1) dX6_append_128 rfl (by decide) (by decide) rfl rfl ?_
        refine x_goto 78 dX6_append_131 (by decide) ?_
        exact xP.weak (by simp [xle, xset1, fin3]) ih
  refine x_iload dX6_append_78 rfl ?_
  refine x_bipush (nI 20) dX6_append_80 (by decide) ?_
  refine x_icmp_ge_n 134 dX6_append_82 (by decide) (by omega) (by omega) (fun c3 => ?_) (fun c3 => ?_)
  · refine x_aload_n dX6_append_134 rfl ?_
    refine x_getf dX6_append_135 f_X6_75 putMod_at.o rfl ?_
    exact x_iret .int dX6_append_138 rfl rfl (by decide) (by decide) (rfl) (rfl)
  · omega
/-! what is written -/
def syF (s : Mo) (L : List Nat) : Mo := L.foldl syS s
theorem syF_app (s : Mo) (L L' : List Nat) : syF s (L ++ L') = syF (syF s L) L' := List.foldl_append
theorem syF_row {s : Mo} {j : Nat} (hj : j ≠ 7) : ∀ L, (syF s L).1 j = s.1 j := by
  intro L
  induction L generalizing s with
  | nil => rfl
  | cons c L ih =>
    show (syF (syS s c) L).1 j = _
    rw [ih]
    exact va_up_ne _ _ hj
theorem syF_nat {s : Mo} {j : Nat} (hj : j ≠ 11) : ∀ L, (syF s L).2.1 j = s.2.1 j := by
  intro L
  induction L generalizing s with
  | nil => rfl
  | cons c L ih =>
    show (syF (syS s c) L).2.1 j = _
    rw [ih]
    exact va_up_ne _ _ hj
theorem syF_rest {s : Mo} : ∀ L, (syF s L).2.2 = s.2.2 := by
  intro L
  induction L generalizing s with
  | nil => rfl
  | cons c L ih =>
    show (syF (syS s c) L).2.2 = _
    rw [ih]
    rfl
theorem syF_len {s : Mo} : ∀ L, (syF s L).2.1 11 = s.2.1 11 + L.length := by
  intro L
  induction L generalizing s with
  | nil => rfl
  | cons c L ih =>
    show (syF (syS s c) L).2.1 11 = _
    rw [ih]
    show s.2.1 11 + 1 + L.length = _
    rw [List.length_cons]
    omega
theorem syF_at {s : Mo} : ∀ (L : List Nat) (k : Nat), (syF s L).1 7 k = if s.2.1 11 ≤ k ∧ k < s.2.1 11 + L.length then L.getD (k - s.2.1 11) 0 else s.1 7 k := by
  intro L
  induction L generalizing s with
  | nil =>
    intro k
    rw [if_neg (by simp)]
    rfl
  | cons c L ih =>
    intro k
    show (syF (syS s c) L).1 7 k = _
    rw [ih]
    show (if s.2.1 11 + 1 ≤ k ∧ k < s.2.1 11 + 1 + L.length then L.getD (k - (s.2.1 11 + 1)) 0 else va_up (s.1 7) (s.2.1 11) c k) = _
    rw [List.length_cons]
    by_cases e : k = s.2.1 11
    · subst e
      rw [if_neg (by omega), if_pos (by omega), va_upE, Nat.sub_self]
      rfl
    · rw [va_up_ne _ _ e]
      by_cases q : s.2.1 11 + 1 ≤ k ∧ k < s.2.1 11 + 1 + L.length
      · rw [if_pos q, if_pos (by omega), show k - s.2.1 11 = (k - (s.2.1 11 + 1)) + 1 by omega, List.getD_cons_succ]
      · rw [if_neg q, if_neg (by omega)]
def snG (A : Nat → Nat) (fr : Nat) : Nat → Nat → List Nat
  | 0, _ => []
  | f + 1, k => if A (fr + k) = 0 then [] else A (fr + k) :: snG A fr f (k + 1)
def snL (A : Nat → Nat) (fr : Nat) : List Nat := (if A fr = 0 then [45] else []) ++ snG A fr 8 0
def hpL (A : Nat → Nat) (p : Nat) : Nat → List Nat × Nat
  | 0 => ([], 0)
  | n + 1 => if rC A p n = 0 then hpL A p n else ((hpL A p n).1 ++ (if 0 < (hpL A p n).2 then [44] else []) ++ snL A (5 + 12 * n + 4) ++ (if cBrk (rC A p n) = true then [33] else []), (hpL A p n).2 + 1)
def ppL (A : Nat → Nat) : Nat → List Nat
  | 0 => []
  | n + 1 => ppL A n ++ (if 0 < n then [32] else []) ++ snL A (125 + 19 * n + 1) ++ [58] ++ (hpL A n (A 1)).1 ++ (if mDan A n = true then [42] else [])
theorem snG_len {A : Nat → Nat} {fr : Nat} : ∀ f k, (snG A fr f k).length ≤ f := by
  intro f
  induction f with
  | zero => intro k; exact Nat.le_refl _
  | succ f ih =>
    intro k
    rw [snG]
    split
    · exact Nat.zero_le _
    · rw [List.length_cons]; have := ih (k + 1); omega
theorem snL_len {A : Nat → Nat} {fr : Nat} : (snL A fr).length ≤ 8 := by
  unfold snL
  rw [List.length_append]
  by_cases c : A fr = 0
  · rw [if_pos c]
    have : snG A fr 8 0 = [] := by show snG A fr (7 + 1) 0 = []; rw [snG, if_pos (by rw [Nat.add_zero]; exact c)]
    rw [this]
    decide
  · rw [if_neg c]
    have := snG_len (A := A) (fr := fr) 8 0
    simpa using this
theorem hpL_len {A : Nat → Nat} {p : Nat} : ∀ n, (hpL A p n).1.length ≤ 10 * n ∧ (hpL A p n).2 ≤ n := by
  intro n
  induction n with
  | zero => exact ⟨Nat.le_refl _, Nat.le_refl _⟩
  | succ n ih =>
    rw [hpL]
    split
    · exact ⟨by have := ih.1; omega, by have := ih.2; omega⟩
    · have h1 := snL_len (A := A) (fr := 5 + 12 * n + 4)
      refine ⟨?_, by show (hpL A p n).2 + 1 ≤ _; have := ih.2; omega⟩
      show ((hpL A p n).1 ++ _ ++ _ ++ _).length ≤ _
      rw [List.length_append, List.length_append, List.length_append]
      have h2 : (if 0 < (hpL A p n).2 then [44] else [] : List Nat).length ≤ 1 := by split <;> simp
      have h3 : (if cBrk (rC A p n) = true then [33] else [] : List Nat).length ≤ 1 := by split <;> simp
      have := ih.1
      omega
theorem ppL_len {A : Nat → Nat} (hN : A 1 ≤ 10) : ∀ n, (ppL A n).length ≤ 111 * n := by
  intro n
  induction n with
  | zero => exact Nat.le_refl _
  | succ n ih =>
    rw [ppL]
    rw [List.length_append, List.length_append, List.length_append, List.length_append, List.length_append]
    have h1 := snL_len (A := A) (fr := 125 + 19 * n + 1)
    have h2 : (if 0 < n then [32] else [] : List Nat).length ≤ 1 := by split <;> simp
    have h3 : (if mDan A n = true then [42] else [] : List Nat).length ≤ 1 := by split <;> simp
    have h4 := (hpL_len (A := A) (p := n) (A 1)).1
    have h5 : ([58] : List Nat).length = 1 := rfl
    omega
theorem c_mSay1 {c : Nat} (L : List Nat) (hl : s.2.1 11 + L.length < 1500) : xDet g l mX6_says 0 0 0 [.ref m, .int (nI c)] (putMod h m (syF s L)) none (putMod h m (syF s (L ++ [c]))) := by
  rw [syF_app]
  exact c_mSays (by rw [syF_len]; exact hl)
theorem c_mSaysName {fr : Nat} (hw : ∀ k, k < 353 → s.1 0 k < 2 ^ 24) (hf : fr + 8 ≤ 353) (L : List Nat) (hl : s.2.1 11 + L.length + 9 < 1500) : xDet g l mX6_saysName 1 0 0 [.ref m, .int (nI fr)] (putMod h m (syF s L)) none (putMod h m (syF s (L ++ snL (s.1 0) fr))) := by
  have row : ∀ L, (syF s L).1 0 = s.1 0 := syF_row (by decide)
  have hA : ∀ k, k < 8 → s.1 0 (fr + k) < 2 ^ 24 := fun k hk => hw _ (by omega)
  have hA0 := hA 0 (by decide)
  rw [Nat.add_zero] at hA0
  have key : ∀ (f k : Nat) (L2 : List Nat), f + k = 8 → s.2.1 11 + L2.length + f < 1500 → L2 ++ snG (s.1 0) fr f k = L ++ snL (s.1 0) fr → xP g l mX6_saysName [] (xR 1 0 0) (xZ g (fun r' h' => r' = none ∧ h' = putMod h m (syF s (L ++ snL (s.1 0) fr))) xno 0 0) 17 [some (.ref m), some (.int (nI fr)), some (.int (nI k))] [] (putMod h m (syF s L2)) 0 0 := by
    intro f
    induction f with
    | zero =>
      intro k L2 hk hl2 e
      rw [snG, List.append_nil] at e
      rw [← e]
      refine x_iload_n dX6_saysName_17 rfl ?_
      refine x_bipush (nI 8) dX6_saysName_18 (by decide) ?_
      refine x_icmp_ge_n 52 dX6_saysName_20 (by decide) (by omega) (by omega) (fun c1 => ?_) (fun c1 => ?_)
      · exact x_vret dX6_saysName_52 rfl (by decide) (by decide) rfl (rfl)
      · omega
    | succ f ih =>
      intro k L2 hk hl2 e
      have hAk := hA k (by omega)
      rw [snG] at e
      refine x_iload_n dX6_saysName_17 rfl ?_
      refine x_bipush (nI 8) dX6_saysName_18 (by decide) ?_
      refine x_icmp_ge_n 52 dX6_saysName_20 (by decide) (by omega) (by omega) (fun c1 => ?_) (fun c1 => ?_)
      · omega
      · refine x_aload_n dX6_saysName_23 rfl ?_
        refine x_getf dX6_saysName_24 f_X6_7 putMod_at.o rfl ?_
        refine x_iload_n dX6_saysName_27 rfl ?_
        refine x_iload_n dX6_saysName_28 rfl ?_
        refine x_iadd_n dX6_saysName_29 ?_
        refine x_iald_n dX6_saysName_30 putMod_at.a (by omega) (by decide) ?_
        refine xP.eq (S' := [.int (nI (s.1 0 (fr + k)))]) rfl rfl (by rw [← row L2]) rfl ?_
        refine x_if_le_n 52 dX6_saysName_31 (by decide) (by omega) (fun c2 => ?_) (fun c2 => ?_)
        · rw [if_pos (by omega), List.append_nil] at e
          rw [← e]
          exact x_vret dX6_saysName_52 rfl (by decide) (by decide) rfl (rfl)
        · rw [if_neg (by omega)] at e
          refine x_aload_n dX6_saysName_34 rfl ?_
          refine x_aload_n dX6_saysName_35 rfl ?_
          refine x_getf dX6_saysName_36 f_X6_7 putMod_at.o rfl ?_
          refine x_iload_n dX6_saysName_39 rfl ?_
          refine x_iload_n dX6_saysName_40 rfl ?_
          refine x_iadd_n dX6_saysName_41 ?_
          refine x_iald_n dX6_saysName_42 putMod_at.a (by omega) (by decide) ?_
          refine xP.eq (S' := [.int (nI (s.1 0 (fr + k))), .ref m]) rfl rfl (by rw [← row L2]) rfl ?_
          refine x_vv0 dX6_saysName_43 cV_X6_327 (c_mSay1 L2 (by omega)) rfl rfl ⟨⟨by decide, by decide⟩, by decide, by decide⟩ (Nat.le_of_ble_eq_true rfl) (xrecv putMod_at.o rfl xcl5) ?_
          refine x_iinc_n (k := 1) dX6_saysName_46 rfl (by decide) (by decide) rfl rfl ?_
          refine x_goto 17 dX6_saysName_49 (by decide) ?_
          refine xP.weak (by simp [xle, xset1, fin3]) (ih (k + 1) (L2 ++ [s.1 0 (fr + k)]) (by omega) (by rw [List.length_append]; show _ + (_ + 1) + _ < _; omega) ?_)
          rw [List.append_assoc]
          exact e
  obtain ⟨N, hN⟩ : ∃ N, N = 8 := ⟨_, rfl⟩
  have hs : snL (s.1 0) fr = (if s.1 0 fr = 0 then [45] else []) ++ snG (s.1 0) fr N 0 := by rw [hN]; rfl
  refine xMet.of (V := [some (.ref m), some (.int (nI fr)), none]) moX6_saysName (Nat.le_of_ble_eq_true rfl) rfl ?_
  refine x_aload_n dX6_saysName_0 rfl ?_
  refine x_getf dX6_saysName_1 f_X6_7 putMod_at.o rfl ?_
  refine x_iload_n dX6_saysName_4 rfl ?_
  refine x_iald_n dX6_saysName_5 putMod_at.a (by omega) (by decide) ?_
  refine xP.eq (S' := [.int (nI (s.1 0 fr))]) rfl rfl (by rw [← row L]) rfl ?_
  refine x_if_ne_n 15 dX6_saysName_6 (by decide) (by omega) (fun c1 => ?_) (fun c1 => ?_)
  · refine x_iconst (nI 0) dX6_saysName_15 (by decide) ?_
    refine x_istore_n dX6_saysName_16 (by decide) rfl rfl ?_
    refine xP.weak (by simp [xle, xset1, fin3]) (key N 0 L (by omega) (by omega) ?_)
    rw [hs, if_neg (by omega), List.nil_append]
  · refine x_aload_n dX6_saysName_9 rfl ?_
    refine x_bipush (nI 45) dX6_saysName_10 (by decide) ?_
    refine x_vv0 dX6_saysName_12 cV_X6_327 (c_mSay1 L (by omega)) rfl rfl ⟨⟨by decide, by decide⟩, by decide, by decide⟩ (Nat.le_of_ble_eq_true rfl) (xrecv putMod_at.o rfl xcl5) ?_
    refine x_iconst (nI 0) dX6_saysName_15 (by decide) ?_
    refine x_istore_n dX6_saysName_16 (by decide) rfl rfl ?_
    refine xP.weak (by simp [xle, xset1, fin3]) (key N 0 (L ++ [45]) (by omega) (by rw [List.length_append]; show _ + (_ + 1) + _ < _; omega) ?_)
    rw [hs, if_pos (by omega), List.append_assoc]
def wrM (s : Mo) : Mo := syF (mN (mN s 1 0) 11 0) (ppL (s.1 0) (s.1 0 2))
theorem c_mWritePictures {n : Nat} (hw : rK (s.1 0) n) : xDet g l mX6_writePictures 4 0 0 [.ref m] (putMod h m s) (some (.int (nI (ppL (s.1 0) (s.1 0 2)).length))) (putMod h m (wrM s)) := by
  have hN : s.1 0 1 ≤ 10 := hw.2.2 1 (by decide)
  have hK : s.1 0 2 ≤ 12 := hw.2.2 2 (by decide)
  obtain ⟨s0, hs0⟩ : ∃ s0, s0 = mN (mN s 1 0) 11 0 := ⟨_, rfl⟩
  have r0 : s0.1 0 = s.1 0 := by rw [hs0]; rfl
  have l0 : s0.2.1 11 = 0 := by rw [hs0]; rfl
  have row : ∀ L, (syF s0 L).1 0 = s.1 0 := fun L => (syF_row (by decide) L).trans r0
  have hbd : ∀ k, k < 353 → s0.1 0 k < 2 ^ 24 := by rw [r0]; exact hw.ok.2.2.2.2.2
  have hok : ∀ L, rOk ((syF s0 L).1 0) := fun L => by rw [row]; exact hw.ok
  have fams : ∀ L, xDet g l mX6_families 0 0 0 [.ref m] (putMod h m (syF s0 L)) (some (.int (nI (s.1 0 1)))) (putMod h m (syF s0 L)) := fun L => by
    have := c_mFamilies (g := g) (l := l) (putMod_at (h := h) (m := m) (s := syF s0 L))
    rw [row] at this
    exact this
  have pics : ∀ L, xDet g l mX6_pictures 0 0 0 [.ref m] (putMod h m (syF s0 L)) (some (.int (nI (s.1 0 2)))) (putMod h m (syF s0 L)) := fun L => by
    have := c_mPictures (g := g) (l := l) (putMod_at (h := h) (m := m) (s := syF s0 L))
    rw [row] at this
    exact this
  have cops : ∀ L p f, p < 12 → f < 10 → xDet g l mX6_copyOf 0 0 0 [.ref m, .int (nI p), .int (nI f)] (putMod h m (syF s0 L)) (some (.int (nI (rC (s.1 0) p f)))) (putMod h m (syF s0 L)) := fun L p f hp hf => by
    have := c_mCopyOf (g := g) (l := l) (putMod_at (h := h) (m := m) (s := syF s0 L)) hp hf
    rw [row] at this
    exact this
  have dan : ∀ L p, p < 12 → xDet g l mX6_isInDanger 3 0 0 [.ref m, .int (nI p)] (putMod h m (syF s0 L)) (some (.int (xb (mDan (s.1 0) p)))) (putMod h m (syF s0 L)) := fun L p hp => by
    have := c_mInDanger (g := g) (l := l) (putMod_at (h := h) (m := m) (s := syF s0 L)) (hok L) hp
    rw [row] at this
    exact this
  have nam : ∀ L fr, fr + 8 ≤ 353 → L.length + 9 < 1500 → xDet g l mX6_saysName 1 0 0 [.ref m, .int (nI fr)] (putMod h m (syF s0 L)) none (putMod h m (syF s0 (L ++ snL (s.1 0) fr))) := fun L fr hf hl => by
    have := c_mSaysName (g := g) (l := l) (h := h) (m := m) (s := s0) hbd hf L (by rw [l0]; omega)
    rw [r0] at this
    exact this
  have say : ∀ (L : List Nat) (c : Nat), L.length < 1500 → xDet g l mX6_says 0 0 0 [.ref m, .int (nI c)] (putMod h m (syF s0 L)) none (putMod h m (syF s0 (L ++ [c]))) := fun L c hl => c_mSay1 L (by rw [l0]; omega)
  have hpl := ppL_len (A := s.1 0) hN
  have hfin : wrM s = syF s0 (ppL (s.1 0) (s.1 0 2)) := by rw [hs0]; rfl
  rw [hfin]
  refine xMet.of (V := [some (.ref m), none, none, none]) moX6_writePictures (Nat.le_of_ble_eq_true rfl) rfl ?_
  refine x_aload_n dX6_writePictures_0 rfl ?_
  refine x_iconst (nI 0) dX6_writePictures_1 (by decide) ?_
  refine xq_X6_thrown dX6_writePictures_2 f_X6_49 ?_
  refine x_aload_n dX6_writePictures_5 rfl ?_
  refine x_iconst (nI 0) dX6_writePictures_6 (by decide) ?_
  refine xq_X6_writtenMany dX6_writePictures_7 f_X6_324 ?_
  refine x_iconst (nI 0) dX6_writePictures_10 (by decide) ?_
  refine x_istore_n dX6_writePictures_11 (by decide) rfl rfl ?_
  rw [← hs0]
  refine xP.eq (h' := putMod h m (syF s0 (ppL (s.1 0) 0))) rfl rfl rfl rfl ?_
  refine xP.weak (V' := [some (.ref m), some (.int (nI 0)), none, none]) (by simp [xle, xset1, fin3]) ?_
  refine xP.loop (fun i => [some (.ref m), some (.int (nI i)), none, none]) (fun i => putMod h m (syF s0 (ppL (s.1 0) i))) (s.1 0 2) ?_ ?_
  · intro i hi ih
    have hl := hpl i
    have hl1 : 111 * i ≤ 111 * 11 := Nat.mul_le_mul_left _ (by omega)
    rw [ppL] at ih
    generalize ppL (s.1 0) i = L0 at *
    have after : ∀ L1 : List Nat, L1 = L0 ++ (if 0 < i then [32] else []) → L1.length ≤ L0.length + 1 → xP g l mX6_writePictures [] (xR 4 0 0) (xZ g (fun r' h' => r' = some (.int (nI (ppL (s.1 0) (s.1 0 2)).length)) ∧ h' = putMod h m (syF s0 (ppL (s.1 0) (s.1 0 2)))) xno 0 0) 30 [some (.ref m), some (.int (nI i)), none, none] [] (putMod h m (syF s0 L1)) 0 0 := by
      intro L1 e1 hl2
      rw [← e1] at ih
      have hsn := snL_len (A := s.1 0) (fr := 125 + 19 * i + 1)
      refine x_aload_n dX6_writePictures_30 rfl ?_
      refine x_bipush (nI 125) dX6_writePictures_31 (by decide) ?_
      refine x_bipush (nI 19) dX6_writePictures_33 (by decide) ?_
      refine x_iload_n dX6_writePictures_35 rfl ?_
      refine x_imul_n dX6_writePictures_36 ?_
      refine x_iadd_n dX6_writePictures_37 ?_
      refine x_iconst (nI 1) dX6_writePictures_38 (by decide) ?_
      refine x_iadd_n dX6_writePictures_39 ?_
      refine x_vv0 dX6_writePictures_40 cV_X6_330 (nam L1 (125 + 19 * i + 1) (by omega) (by omega)) rfl rfl ⟨⟨by decide, by decide⟩, by decide, by decide⟩ (Nat.le_of_ble_eq_true rfl) (xrecv putMod_at.o rfl xcl5) ?_
      refine x_aload_n dX6_writePictures_43 rfl ?_
      refine x_bipush (nI 58) dX6_writePictures_44 (by decide) ?_
      refine x_vv0 dX6_writePictures_46 cV_X6_327 (say (L1 ++ snL (s.1 0) (125 + 19 * i + 1)) 58 (by rw [List.length_append]; omega)) rfl rfl ⟨⟨by decide, by decide⟩, by decide, by decide⟩ (Nat.le_of_ble_eq_true rfl) (xrecv putMod_at.o rfl xcl5) ?_
      refine x_iconst (nI 0) dX6_writePictures_49 (by decide) ?_
      refine x_istore_n dX6_writePictures_50 (by decide) rfl rfl ?_
      refine x_iconst (nI 0) dX6_writePictures_51 (by decide) ?_
      refine x_istore_n dX6_writePictures_52 (by decide) rfl rfl ?_
      have hl3 : (L1 ++ snL (s.1 0) (125 + 19 * i + 1) ++ [58]).length ≤ L0.length + 10 := by
        rw [List.length_append, List.length_append]
        show _ + _ + 1 ≤ _
        omega
      generalize L1 ++ snL (s.1 0) (125 + 19 * i + 1) ++ [58] = L2 at *
      refine xP.eq (h' := putMod h m (syF s0 (L2 ++ (hpL (s.1 0) i 0).1))) rfl rfl rfl (by rw [hpL, List.append_nil]) ?_
      refine xP.weak (V' := [some (.ref m), some (.int (nI i)), some (.int (nI (hpL (s.1 0) i 0).2)), some (.int (nI 0))]) (by simp [xle, xset1, fin3, hpL]) ?_
      refine xP.loop (fun k => [some (.ref m), some (.int (nI i)), some (.int (nI (hpL (s.1 0) i k).2)), some (.int (nI k))]) (fun k => putMod h m (syF s0 (L2 ++ (hpL (s.1 0) i k).1))) (s.1 0 1) ?_ ?_
      · intro k hk ih3
        have hc := hw.copy (p := i) (f := k) (by omega) (by omega)
        have hh := hpL_len (A := s.1 0) (p := i) k
        have hsn2 := snL_len (A := s.1 0) (fr := 5 + 12 * k + 4)
        rw [hpL] at ih3
        generalize hpL (s.1 0) i k = q at *
        have mid : ∀ L3 : List Nat, L3 = L2 ++ q.1 ++ (if 0 < q.2 then [44] else []) → L3.length ≤ L0.length + 10 + 10 * k + 1 → ¬ rC (s.1 0) i k = 0 → xP g l mX6_writePictures [] (xR 4 0 0) (xZ g (fun r' h' => r' = some (.int (nI (ppL (s.1 0) (s.1 0 2)).length)) ∧ h' = putMod h m (syF s0 (ppL (s.1 0) (s.1 0 2)))) xno 0 0) 83 [some (.ref m), some (.int (nI i)), some (.int (nI q.2)), some (.int (nI k))] [] (putMod h m (syF s0 L3)) 0 0 := by
          intro L3 e3 hl4 hnz
          rw [if_neg hnz] at ih3
          dsimp only at ih3
          rw [← List.append_assoc, ← List.append_assoc, ← List.append_assoc, ← e3] at ih3
          refine x_aload_n dX6_writePictures_83 rfl ?_
          refine x_iconst (nI 5) dX6_writePictures_84 (by decide) ?_
          refine x_bipush (nI 12) dX6_writePictures_85 (by decide) ?_
          refine x_iload_n dX6_writePictures_87 rfl ?_
          refine x_imul_n dX6_writePictures_88 ?_
          refine x_iadd_n dX6_writePictures_89 ?_
          refine x_iconst (nI 4) dX6_writePictures_90 (by decide) ?_
          refine x_iadd_n dX6_writePictures_91 ?_
          refine x_vv0 dX6_writePictures_92 cV_X6_330 (nam L3 (5 + 12 * k + 4) (by omega) (by omega)) rfl rfl ⟨⟨by decide, by decide⟩, by decide, by decide⟩ (Nat.le_of_ble_eq_true rfl) (xrecv putMod_at.o rfl xcl5) ?_
          refine x_aload_n dX6_writePictures_95 rfl ?_
          refine x_iload_n dX6_writePictures_96 rfl ?_
          refine x_iload_n dX6_writePictures_97 rfl ?_
          refine x_vi0 dX6_writePictures_98 cV_X6_182 (cops (L3 ++ snL (s.1 0) (5 + 12 * k + 4)) i k (by omega) (by omega)) rfl rfl ⟨⟨by decide, by decide⟩, by decide, by decide⟩ (Nat.le_of_ble_eq_true rfl) (xrecv putMod_at.o rfl xcl5) ?_
          refine x_si0 dX6_writePictures_101 cS_X6_214 (c_mIsBroken (show rC (s.1 0) i k < 2 ^ 24 by omega)) rfl rfl ⟨⟨by decide, by decide⟩, by decide, by decide⟩ (Nat.le_of_ble_eq_true rfl) ?_
          refine x_if_eq_b 113 dX6_writePictures_104 (by decide) (fun c5 => ?_) (fun c5 => ?_)
          · rw [if_neg (by rw [c5]; decide), List.append_nil] at ih3
            refine x_iinc_n (k := 1) dX6_writePictures_113 rfl (by decide) (by decide) rfl rfl ?_
            refine x_iinc_n (k := 1) dX6_writePictures_116 rfl (by decide) (by decide) rfl rfl ?_
            refine x_goto 53 dX6_writePictures_119 (by decide) ?_
            exact xP.weak (by simp [xle, xset1, fin3]) ih3
          · rw [if_pos c5] at ih3
            refine x_aload_n dX6_writePictures_107 rfl ?_
            refine x_bipush (nI 33) dX6_writePictures_108 (by decide) ?_
            refine x_vv0 dX6_writePictures_110 cV_X6_327 (say (L3 ++ snL (s.1 0) (5 + 12 * k + 4)) 33 (by rw [List.length_append]; omega)) rfl rfl ⟨⟨by decide, by decide⟩, by decide, by decide⟩ (Nat.le_of_ble_eq_true rfl) (xrecv putMod_at.o rfl xcl5) ?_
            refine x_iinc_n (k := 1) dX6_writePictures_113 rfl (by decide) (by decide) rfl rfl ?_
            refine x_iinc_n (k := 1) dX6_writePictures_116 rfl (by decide) (by decide) rfl rfl ?_
            refine x_goto 53 dX6_writePictures_119 (by decide) ?_
            exact xP.weak (by simp [xle, xset1, fin3]) ih3
        refine x_iload_n dX6_writePictures_53 rfl ?_
        refine x_aload_n dX6_writePictures_54 rfl ?_
        refine x_vi0 dX6_writePictures_55 cV_X6_67 (fams (L2 ++ q.1)) rfl rfl ⟨⟨by decide, by decide⟩, by decide, by decide⟩ (Nat.le_of_ble_eq_true rfl) (xrecv putMod_at.o rfl xcl5) ?_
        refine x_icmp_ge_n 122 dX6_writePictures_58 (by decide) (by omega) (by omega) (fun c3 => ?_) (fun c3 => ?_)
        · omega
        · refine x_aload_n dX6_writePictures_61 rfl ?_
          refine x_iload_n dX6_writePictures_62 rfl ?_
          refine x_iload_n dX6_writePictures_63 rfl ?_
          refine x_vi0 dX6_writePictures_64 cV_X6_182 (cops (L2 ++ q.1) i k (by omega) (by omega)) rfl rfl ⟨⟨by decide, by decide⟩, by decide, by decide⟩ (Nat.le_of_ble_eq_true rfl) (xrecv putMod_at.o rfl xcl5) ?_
          refine x_if_ne_n 73 dX6_writePictures_67 (by decide) (by omega) (fun c4 => ?_) (fun c4 => ?_)
          · refine x_iload_n dX6_writePictures_73 rfl ?_
            refine x_if_le_n 83 dX6_writePictures_74 (by decide) (by omega) (fun c6 => ?_) (fun c6 => ?_)
            · exact mid (L2 ++ q.1) (by rw [if_neg (by omega), List.append_nil]) (by rw [List.length_append]; omega) (by omega)
            · refine x_aload_n dX6_writePictures_77 rfl ?_
              refine x_bipush (nI 44) dX6_writePictures_78 (by decide) ?_
              refine x_vv0 dX6_writePictures_80 cV_X6_327 (say (L2 ++ q.1) 44 (by rw [List.length_append]; omega)) rfl rfl ⟨⟨by decide, by decide⟩, by decide, by decide⟩ (Nat.le_of_ble_eq_true rfl) (xrecv putMod_at.o rfl xcl5) ?_
              exact mid (L2 ++ q.1 ++ [44]) (by rw [if_pos (by omega)]) (by rw [List.length_append, List.length_append]; show _ + _ + 1 ≤ _; omega) (by omega)
          · rw [if_pos (by omega)] at ih3
            refine x_goto 116 dX6_writePictures_70 (by decide) ?_
            refine x_iinc_n (k := 1) dX6_writePictures_116 rfl (by decide) (by decide) rfl rfl ?_
            refine x_goto 53 dX6_writePictures_119 (by decide) ?_
            exact xP.weak (by simp [xle, xset1, fin3]) ih3
      · have hh := hpL_len (A := s.1 0) (p := i) (s.1 0 1)
        generalize hpL (s.1 0) i (s.1 0 1) = q at *
        refine x_iload_n dX6_writePictures_53 rfl ?_
        refine x_aload_n dX6_writePictures_54 rfl ?_
        refine x_vi0 dX6_writePictures_55 cV_X6_67 (fams (L2 ++ q.1)) rfl rfl ⟨⟨by decide, by decide⟩, by decide, by decide⟩ (Nat.le_of_ble_eq_true rfl) (xrecv putMod_at.o rfl xcl5) ?_
        refine x_icmp_ge_n 122 dX6_writePictures_58 (by decide) (by omega) (by omega) (fun c3 => ?_) (fun c3 => ?_)
        · refine x_aload_n dX6_writePictures_122 rfl ?_
          refine x_iload_n dX6_writePictures_123 rfl ?_
          refine x_vi0 dX6_writePictures_124 cV_X6_238 (dan (L2 ++ q.1) i (by omega)) rfl rfl ⟨⟨by decide, by decide⟩, by decide, by decide⟩ (Nat.le_of_ble_eq_true rfl) (xrecv putMod_at.o rfl xcl5) ?_
          refine x_if_eq_b 136 dX6_writePictures_127 (by decide) (fun c4 => ?_) (fun c4 => ?_)
          · rw [if_neg (by rw [c4]; decide), List.append_nil] at ih
            refine x_iinc_n (k := 1) dX6_writePictures_136 rfl (by decide) (by decide) rfl rfl ?_
            refine x_goto 12 dX6_writePictures_139 (by decide) ?_
            exact xP.weak (by simp [xle, xset1, fin3]) ih
          · rw [if_pos c4] at ih
            refine x_aload_n dX6_writePictures_130 rfl ?_
            refine x_bipush (nI 42) dX6_writePictures_131 (by decide) ?_
            refine x_vv0 dX6_writePictures_133 cV_X6_327 (say (L2 ++ q.1) 42 (by rw [List.length_append]; omega)) rfl rfl ⟨⟨by decide, by decide⟩, by decide, by decide⟩ (Nat.le_of_ble_eq_true rfl) (xrecv putMod_at.o rfl xcl5) ?_
            refine x_iinc_n (k := 1) dX6_writePictures_136 rfl (by decide) (by decide) rfl rfl ?_
            refine x_goto 12 dX6_writePictures_139 (by decide) ?_
            exact xP.weak (by simp [xle, xset1, fin3]) ih
        · omega
    refine x_iload_n dX6_writePictures_12 rfl ?_
    refine x_aload_n dX6_writePictures_13 rfl ?_
    refine x_vi0 dX6_writePictures_14 cV_X6_169 (pics L0) rfl rfl ⟨⟨by decide, by decide⟩, by decide, by decide⟩ (Nat.le_of_ble_eq_true rfl) (xrecv putMod_at.o rfl xcl5) ?_
    refine x_icmp_ge_n 142 dX6_writePictures_17 (by decide) (by omega) (by omega) (fun c1 => ?_) (fun c1 => ?_)
    · omega
    · refine x_iload_n dX6_writePictures_20 rfl ?_
      refine x_if_le_n 30 dX6_writePictures_21 (by decide) (by omega) (fun c2 => ?_) (fun c2 => ?_)
      · exact after L0 (by rw [if_neg (by omega), List.append_nil]) (by omega)
      · refine x_aload_n dX6_writePictures_24 rfl ?_
        refine x_bipush (nI 32) dX6_writePictures_25 (by decide) ?_
        refine x_vv0 dX6_writePictures_27 cV_X6_327 (say L0 32 (by omega)) rfl rfl ⟨⟨by decide, by decide⟩, by decide, by decide⟩ (Nat.le_of_ble_eq_true rfl) (xrecv putMod_at.o rfl xcl5) ?_
        exact after (L0 ++ [32]) (by rw [if_pos (by omega)]) (by rw [List.length_append]; exact Nat.le_refl _)
  · have e := syF_len (s := s0) (ppL (s.1 0) (s.1 0 2))
    rw [l0, Nat.zero_add] at e
    refine x_iload_n dX6_writePictures_12 rfl ?_
    refine x_aload_n dX6_writePictures_13 rfl ?_
    refine x_vi0 dX6_writePictures_14 cV_X6_169 (pics (ppL (s.1 0) (s.1 0 2))) rfl rfl ⟨⟨by decide, by decide⟩, by decide, by decide⟩ (Nat.le_of_ble_eq_true rfl) (xrecv putMod_at.o rfl xcl5) ?_
    refine x_icmp_ge_n 142 dX6_writePictures_17 (by decide) (by omega) (by omega) (fun c1 => ?_) (fun c1 => ?_)
    · refine x_aload_n dX6_writePictures_142 rfl ?_
      refine x_getf dX6_writePictures_143 f_X6_324 putMod_at.o rfl ?_
      refine xP.eq (S' := [.int (nI (ppL (s.1 0) (s.1 0 2)).length)]) rfl rfl (by show _ = [Value.int (nI ((syF s0 (ppL (s.1 0) (s.1 0 2))).2.1 11))]; rw [e]) rfl ?_
      exact x_iret .int dX6_writePictures_146 rfl rfl (by decide) (by decide) (rfl) (rfl)
    · omega
theorem c_mWrittenByte (hn : s.2.1 11 ≤ 1500) (a : Int32) : xMet g l mX6_writtenByte 1 0 0 [.ref m, .int a] (putMod h m s) (mOp h m s (if okB a (s.2.1 11) = true then (0, nI (s.1 7 (ix a)), none) else (1, 0, none))) xno := by
  have e9 := nI_ix a
  refine xMet.of (V := [some (.ref m), some (.int a)]) moX6_writtenByte (Nat.le_of_ble_eq_true rfl) rfl ?_
  refine x_aload_n dX6_writtenByte_0 rfl ?_
  refine x_iload_n dX6_writtenByte_1 rfl ?_
  refine x_iconst (nI 0) dX6_writtenByte_2 (by decide) ?_
  refine x_aload_n dX6_writtenByte_3 rfl ?_
  refine x_getf dX6_writtenByte_4 f_X6_324 putMod_at.o rfl ?_
  refine x_iconst (nI 1) dX6_writtenByte_7 (by decide) ?_
  refine x_isub dX6_writtenByte_8 ?_
  refine x_si0 dX6_writtenByte_9 cS_X6_59 (c_mIsIn) rfl rfl ⟨⟨by decide, by decide⟩, by decide, by decide⟩ (Nat.le_of_ble_eq_true rfl) ?_
  rw [isIn_ok (by omega)]
  cases c0 : okB a (s.2.1 11) with
  | false =>
    rw [if_neg (by decide)]
    refine x_if_eq_b 19 dX6_writtenByte_12 (by decide) (fun c1 => ?_) (fun c1 => ?_)
    rotate_left
    · cases c1
    refine x_iconst (nI 1) dX6_writtenByte_19 (by decide) ?_
    refine xq_X6_thrown dX6_writtenByte_20 f_X6_49 ?_
    refine x_aload_n dX6_writtenByte_23 rfl ?_
    refine x_getf dX6_writtenByte_24 f_X6_49 putMod_at.o rfl ?_
    refine xP.eq (S' := [.int (nI 1)]) rfl rfl rfl rfl ?_
    refine x_if_le_n 34 dX6_writtenByte_27 (by decide) (by omega) (fun c9 => ?_) (fun c9 => ?_)
    · omega
    · refine x_iconst (nI 0) dX6_writtenByte_30 (by decide) ?_
      refine x_goto 40 dX6_writtenByte_31 (by decide) ?_
      exact x_ireturn dX6_writtenByte_40 rfl rfl (by decide) (by decide) (mOp.no rfl)
  | true =>
    have hi := okB_lt c0
    rw [if_pos rfl]
    refine xP.weak (V' := [some (.ref m), some (.int (nI (ix a)))]) (by simp [xle, xset1, fin3, e9]) ?_
    refine x_if_eq_b 19 dX6_writtenByte_12 (by decide) (fun c1 => ?_) (fun c1 => ?_)
    · cases c1
    refine x_iconst (nI 0) dX6_writtenByte_15 (by decide) ?_
    refine x_goto 20 dX6_writtenByte_16 (by decide) ?_
    refine xq_X6_thrown dX6_writtenByte_20 f_X6_49 ?_
    refine x_aload_n dX6_writtenByte_23 rfl ?_
    refine x_getf dX6_writtenByte_24 f_X6_49 putMod_at.o rfl ?_
    refine xP.eq (S' := [.int (nI 0)]) rfl rfl rfl rfl ?_
    refine x_if_le_n 34 dX6_writtenByte_27 (by decide) (by omega) (fun c9 => ?_) (fun c9 => ?_)
    rotate_left
    · omega
    refine x_aload_n dX6_writtenByte_34 rfl ?_
    refine x_getf dX6_writtenByte_35 f_X6_39 putMod_at.o rfl ?_
    refine x_iload_n dX6_writtenByte_38 rfl ?_
    refine x_iald_n dX6_writtenByte_39 putMod_at.written (by omega) (by decide) ?_
    exact x_ireturn dX6_writtenByte_40 rfl rfl (by decide) (by decide) (mOp.no rfl)
end M27
