/-! ===== VillagePhotos: the best pair, rounds to find ===== -/
theorem popc32 (x : Nat) : popc x ≤ 32 := fb_ct_le _ _
theorem unsV_le {st : Ar} (hw : aOk st) : unsV st ≤ 12 * 32 := by
  have h1 : unsV st ≤ st.1 2 * 32 := fb_sm_bound fun k _ => popc32 _
  have h2 : st.1 2 ≤ 12 := hw.2.2.1
  omega
section V5
variable {g : xG} {l : Launch} {h : xH} {v : Nat} {w : Wd}
theorem nbS_cn {st : Ar} {a b B : Nat} (hc : aCn st B) : aCn (nbS st a b) B := hc
theorem bpI_lo {st : Ar} {one : Nat} {s : Nat × Option Nat} : ∀ n, n ≤ one + 1 → bpI st one s n = s := by
  intro n hn
  cases n with
  | zero => rfl
  | succ n => rw [bpI, if_pos (by omega)]
theorem bp1_inv {st : Ar} {one other : Nat} {s : Nat × Option Nat} (h1 : one < 10) (h2 : other < 10) (hs : s.1 ≤ 12 ∧ ∀ i, s.2 = some i → i < 100) : (bp1 st one other s).1 ≤ 12 ∧ ∀ i, (bp1 st one other s).2 = some i → i < 100 := by
  unfold bp1
  split
  · exact hs
  · split
    · rename_i c
      exact ⟨by have := hs.1; omega, fun i q => by cases q; omega⟩
    · exact hs
theorem bpI_inv {st : Ar} {one : Nat} {s : Nat × Option Nat} (h1 : one < 10) (hs : s.1 ≤ 12 ∧ ∀ i, s.2 = some i → i < 100) : ∀ n, n ≤ 10 → (bpI st one s n).1 ≤ 12 ∧ ∀ i, (bpI st one s n).2 = some i → i < 100 := by
  intro n
  induction n with
  | zero => intro _; exact hs
  | succ n ih =>
    intro hn
    rw [bpI]
    split
    · exact hs
    · exact bp1_inv h1 (by omega) (ih (by omega))
theorem dangV_le {st : Ar} (hK : st.1 2 ≤ 12) : dangV st ≤ 12 := Nat.le_trans (fb_ct_le _ _) hK
theorem bpO_inv {st : Ar} (hN : st.1 1 ≤ 10) (hK : st.1 2 ≤ 12) : ∀ n, n ≤ 10 → (bpO st n).1 ≤ 12 ∧ ∀ i, (bpO st n).2 = some i → i < 100 := by
  intro n
  induction n with
  | zero => intro _; exact ⟨dangV_le hK, fun i q => by cases q⟩
  | succ n ih =>
    intro hn
    exact bpI_inv (by omega) (ih (by omega)) _ hN
theorem c_bestPair (hW : WAt h v w) (hw : aW w.1.1) (hc : aCn w.1.1 10000000) : xMet g l mX5_bestPair 6 0 0 [.ref v] h (opQ v w h (pairR w.1.1)) xno := by
  have hN : w.1.1.1 1 ≤ 10 := hw.1.2.1
  have hK : w.1.1.1 2 ≤ 12 := hw.1.2.2.1
  have hT : ∀ T, WAt (putArch h (v + 13) T) v (sT w T) := fun T => hW.setT T
  have hO : ∀ T, (putArch h (v + 13) T).1 v = some (.inr (4, [.ref (v + 1), .ref (v + 13), .ref (v + 25), .ref (v + 27), .ref (v + 28), .ref (v + 30)])) := fun T => (hT T).o
  have hP : ∀ T, ArchAt (putArch h (v + 13) T) (v + 1) w.1.1 := fun T => (hT T).present
  have hR : ∀ T, ArchAt (putArch h (v + 13) T) (v + 13) T := fun T => (hT T).trial
  refine xMet.of (V := [some (.ref v), none, none, none, none, none]) moX5_bestPair (Nat.le_of_ble_eq_true rfl) rfl ?_
  refine x_aload_n dX5_bestPair_0 rfl ?_
  refine x_getf dX5_bestPair_1 f_X5_16 hW.o rfl ?_
  refine x_aload_n dX5_bestPair_4 rfl ?_
  refine x_getf dX5_bestPair_5 f_X5_12 hW.o rfl ?_
  refine x_vv0 dX5_bestPair_8 cV_X5_87 (c_tr0 hW) rfl rfl ⟨⟨by decide, by decide⟩, by decide, by decide⟩ (Nat.le_of_ble_eq_true rfl) (xrecv hW.trial.o rfl xcl0) ?_
  refine x_aload_n dX5_bestPair_11 rfl ?_
  refine x_getf dX5_bestPair_12 f_X5_16 (hO _) rfl ?_
  refine x_vi0 dX5_bestPair_15 cV_X5_241 (c_dangerBehindCopies hw.1 hc) rfl rfl ⟨⟨by decide, by decide⟩, by decide, by decide⟩ (Nat.le_of_ble_eq_true rfl) (xrecv (hR _).o rfl xcl0) ?_
  refine x_istore_n dX5_bestPair_18 (by decide) rfl rfl ?_
  refine x_iconst (-1) dX5_bestPair_19 (by decide) ?_
  refine x_istore_n dX5_bestPair_20 (by decide) rfl rfl ?_
  refine x_iconst (nI 0) dX5_bestPair_21 (by decide) ?_
  refine x_istore_n dX5_bestPair_22 (by decide) rfl rfl ?_
  have inner : ∀ one, one < w.1.1.1 1 → ∀ s : Nat × Option Nat, s.1 ≤ 12 → (∀ i, s.2 = some i → i < 100) → ∀ {Z : List Frame → Array Value → State → State → Prop},
      (∀ T v4 v5, xP g l mX5_bestPair [] (xR 6 0 0) Z 120 [some (.ref v), some (.int (nI (bpI w.1.1 one s (w.1.1.1 1)).1)), some (.int (oI (bpI w.1.1 one s (w.1.1.1 1)).2)), some (.int (nI one)), v4, v5] [] (putArch h (v + 13) T) 0 0) →
      ∀ (f k : Nat) (T : Ar), f + k = w.1.1.1 1 → one < k → xP g l mX5_bestPair [] (xR 6 0 0) Z 39 [some (.ref v), some (.int (nI (bpI w.1.1 one s k).1)), some (.int (oI (bpI w.1.1 one s k).2)), some (.int (nI one)), some (.int (nI k)), none] [] (putArch h (v + 13) T) 0 0 := by
    intro one h1 s hs1 hs2 Z K f
    induction f with
    | zero =>
      intro k T hf hk
      refine x_iload dX5_bestPair_39 rfl ?_
      refine x_aload_n dX5_bestPair_41 rfl ?_
      refine x_getf dX5_bestPair_42 f_X5_12 (hO _) rfl ?_
      refine x_getf dX5_bestPair_45 f_X5_99 (hP _).o rfl ?_
      refine x_icmp_ge_n 120 dX5_bestPair_48 (by decide) (by omega) (by omega) (fun c1 => ?_) (fun c1 => ?_)
      · have e : k = w.1.1.1 1 := by omega
        rw [e]
        exact K T _ _
      · omega
    | succ f ih =>
      intro k T hf hk
      have hI := bpI_inv (st := w.1.1) (one := one) (s := s) (by omega) ⟨hs1, hs2⟩ k (by omega)
      have hstep : bpI w.1.1 one s (k + 1) = bp1 w.1.1 one k (bpI w.1.1 one s k) := by rw [bpI, if_neg (by omega)]
      have next : ∀ T v5, xP g l mX5_bestPair [] (xR 6 0 0) Z 114 [some (.ref v), some (.int (nI (bpI w.1.1 one s (k + 1)).1)), some (.int (oI (bpI w.1.1 one s (k + 1)).2)), some (.int (nI one)), some (.int (nI k)), v5] [] (putArch h (v + 13) T) 0 0 := by
        intro T v5
        refine x_iinc_n (k := 1) dX5_bestPair_114 rfl (by decide) (by decide) (by cases v5 <;> rfl) rfl ?_
        refine x_goto 39 dX5_bestPair_117 (by decide) ?_
        exact xP.weak (by cases v5 <;> simp [xle, xset1, fin3]) (ih (k + 1) T (by omega) (by omega))
      refine x_iload dX5_bestPair_39 rfl ?_
      refine x_aload_n dX5_bestPair_41 rfl ?_
      refine x_getf dX5_bestPair_42 f_X5_12 (hO _) rfl ?_
      refine x_getf dX5_bestPair_45 f_X5_99 (hP _).o rfl ?_
      refine x_icmp_ge_n 120 dX5_bestPair_48 (by decide) (by omega) (by omega) (fun c1 => ?_) (fun c1 => ?_)
      · omega
      · refine x_aload_n dX5_bestPair_51 rfl ?_
        refine x_getf dX5_bestPair_52 f_X5_12 (hO _) rfl ?_
        refine x_iload_n dX5_bestPair_55 rfl ?_
        refine x_iload dX5_bestPair_56 rfl ?_
        refine x_vi0 dX5_bestPair_58 cV_X5_244 (c_areNeighbours (hP _) hw.1 (p := one) (f := k) (by omega) (by omega)) rfl rfl ⟨⟨by decide, by decide⟩, by decide, by decide⟩ (Nat.le_of_ble_eq_true rfl) (xrecv (hP _).o rfl xcl0) ?_
        refine x_if_eq_b 67 dX5_bestPair_61 (by decide) (fun c2 => ?_) (fun c2 => ?_)
        · refine x_aload_n dX5_bestPair_67 rfl ?_
          refine x_getf dX5_bestPair_68 f_X5_16 (hO _) rfl ?_
          refine x_aload_n dX5_bestPair_71 rfl ?_
          refine x_getf dX5_bestPair_72 f_X5_12 (hO _) rfl ?_
          refine x_vv0 dX5_bestPair_75 cV_X5_87 (c_tr hW T) rfl rfl ⟨⟨by decide, by decide⟩, by decide, by decide⟩ (Nat.le_of_ble_eq_true rfl) (xrecv (hR _).o rfl xcl0) ?_
          refine x_aload_n dX5_bestPair_78 rfl ?_
          refine x_getf dX5_bestPair_79 f_X5_16 (hO _) rfl ?_
          refine x_iload_n dX5_bestPair_82 rfl ?_
          refine x_iload dX5_bestPair_83 rfl ?_
          refine x_vv0 dX5_bestPair_85 cV_X5_247 (c_makeNeighbours (show one < 10 by omega) (show k < 10 by omega)) rfl rfl ⟨⟨by decide, by decide⟩, by decide, by decide⟩ (Nat.le_of_ble_eq_true rfl) (xrecv (hR _).o rfl xcl0) ?_
          have hnb := nbS_ok hw (a := one) (b := k) (by omega) (by omega)
          have hd : dangV (nbS w.1.1 one k) ≤ 12 := dangV_le (st := nbS w.1.1 one k) hK
          refine x_aload_n dX5_bestPair_88 rfl ?_
          refine x_getf dX5_bestPair_89 f_X5_16 (hO _) rfl ?_
          refine x_vi0 dX5_bestPair_92 cV_X5_241 (c_dangerBehindCopies hnb.1 (nbS_cn hc)) rfl rfl ⟨⟨by decide, by decide⟩, by decide, by decide⟩ (Nat.le_of_ble_eq_true rfl) (xrecv (hR _).o rfl xcl0) ?_
          refine x_istore dX5_bestPair_95 (by decide) rfl rfl ?_
          refine xP.weak (V' := [some (.ref v), some (.int (nI (bpI w.1.1 one s k).1)), some (.int (oI (bpI w.1.1 one s k).2)), some (.int (nI one)), some (.int (nI k)), some (.int (nI (dangV (nbS w.1.1 one k))))]) (by simp [xle, xset1, fin3]; rfl) ?_
          refine x_iload dX5_bestPair_97 rfl ?_
          refine x_iload_n dX5_bestPair_99 rfl ?_
          refine x_icmp_ge_n 114 dX5_bestPair_100 (by decide) (by omega) (by omega) (fun c3 => ?_) (fun c3 => ?_)
          · refine xP.weak ?_ (next _ (some (.int (nI (dangV (nbS w.1.1 one k))))))
            rw [hstep, bp1, if_neg (by rw [c2]; decide), if_neg (by omega)]
            simp [xle, xset1, fin3]
          · refine x_iload dX5_bestPair_103 rfl ?_
            refine x_istore_n dX5_bestPair_105 (by decide) rfl rfl ?_
            refine x_bipush (nI 10) dX5_bestPair_106 (by decide) ?_
            refine x_iload_n dX5_bestPair_108 rfl ?_
            refine x_imul_n dX5_bestPair_109 ?_
            refine x_iload dX5_bestPair_110 rfl ?_
            refine x_iadd_n dX5_bestPair_112 ?_
            refine x_istore_n dX5_bestPair_113 (by decide) rfl rfl ?_
            refine xP.weak ?_ (next _ (some (.int (nI (dangV (nbS w.1.1 one k))))))
            rw [hstep, bp1, if_neg (by rw [c2]; decide), if_pos (by omega)]
            simp [xle, xset1, fin3, oI]
        · refine x_goto 114 dX5_bestPair_64 (by decide) ?_
          refine xP.weak ?_ (next T none)
          rw [hstep, bp1, if_pos c2]
          simp [xle, xset1, fin3]
  have outer : ∀ (f k : Nat) (T : Ar) (v4 v5 : Option Value), f + k = w.1.1.1 1 → xP g l mX5_bestPair [] (xR 6 0 0) (xZ g (opQ v w h (pairR w.1.1)) xno 0 0) 23 [some (.ref v), some (.int (nI (bpO w.1.1 k).1)), some (.int (oI (bpO w.1.1 k).2)), some (.int (nI k)), none, none] [] (putArch h (v + 13) T) 0 0 := by
    intro f
    induction f with
    | zero =>
      intro k T v4 v5 hf
      refine x_iload_n dX5_bestPair_23 rfl ?_
      refine x_aload_n dX5_bestPair_24 rfl ?_
      refine x_getf dX5_bestPair_25 f_X5_12 (hO _) rfl ?_
      refine x_getf dX5_bestPair_28 f_X5_99 (hP _).o rfl ?_
      refine x_icmp_ge_n 126 dX5_bestPair_31 (by decide) (by omega) (by omega) (fun c1 => ?_) (fun c1 => ?_)
      · refine x_iload_n dX5_bestPair_126 rfl ?_
        have e : k = w.1.1.1 1 := by omega
        rw [e]
        exact x_ireturn dX5_bestPair_127 rfl rfl (by decide) (by decide) (opQ.T hW)
      · omega
    | succ f ih =>
      intro k T v4 v5 hf
      have hI := bpO_inv (st := w.1.1) hN hK k (by omega)
      refine x_iload_n dX5_bestPair_23 rfl ?_
      refine x_aload_n dX5_bestPair_24 rfl ?_
      refine x_getf dX5_bestPair_25 f_X5_12 (hO _) rfl ?_
      refine x_getf dX5_bestPair_28 f_X5_99 (hP _).o rfl ?_
      refine x_icmp_ge_n 126 dX5_bestPair_31 (by decide) (by omega) (by omega) (fun c1 => ?_) (fun c1 => ?_)
      · omega
      · refine x_iload_n dX5_bestPair_34 rfl ?_
        refine x_iconst (nI 1) dX5_bestPair_35 (by decide) ?_
        refine x_iadd_n dX5_bestPair_36 ?_
        refine x_istore dX5_bestPair_37 (by decide) rfl rfl ?_
        refine xP.weak ?_ (inner k (by omega) (bpO w.1.1 k) hI.1 hI.2 (fun T v4 v5 => ?_) f (k + 1) T (by omega) (by omega))
        · rw [bpI_lo (k + 1) (Nat.le_refl _)]
          simp [xle, xset1, fin3]
        · refine x_iinc_n (k := 1) dX5_bestPair_120 rfl (by decide) (by decide) (by cases v4 <;> cases v5 <;> rfl) rfl ?_
          refine x_goto 23 dX5_bestPair_123 (by decide) ?_
          exact xP.weak (by cases v4 <;> cases v5 <;> simp [xle, xset1, fin3, bpO]) (ih (k + 1) T none none (by omega))
  exact xP.weak (by simp [xle, xset1, fin3, bpO, dangV]; first | rfl | exact ⟨rfl, rfl⟩) (outer (w.1.1.1 1) 0 _ none none rfl)
theorem c_roundsToFind (hW : WAt h v w) (hw : aW w.1.1) (x : Int32) : xMet g l mX5_roundsToFind 7 1 6 [.ref v, .int x] h (opQ v w h (roundsR w.1.1 x)) (opX v w h [nIAE] (roundsR w.1.1 x)) := by
  have hT : ∀ T, WAt (putArch h (v + 13) T) v (sT w T) := fun T => hW.setT T
  have hO : ∀ T, (putArch h (v + 13) T).1 v = some (.inr (4, [.ref (v + 1), .ref (v + 13), .ref (v + 25), .ref (v + 27), .ref (v + 28), .ref (v + 30)])) := fun T => (hT T).o
  have hR : ∀ T, ArchAt (putArch h (v + 13) T) (v + 13) T := fun T => (hT T).trial
  refine xMet.of (V := [some (.ref v), some (.int x), none, none]) moX5_roundsToFind (Nat.le_of_ble_eq_true rfl) rfl ?_
  refine x_iload_n dX5_roundsToFind_0 rfl ?_
  refine x_callS dX5_roundsToFind_1 cS_X5_209 (c_needRoundNumber hW x) rfl rfl ⟨⟨by decide, by decide⟩, by decide, by decide⟩ (Nat.le_of_ble_eq_true rfl) (fun E h9 q9 => x_out rfl (by decide) (by decide) ?_) (fun v9 h9 q9 => ?_)
  · obtain ⟨rfl, q2, q3⟩ := q9
    unfold roundsR
    rw [if_neg q2]
    exact opX.of (Or.inl rfl) rfl q3
  obtain ⟨rfl, rfl, q3⟩ := q9
  have e1 := nI_ix x
  unfold roundsR
  rw [if_pos q3]
  refine xP.weak (V' := [some (.ref v), some (.int (nI (ix x))), none, none]) (by simp [xle, xset1, fin3, e1]) ?_
  refine x_aload_n dX5_roundsToFind_4 rfl ?_
  refine x_getf dX5_roundsToFind_5 f_X5_16 hW.o rfl ?_
  refine x_aload_n dX5_roundsToFind_8 rfl ?_
  refine x_getf dX5_roundsToFind_9 f_X5_12 hW.o rfl ?_
  refine x_vv0 dX5_roundsToFind_12 cV_X5_87 (c_tr0 hW) rfl rfl ⟨⟨by decide, by decide⟩, by decide, by decide⟩ (Nat.le_of_ble_eq_true rfl) (xrecv hW.trial.o rfl xcl0) ?_
  refine x_iload_n dX5_roundsToFind_15 rfl ?_
  refine x_istore_n dX5_roundsToFind_16 (by decide) rfl rfl ?_
  refine x_iconst (nI 0) dX5_roundsToFind_17 (by decide) ?_
  refine x_istore_n dX5_roundsToFind_18 (by decide) rfl rfl ?_
  have key : ∀ (f i : Nat) (s : Ar × Nat), f + i = 60 → aOk s.1 → s.2 < 2 ^ 31 → ∀ {X : String → xH → Prop}, xP g l mX5_roundsToFind [] (xR 7 1 6) (xZ g (opQ v w h9 (0, rtF s f i, none)) X 1 6) 19 [some (.ref v), some (.int (nI (ix x))), some (.int (nI s.2)), some (.int (nI i))] [] (putArch h9 (v + 13) s.1) 1 6 := by
    intro f
    induction f with
    | zero =>
      intro i s hf hs hx X
      have hu := unsV_le hs
      rw [rtF]
      refine x_iload_n dX5_roundsToFind_19 rfl ?_
      refine x_bipush (nI 60) dX5_roundsToFind_20 (by decide) ?_
      refine x_icmp_ge_n 52 dX5_roundsToFind_22 (by decide) (by omega) (by omega) (fun c1 => ?_) (fun c1 => ?_)
      · refine x_aload_n dX5_roundsToFind_52 rfl ?_
        refine x_getf dX5_roundsToFind_53 f_X5_16 (hO _) rfl ?_
        refine x_vi0 dX5_roundsToFind_56 cV_X5_109 (c_unsoundCopies (hR _) hs) rfl rfl ⟨⟨by decide, by decide⟩, by decide, by decide⟩ (Nat.le_of_ble_eq_true rfl) (xrecv (hR _).o rfl xcl0) ?_
        refine x_if_ne_n 67 dX5_roundsToFind_59 (by decide) (by omega) (fun c2 => ?_) (fun c2 => ?_)
        · refine x_iconst (-1) dX5_roundsToFind_67 (by decide) ?_
          rw [if_neg (by omega)]
          exact x_ireturn dX5_roundsToFind_68 rfl rfl (by decide) (by decide) (opQ.T hW)
        · refine x_bipush (nI 60) dX5_roundsToFind_62 (by decide) ?_
          refine x_goto 68 dX5_roundsToFind_64 (by decide) ?_
          rw [if_pos c2]
          have e : i = 60 := by omega
          subst e
          exact x_ireturn dX5_roundsToFind_68 rfl rfl (by decide) (by decide) (opQ.T hW)
      · omega
    | succ f ih =>
      intro i s hf hs hx X
      have hu := unsV_le hs
      rw [rtF]
      refine x_iload_n dX5_roundsToFind_19 rfl ?_
      refine x_bipush (nI 60) dX5_roundsToFind_20 (by decide) ?_
      refine x_icmp_ge_n 52 dX5_roundsToFind_22 (by decide) (by omega) (by omega) (fun c1 => ?_) (fun c1 => ?_)
      · omega
      · refine x_aload_n dX5_roundsToFind_25 rfl ?_
        refine x_getf dX5_roundsToFind_26 f_X5_16 (hO _) rfl ?_
        refine x_vi0 dX5_roundsToFind_29 cV_X5_109 (c_unsoundCopies (hR _) hs) rfl rfl ⟨⟨by decide, by decide⟩, by decide, by decide⟩ (Nat.le_of_ble_eq_true rfl) (xrecv (hR _).o rfl xcl0) ?_
        refine x_if_ne_n 37 dX5_roundsToFind_32 (by decide) (by omega) (fun c2 => ?_) (fun c2 => ?_)
        · rw [if_neg (by omega)]
          have hK : s.1.1 2 ≤ 12 := hs.2.2.1
          refine x_aload_n dX5_roundsToFind_37 rfl ?_
          refine x_getf dX5_roundsToFind_38 f_X5_16 (hO _) rfl ?_
          refine x_iload_n dX5_roundsToFind_41 rfl ?_
          refine x_vi0 dX5_roundsToFind_42 cV_X5_212 (c_askRound hs hx) rfl rfl ⟨⟨by decide, by decide⟩, by decide, by decide⟩ (Nat.le_of_ble_eq_true rfl) (xrecv (hR _).o rfl xcl0) ?_
          refine x_istore_n dX5_roundsToFind_45 (by decide) rfl rfl ?_
          refine x_iinc_n (k := 1) dX5_roundsToFind_46 rfl (by decide) (by decide) rfl rfl ?_
          refine x_goto 19 dX5_roundsToFind_49 (by decide) ?_
          exact xP.weak (by simp [xle, xset1, fin3]) (ih (i + 1) (rndO s (s.1.1 2)) (by omega) (rndO_ok hs _ hK) (rndO_x hx _))
        · rw [if_pos c2]
          refine x_iload_n dX5_roundsToFind_35 rfl ?_
          exact x_ireturn dX5_roundsToFind_36 rfl rfl (by decide) (by decide) (opQ.T hW)
  exact xP.weak (by simp [xle, xset1, fin3]) (key 60 0 (w.1.1, ix x) rfl hw.1 q3)
end V5
