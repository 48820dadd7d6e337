/-! ===== VillagePhotos: what is asked, without a change ===== -/
theorem okB_out {a : Int32} {N : Nat} (h : okB a N = false) : a.toInt < 0 ∨ (N : Int) - 1 < a.toInt := by
  unfold okB at h
  have h := of_decide_eq_false h
  have h2 := ix_lt a
  show a.toBitVec.toInt < 0 ∨ _ < a.toBitVec.toInt
  rw [BitVec.toInt_eq_toNat_cond]
  have e : a.toBitVec.toNat = ix a := rfl
  rw [e]
  split <;> omega
def copyR (st : Ar) (p f : Int32) : Rs := if okPF st p f = true then (0, if hasB st (ix p) (ix f) = true then nI (st.2.2 8 (10 * ix p + ix f)) else -1, none) else (1, 0, none)
def whyR (st : Ar) (p f : Int32) : Rs := if okPF st p f = true then (0, if hasB st (ix p) (ix f) = true then (if heldB st (ix p) (ix f) = true then (if st.2.2 8 (10 * ix p + ix f) = 0 then 0 else 3) else 2) else 1, none) else (1, 0, none)
def sourcesR (st : Ar) (p f : Int32) : Rs := if okPF st p f = true then (0, nI (srcV st (ix p) (ix f)), none) else (1, 0, none)
def wouldGetR (st : Ar) (p f : Int32) : Rs := if okPF st p f = true then (0, if srcV st (ix p) (ix f) = 0 then -1 else nI (spAll st (ix p) (srcV st (ix p) (ix f)) (st.1 1)), none) else (1, 0, none)
def bestTileR (st : Ar) (p : Int32) : Rs := if okB p (st.1 2) = true then (0, (amax (spAtV st (ix p)) (st.1 0)).2, none) else (1, 0, none)
def dependsR (st : Ar) (p : Int32) : Rs := if okB p (st.1 2) = true then (0, nI (needV st (ix p)), none) else (1, 0, none)
def reachR (st : Ar) (p : Int32) : Rs := if okB p (st.1 2) = true then (0, nI (popc (rAll st (st.2.2 6 (ix p)) 10)), none) else (1, 0, none)
def cntV (st : Ar) : Nat → Int32
  | 0 => nI (st.1 0)
  | 1 => nI (st.1 1)
  | 2 => nI (st.1 2)
  | 3 => nI (heldV st + brkV st)
  | 4 => nI (brkV st)
  | 5 => nI (unsV st)
  | 6 => nI (fb_ct (inDB st) (st.1 2))
  | 7 => nI (fb_ct (trulyB st) (st.1 2))
  | 8 => nI (st.1 3)
  | 9 => nI (st.1 4)
  | _ => nI (pairsV st)
def countR (st : Ar) (a : Int32) : Rs := if okB a 11 = true then (0, cntV st (ix a), none) else (1, 0, none)
def famV (st : Ar) (f : Nat) : Nat → Int32
  | 0 => nI (st.2.2 0 f)
  | 1 => nI (st.2.2 4 f)
  | 2 => nI (brkOfV st f)
  | 3 => nI (st.2.2 2 f)
  | 4 => nI (st.2.2 3 f)
  | 5 => nI (trustV st f)
  | _ => nI (st.2.2 1 f)
def familyR (st : Ar) (f a : Int32) : Rs := if okB f (st.1 1) = true then (if okB a 7 = true then (0, famV st (ix f) (ix a), none) else (2, 0, none)) else (1, 0, none)
def picV (st : Ar) (p : Nat) : Nat → Int32
  | 0 => nI (st.2.2 5 p)
  | 1 => nI (st.2.2 6 p)
  | 2 => nI (st.2.2 7 p)
  | 3 => nI (soundM st p)
  | 4 => xb (inDB st p)
  | _ => xb (trulyB st p)
def pictureR (st : Ar) (p a : Int32) : Rs := if okB p (st.1 2) = true then (if okB a 6 = true then (0, picV st (ix p) (ix a), none) else (2, 0, none)) else (1, 0, none)
section V2
variable {g : xG} {l : Launch} {h : xH} {v : Nat} {w : Wd}
theorem opQ.rf (hW : WAt h v w) {R : Rs} {r : Option Value} (h1 : R.1 = 0) (h2 : r = some (.int R.2.1)) (h3 : R.2.2 = none) : opQ v w h R r h := ⟨h1, h2, w, wTo.rf hW, by rw [h3]; exact wSame.rf w⟩
theorem opX.of {R : Rs} {E : String} {h' : xH} {ks : List String} (hR : R.1 = 1 ∨ R.1 = 2 ∨ R.1 = 3) (hk : ks[R.1 - 1]? = some E) (ht : wTo v w h w h') : opX v w h ks R E h' := ⟨by omega, hk, ht⟩
theorem ok_PF {st : Ar} {p f : Int32} (hw : aW st) (h : okPF st p f = true) : ix p < 12 ∧ ix f < 10 ∧ ix p < st.1 2 ∧ ix f < st.1 1 := by
  unfold okPF at h
  rw [Bool.and_eq_true] at h
  have h1 := okB_lt h.1
  have h2 := okB_lt h.2
  have h3 : st.1 1 ≤ 10 := hw.1.2.1
  have h4 : st.1 2 ≤ 12 := hw.1.2.2.1
  omega

theorem c_copy (hW : WAt h v w) (hw : aW w.1.1) (p f : Int32) : xMet g l mX5_copy 8 3 18 [.ref v, .int p, .int f] h (opQ v w h (copyR w.1.1 p f)) (opX v w h [nIOB] (copyR w.1.1 p f)) := by
  refine xMet.of (V := [some (.ref v), some (.int p), some (.int f)]) moX5_copy (Nat.le_of_ble_eq_true rfl) rfl ?_
  refine x_aload_n dX5_copy_0 rfl ?_
  refine x_iload_n dX5_copy_1 rfl ?_
  refine x_iload_n dX5_copy_2 rfl ?_
  refine x_callV dX5_copy_3 cV_X5_183 (c_needBoth hW hw p f) rfl rfl ⟨⟨by decide, by decide⟩, by decide, by decide⟩ (Nat.le_of_ble_eq_true rfl) (xrecv hW.o rfl xcl4) (fun E h9 q9 => x_out rfl (by decide) (by decide) ?_) (fun v9 h9 q9 => ?_)
  · obtain ⟨rfl, q2, q3⟩ := q9
    unfold copyR
    rw [if_neg (by rw [q2]; decide)]
    exact opX.of (Or.inl rfl) rfl q3
  · obtain ⟨rfl, rfl, q3⟩ := q9
    obtain ⟨hp, hf, -, -⟩ := ok_PF hw q3
    have e1 := nI_ix p
    have e2 := nI_ix f
    unfold copyR
    rw [if_pos q3]
    refine xP.weak (V' := [some (.ref v), some (.int (nI (ix p))), some (.int (nI (ix f)))]) (by simp [xle, xset1, fin3, e1, e2]) ?_
    refine x_aload_n dX5_copy_6 rfl ?_
    refine x_getf dX5_copy_7 f_X5_12 hW.o rfl ?_
    refine x_iload_n dX5_copy_10 rfl ?_
    refine x_iload_n dX5_copy_11 rfl ?_
    refine x_vi0 dX5_copy_12 cV_X5_187 (c_hasCopy hW.present hw.1 hp (show ix f < 32 by omega)) rfl rfl ⟨⟨by decide, by decide⟩, by decide, by decide⟩ (Nat.le_of_ble_eq_true rfl) (xrecv hW.present.o rfl xcl0) ?_
    refine x_if_eq_b 30 dX5_copy_15 (by decide) (fun c1 => ?_) (fun c1 => ?_)
    · rw [if_neg (by rw [c1]; decide)]
      refine x_iconst (-1) dX5_copy_30 (by decide) ?_
      exact x_ireturn dX5_copy_31 rfl rfl (by decide) (by decide) (opQ.rf hW rfl rfl rfl)
    · rw [if_pos c1]
      refine x_aload_n dX5_copy_18 rfl ?_
      refine x_getf dX5_copy_19 f_X5_12 hW.o rfl ?_
      refine x_iload_n dX5_copy_22 rfl ?_
      refine x_iload_n dX5_copy_23 rfl ?_
      refine x_vi0 dX5_copy_24 cV_X5_191 (c_spoiledTiles hW.present (ix p) (ix f) hp hf) rfl rfl ⟨⟨by decide, by decide⟩, by decide, by decide⟩ (Nat.le_of_ble_eq_true rfl) (xrecv hW.present.o rfl xcl0) ?_
      refine x_goto 31 dX5_copy_27 (by decide) ?_
      exact x_ireturn dX5_copy_31 rfl rfl (by decide) (by decide) (opQ.rf hW rfl rfl rfl)
theorem c_why (hW : WAt h v w) (hw : aW w.1.1) (p f : Int32) : xMet g l mX5_why 8 3 18 [.ref v, .int p, .int f] h (opQ v w h (whyR w.1.1 p f)) (opX v w h [nIOB] (whyR w.1.1 p f)) := by
  refine xMet.of (V := [some (.ref v), some (.int p), some (.int f)]) moX5_why (Nat.le_of_ble_eq_true rfl) rfl ?_
  refine x_aload_n dX5_why_0 rfl ?_
  refine x_iload_n dX5_why_1 rfl ?_
  refine x_iload_n dX5_why_2 rfl ?_
  refine x_callV dX5_why_3 cV_X5_183 (c_needBoth hW hw p f) rfl rfl ⟨⟨by decide, by decide⟩, by decide, by decide⟩ (Nat.le_of_ble_eq_true rfl) (xrecv hW.o rfl xcl4) (fun E h9 q9 => x_out rfl (by decide) (by decide) ?_) (fun v9 h9 q9 => ?_)
  · obtain ⟨rfl, q2, q3⟩ := q9
    unfold whyR
    rw [if_neg (by rw [q2]; decide)]
    exact opX.of (Or.inl rfl) rfl q3
  · obtain ⟨rfl, rfl, q3⟩ := q9
    obtain ⟨hp, hf, -, -⟩ := ok_PF hw q3
    have e1 := nI_ix p
    have e2 := nI_ix f
    unfold whyR
    rw [if_pos q3]
    refine xP.weak (V' := [some (.ref v), some (.int (nI (ix p))), some (.int (nI (ix f)))]) (by simp [xle, xset1, fin3, e1, e2]) ?_
    refine x_aload_n dX5_why_6 rfl ?_
    refine x_getf dX5_why_7 f_X5_12 hW.o rfl ?_
    refine x_iload_n dX5_why_10 rfl ?_
    refine x_iload_n dX5_why_11 rfl ?_
    refine x_vi0 dX5_why_12 cV_X5_187 (c_hasCopy hW.present hw.1 hp (show ix f < 32 by omega)) rfl rfl ⟨⟨by decide, by decide⟩, by decide, by decide⟩ (Nat.le_of_ble_eq_true rfl) (xrecv hW.present.o rfl xcl0) ?_
    refine x_if_ne_b 20 dX5_why_15 (by decide) (fun c1 => ?_) (fun c1 => ?_)
    · rw [if_pos c1]
      refine x_aload_n dX5_why_20 rfl ?_
      refine x_getf dX5_why_21 f_X5_12 hW.o rfl ?_
      refine x_iload_n dX5_why_24 rfl ?_
      refine x_iload_n dX5_why_25 rfl ?_
      refine x_vi0 dX5_why_26 cV_X5_195 (c_isHeld hW.present (ix p) (ix f) hp (show ix f < 32 by omega) (hw.1.held hp)) rfl rfl ⟨⟨by decide, by decide⟩, by decide, by decide⟩ (Nat.le_of_ble_eq_true rfl) (xrecv hW.present.o rfl xcl0) ?_
      refine x_if_ne_b 34 dX5_why_29 (by decide) (fun c2 => ?_) (fun c2 => ?_)
      · rw [if_pos (show heldB w.1.1 (ix p) (ix f) = true from c2)]
        have hc := hw.1.cell (i := 10 * ix p + ix f) (by omega)
        refine x_aload_n dX5_why_34 rfl ?_
        refine x_getf dX5_why_35 f_X5_12 hW.o rfl ?_
        refine x_iload_n dX5_why_38 rfl ?_
        refine x_iload_n dX5_why_39 rfl ?_
        refine x_vi0 dX5_why_40 cV_X5_191 (c_spoiledTiles hW.present (ix p) (ix f) hp hf) rfl rfl ⟨⟨by decide, by decide⟩, by decide, by decide⟩ (Nat.le_of_ble_eq_true rfl) (xrecv hW.present.o rfl xcl0) ?_
        refine x_if_ne_n 50 dX5_why_43 (by decide) (by omega) (fun c3 => ?_) (fun c3 => ?_)
        · rw [if_neg (by omega)]
          refine x_iconst (nI 3) dX5_why_50 (by decide) ?_
          exact x_ireturn dX5_why_51 rfl rfl (by decide) (by decide) (opQ.rf hW rfl rfl rfl)
        · rw [if_pos c3]
          refine x_iconst (nI 0) dX5_why_46 (by decide) ?_
          refine x_goto 51 dX5_why_47 (by decide) ?_
          exact x_ireturn dX5_why_51 rfl rfl (by decide) (by decide) (opQ.rf hW rfl rfl rfl)
      · rw [if_neg (show ¬ heldB w.1.1 (ix p) (ix f) = true by rw [show heldB w.1.1 (ix p) (ix f) = false from c2]; decide)]
        refine x_iconst (nI 2) dX5_why_32 (by decide) ?_
        exact x_ireturn dX5_why_33 rfl rfl (by decide) (by decide) (opQ.rf hW rfl rfl rfl)
    · rw [if_neg (by rw [c1]; decide)]
      refine x_iconst (nI 1) dX5_why_18 (by decide) ?_
      exact x_ireturn dX5_why_19 rfl rfl (by decide) (by decide) (opQ.rf hW rfl rfl rfl)
theorem c_sources (hW : WAt h v w) (hw : aW w.1.1) (p f : Int32) : xMet g l mX5_sources 8 3 18 [.ref v, .int p, .int f] h (opQ v w h (sourcesR w.1.1 p f)) (opX v w h [nIOB] (sourcesR w.1.1 p f)) := by
  refine xMet.of (V := [some (.ref v), some (.int p), some (.int f)]) moX5_sources (Nat.le_of_ble_eq_true rfl) rfl ?_
  refine x_aload_n dX5_sources_0 rfl ?_
  refine x_iload_n dX5_sources_1 rfl ?_
  refine x_iload_n dX5_sources_2 rfl ?_
  refine x_callV dX5_sources_3 cV_X5_183 (c_needBoth hW hw p f) rfl rfl ⟨⟨by decide, by decide⟩, by decide, by decide⟩ (Nat.le_of_ble_eq_true rfl) (xrecv hW.o rfl xcl4) (fun E h9 q9 => x_out rfl (by decide) (by decide) ?_) (fun v9 h9 q9 => ?_)
  · obtain ⟨rfl, q2, q3⟩ := q9
    unfold sourcesR
    rw [if_neg (by rw [q2]; decide)]
    exact opX.of (Or.inl rfl) rfl q3
  · obtain ⟨rfl, rfl, q3⟩ := q9
    obtain ⟨hp, hf, -, -⟩ := ok_PF hw q3
    have e1 := nI_ix p
    have e2 := nI_ix f
    unfold sourcesR
    rw [if_pos q3]
    refine xP.weak (V' := [some (.ref v), some (.int (nI (ix p))), some (.int (nI (ix f)))]) (by simp [xle, xset1, fin3, e1, e2]) ?_
    refine x_aload_n dX5_sources_6 rfl ?_
    refine x_getf dX5_sources_7 f_X5_12 hW.o rfl ?_
    refine x_iload_n dX5_sources_10 rfl ?_
    refine x_iload_n dX5_sources_11 rfl ?_
    refine x_vi0 dX5_sources_12 cV_X5_215 (c_sourcesOf hW.present hp hf) rfl rfl ⟨⟨by decide, by decide⟩, by decide, by decide⟩ (Nat.le_of_ble_eq_true rfl) (xrecv hW.present.o rfl xcl0) ?_
    exact x_ireturn dX5_sources_15 rfl rfl (by decide) (by decide) (opQ.rf hW rfl rfl rfl)
theorem c_wouldGet (hW : WAt h v w) (hw : aW w.1.1) (p f : Int32) : xMet g l mX5_wouldGet 8 3 18 [.ref v, .int p, .int f] h (opQ v w h (wouldGetR w.1.1 p f)) (opX v w h [nIOB] (wouldGetR w.1.1 p f)) := by
  refine xMet.of (V := [some (.ref v), some (.int p), some (.int f), none]) moX5_wouldGet (Nat.le_of_ble_eq_true rfl) rfl ?_
  refine x_aload_n dX5_wouldGet_0 rfl ?_
  refine x_iload_n dX5_wouldGet_1 rfl ?_
  refine x_iload_n dX5_wouldGet_2 rfl ?_
  refine x_callV dX5_wouldGet_3 cV_X5_183 (c_needBoth hW hw p f) rfl rfl ⟨⟨by decide, by decide⟩, by decide, by decide⟩ (Nat.le_of_ble_eq_true rfl) (xrecv hW.o rfl xcl4) (fun E h9 q9 => x_out rfl (by decide) (by decide) ?_) (fun v9 h9 q9 => ?_)
  · obtain ⟨rfl, q2, q3⟩ := q9
    unfold wouldGetR
    rw [if_neg (by rw [q2]; decide)]
    exact opX.of (Or.inl rfl) rfl q3
  · obtain ⟨rfl, rfl, q3⟩ := q9
    obtain ⟨hp, hf, -, -⟩ := ok_PF hw q3
    have e1 := nI_ix p
    have e2 := nI_ix f
    unfold wouldGetR
    rw [if_pos q3]
    refine xP.weak (V' := [some (.ref v), some (.int (nI (ix p))), some (.int (nI (ix f))), none]) (by simp [xle, xset1, fin3, e1, e2]) ?_
    have hs : srcV w.1.1 (ix p) (ix f) < 1024 := srcV_lt hw.1 hp
    refine x_aload_n dX5_wouldGet_6 rfl ?_
    refine x_getf dX5_wouldGet_7 f_X5_12 hW.o rfl ?_
    refine x_iload_n dX5_wouldGet_10 rfl ?_
    refine x_iload_n dX5_wouldGet_11 rfl ?_
    refine x_vi0 dX5_wouldGet_12 cV_X5_215 (c_sourcesOf hW.present hp hf) rfl rfl ⟨⟨by decide, by decide⟩, by decide, by decide⟩ (Nat.le_of_ble_eq_true rfl) (xrecv hW.present.o rfl xcl0) ?_
    refine x_istore_n dX5_wouldGet_15 (by decide) rfl rfl ?_
    refine x_iload_n dX5_wouldGet_16 rfl ?_
    refine x_if_ne_n 24 dX5_wouldGet_17 (by decide) (by omega) (fun c1 => ?_) (fun c1 => ?_)
    · rw [if_neg (by omega)]
      refine x_aload_n dX5_wouldGet_24 rfl ?_
      refine x_getf dX5_wouldGet_25 f_X5_12 hW.o rfl ?_
      refine x_iload_n dX5_wouldGet_28 rfl ?_
      refine x_iload_n dX5_wouldGet_29 rfl ?_
      refine x_vi0 dX5_wouldGet_30 cV_X5_218 (c_spoiledInAll hW.present hw.1 hp hs) rfl rfl ⟨⟨by decide, by decide⟩, by decide, by decide⟩ (Nat.le_of_ble_eq_true rfl) (xrecv hW.present.o rfl xcl0) ?_
      exact x_ireturn dX5_wouldGet_33 rfl rfl (by decide) (by decide) (opQ.rf hW rfl rfl rfl)
    · rw [if_pos c1]
      refine x_iconst (-1) dX5_wouldGet_20 (by decide) ?_
      refine x_goto 33 dX5_wouldGet_21 (by decide) ?_
      exact x_ireturn dX5_wouldGet_33 rfl rfl (by decide) (by decide) (opQ.rf hW rfl rfl rfl)
theorem c_bestTile (hW : WAt h v w) (hw : aW w.1.1) (p : Int32) : xMet g l mX5_bestTile 7 2 12 [.ref v, .int p] h (opQ v w h (bestTileR w.1.1 p)) (opX v w h [nIOB] (bestTileR w.1.1 p)) := by
  refine xMet.of (V := [some (.ref v), some (.int p)]) moX5_bestTile (Nat.le_of_ble_eq_true rfl) rfl ?_
  refine x_aload_n dX5_bestTile_0 rfl ?_
  refine x_iload_n dX5_bestTile_1 rfl ?_
  refine x_callV dX5_bestTile_2 cV_X5_159 (c_needPicture hW hw p) rfl rfl ⟨⟨by decide, by decide⟩, by decide, by decide⟩ (Nat.le_of_ble_eq_true rfl) (xrecv hW.o rfl xcl4) (fun E h9 q9 => x_out rfl (by decide) (by decide) ?_) (fun v9 h9 q9 => ?_)
  · obtain ⟨rfl, q2, q3⟩ := q9
    unfold bestTileR
    rw [if_neg (by rw [q2]; decide)]
    exact opX.of (Or.inl rfl) rfl q3
  · obtain ⟨rfl, rfl, q3⟩ := q9
    have hp : ix p < 12 := by have := okB_lt q3; have : w.1.1.1 2 ≤ 12 := hw.1.2.2.1; omega
    have e1 := nI_ix p
    unfold bestTileR
    rw [if_pos q3]
    refine xP.weak (V' := [some (.ref v), some (.int (nI (ix p)))]) (by simp [xle, xset1, fin3, e1]) ?_
    refine x_aload_n dX5_bestTile_5 rfl ?_
    refine x_getf dX5_bestTile_6 f_X5_12 hW.o rfl ?_
    refine x_iload_n dX5_bestTile_9 rfl ?_
    refine x_vi0 dX5_bestTile_10 cV_X5_206 (c_mostSpoiledTile hW.present hw.1 hp) rfl rfl ⟨⟨by decide, by decide⟩, by decide, by decide⟩ (Nat.le_of_ble_eq_true rfl) (xrecv hW.present.o rfl xcl0) ?_
    exact x_ireturn dX5_bestTile_13 rfl rfl (by decide) (by decide) (opQ.rf hW rfl rfl rfl)
theorem c_depends (hW : WAt h v w) (hw : aW w.1.1) (p : Int32) : xMet g l mX5_depends 7 2 12 [.ref v, .int p] h (opQ v w h (dependsR w.1.1 p)) (opX v w h [nIOB] (dependsR w.1.1 p)) := by
  refine xMet.of (V := [some (.ref v), some (.int p)]) moX5_depends (Nat.le_of_ble_eq_true rfl) rfl ?_
  refine x_aload_n dX5_depends_0 rfl ?_
  refine x_iload_n dX5_depends_1 rfl ?_
  refine x_callV dX5_depends_2 cV_X5_159 (c_needPicture hW hw p) rfl rfl ⟨⟨by decide, by decide⟩, by decide, by decide⟩ (Nat.le_of_ble_eq_true rfl) (xrecv hW.o rfl xcl4) (fun E h9 q9 => x_out rfl (by decide) (by decide) ?_) (fun v9 h9 q9 => ?_)
  · obtain ⟨rfl, q2, q3⟩ := q9
    unfold dependsR
    rw [if_neg (by rw [q2]; decide)]
    exact opX.of (Or.inl rfl) rfl q3
  · obtain ⟨rfl, rfl, q3⟩ := q9
    have hp : ix p < 12 := by have := okB_lt q3; have : w.1.1.1 2 ≤ 12 := hw.1.2.2.1; omega
    have e1 := nI_ix p
    unfold dependsR
    rw [if_pos q3]
    refine xP.weak (V' := [some (.ref v), some (.int (nI (ix p)))]) (by simp [xle, xset1, fin3, e1]) ?_
    refine x_aload_n dX5_depends_5 rfl ?_
    refine x_getf dX5_depends_6 f_X5_12 hW.o rfl ?_
    refine x_iload_n dX5_depends_9 rfl ?_
    refine x_vi0 dX5_depends_10 cV_X5_224 (c_neededHolders hW.present hw.1 hp) rfl rfl ⟨⟨by decide, by decide⟩, by decide, by decide⟩ (Nat.le_of_ble_eq_true rfl) (xrecv hW.present.o rfl xcl0) ?_
    exact x_ireturn dX5_depends_13 rfl rfl (by decide) (by decide) (opQ.rf hW rfl rfl rfl)
theorem c_reach (hW : WAt h v w) (hw : aW w.1.1) (p : Int32) : xMet g l mX5_reach 7 2 12 [.ref v, .int p] h (opQ v w h (reachR w.1.1 p)) (opX v w h [nIOB] (reachR w.1.1 p)) := by
  refine xMet.of (V := [some (.ref v), some (.int p)]) moX5_reach (Nat.le_of_ble_eq_true rfl) rfl ?_
  refine x_aload_n dX5_reach_0 rfl ?_
  refine x_iload_n dX5_reach_1 rfl ?_
  refine x_callV dX5_reach_2 cV_X5_159 (c_needPicture hW hw p) rfl rfl ⟨⟨by decide, by decide⟩, by decide, by decide⟩ (Nat.le_of_ble_eq_true rfl) (xrecv hW.o rfl xcl4) (fun E h9 q9 => x_out rfl (by decide) (by decide) ?_) (fun v9 h9 q9 => ?_)
  · obtain ⟨rfl, q2, q3⟩ := q9
    unfold reachR
    rw [if_neg (by rw [q2]; decide)]
    exact opX.of (Or.inl rfl) rfl q3
  · obtain ⟨rfl, rfl, q3⟩ := q9
    have hp : ix p < 12 := by have := okB_lt q3; have : w.1.1.1 2 ≤ 12 := hw.1.2.2.1; omega
    have e1 := nI_ix p
    unfold reachR
    rw [if_pos q3]
    refine xP.weak (V' := [some (.ref v), some (.int (nI (ix p)))]) (by simp [xle, xset1, fin3, e1]) ?_
    have hr : rAll w.1.1 (w.1.1.2.2 6 (ix p)) 10 < 65536 := Nat.lt_of_lt_of_le (rAll_lt hw.1 (hw.1.held hp) 10) (show 1024 ≤ 65536 by decide)
    refine x_aload_n dX5_reach_5 rfl ?_
    refine x_getf dX5_reach_6 f_X5_12 hW.o rfl ?_
    refine x_aload_n dX5_reach_9 rfl ?_
    refine x_getf dX5_reach_10 f_X5_12 hW.o rfl ?_
    refine x_getf dX5_reach_13 f_X5_165 hW.present.o rfl ?_
    refine x_iload_n dX5_reach_16 rfl ?_
    refine x_iald_n dX5_reach_17 hW.present.held (by omega) (by decide) ?_
    refine x_vi0 dX5_reach_18 cV_X5_230 (c_reachedFrom hW.present hw.1 (hw.1.held hp)) rfl rfl ⟨⟨by decide, by decide⟩, by decide, by decide⟩ (Nat.le_of_ble_eq_true rfl) (xrecv hW.present.o rfl xcl0) ?_
    refine x_si0 dX5_reach_21 cS_X5_233 (c_bitCount hr) rfl rfl ⟨⟨by decide, by decide⟩, by decide, by decide⟩ (Nat.le_of_ble_eq_true rfl) ?_
    exact x_ireturn dX5_reach_24 rfl rfl (by decide) (by decide) (opQ.rf hW rfl rfl rfl)
end V2
