/-! ===== the law's cases, one for each method that may throw ===== -/
theorem sOk.mono {R : Rs} {M : Ms} {m m' : Nat} (h : sOk R M m) (h1 : m ≤ m') (h2 : m' < 2 ^ 23) : sOk R M m' := by
  refine ⟨h.1, h.2.1, ?_⟩
  rcases h.2.2 with q | ⟨P, B, q1, q2, q3⟩
  · exact Or.inl q
  · exact Or.inr ⟨P, B, q1, q2, q3.mono h1 h2⟩
theorem s_written {w : Wd} {s : Mo} {n m : Nat} (W9 : rWM w s n) (a : Int32) : sOk (writtenR w.2.2.2.2.2 a) (if okB a (s.2.1 11) = true then (0, nI (s.1 7 (ix a)), none) else (1, 0, none)) m := by
  obtain ⟨h1, h2, h3⟩ := W9.2.2.2.2
  unfold writtenR
  rw [h2]
  cases c : okB a w.2.2.2.2.2.length with
  | false => exact sOk.ans fun q => by cases q
  | true =>
    rw [if_pos rfl, if_pos rfl, h3 _ (okB_lt c)]
    exact sOk.ans fun _ => rfl
theorem rr_count (st : Ar) (a0 : Int32) : (countR st a0).1 < 100 ∧ (0 < (countR st a0).1 → (countR st a0).2.2 = none) := by
  unfold countR
  (repeat' split) <;> simp
theorem ra_count {st : Ar} {a0 : Int32} : (countR st a0).2.2 = none := by
  unfold countR
  (repeat' split) <;> rfl
theorem rr_family (st : Ar) (a0 a1 : Int32) : (familyR st a0 a1).1 < 100 ∧ (0 < (familyR st a0 a1).1 → (familyR st a0 a1).2.2 = none) := by
  unfold familyR
  (repeat' split) <;> simp
theorem ra_family {st : Ar} {a0 a1 : Int32} : (familyR st a0 a1).2.2 = none := by
  unfold familyR
  (repeat' split) <;> rfl
theorem rr_picture (st : Ar) (a0 a1 : Int32) : (pictureR st a0 a1).1 < 100 ∧ (0 < (pictureR st a0 a1).1 → (pictureR st a0 a1).2.2 = none) := by
  unfold pictureR
  (repeat' split) <;> simp
theorem ra_picture {st : Ar} {a0 a1 : Int32} : (pictureR st a0 a1).2.2 = none := by
  unfold pictureR
  (repeat' split) <;> rfl
theorem rr_copy (st : Ar) (a0 a1 : Int32) : (copyR st a0 a1).1 < 100 ∧ (0 < (copyR st a0 a1).1 → (copyR st a0 a1).2.2 = none) := by
  unfold copyR
  (repeat' split) <;> simp
theorem ra_copy {st : Ar} {a0 a1 : Int32} : (copyR st a0 a1).2.2 = none := by
  unfold copyR
  (repeat' split) <;> rfl
theorem rr_why (st : Ar) (a0 a1 : Int32) : (whyR st a0 a1).1 < 100 ∧ (0 < (whyR st a0 a1).1 → (whyR st a0 a1).2.2 = none) := by
  unfold whyR
  (repeat' split) <;> simp
theorem ra_why {st : Ar} {a0 a1 : Int32} : (whyR st a0 a1).2.2 = none := by
  unfold whyR
  (repeat' split) <;> rfl
theorem rr_bestTile (st : Ar) (a0 : Int32) : (bestTileR st a0).1 < 100 ∧ (0 < (bestTileR st a0).1 → (bestTileR st a0).2.2 = none) := by
  unfold bestTileR
  (repeat' split) <;> simp
theorem ra_bestTile {st : Ar} {a0 : Int32} : (bestTileR st a0).2.2 = none := by
  unfold bestTileR
  (repeat' split) <;> rfl
theorem rr_roundsToFind (st : Ar) (a0 : Int32) : (roundsR st a0).1 < 100 ∧ (0 < (roundsR st a0).1 → (roundsR st a0).2.2 = none) := by
  unfold roundsR
  (repeat' split) <;> simp
theorem ra_roundsToFind {st : Ar} {a0 : Int32} : (roundsR st a0).2.2 = none := by
  unfold roundsR
  (repeat' split) <;> rfl
theorem rr_sources (st : Ar) (a0 a1 : Int32) : (sourcesR st a0 a1).1 < 100 ∧ (0 < (sourcesR st a0 a1).1 → (sourcesR st a0 a1).2.2 = none) := by
  unfold sourcesR
  (repeat' split) <;> simp
theorem ra_sources {st : Ar} {a0 a1 : Int32} : (sourcesR st a0 a1).2.2 = none := by
  unfold sourcesR
  (repeat' split) <;> rfl
theorem rr_wouldGet (st : Ar) (a0 a1 : Int32) : (wouldGetR st a0 a1).1 < 100 ∧ (0 < (wouldGetR st a0 a1).1 → (wouldGetR st a0 a1).2.2 = none) := by
  unfold wouldGetR
  (repeat' split) <;> simp
theorem ra_wouldGet {st : Ar} {a0 a1 : Int32} : (wouldGetR st a0 a1).2.2 = none := by
  unfold wouldGetR
  (repeat' split) <;> rfl
theorem rr_depends (st : Ar) (a0 : Int32) : (dependsR st a0).1 < 100 ∧ (0 < (dependsR st a0).1 → (dependsR st a0).2.2 = none) := by
  unfold dependsR
  (repeat' split) <;> simp
theorem ra_depends {st : Ar} {a0 : Int32} : (dependsR st a0).2.2 = none := by
  unfold dependsR
  (repeat' split) <;> rfl
theorem rr_reach (st : Ar) (a0 : Int32) : (reachR st a0).1 < 100 ∧ (0 < (reachR st a0).1 → (reachR st a0).2.2 = none) := by
  unfold reachR
  (repeat' split) <;> simp
theorem ra_reach {st : Ar} {a0 : Int32} : (reachR st a0).2.2 = none := by
  unfold reachR
  (repeat' split) <;> rfl
theorem rr_ask (st : Ar) (a0 a1 a2 : Int32) : (askR st a0 a1 a2).1 < 100 ∧ (0 < (askR st a0 a1 a2).1 → (askR st a0 a1 a2).2.2 = none) := by
  unfold askR
  (repeat' split) <;> simp
theorem rr_round (st : Ar) (a0 : Int32) : (roundR st a0).1 < 100 ∧ (0 < (roundR st a0).1 → (roundR st a0).2.2 = none) := by
  unfold roundR
  (repeat' split) <;> simp
theorem rr_harm (st : Ar) (a0 a1 : Int32) : (harmR st a0 a1).1 < 100 ∧ (0 < (harmR st a0 a1).1 → (harmR st a0 a1).2.2 = none) := by
  unfold harmR
  (repeat' split) <;> simp
theorem rr_repair (st : Ar) (a0 a1 : Int32) : (repairR st a0 a1).1 < 100 ∧ (0 < (repairR st a0 a1).1 → (repairR st a0 a1).2.2 = none) := by
  unfold repairR
  (repeat' split) <;> simp
theorem rr_join (st : Ar) (a0 : Int32) : (joinR st a0).1 < 100 ∧ (0 < (joinR st a0).1 → (joinR st a0).2.2 = none) := by
  unfold joinR
  (repeat' split) <;> simp
theorem rr_meet (st : Ar) (a0 a1 : Int32) : (meetR st a0 a1).1 < 100 ∧ (0 < (meetR st a0 a1).1 → (meetR st a0 a1).2.2 = none) := by
  unfold meetR
  (repeat' split) <;> simp
theorem rr_leave (st : Ar) (a0 : Int32) : (leaveR st a0).1 < 100 ∧ (0 < (leaveR st a0).1 → (leaveR st a0).2.2 = none) := by
  unfold leaveR
  (repeat' split) <;> simp
theorem rr_setPledge (st : Ar) (a0 a1 : Int32) : (pledgeR st a0 a1).1 < 100 ∧ (0 < (pledgeR st a0 a1).1 → (pledgeR st a0 a1).2.2 = none) := by
  unfold pledgeR
  (repeat' split) <;> simp
theorem rr_restore (st : Wd) (a0 : Int32) : (restoreR st a0).1 < 100 ∧ (0 < (restoreR st a0).1 → (restoreR st a0).2.2 = none) := by
  unfold restoreR
  (repeat' split) <;> simp
theorem rr_writtenByte (st : List Nat) (a0 : Int32) : (writtenR st a0).1 < 100 ∧ (0 < (writtenR st a0).1 → (writtenR st a0).2.2 = none) := by
  unfold writtenR
  (repeat' split) <;> simp
theorem ra_writtenByte {st : List Nat} {a0 : Int32} : (writtenR st a0).2.2 = none := by
  unfold writtenR
  (repeat' split) <;> rfl
section LC
variable {nm : String} {tb : List (Nat × Nat × Nat × Nat)} {g : xG} {l : Launch} {R9 : Room} {Z : List Frame → Array Value → State → State → Prop} {b L t v m o od n kc ks : Nat} {xs : Nat → Int32} {w : Wd} {s : Mo} {h : xH}
/-- from 1999 on all goes well, whatever the call has done -/
def xGo (nm : String) (tb : List (Nat × Nat × Nat × Nat)) (g : xG) (l : Launch) (R9 : Room) (Z : List Frame → Array Value → State → State → Prop) (b t v m o od n kc ks : Nat) : Prop := ∀ w' s' h', xLW v m o od w' s' h' → rWM w' s' (n + 120) → xP g l (mL_law nm) tb R9 Z 1999 [some (.ref b), some (.ref v), some (.ref m), some (.ref o), some (.ref od), some (.int (nI (6 * t))), none, none, none, none] [] h' (kc + 20) (ks + 300)
/-- the room that is left for a call -/
def xRm (R9 : Room) (n kc ks : Nat) : Prop := (11 ≤ R9.frames ∧ 430 ≤ R9.locals) ∧ (kc + 20 ≤ R9.cells ∧ ks + 300 ≤ R9.slots) ∧ n + 100000 < 2 ^ 23

theorem k_count (hs : xSc Z g b L xs) (hL : L ≤ 3072) (H : xLW v m o od w s h) (W9 : rWM w s n) (hi : 6 * t + 6 ≤ L) (hr : xRm R9 n kc ks) (K : xGo nm tb g l R9 Z b t v m o od n kc ks) : xP g l (mL_law nm) tb R9 Z 338 [some (.ref b), some (.ref v), some (.ref m), some (.ref o), some (.ref od), some (.int (nI (6 * t))), none, none, none, none] [] h kc ks := by
  obtain ⟨⟨f, hf⟩, hz, hno⟩ := H.o0
  obtain ⟨⟨r1, r2⟩, ⟨r3, r4⟩, r5⟩ := hr
  refine x_aload_n dL_law_338 rfl ?_
  refine x_aload_n dL_law_339 rfl ?_
  refine x_iload dL_law_340 rfl ?_
  refine x_iconst (nI 1) dL_law_342 (by decide) ?_
  refine x_iadd_n dL_law_343 ?_
  refine x_ialdB hs dL_law_344 (by omega) (by omega) ?_
  refine x_aload_n dL_law_345 rfl ?_
  refine x_callH dL_law_346 cH_L_118 (w_count H.1 W9.1.1.aw hf hz hno (xs (6 * t + 1))) rfl rfl ⟨⟨by omega, by show 8 + (4 + 11) + 36 * 7 ≤ _; omega⟩, by omega, by omega⟩ (Nat.le_of_ble_eq_true rfl) (fun _ _ q => q.elim) (fun v9 h9 q9 => ?_)
  obtain ⟨rfl, w1, hx, hw1, hw2⟩ := wrQ.law H q9
  refine x_istore dL_law_349 (Nat.le_of_ble_eq_true rfl) rfl rfl ?_
  refine x_aload_n dL_law_351 rfl ?_
  refine x_aload_n dL_law_352 rfl ?_
  refine x_iload dL_law_353 rfl ?_
  refine x_iconst (nI 1) dL_law_355 (by decide) ?_
  refine x_iadd_n dL_law_356 ?_
  refine x_ialdB hs dL_law_357 (by omega) (by omega) ?_
  refine xP.eq (h' := putMod h9 m s) rfl rfl rfl hx.1.self ?_
  refine x_callV dL_law_358 cV_L_121 (c_mCount (h := h9) W9.1.1.k (xs (6 * t + 1))) rfl rfl ⟨⟨by omega, by show 8 + (2 + 11) + 36 * 5 ≤ _; omega⟩, by omega, by omega⟩ (Nat.le_of_ble_eq_true rfl) (xrecv putMod_at.o rfl xcl5) (fun _ _ q => q.elim) (fun v8 h8 q8 => ?_)
  have q7 := (mAns.det q8).op
  obtain ⟨s1, rfl, rfl, e1, e2⟩ := q7
  have hR := s_count (m := n + 120) W9.1.1 (xs (6 * t + 1))
  have hf2 : ∀ Q, (countR w.1.1 (xs (6 * t + 1))).2.2 = some Q → 2 ≤ Q.1 1 := fun Q e => by rw [ra_count] at e; cases e
  have hb := rr_count (w.1.1) (xs (6 * t + 1))
  refine x_istore dL_law_361 (Nat.le_of_ble_eq_true rfl) rfl rfl ?_
  refine law_tail (hx.mod s1) (by rw [e1]; exact hR.1.symm) hb.1 (fun q => hR.2.1 q) (by omega) (by omega) (by omega) (by omega) dL_law_363 dL_law_364 dL_law_367 dL_law_369 dL_law_374 dL_law_376 dL_law_379 dL_law_380 dL_law_381 dL_law_382 dL_law_384 dL_law_385 dL_law_386 dL_law_391 (by decide) ?_
  exact xP.widen (by omega) (by omega) (K _ _ _ (hx.mod s1).1 (W9.op2 hR hf2 hb.2 (by omega) (by omega) hw1 hw2 e2))
theorem k_family (hs : xSc Z g b L xs) (hL : L ≤ 3072) (H : xLW v m o od w s h) (W9 : rWM w s n) (hcn : aCn w.1.1 10000000) (hi : 6 * t + 6 ≤ L) (hr : xRm R9 n kc ks) (K : xGo nm tb g l R9 Z b t v m o od n kc ks) : xP g l (mL_law nm) tb R9 Z 394 [some (.ref b), some (.ref v), some (.ref m), some (.ref o), some (.ref od), some (.int (nI (6 * t))), none, none, none, none] [] h kc ks := by
  obtain ⟨⟨f, hf⟩, hz, hno⟩ := H.o0
  obtain ⟨⟨r1, r2⟩, ⟨r3, r4⟩, r5⟩ := hr
  refine x_aload_n dL_law_394 rfl ?_
  refine x_aload_n dL_law_395 rfl ?_
  refine x_iload dL_law_396 rfl ?_
  refine x_iconst (nI 1) dL_law_398 (by decide) ?_
  refine x_iadd_n dL_law_399 ?_
  refine x_ialdB hs dL_law_400 (by omega) (by omega) ?_
  refine x_aload_n dL_law_401 rfl ?_
  refine x_iload dL_law_402 rfl ?_
  refine x_iconst (nI 2) dL_law_404 (by decide) ?_
  refine x_iadd_n dL_law_405 ?_
  refine x_ialdB hs dL_law_406 (by omega) (by omega) ?_
  refine x_aload_n dL_law_407 rfl ?_
  refine x_callH dL_law_408 cH_L_122 (w_family H.1 W9.1.1.aw hcn hf hz hno (xs (6 * t + 1)) (xs (6 * t + 2))) rfl rfl ⟨⟨by omega, by show 8 + (5 + 11) + 36 * 8 ≤ _; omega⟩, by omega, by omega⟩ (Nat.le_of_ble_eq_true rfl) (fun _ _ q => q.elim) (fun v9 h9 q9 => ?_)
  obtain ⟨rfl, w1, hx, hw1, hw2⟩ := wrQ.law H q9
  refine x_istore dL_law_411 (Nat.le_of_ble_eq_true rfl) rfl rfl ?_
  refine x_aload_n dL_law_413 rfl ?_
  refine x_aload_n dL_law_414 rfl ?_
  refine x_iload dL_law_415 rfl ?_
  refine x_iconst (nI 1) dL_law_417 (by decide) ?_
  refine x_iadd_n dL_law_418 ?_
  refine x_ialdB hs dL_law_419 (by omega) (by omega) ?_
  refine x_aload_n dL_law_420 rfl ?_
  refine x_iload dL_law_421 rfl ?_
  refine x_iconst (nI 2) dL_law_423 (by decide) ?_
  refine x_iadd_n dL_law_424 ?_
  refine x_ialdB hs dL_law_425 (by omega) (by omega) ?_
  refine xP.eq (h' := putMod h9 m s) rfl rfl rfl hx.1.self ?_
  refine x_callV dL_law_426 cV_L_125 (c_mFamily (h := h9) W9.1.1.k (xs (6 * t + 1)) (xs (6 * t + 2))) rfl rfl ⟨⟨by omega, by show 8 + (3 + 11) + 36 * 5 ≤ _; omega⟩, by omega, by omega⟩ (Nat.le_of_ble_eq_true rfl) (xrecv putMod_at.o rfl xcl5) (fun _ _ q => q.elim) (fun v8 h8 q8 => ?_)
  have q7 := (mAns.det q8).op
  obtain ⟨s1, rfl, rfl, e1, e2⟩ := q7
  have hR := s_family (m := n + 120) W9.1.1 (xs (6 * t + 1)) (xs (6 * t + 2))
  have hf2 : ∀ Q, (familyR w.1.1 (xs (6 * t + 1)) (xs (6 * t + 2))).2.2 = some Q → 2 ≤ Q.1 1 := fun Q e => by rw [ra_family] at e; cases e
  have hb := rr_family (w.1.1) (xs (6 * t + 1)) (xs (6 * t + 2))
  refine x_istore dL_law_429 (Nat.le_of_ble_eq_true rfl) rfl rfl ?_
  refine law_tail (hx.mod s1) (by rw [e1]; exact hR.1.symm) hb.1 (fun q => hR.2.1 q) (by omega) (by omega) (by omega) (by omega) dL_law_431 dL_law_432 dL_law_435 dL_law_437 dL_law_442 dL_law_444 dL_law_447 dL_law_448 dL_law_449 dL_law_450 dL_law_452 dL_law_453 dL_law_454 dL_law_459 (by decide) ?_
  exact xP.widen (by omega) (by omega) (K _ _ _ (hx.mod s1).1 (W9.op2 hR hf2 hb.2 (by omega) (by omega) hw1 hw2 e2))
theorem k_picture (hs : xSc Z g b L xs) (hL : L ≤ 3072) (H : xLW v m o od w s h) (W9 : rWM w s n) (hi : 6 * t + 6 ≤ L) (hr : xRm R9 n kc ks) (K : xGo nm tb g l R9 Z b t v m o od n kc ks) : xP g l (mL_law nm) tb R9 Z 462 [some (.ref b), some (.ref v), some (.ref m), some (.ref o), some (.ref od), some (.int (nI (6 * t))), none, none, none, none] [] h kc ks := by
  obtain ⟨⟨f, hf⟩, hz, hno⟩ := H.o0
  obtain ⟨⟨r1, r2⟩, ⟨r3, r4⟩, r5⟩ := hr
  refine x_aload_n dL_law_462 rfl ?_
  refine x_aload_n dL_law_463 rfl ?_
  refine x_iload dL_law_464 rfl ?_
  refine x_iconst (nI 1) dL_law_466 (by decide) ?_
  refine x_iadd_n dL_law_467 ?_
  refine x_ialdB hs dL_law_468 (by omega) (by omega) ?_
  refine x_aload_n dL_law_469 rfl ?_
  refine x_iload dL_law_470 rfl ?_
  refine x_iconst (nI 2) dL_law_472 (by decide) ?_
  refine x_iadd_n dL_law_473 ?_
  refine x_ialdB hs dL_law_474 (by omega) (by omega) ?_
  refine x_aload_n dL_law_475 rfl ?_
  refine x_callH dL_law_476 cH_L_126 (w_picture H.1 W9.1.1.aw hf hz hno (xs (6 * t + 1)) (xs (6 * t + 2))) rfl rfl ⟨⟨by omega, by show 8 + (5 + 11) + 36 * 8 ≤ _; omega⟩, by omega, by omega⟩ (Nat.le_of_ble_eq_true rfl) (fun _ _ q => q.elim) (fun v9 h9 q9 => ?_)
  obtain ⟨rfl, w1, hx, hw1, hw2⟩ := wrQ.law H q9
  refine x_istore dL_law_479 (Nat.le_of_ble_eq_true rfl) rfl rfl ?_
  refine x_aload_n dL_law_481 rfl ?_
  refine x_aload_n dL_law_482 rfl ?_
  refine x_iload dL_law_483 rfl ?_
  refine x_iconst (nI 1) dL_law_485 (by decide) ?_
  refine x_iadd_n dL_law_486 ?_
  refine x_ialdB hs dL_law_487 (by omega) (by omega) ?_
  refine x_aload_n dL_law_488 rfl ?_
  refine x_iload dL_law_489 rfl ?_
  refine x_iconst (nI 2) dL_law_491 (by decide) ?_
  refine x_iadd_n dL_law_492 ?_
  refine x_ialdB hs dL_law_493 (by omega) (by omega) ?_
  refine xP.eq (h' := putMod h9 m s) rfl rfl rfl hx.1.self ?_
  refine x_callV dL_law_494 cV_L_128 (c_mPicture (h := h9) W9.1.1.k (xs (6 * t + 1)) (xs (6 * t + 2))) rfl rfl ⟨⟨by omega, by show 8 + (3 + 11) + 36 * 5 ≤ _; omega⟩, by omega, by omega⟩ (Nat.le_of_ble_eq_true rfl) (xrecv putMod_at.o rfl xcl5) (fun _ _ q => q.elim) (fun v8 h8 q8 => ?_)
  have q7 := (mAns.det q8).op
  obtain ⟨s1, rfl, rfl, e1, e2⟩ := q7
  have hR := s_picture (m := n + 120) W9.1.1 (xs (6 * t + 1)) (xs (6 * t + 2))
  have hf2 : ∀ Q, (pictureR w.1.1 (xs (6 * t + 1)) (xs (6 * t + 2))).2.2 = some Q → 2 ≤ Q.1 1 := fun Q e => by rw [ra_picture] at e; cases e
  have hb := rr_picture (w.1.1) (xs (6 * t + 1)) (xs (6 * t + 2))
  refine x_istore dL_law_497 (Nat.le_of_ble_eq_true rfl) rfl rfl ?_
  refine law_tail (hx.mod s1) (by rw [e1]; exact hR.1.symm) hb.1 (fun q => hR.2.1 q) (by omega) (by omega) (by omega) (by omega) dL_law_499 dL_law_500 dL_law_503 dL_law_505 dL_law_510 dL_law_512 dL_law_515 dL_law_516 dL_law_517 dL_law_518 dL_law_520 dL_law_521 dL_law_522 dL_law_527 (by decide) ?_
  exact xP.widen (by omega) (by omega) (K _ _ _ (hx.mod s1).1 (W9.op2 hR hf2 hb.2 (by omega) (by omega) hw1 hw2 e2))
theorem k_copy (hs : xSc Z g b L xs) (hL : L ≤ 3072) (H : xLW v m o od w s h) (W9 : rWM w s n) (hi : 6 * t + 6 ≤ L) (hr : xRm R9 n kc ks) (K : xGo nm tb g l R9 Z b t v m o od n kc ks) : xP g l (mL_law nm) tb R9 Z 530 [some (.ref b), some (.ref v), some (.ref m), some (.ref o), some (.ref od), some (.int (nI (6 * t))), none, none, none, none] [] h kc ks := by
  obtain ⟨⟨f, hf⟩, hz, hno⟩ := H.o0
  obtain ⟨⟨r1, r2⟩, ⟨r3, r4⟩, r5⟩ := hr
  refine x_aload_n dL_law_530 rfl ?_
  refine x_aload_n dL_law_531 rfl ?_
  refine x_iload dL_law_532 rfl ?_
  refine x_iconst (nI 1) dL_law_534 (by decide) ?_
  refine x_iadd_n dL_law_535 ?_
  refine x_ialdB hs dL_law_536 (by omega) (by omega) ?_
  refine x_aload_n dL_law_537 rfl ?_
  refine x_iload dL_law_538 rfl ?_
  refine x_iconst (nI 2) dL_law_540 (by decide) ?_
  refine x_iadd_n dL_law_541 ?_
  refine x_ialdB hs dL_law_542 (by omega) (by omega) ?_
  refine x_aload_n dL_law_543 rfl ?_
  refine x_callH dL_law_544 cH_L_129 (w_copy H.1 W9.1.1.aw hf hz hno (xs (6 * t + 1)) (xs (6 * t + 2))) rfl rfl ⟨⟨by omega, by show 8 + (5 + 11) + 36 * 9 ≤ _; omega⟩, by omega, by omega⟩ (Nat.le_of_ble_eq_true rfl) (fun _ _ q => q.elim) (fun v9 h9 q9 => ?_)
  obtain ⟨rfl, w1, hx, hw1, hw2⟩ := wrQ.law H q9
  refine x_istore dL_law_547 (Nat.le_of_ble_eq_true rfl) rfl rfl ?_
  refine x_aload_n dL_law_549 rfl ?_
  refine x_aload_n dL_law_550 rfl ?_
  refine x_iload dL_law_551 rfl ?_
  refine x_iconst (nI 1) dL_law_553 (by decide) ?_
  refine x_iadd_n dL_law_554 ?_
  refine x_ialdB hs dL_law_555 (by omega) (by omega) ?_
  refine x_aload_n dL_law_556 rfl ?_
  refine x_iload dL_law_557 rfl ?_
  refine x_iconst (nI 2) dL_law_559 (by decide) ?_
  refine x_iadd_n dL_law_560 ?_
  refine x_ialdB hs dL_law_561 (by omega) (by omega) ?_
  refine xP.eq (h' := putMod h9 m s) rfl rfl rfl hx.1.self ?_
  refine x_callV dL_law_562 cV_L_131 (c_mCopy (h := h9) W9.1.1.k (xs (6 * t + 1)) (xs (6 * t + 2))) rfl rfl ⟨⟨by omega, by show 8 + (4 + 11) + 36 * 3 ≤ _; omega⟩, by omega, by omega⟩ (Nat.le_of_ble_eq_true rfl) (xrecv putMod_at.o rfl xcl5) (fun _ _ q => q.elim) (fun v8 h8 q8 => ?_)
  have q7 := (mAns.det q8).op
  obtain ⟨s1, rfl, rfl, e1, e2⟩ := q7
  have hR := s_copy (m := n + 120) W9.1.1 (xs (6 * t + 1)) (xs (6 * t + 2))
  have hf2 : ∀ Q, (copyR w.1.1 (xs (6 * t + 1)) (xs (6 * t + 2))).2.2 = some Q → 2 ≤ Q.1 1 := fun Q e => by rw [ra_copy] at e; cases e
  have hb := rr_copy (w.1.1) (xs (6 * t + 1)) (xs (6 * t + 2))
  refine x_istore dL_law_565 (Nat.le_of_ble_eq_true rfl) rfl rfl ?_
  refine law_tail (hx.mod s1) (by rw [e1]; exact hR.1.symm) hb.1 (fun q => hR.2.1 q) (by omega) (by omega) (by omega) (by omega) dL_law_567 dL_law_568 dL_law_571 dL_law_573 dL_law_578 dL_law_580 dL_law_583 dL_law_584 dL_law_585 dL_law_586 dL_law_588 dL_law_589 dL_law_590 dL_law_595 (by decide) ?_
  exact xP.widen (by omega) (by omega) (K _ _ _ (hx.mod s1).1 (W9.op2 hR hf2 hb.2 (by omega) (by omega) hw1 hw2 e2))
theorem k_why (hs : xSc Z g b L xs) (hL : L ≤ 3072) (H : xLW v m o od w s h) (W9 : rWM w s n) (hi : 6 * t + 6 ≤ L) (hr : xRm R9 n kc ks) (K : xGo nm tb g l R9 Z b t v m o od n kc ks) : xP g l (mL_law nm) tb R9 Z 598 [some (.ref b), some (.ref v), some (.ref m), some (.ref o), some (.ref od), some (.int (nI (6 * t))), none, none, none, none] [] h kc ks := by
  obtain ⟨⟨f, hf⟩, hz, hno⟩ := H.o0
  obtain ⟨⟨r1, r2⟩, ⟨r3, r4⟩, r5⟩ := hr
  refine x_aload_n dL_law_598 rfl ?_
  refine x_aload_n dL_law_599 rfl ?_
  refine x_iload dL_law_600 rfl ?_
  refine x_iconst (nI 1) dL_law_602 (by decide) ?_
  refine x_iadd_n dL_law_603 ?_
  refine x_ialdB hs dL_law_604 (by omega) (by omega) ?_
  refine x_aload_n dL_law_605 rfl ?_
  refine x_iload dL_law_606 rfl ?_
  refine x_iconst (nI 2) dL_law_608 (by decide) ?_
  refine x_iadd_n dL_law_609 ?_
  refine x_ialdB hs dL_law_610 (by omega) (by omega) ?_
  refine x_aload_n dL_law_611 rfl ?_
  refine x_callH dL_law_612 cH_L_132 (w_why H.1 W9.1.1.aw hf hz hno (xs (6 * t + 1)) (xs (6 * t + 2))) rfl rfl ⟨⟨by omega, by show 8 + (5 + 11) + 36 * 9 ≤ _; omega⟩, by omega, by omega⟩ (Nat.le_of_ble_eq_true rfl) (fun _ _ q => q.elim) (fun v9 h9 q9 => ?_)
  obtain ⟨rfl, w1, hx, hw1, hw2⟩ := wrQ.law H q9
  refine x_istore dL_law_615 (Nat.le_of_ble_eq_true rfl) rfl rfl ?_
  refine x_aload_n dL_law_617 rfl ?_
  refine x_aload_n dL_law_618 rfl ?_
  refine x_iload dL_law_619 rfl ?_
  refine x_iconst (nI 1) dL_law_621 (by decide) ?_
  refine x_iadd_n dL_law_622 ?_
  refine x_ialdB hs dL_law_623 (by omega) (by omega) ?_
  refine x_aload_n dL_law_624 rfl ?_
  refine x_iload dL_law_625 rfl ?_
  refine x_iconst (nI 2) dL_law_627 (by decide) ?_
  refine x_iadd_n dL_law_628 ?_
  refine x_ialdB hs dL_law_629 (by omega) (by omega) ?_
  refine xP.eq (h' := putMod h9 m s) rfl rfl rfl hx.1.self ?_
  refine x_callV dL_law_630 cV_L_134 (c_mWhy (h := h9) W9.1.1.k (xs (6 * t + 1)) (xs (6 * t + 2))) rfl rfl ⟨⟨by omega, by show 8 + (4 + 11) + 36 * 3 ≤ _; omega⟩, by omega, by omega⟩ (Nat.le_of_ble_eq_true rfl) (xrecv putMod_at.o rfl xcl5) (fun _ _ q => q.elim) (fun v8 h8 q8 => ?_)
  have q7 := (mAns.det q8).op
  obtain ⟨s1, rfl, rfl, e1, e2⟩ := q7
  have hR := s_why (m := n + 120) W9.1.1 (xs (6 * t + 1)) (xs (6 * t + 2))
  have hf2 : ∀ Q, (whyR w.1.1 (xs (6 * t + 1)) (xs (6 * t + 2))).2.2 = some Q → 2 ≤ Q.1 1 := fun Q e => by rw [ra_why] at e; cases e
  have hb := rr_why (w.1.1) (xs (6 * t + 1)) (xs (6 * t + 2))
  refine x_istore dL_law_633 (Nat.le_of_ble_eq_true rfl) rfl rfl ?_
  refine law_tail (hx.mod s1) (by rw [e1]; exact hR.1.symm) hb.1 (fun q => hR.2.1 q) (by omega) (by omega) (by omega) (by omega) dL_law_635 dL_law_636 dL_law_639 dL_law_641 dL_law_646 dL_law_648 dL_law_651 dL_law_652 dL_law_653 dL_law_654 dL_law_656 dL_law_657 dL_law_658 dL_law_663 (by decide) ?_
  exact xP.widen (by omega) (by omega) (K _ _ _ (hx.mod s1).1 (W9.op2 hR hf2 hb.2 (by omega) (by omega) hw1 hw2 e2))
theorem k_bestTile (hs : xSc Z g b L xs) (hL : L ≤ 3072) (H : xLW v m o od w s h) (W9 : rWM w s n) (hi : 6 * t + 6 ≤ L) (hr : xRm R9 n kc ks) (K : xGo nm tb g l R9 Z b t v m o od n kc ks) : xP g l (mL_law nm) tb R9 Z 767 [some (.ref b), some (.ref v), some (.ref m), some (.ref o), some (.ref od), some (.int (nI (6 * t))), none, none, none, none] [] h kc ks := by
  obtain ⟨⟨f, hf⟩, hz, hno⟩ := H.o0
  obtain ⟨⟨r1, r2⟩, ⟨r3, r4⟩, r5⟩ := hr
  refine x_aload_n dL_law_767 rfl ?_
  refine x_aload_n dL_law_768 rfl ?_
  refine x_iload dL_law_769 rfl ?_
  refine x_iconst (nI 1) dL_law_771 (by decide) ?_
  refine x_iadd_n dL_law_772 ?_
  refine x_ialdB hs dL_law_773 (by omega) (by omega) ?_
  refine x_aload_n dL_law_774 rfl ?_
  refine x_callH dL_law_775 cH_L_139 (w_bestTile H.1 W9.1.1.aw hf hz hno (xs (6 * t + 1))) rfl rfl ⟨⟨by omega, by show 8 + (4 + 11) + 36 * 8 ≤ _; omega⟩, by omega, by omega⟩ (Nat.le_of_ble_eq_true rfl) (fun _ _ q => q.elim) (fun v9 h9 q9 => ?_)
  obtain ⟨rfl, w1, hx, hw1, hw2⟩ := wrQ.law H q9
  refine x_istore dL_law_778 (Nat.le_of_ble_eq_true rfl) rfl rfl ?_
  refine x_aload_n dL_law_780 rfl ?_
  refine x_aload_n dL_law_781 rfl ?_
  refine x_iload dL_law_782 rfl ?_
  refine x_iconst (nI 1) dL_law_784 (by decide) ?_
  refine x_iadd_n dL_law_785 ?_
  refine x_ialdB hs dL_law_786 (by omega) (by omega) ?_
  refine xP.eq (h' := putMod h9 m s) rfl rfl rfl hx.1.self ?_
  refine x_callV dL_law_787 cV_L_141 (c_mBestTile (h := h9) W9.1.1.k (xs (6 * t + 1))) rfl rfl ⟨⟨by omega, by show 8 + (7 + 11) + 36 * 2 ≤ _; omega⟩, by omega, by omega⟩ (Nat.le_of_ble_eq_true rfl) (xrecv putMod_at.o rfl xcl5) (fun _ _ q => q.elim) (fun v8 h8 q8 => ?_)
  have q7 := (mAns.det q8).op
  obtain ⟨s1, rfl, rfl, e1, e2⟩ := q7
  have hR := s_bestTile (m := n + 120) W9.1.1 (xs (6 * t + 1))
  have hf2 : ∀ Q, (bestTileR w.1.1 (xs (6 * t + 1))).2.2 = some Q → 2 ≤ Q.1 1 := fun Q e => by rw [ra_bestTile] at e; cases e
  have hb := rr_bestTile (w.1.1) (xs (6 * t + 1))
  refine x_istore dL_law_790 (Nat.le_of_ble_eq_true rfl) rfl rfl ?_
  refine law_tail (hx.mod s1) (by rw [e1]; exact hR.1.symm) hb.1 (fun q => hR.2.1 q) (by omega) (by omega) (by omega) (by omega) dL_law_792 dL_law_793 dL_law_796 dL_law_798 dL_law_803 dL_law_805 dL_law_808 dL_law_809 dL_law_810 dL_law_811 dL_law_813 dL_law_814 dL_law_815 dL_law_820 (by decide) ?_
  exact xP.widen (by omega) (by omega) (K _ _ _ (hx.mod s1).1 (W9.op2 hR hf2 hb.2 (by omega) (by omega) hw1 hw2 e2))
theorem k_roundsToFind (hs : xSc Z g b L xs) (hL : L ≤ 3072) (H : xLW v m o od w s h) (W9 : rWM w s n) (hi : 6 * t + 6 ≤ L) (hr : xRm R9 n kc ks) (K : xGo nm tb g l R9 Z b t v m o od n kc ks) : xP g l (mL_law nm) tb R9 Z 823 [some (.ref b), some (.ref v), some (.ref m), some (.ref o), some (.ref od), some (.int (nI (6 * t))), none, none, none, none] [] h kc ks := by
  obtain ⟨⟨f, hf⟩, hz, hno⟩ := H.o0
  obtain ⟨⟨r1, r2⟩, ⟨r3, r4⟩, r5⟩ := hr
  refine x_aload_n dL_law_823 rfl ?_
  refine x_aload_n dL_law_824 rfl ?_
  refine x_iload dL_law_825 rfl ?_
  refine x_iconst (nI 1) dL_law_827 (by decide) ?_
  refine x_iadd_n dL_law_828 ?_
  refine x_ialdB hs dL_law_829 (by omega) (by omega) ?_
  refine x_aload_n dL_law_830 rfl ?_
  refine x_callH dL_law_831 cH_L_142 (w_roundsToFind H.1 W9.1.1.aw hf hz hno (xs (6 * t + 1))) rfl rfl ⟨⟨by omega, by show 8 + (4 + 11) + 36 * 8 ≤ _; omega⟩, by omega, by omega⟩ (Nat.le_of_ble_eq_true rfl) (fun _ _ q => q.elim) (fun v9 h9 q9 => ?_)
  obtain ⟨rfl, w1, hx, hw1, hw2⟩ := wrQ.law H q9
  refine x_istore dL_law_834 (Nat.le_of_ble_eq_true rfl) rfl rfl ?_
  refine x_aload_n dL_law_836 rfl ?_
  refine x_aload_n dL_law_837 rfl ?_
  refine x_iload dL_law_838 rfl ?_
  refine x_iconst (nI 1) dL_law_840 (by decide) ?_
  refine x_iadd_n dL_law_841 ?_
  refine x_ialdB hs dL_law_842 (by omega) (by omega) ?_
  refine xP.eq (h' := putMod h9 m s) rfl rfl rfl hx.1.self ?_
  refine x_callV dL_law_843 cV_L_144 (c_mRoundsToFind (h := h9) W9.1.1.k (by omega) (xs (6 * t + 1))) rfl rfl ⟨⟨by omega, by show 8 + (4 + 11) + 36 * 4 ≤ _; omega⟩, by omega, by omega⟩ (Nat.le_of_ble_eq_true rfl) (xrecv putMod_at.o rfl xcl5) (fun _ _ q => q.elim) (fun v8 h8 q8 => ?_)
  have q7 := q8.op
  obtain ⟨s1, rfl, rfl, e1, e2⟩ := q7
  have hR := s_rounds (m := n + 120) W9.1.1 (by omega) (xs (6 * t + 1))
  have hf2 : ∀ Q, (roundsR w.1.1 (xs (6 * t + 1))).2.2 = some Q → 2 ≤ Q.1 1 := fun Q e => by rw [ra_roundsToFind] at e; cases e
  have hb := rr_roundsToFind (w.1.1) (xs (6 * t + 1))
  refine x_istore dL_law_846 (Nat.le_of_ble_eq_true rfl) rfl rfl ?_
  refine law_tail (hx.mod s1) (by rw [e1]; exact hR.1.symm) hb.1 (fun q => hR.2.1 q) (by omega) (by omega) (by omega) (by omega) dL_law_848 dL_law_849 dL_law_852 dL_law_854 dL_law_859 dL_law_861 dL_law_864 dL_law_865 dL_law_866 dL_law_867 dL_law_869 dL_law_870 dL_law_871 dL_law_876 (by decide) ?_
  exact xP.widen (by omega) (by omega) (K _ _ _ (hx.mod s1).1 (W9.op2 hR hf2 hb.2 (by omega) (by omega) hw1 hw2 e2))
theorem k_sources (hs : xSc Z g b L xs) (hL : L ≤ 3072) (H : xLW v m o od w s h) (W9 : rWM w s n) (hi : 6 * t + 6 ≤ L) (hr : xRm R9 n kc ks) (K : xGo nm tb g l R9 Z b t v m o od n kc ks) : xP g l (mL_law nm) tb R9 Z 892 [some (.ref b), some (.ref v), some (.ref m), some (.ref o), some (.ref od), some (.int (nI (6 * t))), none, none, none, none] [] h kc ks := by
  obtain ⟨⟨f, hf⟩, hz, hno⟩ := H.o0
  obtain ⟨⟨r1, r2⟩, ⟨r3, r4⟩, r5⟩ := hr
  refine x_aload_n dL_law_892 rfl ?_
  refine x_aload_n dL_law_893 rfl ?_
  refine x_iload dL_law_894 rfl ?_
  refine x_iconst (nI 1) dL_law_896 (by decide) ?_
  refine x_iadd_n dL_law_897 ?_
  refine x_ialdB hs dL_law_898 (by omega) (by omega) ?_
  refine x_aload_n dL_law_899 rfl ?_
  refine x_iload dL_law_900 rfl ?_
  refine x_iconst (nI 2) dL_law_902 (by decide) ?_
  refine x_iadd_n dL_law_903 ?_
  refine x_ialdB hs dL_law_904 (by omega) (by omega) ?_
  refine x_aload_n dL_law_905 rfl ?_
  refine x_callH dL_law_906 cH_L_149 (w_sources H.1 W9.1.1.aw hf hz hno (xs (6 * t + 1)) (xs (6 * t + 2))) rfl rfl ⟨⟨by omega, by show 8 + (5 + 11) + 36 * 9 ≤ _; omega⟩, by omega, by omega⟩ (Nat.le_of_ble_eq_true rfl) (fun _ _ q => q.elim) (fun v9 h9 q9 => ?_)
  obtain ⟨rfl, w1, hx, hw1, hw2⟩ := wrQ.law H q9
  refine x_istore dL_law_909 (Nat.le_of_ble_eq_true rfl) rfl rfl ?_
  refine x_aload_n dL_law_911 rfl ?_
  refine x_aload_n dL_law_912 rfl ?_
  refine x_iload dL_law_913 rfl ?_
  refine x_iconst (nI 1) dL_law_915 (by decide) ?_
  refine x_iadd_n dL_law_916 ?_
  refine x_ialdB hs dL_law_917 (by omega) (by omega) ?_
  refine x_aload_n dL_law_918 rfl ?_
  refine x_iload dL_law_919 rfl ?_
  refine x_iconst (nI 2) dL_law_921 (by decide) ?_
  refine x_iadd_n dL_law_922 ?_
  refine x_ialdB hs dL_law_923 (by omega) (by omega) ?_
  refine xP.eq (h' := putMod h9 m s) rfl rfl rfl hx.1.self ?_
  refine x_callV dL_law_924 cV_L_151 (c_mSources (h := h9) W9.1.1.k (xs (6 * t + 1)) (xs (6 * t + 2))) rfl rfl ⟨⟨by omega, by show 8 + (3 + 11) + 36 * 4 ≤ _; omega⟩, by omega, by omega⟩ (Nat.le_of_ble_eq_true rfl) (xrecv putMod_at.o rfl xcl5) (fun _ _ q => q.elim) (fun v8 h8 q8 => ?_)
  have q7 := (mAns.det q8).op
  obtain ⟨s1, rfl, rfl, e1, e2⟩ := q7
  have hR := s_sources (m := n + 120) W9.1.1 (xs (6 * t + 1)) (xs (6 * t + 2))
  have hf2 : ∀ Q, (sourcesR w.1.1 (xs (6 * t + 1)) (xs (6 * t + 2))).2.2 = some Q → 2 ≤ Q.1 1 := fun Q e => by rw [ra_sources] at e; cases e
  have hb := rr_sources (w.1.1) (xs (6 * t + 1)) (xs (6 * t + 2))
  refine x_istore dL_law_927 (Nat.le_of_ble_eq_true rfl) rfl rfl ?_
  refine law_tail (hx.mod s1) (by rw [e1]; exact hR.1.symm) hb.1 (fun q => hR.2.1 q) (by omega) (by omega) (by omega) (by omega) dL_law_929 dL_law_930 dL_law_933 dL_law_935 dL_law_940 dL_law_942 dL_law_945 dL_law_946 dL_law_947 dL_law_948 dL_law_950 dL_law_951 dL_law_952 dL_law_957 (by decide) ?_
  exact xP.widen (by omega) (by omega) (K _ _ _ (hx.mod s1).1 (W9.op2 hR hf2 hb.2 (by omega) (by omega) hw1 hw2 e2))
theorem k_wouldGet (hs : xSc Z g b L xs) (hL : L ≤ 3072) (H : xLW v m o od w s h) (W9 : rWM w s n) (hi : 6 * t + 6 ≤ L) (hr : xRm R9 n kc ks) (K : xGo nm tb g l R9 Z b t v m o od n kc ks) : xP g l (mL_law nm) tb R9 Z 960 [some (.ref b), some (.ref v), some (.ref m), some (.ref o), some (.ref od), some (.int (nI (6 * t))), none, none, none, none] [] h kc ks := by
  obtain ⟨⟨f, hf⟩, hz, hno⟩ := H.o0
  obtain ⟨⟨r1, r2⟩, ⟨r3, r4⟩, r5⟩ := hr
  refine x_aload_n dL_law_960 rfl ?_
  refine x_aload_n dL_law_961 rfl ?_
  refine x_iload dL_law_962 rfl ?_
  refine x_iconst (nI 1) dL_law_964 (by decide) ?_
  refine x_iadd_n dL_law_965 ?_
  refine x_ialdB hs dL_law_966 (by omega) (by omega) ?_
  refine x_aload_n dL_law_967 rfl ?_
  refine x_iload dL_law_968 rfl ?_
  refine x_iconst (nI 2) dL_law_970 (by decide) ?_
  refine x_iadd_n dL_law_971 ?_
  refine x_ialdB hs dL_law_972 (by omega) (by omega) ?_
  refine x_aload_n dL_law_973 rfl ?_
  refine x_callH dL_law_974 cH_L_152 (w_wouldGet H.1 W9.1.1.aw hf hz hno (xs (6 * t + 1)) (xs (6 * t + 2))) rfl rfl ⟨⟨by omega, by show 8 + (5 + 11) + 36 * 9 ≤ _; omega⟩, by omega, by omega⟩ (Nat.le_of_ble_eq_true rfl) (fun _ _ q => q.elim) (fun v9 h9 q9 => ?_)
  obtain ⟨rfl, w1, hx, hw1, hw2⟩ := wrQ.law H q9
  refine x_istore dL_law_977 (Nat.le_of_ble_eq_true rfl) rfl rfl ?_
  refine x_aload_n dL_law_979 rfl ?_
  refine x_aload_n dL_law_980 rfl ?_
  refine x_iload dL_law_981 rfl ?_
  refine x_iconst (nI 1) dL_law_983 (by decide) ?_
  refine x_iadd_n dL_law_984 ?_
  refine x_ialdB hs dL_law_985 (by omega) (by omega) ?_
  refine x_aload_n dL_law_986 rfl ?_
  refine x_iload dL_law_987 rfl ?_
  refine x_iconst (nI 2) dL_law_989 (by decide) ?_
  refine x_iadd_n dL_law_990 ?_
  refine x_ialdB hs dL_law_991 (by omega) (by omega) ?_
  refine xP.eq (h' := putMod h9 m s) rfl rfl rfl hx.1.self ?_
  refine x_callV dL_law_992 cV_L_154 (c_mWouldGet (h := h9) W9.1.1.k (xs (6 * t + 1)) (xs (6 * t + 2))) rfl rfl ⟨⟨by omega, by show 8 + (3 + 11) + 36 * 5 ≤ _; omega⟩, by omega, by omega⟩ (Nat.le_of_ble_eq_true rfl) (xrecv putMod_at.o rfl xcl5) (fun _ _ q => q.elim) (fun v8 h8 q8 => ?_)
  have q7 := (mAns.det q8).op
  obtain ⟨s1, rfl, rfl, e1, e2⟩ := q7
  have hR := s_wouldGet (m := n + 120) W9.1.1 (xs (6 * t + 1)) (xs (6 * t + 2))
  have hf2 : ∀ Q, (wouldGetR w.1.1 (xs (6 * t + 1)) (xs (6 * t + 2))).2.2 = some Q → 2 ≤ Q.1 1 := fun Q e => by rw [ra_wouldGet] at e; cases e
  have hb := rr_wouldGet (w.1.1) (xs (6 * t + 1)) (xs (6 * t + 2))
  refine x_istore dL_law_995 (Nat.le_of_ble_eq_true rfl) rfl rfl ?_
  refine law_tail (hx.mod s1) (by rw [e1]; exact hR.1.symm) hb.1 (fun q => hR.2.1 q) (by omega) (by omega) (by omega) (by omega) dL_law_997 dL_law_998 dL_law_1001 dL_law_1003 dL_law_1008 dL_law_1010 dL_law_1013 dL_law_1014 dL_law_1015 dL_law_1016 dL_law_1018 dL_law_1019 dL_law_1020 dL_law_1025 (by decide) ?_
  exact xP.widen (by omega) (by omega) (K _ _ _ (hx.mod s1).1 (W9.op2 hR hf2 hb.2 (by omega) (by omega) hw1 hw2 e2))
theorem k_depends (hs : xSc Z g b L xs) (hL : L ≤ 3072) (H : xLW v m o od w s h) (W9 : rWM w s n) (hi : 6 * t + 6 ≤ L) (hr : xRm R9 n kc ks) (K : xGo nm tb g l R9 Z b t v m o od n kc ks) : xP g l (mL_law nm) tb R9 Z 1054 [some (.ref b), some (.ref v), some (.ref m), some (.ref o), some (.ref od), some (.int (nI (6 * t))), none, none, none, none] [] h kc ks := by
  obtain ⟨⟨f, hf⟩, hz, hno⟩ := H.o0
  obtain ⟨⟨r1, r2⟩, ⟨r3, r4⟩, r5⟩ := hr
  refine x_aload_n dL_law_1054 rfl ?_
  refine x_aload_n dL_law_1055 rfl ?_
  refine x_iload dL_law_1056 rfl ?_
  refine x_iconst (nI 1) dL_law_1058 (by decide) ?_
  refine x_iadd_n dL_law_1059 ?_
  refine x_ialdB hs dL_law_1060 (by omega) (by omega) ?_
  refine x_aload_n dL_law_1061 rfl ?_
  refine x_callH dL_law_1062 cH_L_163 (w_depends H.1 W9.1.1.aw hf hz hno (xs (6 * t + 1))) rfl rfl ⟨⟨by omega, by show 8 + (4 + 11) + 36 * 8 ≤ _; omega⟩, by omega, by omega⟩ (Nat.le_of_ble_eq_true rfl) (fun _ _ q => q.elim) (fun v9 h9 q9 => ?_)
  obtain ⟨rfl, w1, hx, hw1, hw2⟩ := wrQ.law H q9
  refine x_istore dL_law_1065 (Nat.le_of_ble_eq_true rfl) rfl rfl ?_
  refine x_aload_n dL_law_1067 rfl ?_
  refine x_aload_n dL_law_1068 rfl ?_
  refine x_iload dL_law_1069 rfl ?_
  refine x_iconst (nI 1) dL_law_1071 (by decide) ?_
  refine x_iadd_n dL_law_1072 ?_
  refine x_ialdB hs dL_law_1073 (by omega) (by omega) ?_
  refine xP.eq (h' := putMod h9 m s) rfl rfl rfl hx.1.self ?_
  refine x_callV dL_law_1074 cV_L_165 (c_mDepends (h := h9) W9.1.1.k (xs (6 * t + 1))) rfl rfl ⟨⟨by omega, by show 8 + (2 + 11) + 36 * 4 ≤ _; omega⟩, by omega, by omega⟩ (Nat.le_of_ble_eq_true rfl) (xrecv putMod_at.o rfl xcl5) (fun _ _ q => q.elim) (fun v8 h8 q8 => ?_)
  have q7 := (mAns.det q8).op
  obtain ⟨s1, rfl, rfl, e1, e2⟩ := q7
  have hR := s_depends (m := n + 120) W9.1.1 (xs (6 * t + 1))
  have hf2 : ∀ Q, (dependsR w.1.1 (xs (6 * t + 1))).2.2 = some Q → 2 ≤ Q.1 1 := fun Q e => by rw [ra_depends] at e; cases e
  have hb := rr_depends (w.1.1) (xs (6 * t + 1))
  refine x_istore dL_law_1077 (Nat.le_of_ble_eq_true rfl) rfl rfl ?_
  refine law_tail (hx.mod s1) (by rw [e1]; exact hR.1.symm) hb.1 (fun q => hR.2.1 q) (by omega) (by omega) (by omega) (by omega) dL_law_1079 dL_law_1080 dL_law_1083 dL_law_1085 dL_law_1090 dL_law_1092 dL_law_1095 dL_law_1096 dL_law_1097 dL_law_1098 dL_law_1100 dL_law_1101 dL_law_1102 dL_law_1107 (by decide) ?_
  exact xP.widen (by omega) (by omega) (K _ _ _ (hx.mod s1).1 (W9.op2 hR hf2 hb.2 (by omega) (by omega) hw1 hw2 e2))
theorem k_reach (hs : xSc Z g b L xs) (hL : L ≤ 3072) (H : xLW v m o od w s h) (W9 : rWM w s n) (hi : 6 * t + 6 ≤ L) (hr : xRm R9 n kc ks) (K : xGo nm tb g l R9 Z b t v m o od n kc ks) : xP g l (mL_law nm) tb R9 Z 1123 [some (.ref b), some (.ref v), some (.ref m), some (.ref o), some (.ref od), some (.int (nI (6 * t))), none, none, none, none] [] h kc ks := by
  obtain ⟨⟨f, hf⟩, hz, hno⟩ := H.o0
  obtain ⟨⟨r1, r2⟩, ⟨r3, r4⟩, r5⟩ := hr
  refine x_aload_n dL_law_1123 rfl ?_
  refine x_aload_n dL_law_1124 rfl ?_
  refine x_iload dL_law_1125 rfl ?_
  refine x_iconst (nI 1) dL_law_1127 (by decide) ?_
  refine x_iadd_n dL_law_1128 ?_
  refine x_ialdB hs dL_law_1129 (by omega) (by omega) ?_
  refine x_aload_n dL_law_1130 rfl ?_
  refine x_callH dL_law_1131 cH_L_170 (w_reach H.1 W9.1.1.aw hf hz hno (xs (6 * t + 1))) rfl rfl ⟨⟨by omega, by show 8 + (4 + 11) + 36 * 8 ≤ _; omega⟩, by omega, by omega⟩ (Nat.le_of_ble_eq_true rfl) (fun _ _ q => q.elim) (fun v9 h9 q9 => ?_)
  obtain ⟨rfl, w1, hx, hw1, hw2⟩ := wrQ.law H q9
  refine x_istore dL_law_1134 (Nat.le_of_ble_eq_true rfl) rfl rfl ?_
  refine x_aload_n dL_law_1136 rfl ?_
  refine x_aload_n dL_law_1137 rfl ?_
  refine x_iload dL_law_1138 rfl ?_
  refine x_iconst (nI 1) dL_law_1140 (by decide) ?_
  refine x_iadd_n dL_law_1141 ?_
  refine x_ialdB hs dL_law_1142 (by omega) (by omega) ?_
  refine xP.eq (h' := putMod h9 m s) rfl rfl rfl hx.1.self ?_
  refine x_callV dL_law_1143 cV_L_172 (c_mReach (h := h9) W9.1.1.k (xs (6 * t + 1))) rfl rfl ⟨⟨by omega, by show 8 + (5 + 11) + 36 * 3 ≤ _; omega⟩, by omega, by omega⟩ (Nat.le_of_ble_eq_true rfl) (xrecv putMod_at.o rfl xcl5) (fun _ _ q => q.elim) (fun v8 h8 q8 => ?_)
  have q7 := (mAns.det q8).op
  obtain ⟨s1, rfl, rfl, e1, e2⟩ := q7
  have hR := s_reach (m := n + 120) W9.1.1 (xs (6 * t + 1))
  have hf2 : ∀ Q, (reachR w.1.1 (xs (6 * t + 1))).2.2 = some Q → 2 ≤ Q.1 1 := fun Q e => by rw [ra_reach] at e; cases e
  have hb := rr_reach (w.1.1) (xs (6 * t + 1))
  refine x_istore dL_law_1146 (Nat.le_of_ble_eq_true rfl) rfl rfl ?_
  refine law_tail (hx.mod s1) (by rw [e1]; exact hR.1.symm) hb.1 (fun q => hR.2.1 q) (by omega) (by omega) (by omega) (by omega) dL_law_1148 dL_law_1149 dL_law_1152 dL_law_1154 dL_law_1159 dL_law_1161 dL_law_1164 dL_law_1165 dL_law_1166 dL_law_1167 dL_law_1169 dL_law_1170 dL_law_1171 dL_law_1176 (by decide) ?_
  exact xP.widen (by omega) (by omega) (K _ _ _ (hx.mod s1).1 (W9.op2 hR hf2 hb.2 (by omega) (by omega) hw1 hw2 e2))
theorem k_ask (hs : xSc Z g b L xs) (hL : L ≤ 3072) (H : xLW v m o od w s h) (W9 : rWM w s n) (hi : 6 * t + 6 ≤ L) (hr : xRm R9 n kc ks) (K : xGo nm tb g l R9 Z b t v m o od n kc ks) : xP g l (mL_law nm) tb R9 Z 1248 [some (.ref b), some (.ref v), some (.ref m), some (.ref o), some (.ref od), some (.int (nI (6 * t))), none, none, none, none] [] h kc ks := by
  obtain ⟨⟨f, hf⟩, hz, hno⟩ := H.o0
  obtain ⟨⟨r1, r2⟩, ⟨r3, r4⟩, r5⟩ := hr
  refine x_aload_n dL_law_1248 rfl ?_
  refine x_aload_n dL_law_1249 rfl ?_
  refine x_iload dL_law_1250 rfl ?_
  refine x_iconst (nI 1) dL_law_1252 (by decide) ?_
  refine x_iadd_n dL_law_1253 ?_
  refine x_ialdB hs dL_law_1254 (by omega) (by omega) ?_
  refine x_aload_n dL_law_1255 rfl ?_
  refine x_iload dL_law_1256 rfl ?_
  refine x_iconst (nI 2) dL_law_1258 (by decide) ?_
  refine x_iadd_n dL_law_1259 ?_
  refine x_ialdB hs dL_law_1260 (by omega) (by omega) ?_
  refine x_aload_n dL_law_1261 rfl ?_
  refine x_iload dL_law_1262 rfl ?_
  refine x_iconst (nI 3) dL_law_1264 (by decide) ?_
  refine x_iadd_n dL_law_1265 ?_
  refine x_ialdB hs dL_law_1266 (by omega) (by omega) ?_
  refine x_aload_n dL_law_1267 rfl ?_
  refine x_callH dL_law_1268 cH_L_186 (w_ask H.1 W9.1.1.aw W9.2.1.1.1 hf hz hno (xs (6 * t + 1)) (xs (6 * t + 2)) (xs (6 * t + 3))) rfl rfl ⟨⟨by omega, by show 8 + (6 + 11) + 36 * 9 ≤ _; omega⟩, by omega, by omega⟩ (Nat.le_of_ble_eq_true rfl) (fun _ _ q => q.elim) (fun v9 h9 q9 => ?_)
  obtain ⟨rfl, w1, hx, hw1, hw2⟩ := wrQ.law H q9
  refine x_istore dL_law_1271 (Nat.le_of_ble_eq_true rfl) rfl rfl ?_
  refine x_aload_n dL_law_1273 rfl ?_
  refine x_aload_n dL_law_1274 rfl ?_
  refine x_iload dL_law_1275 rfl ?_
  refine x_iconst (nI 1) dL_law_1277 (by decide) ?_
  refine x_iadd_n dL_law_1278 ?_
  refine x_ialdB hs dL_law_1279 (by omega) (by omega) ?_
  refine x_aload_n dL_law_1280 rfl ?_
  refine x_iload dL_law_1281 rfl ?_
  refine x_iconst (nI 2) dL_law_1283 (by decide) ?_
  refine x_iadd_n dL_law_1284 ?_
  refine x_ialdB hs dL_law_1285 (by omega) (by omega) ?_
  refine x_aload_n dL_law_1286 rfl ?_
  refine x_iload dL_law_1287 rfl ?_
  refine x_iconst (nI 3) dL_law_1289 (by decide) ?_
  refine x_iadd_n dL_law_1290 ?_
  refine x_ialdB hs dL_law_1291 (by omega) (by omega) ?_
  refine xP.eq (h' := putMod h9 m s) rfl rfl rfl hx.1.self ?_
  refine x_callV dL_law_1292 cV_L_189 (c_mAsk (h := h9) W9.1.1.k (by rw [W9.2.1.1.2]; exact W9.2.1.1.1.2) (xs (6 * t + 1)) (xs (6 * t + 2)) (xs (6 * t + 3))) rfl rfl ⟨⟨by omega, by show 8 + (5 + 11) + 36 * 2 ≤ _; omega⟩, by omega, by omega⟩ (Nat.le_of_ble_eq_true rfl) (xrecv putMod_at.o rfl xcl5) (fun _ _ q => q.elim) (fun v8 h8 q8 => ?_)
  have q7 := q8
  obtain ⟨s1, rfl, rfl, e1, e2⟩ := q7
  have hR := s_ask W9.1.1 (by omega) (xs (6 * t + 1)) (xs (6 * t + 2)) (xs (6 * t + 3))
  have hf2 : ∀ Q, (askR w.1.1 (xs (6 * t + 1)) (xs (6 * t + 2)) (xs (6 * t + 3))).2.2 = some Q → 2 ≤ Q.1 1 := f_ask W9.1.2
  have hb := rr_ask (w.1.1) (xs (6 * t + 1)) (xs (6 * t + 2)) (xs (6 * t + 3))
  refine x_istore dL_law_1295 (Nat.le_of_ble_eq_true rfl) rfl rfl ?_
  refine law_tail (hx.mod s1) (by rw [e1]; exact hR.1.symm) hb.1 (fun q => hR.2.1 q) (by omega) (by omega) (by omega) (by omega) dL_law_1297 dL_law_1298 dL_law_1301 dL_law_1303 dL_law_1308 dL_law_1310 dL_law_1313 dL_law_1314 dL_law_1315 dL_law_1316 dL_law_1318 dL_law_1319 dL_law_1320 dL_law_1325 (by decide) ?_
  exact xP.widen (by omega) (by omega) (K _ _ _ (hx.mod s1).1 (W9.op2 hR hf2 hb.2 (by omega) (by omega) hw1 hw2 e2))
theorem k_round (hs : xSc Z g b L xs) (hL : L ≤ 3072) (H : xLW v m o od w s h) (W9 : rWM w s n) (hi : 6 * t + 6 ≤ L) (hr : xRm R9 n kc ks) (K : xGo nm tb g l R9 Z b t v m o od n kc ks) : xP g l (mL_law nm) tb R9 Z 1328 [some (.ref b), some (.ref v), some (.ref m), some (.ref o), some (.ref od), some (.int (nI (6 * t))), none, none, none, none] [] h kc ks := by
  obtain ⟨⟨f, hf⟩, hz, hno⟩ := H.o0
  obtain ⟨⟨r1, r2⟩, ⟨r3, r4⟩, r5⟩ := hr
  refine x_aload_n dL_law_1328 rfl ?_
  refine x_aload_n dL_law_1329 rfl ?_
  refine x_iload dL_law_1330 rfl ?_
  refine x_iconst (nI 1) dL_law_1332 (by decide) ?_
  refine x_iadd_n dL_law_1333 ?_
  refine x_ialdB hs dL_law_1334 (by omega) (by omega) ?_
  refine x_aload_n dL_law_1335 rfl ?_
  refine x_callH dL_law_1336 cH_L_190 (w_round H.1 W9.1.1.aw W9.2.1.1.1 hf hz hno (xs (6 * t + 1))) rfl rfl ⟨⟨by omega, by show 8 + (4 + 11) + 36 * 8 ≤ _; omega⟩, by omega, by omega⟩ (Nat.le_of_ble_eq_true rfl) (fun _ _ q => q.elim) (fun v9 h9 q9 => ?_)
  obtain ⟨rfl, w1, hx, hw1, hw2⟩ := wrQ.law H q9
  refine x_istore dL_law_1339 (Nat.le_of_ble_eq_true rfl) rfl rfl ?_
  refine x_aload_n dL_law_1341 rfl ?_
  refine x_aload_n dL_law_1342 rfl ?_
  refine x_iload dL_law_1343 rfl ?_
  refine x_iconst (nI 1) dL_law_1345 (by decide) ?_
  refine x_iadd_n dL_law_1346 ?_
  refine x_ialdB hs dL_law_1347 (by omega) (by omega) ?_
  refine xP.eq (h' := putMod h9 m s) rfl rfl rfl hx.1.self ?_
  refine x_callV dL_law_1348 cV_L_192 (c_mRound (h := h9) W9.1.1.k (by omega) (by rw [W9.2.1.1.2]; exact W9.2.1.1.1.2) (xs (6 * t + 1))) rfl rfl ⟨⟨by omega, by show 8 + (2 + 11) + 36 * 3 ≤ _; omega⟩, by omega, by omega⟩ (Nat.le_of_ble_eq_true rfl) (xrecv putMod_at.o rfl xcl5) (fun _ _ q => q.elim) (fun v8 h8 q8 => ?_)
  have q7 := q8
  obtain ⟨s1, rfl, rfl, e1, e2⟩ := q7
  have hR := s_round W9.1.1 (by omega) (xs (6 * t + 1))
  have hf2 : ∀ Q, (roundR w.1.1 (xs (6 * t + 1))).2.2 = some Q → 2 ≤ Q.1 1 := f_round W9.1.2
  have hb := rr_round (w.1.1) (xs (6 * t + 1))
  refine x_istore dL_law_1351 (Nat.le_of_ble_eq_true rfl) rfl rfl ?_
  refine law_tail (hx.mod s1) (by rw [e1]; exact hR.1.symm) hb.1 (fun q => hR.2.1 q) (by omega) (by omega) (by omega) (by omega) dL_law_1353 dL_law_1354 dL_law_1357 dL_law_1359 dL_law_1364 dL_law_1366 dL_law_1369 dL_law_1370 dL_law_1371 dL_law_1372 dL_law_1374 dL_law_1375 dL_law_1376 dL_law_1381 (by decide) ?_
  exact xP.widen (by omega) (by omega) (K _ _ _ (hx.mod s1).1 (W9.op2 hR hf2 hb.2 (by omega) (by omega) hw1 hw2 e2))
theorem k_harm (hs : xSc Z g b L xs) (hL : L ≤ 3072) (H : xLW v m o od w s h) (W9 : rWM w s n) (hi : 6 * t + 6 ≤ L) (hr : xRm R9 n kc ks) (K : xGo nm tb g l R9 Z b t v m o od n kc ks) : xP g l (mL_law nm) tb R9 Z 1384 [some (.ref b), some (.ref v), some (.ref m), some (.ref o), some (.ref od), some (.int (nI (6 * t))), none, none, none, none] [] h kc ks := by
  obtain ⟨⟨f, hf⟩, hz, hno⟩ := H.o0
  obtain ⟨⟨r1, r2⟩, ⟨r3, r4⟩, r5⟩ := hr
  refine x_aload_n dL_law_1384 rfl ?_
  refine x_aload_n dL_law_1385 rfl ?_
  refine x_iload dL_law_1386 rfl ?_
  refine x_iconst (nI 1) dL_law_1388 (by decide) ?_
  refine x_iadd_n dL_law_1389 ?_
  refine x_ialdB hs dL_law_1390 (by omega) (by omega) ?_
  refine x_aload_n dL_law_1391 rfl ?_
  refine x_iload dL_law_1392 rfl ?_
  refine x_iconst (nI 2) dL_law_1394 (by decide) ?_
  refine x_iadd_n dL_law_1395 ?_
  refine x_ialdB hs dL_law_1396 (by omega) (by omega) ?_
  refine x_aload_n dL_law_1397 rfl ?_
  refine x_callH dL_law_1398 cH_L_193 (w_harm H.1 W9.1.1.aw W9.2.1.1.1 hf hz hno (xs (6 * t + 1)) (xs (6 * t + 2))) rfl rfl ⟨⟨by omega, by show 8 + (5 + 11) + 36 * 8 ≤ _; omega⟩, by omega, by omega⟩ (Nat.le_of_ble_eq_true rfl) (fun _ _ q => q.elim) (fun v9 h9 q9 => ?_)
  obtain ⟨rfl, w1, hx, hw1, hw2⟩ := wrQ.law H q9
  refine x_istore dL_law_1401 (Nat.le_of_ble_eq_true rfl) rfl rfl ?_
  refine x_aload_n dL_law_1403 rfl ?_
  refine x_aload_n dL_law_1404 rfl ?_
  refine x_iload dL_law_1405 rfl ?_
  refine x_iconst (nI 1) dL_law_1407 (by decide) ?_
  refine x_iadd_n dL_law_1408 ?_
  refine x_ialdB hs dL_law_1409 (by omega) (by omega) ?_
  refine x_aload_n dL_law_1410 rfl ?_
  refine x_iload dL_law_1411 rfl ?_
  refine x_iconst (nI 2) dL_law_1413 (by decide) ?_
  refine x_iadd_n dL_law_1414 ?_
  refine x_ialdB hs dL_law_1415 (by omega) (by omega) ?_
  refine xP.eq (h' := putMod h9 m s) rfl rfl rfl hx.1.self ?_
  refine x_callV dL_law_1416 cV_L_195 (c_mHarm (h := h9) W9.1.1.k (by rw [W9.2.1.1.2]; exact W9.2.1.1.1.2) (xs (6 * t + 1)) (xs (6 * t + 2))) rfl rfl ⟨⟨by omega, by show 8 + (5 + 11) + 36 * 3 ≤ _; omega⟩, by omega, by omega⟩ (Nat.le_of_ble_eq_true rfl) (xrecv putMod_at.o rfl xcl5) (fun _ _ q => q.elim) (fun v8 h8 q8 => ?_)
  have q7 := q8
  obtain ⟨s1, rfl, rfl, e1, e2⟩ := q7
  have hR := s_harm W9.1.1 (by omega) (xs (6 * t + 1)) (xs (6 * t + 2))
  have hf2 : ∀ Q, (harmR w.1.1 (xs (6 * t + 1)) (xs (6 * t + 2))).2.2 = some Q → 2 ≤ Q.1 1 := f_harm W9.1.2
  have hb := rr_harm (w.1.1) (xs (6 * t + 1)) (xs (6 * t + 2))
  refine x_istore dL_law_1419 (Nat.le_of_ble_eq_true rfl) rfl rfl ?_
  refine law_tail (hx.mod s1) (by rw [e1]; exact hR.1.symm) hb.1 (fun q => hR.2.1 q) (by omega) (by omega) (by omega) (by omega) dL_law_1421 dL_law_1422 dL_law_1425 dL_law_1427 dL_law_1432 dL_law_1434 dL_law_1437 dL_law_1438 dL_law_1439 dL_law_1440 dL_law_1442 dL_law_1443 dL_law_1444 dL_law_1449 (by decide) ?_
  exact xP.widen (by omega) (by omega) (K _ _ _ (hx.mod s1).1 (W9.op2 hR hf2 hb.2 (by omega) (by omega) hw1 hw2 e2))
theorem k_repair (hs : xSc Z g b L xs) (hL : L ≤ 3072) (H : xLW v m o od w s h) (W9 : rWM w s n) (hi : 6 * t + 6 ≤ L) (hr : xRm R9 n kc ks) (K : xGo nm tb g l R9 Z b t v m o od n kc ks) : xP g l (mL_law nm) tb R9 Z 1452 [some (.ref b), some (.ref v), some (.ref m), some (.ref o), some (.ref od), some (.int (nI (6 * t))), none, none, none, none] [] h kc ks := by
  obtain ⟨⟨f, hf⟩, hz, hno⟩ := H.o0
  obtain ⟨⟨r1, r2⟩, ⟨r3, r4⟩, r5⟩ := hr
  refine x_aload_n dL_law_1452 rfl ?_
  refine x_aload_n dL_law_1453 rfl ?_
  refine x_iload dL_law_1454 rfl ?_
  refine x_iconst (nI 1) dL_law_1456 (by decide) ?_
  refine x_iadd_n dL_law_1457 ?_
  refine x_ialdB hs dL_law_1458 (by omega) (by omega) ?_
  refine x_aload_n dL_law_1459 rfl ?_
  refine x_iload dL_law_1460 rfl ?_
  refine x_iconst (nI 2) dL_law_1462 (by decide) ?_
  refine x_iadd_n dL_law_1463 ?_
  refine x_ialdB hs dL_law_1464 (by omega) (by omega) ?_
  refine x_aload_n dL_law_1465 rfl ?_
  refine x_callH dL_law_1466 cH_L_196 (w_repair H.1 W9.1.1.aw W9.2.1.1.1 hf hz hno (xs (6 * t + 1)) (xs (6 * t + 2))) rfl rfl ⟨⟨by omega, by show 8 + (5 + 11) + 36 * 9 ≤ _; omega⟩, by omega, by omega⟩ (Nat.le_of_ble_eq_true rfl) (fun _ _ q => q.elim) (fun v9 h9 q9 => ?_)
  obtain ⟨rfl, w1, hx, hw1, hw2⟩ := wrQ.law H q9
  refine x_istore dL_law_1469 (Nat.le_of_ble_eq_true rfl) rfl rfl ?_
  refine x_aload_n dL_law_1471 rfl ?_
  refine x_aload_n dL_law_1472 rfl ?_
  refine x_iload dL_law_1473 rfl ?_
  refine x_iconst (nI 1) dL_law_1475 (by decide) ?_
  refine x_iadd_n dL_law_1476 ?_
  refine x_ialdB hs dL_law_1477 (by omega) (by omega) ?_
  refine x_aload_n dL_law_1478 rfl ?_
  refine x_iload dL_law_1479 rfl ?_
  refine x_iconst (nI 2) dL_law_1481 (by decide) ?_
  refine x_iadd_n dL_law_1482 ?_
  refine x_ialdB hs dL_law_1483 (by omega) (by omega) ?_
  refine xP.eq (h' := putMod h9 m s) rfl rfl rfl hx.1.self ?_
  refine x_callV dL_law_1484 cV_L_198 (c_mRepair (h := h9) W9.1.1.k (by rw [W9.2.1.1.2]; exact W9.2.1.1.1.2) (xs (6 * t + 1)) (xs (6 * t + 2))) rfl rfl ⟨⟨by omega, by show 8 + (6 + 11) + 36 * 5 ≤ _; omega⟩, by omega, by omega⟩ (Nat.le_of_ble_eq_true rfl) (xrecv putMod_at.o rfl xcl5) (fun _ _ q => q.elim) (fun v8 h8 q8 => ?_)
  have q7 := q8
  obtain ⟨s1, rfl, rfl, e1, e2⟩ := q7
  have hR := s_repair W9.1.1 (by omega) (xs (6 * t + 1)) (xs (6 * t + 2))
  have hf2 : ∀ Q, (repairR w.1.1 (xs (6 * t + 1)) (xs (6 * t + 2))).2.2 = some Q → 2 ≤ Q.1 1 := f_repair W9.1.2
  have hb := rr_repair (w.1.1) (xs (6 * t + 1)) (xs (6 * t + 2))
  refine x_istore dL_law_1487 (Nat.le_of_ble_eq_true rfl) rfl rfl ?_
  refine law_tail (hx.mod s1) (by rw [e1]; exact hR.1.symm) hb.1 (fun q => hR.2.1 q) (by omega) (by omega) (by omega) (by omega) dL_law_1489 dL_law_1490 dL_law_1493 dL_law_1495 dL_law_1500 dL_law_1502 dL_law_1505 dL_law_1506 dL_law_1507 dL_law_1508 dL_law_1510 dL_law_1511 dL_law_1512 dL_law_1517 (by decide) ?_
  exact xP.widen (by omega) (by omega) (K _ _ _ (hx.mod s1).1 (W9.op2 hR hf2 hb.2 (by omega) (by omega) hw1 hw2 e2))
theorem k_join (hs : xSc Z g b L xs) (hL : L ≤ 3072) (H : xLW v m o od w s h) (W9 : rWM w s n) (hi : 6 * t + 6 ≤ L) (hr : xRm R9 n kc ks) (K : xGo nm tb g l R9 Z b t v m o od n kc ks) : xP g l (mL_law nm) tb R9 Z 1546 [some (.ref b), some (.ref v), some (.ref m), some (.ref o), some (.ref od), some (.int (nI (6 * t))), none, none, none, none] [] h kc ks := by
  obtain ⟨⟨f, hf⟩, hz, hno⟩ := H.o0
  obtain ⟨⟨r1, r2⟩, ⟨r3, r4⟩, r5⟩ := hr
  refine x_aload_n dL_law_1546 rfl ?_
  refine x_aload_n dL_law_1547 rfl ?_
  refine x_iload dL_law_1548 rfl ?_
  refine x_iconst (nI 1) dL_law_1550 (by decide) ?_
  refine x_iadd_n dL_law_1551 ?_
  refine x_ialdB hs dL_law_1552 (by omega) (by omega) ?_
  refine x_aload_n dL_law_1553 rfl ?_
  refine x_callH dL_law_1554 cH_L_207 (w_join H.1 W9.1.1.aw W9.2.1.1.1 hf hz hno (xs (6 * t + 1))) rfl rfl ⟨⟨by omega, by show 8 + (4 + 11) + 36 * 7 ≤ _; omega⟩, by omega, by omega⟩ (Nat.le_of_ble_eq_true rfl) (fun _ _ q => q.elim) (fun v9 h9 q9 => ?_)
  obtain ⟨rfl, w1, hx, hw1, hw2⟩ := wrQ.law H q9
  refine x_istore dL_law_1557 (Nat.le_of_ble_eq_true rfl) rfl rfl ?_
  refine x_aload_n dL_law_1559 rfl ?_
  refine x_aload_n dL_law_1560 rfl ?_
  refine x_iload dL_law_1561 rfl ?_
  refine x_iconst (nI 1) dL_law_1563 (by decide) ?_
  refine x_iadd_n dL_law_1564 ?_
  refine x_ialdB hs dL_law_1565 (by omega) (by omega) ?_
  refine xP.eq (h' := putMod h9 m s) rfl rfl rfl hx.1.self ?_
  refine x_callV dL_law_1566 cV_L_209 (c_mJoin (h := h9) W9.1.1.k (by rw [W9.2.1.1.2]; exact W9.2.1.1.1.2) (xs (6 * t + 1))) rfl rfl ⟨⟨by omega, by show 8 + (4 + 11) + 36 * 2 ≤ _; omega⟩, by omega, by omega⟩ (Nat.le_of_ble_eq_true rfl) (xrecv putMod_at.o rfl xcl5) (fun _ _ q => q.elim) (fun v8 h8 q8 => ?_)
  have q7 := q8
  obtain ⟨s1, rfl, rfl, e1, e2⟩ := q7
  have hR := s_join W9.1.1 (by omega) (xs (6 * t + 1))
  have hf2 : ∀ Q, (joinR w.1.1 (xs (6 * t + 1))).2.2 = some Q → 2 ≤ Q.1 1 := f_join W9.1.2
  have hb := rr_join (w.1.1) (xs (6 * t + 1))
  refine x_istore dL_law_1569 (Nat.le_of_ble_eq_true rfl) rfl rfl ?_
  refine law_tail (hx.mod s1) (by rw [e1]; exact hR.1.symm) hb.1 (fun q => hR.2.1 q) (by omega) (by omega) (by omega) (by omega) dL_law_1571 dL_law_1572 dL_law_1575 dL_law_1577 dL_law_1582 dL_law_1584 dL_law_1587 dL_law_1588 dL_law_1589 dL_law_1590 dL_law_1592 dL_law_1593 dL_law_1594 dL_law_1599 (by decide) ?_
  exact xP.widen (by omega) (by omega) (K _ _ _ (hx.mod s1).1 (W9.op2 hR hf2 hb.2 (by omega) (by omega) hw1 hw2 e2))
theorem k_meet (hs : xSc Z g b L xs) (hL : L ≤ 3072) (H : xLW v m o od w s h) (W9 : rWM w s n) (hi : 6 * t + 6 ≤ L) (hr : xRm R9 n kc ks) (K : xGo nm tb g l R9 Z b t v m o od n kc ks) : xP g l (mL_law nm) tb R9 Z 1602 [some (.ref b), some (.ref v), some (.ref m), some (.ref o), some (.ref od), some (.int (nI (6 * t))), none, none, none, none] [] h kc ks := by
  obtain ⟨⟨f, hf⟩, hz, hno⟩ := H.o0
  obtain ⟨⟨r1, r2⟩, ⟨r3, r4⟩, r5⟩ := hr
  refine x_aload_n dL_law_1602 rfl ?_
  refine x_aload_n dL_law_1603 rfl ?_
  refine x_iload dL_law_1604 rfl ?_
  refine x_iconst (nI 1) dL_law_1606 (by decide) ?_
  refine x_iadd_n dL_law_1607 ?_
  refine x_ialdB hs dL_law_1608 (by omega) (by omega) ?_
  refine x_aload_n dL_law_1609 rfl ?_
  refine x_iload dL_law_1610 rfl ?_
  refine x_iconst (nI 2) dL_law_1612 (by decide) ?_
  refine x_iadd_n dL_law_1613 ?_
  refine x_ialdB hs dL_law_1614 (by omega) (by omega) ?_
  refine x_aload_n dL_law_1615 rfl ?_
  refine x_callH dL_law_1616 cH_L_210 (w_meet H.1 W9.1.1.aw W9.2.1.1.1 hf hz hno (xs (6 * t + 1)) (xs (6 * t + 2))) rfl rfl ⟨⟨by omega, by show 8 + (5 + 11) + 36 * 8 ≤ _; omega⟩, by omega, by omega⟩ (Nat.le_of_ble_eq_true rfl) (fun _ _ q => q.elim) (fun v9 h9 q9 => ?_)
  obtain ⟨rfl, w1, hx, hw1, hw2⟩ := wrQ.law H q9
  refine x_istore dL_law_1619 (Nat.le_of_ble_eq_true rfl) rfl rfl ?_
  refine x_aload_n dL_law_1621 rfl ?_
  refine x_aload_n dL_law_1622 rfl ?_
  refine x_iload dL_law_1623 rfl ?_
  refine x_iconst (nI 1) dL_law_1625 (by decide) ?_
  refine x_iadd_n dL_law_1626 ?_
  refine x_ialdB hs dL_law_1627 (by omega) (by omega) ?_
  refine x_aload_n dL_law_1628 rfl ?_
  refine x_iload dL_law_1629 rfl ?_
  refine x_iconst (nI 2) dL_law_1631 (by decide) ?_
  refine x_iadd_n dL_law_1632 ?_
  refine x_ialdB hs dL_law_1633 (by omega) (by omega) ?_
  refine xP.eq (h' := putMod h9 m s) rfl rfl rfl hx.1.self ?_
  refine x_callV dL_law_1634 cV_L_212 (c_mMeet (h := h9) W9.1.1.k (by rw [W9.2.1.1.2]; exact W9.2.1.1.1.2) (xs (6 * t + 1)) (xs (6 * t + 2))) rfl rfl ⟨⟨by omega, by show 8 + (3 + 11) + 36 * 2 ≤ _; omega⟩, by omega, by omega⟩ (Nat.le_of_ble_eq_true rfl) (xrecv putMod_at.o rfl xcl5) (fun _ _ q => q.elim) (fun v8 h8 q8 => ?_)
  have q7 := q8
  obtain ⟨s1, rfl, rfl, e1, e2⟩ := q7
  have hR := s_meet W9.1.1 (by omega) (xs (6 * t + 1)) (xs (6 * t + 2))
  have hf2 : ∀ Q, (meetR w.1.1 (xs (6 * t + 1)) (xs (6 * t + 2))).2.2 = some Q → 2 ≤ Q.1 1 := f_meet W9.1.2
  have hb := rr_meet (w.1.1) (xs (6 * t + 1)) (xs (6 * t + 2))
  refine x_istore dL_law_1637 (Nat.le_of_ble_eq_true rfl) rfl rfl ?_
  refine law_tail (hx.mod s1) (by rw [e1]; exact hR.1.symm) hb.1 (fun q => hR.2.1 q) (by omega) (by omega) (by omega) (by omega) dL_law_1639 dL_law_1640 dL_law_1643 dL_law_1645 dL_law_1650 dL_law_1652 dL_law_1655 dL_law_1656 dL_law_1657 dL_law_1658 dL_law_1660 dL_law_1661 dL_law_1662 dL_law_1667 (by decide) ?_
  exact xP.widen (by omega) (by omega) (K _ _ _ (hx.mod s1).1 (W9.op2 hR hf2 hb.2 (by omega) (by omega) hw1 hw2 e2))
theorem k_leave (hs : xSc Z g b L xs) (hL : L ≤ 3072) (H : xLW v m o od w s h) (W9 : rWM w s n) (hi : 6 * t + 6 ≤ L) (hr : xRm R9 n kc ks) (K : xGo nm tb g l R9 Z b t v m o od n kc ks) : xP g l (mL_law nm) tb R9 Z 1670 [some (.ref b), some (.ref v), some (.ref m), some (.ref o), some (.ref od), some (.int (nI (6 * t))), none, none, none, none] [] h kc ks := by
  obtain ⟨⟨f, hf⟩, hz, hno⟩ := H.o0
  obtain ⟨⟨r1, r2⟩, ⟨r3, r4⟩, r5⟩ := hr
  refine x_aload_n dL_law_1670 rfl ?_
  refine x_aload_n dL_law_1671 rfl ?_
  refine x_iload dL_law_1672 rfl ?_
  refine x_iconst (nI 1) dL_law_1674 (by decide) ?_
  refine x_iadd_n dL_law_1675 ?_
  refine x_ialdB hs dL_law_1676 (by omega) (by omega) ?_
  refine x_aload_n dL_law_1677 rfl ?_
  refine x_callH dL_law_1678 cH_L_213 (w_leave H.1 W9.1.1.aw W9.2.1.1.1 hf hz hno (xs (6 * t + 1))) rfl rfl ⟨⟨by omega, by show 8 + (4 + 11) + 36 * 8 ≤ _; omega⟩, by omega, by omega⟩ (Nat.le_of_ble_eq_true rfl) (fun _ _ q => q.elim) (fun v9 h9 q9 => ?_)
  obtain ⟨rfl, w1, hx, hw1, hw2⟩ := wrQ.law H q9
  refine x_istore dL_law_1681 (Nat.le_of_ble_eq_true rfl) rfl rfl ?_
  refine x_aload_n dL_law_1683 rfl ?_
  refine x_aload_n dL_law_1684 rfl ?_
  refine x_iload dL_law_1685 rfl ?_
  refine x_iconst (nI 1) dL_law_1687 (by decide) ?_
  refine x_iadd_n dL_law_1688 ?_
  refine x_ialdB hs dL_law_1689 (by omega) (by omega) ?_
  refine xP.eq (h' := putMod h9 m s) rfl rfl rfl hx.1.self ?_
  refine x_callV dL_law_1690 cV_L_215 (c_mLeave (h := h9) W9.1.1.k (by rw [W9.2.1.1.2]; exact W9.2.1.1.1.2) (xs (6 * t + 1))) rfl rfl ⟨⟨by omega, by show 8 + (6 + 11) + 36 * 3 ≤ _; omega⟩, by omega, by omega⟩ (Nat.le_of_ble_eq_true rfl) (xrecv putMod_at.o rfl xcl5) (fun _ _ q => q.elim) (fun v8 h8 q8 => ?_)
  have q7 := q8
  obtain ⟨s1, rfl, rfl, e1, e2⟩ := q7
  have hR := s_leave W9.1.1 (by omega) W9.1.2 (xs (6 * t + 1))
  have hf2 : ∀ Q, (leaveR w.1.1 (xs (6 * t + 1))).2.2 = some Q → 2 ≤ Q.1 1 := f_leave
  have hb := rr_leave (w.1.1) (xs (6 * t + 1))
  refine x_istore dL_law_1693 (Nat.le_of_ble_eq_true rfl) rfl rfl ?_
  refine law_tail (hx.mod s1) (by rw [e1]; exact hR.1.symm) hb.1 (fun q => hR.2.1 q) (by omega) (by omega) (by omega) (by omega) dL_law_1695 dL_law_1696 dL_law_1699 dL_law_1701 dL_law_1706 dL_law_1708 dL_law_1711 dL_law_1712 dL_law_1713 dL_law_1714 dL_law_1716 dL_law_1717 dL_law_1718 dL_law_1723 (by decide) ?_
  exact xP.widen (by omega) (by omega) (K _ _ _ (hx.mod s1).1 (W9.op2 hR hf2 hb.2 (by omega) (by omega) hw1 hw2 e2))
theorem k_setPledge (hs : xSc Z g b L xs) (hL : L ≤ 3072) (H : xLW v m o od w s h) (W9 : rWM w s n) (hi : 6 * t + 6 ≤ L) (hr : xRm R9 n kc ks) (K : xGo nm tb g l R9 Z b t v m o od n kc ks) : xP g l (mL_law nm) tb R9 Z 1726 [some (.ref b), some (.ref v), some (.ref m), some (.ref o), some (.ref od), some (.int (nI (6 * t))), none, none, none, none] [] h kc ks := by
  obtain ⟨⟨f, hf⟩, hz, hno⟩ := H.o0
  obtain ⟨⟨r1, r2⟩, ⟨r3, r4⟩, r5⟩ := hr
  refine x_aload_n dL_law_1726 rfl ?_
  refine x_aload_n dL_law_1727 rfl ?_
  refine x_iload dL_law_1728 rfl ?_
  refine x_iconst (nI 1) dL_law_1730 (by decide) ?_
  refine x_iadd_n dL_law_1731 ?_
  refine x_ialdB hs dL_law_1732 (by omega) (by omega) ?_
  refine x_aload_n dL_law_1733 rfl ?_
  refine x_iload dL_law_1734 rfl ?_
  refine x_iconst (nI 2) dL_law_1736 (by decide) ?_
  refine x_iadd_n dL_law_1737 ?_
  refine x_ialdB hs dL_law_1738 (by omega) (by omega) ?_
  refine x_aload_n dL_law_1739 rfl ?_
  refine x_callH dL_law_1740 cH_L_216 (w_setPledge H.1 W9.1.1.aw W9.2.1.1.1 hf hz hno (xs (6 * t + 1)) (xs (6 * t + 2))) rfl rfl ⟨⟨by omega, by show 8 + (5 + 11) + 36 * 8 ≤ _; omega⟩, by omega, by omega⟩ (Nat.le_of_ble_eq_true rfl) (fun _ _ q => q.elim) (fun v9 h9 q9 => ?_)
  obtain ⟨rfl, w1, hx, hw1, hw2⟩ := wrQ.law H q9
  refine x_istore dL_law_1743 (Nat.le_of_ble_eq_true rfl) rfl rfl ?_
  refine x_aload_n dL_law_1745 rfl ?_
  refine x_aload_n dL_law_1746 rfl ?_
  refine x_iload dL_law_1747 rfl ?_
  refine x_iconst (nI 1) dL_law_1749 (by decide) ?_
  refine x_iadd_n dL_law_1750 ?_
  refine x_ialdB hs dL_law_1751 (by omega) (by omega) ?_
  refine x_aload_n dL_law_1752 rfl ?_
  refine x_iload dL_law_1753 rfl ?_
  refine x_iconst (nI 2) dL_law_1755 (by decide) ?_
  refine x_iadd_n dL_law_1756 ?_
  refine x_ialdB hs dL_law_1757 (by omega) (by omega) ?_
  refine xP.eq (h' := putMod h9 m s) rfl rfl rfl hx.1.self ?_
  refine x_callV dL_law_1758 cV_L_218 (c_mSetPledge (h := h9) W9.1.1.k (by rw [W9.2.1.1.2]; exact W9.2.1.1.1.2) (xs (6 * t + 1)) (xs (6 * t + 2))) rfl rfl ⟨⟨by omega, by show 8 + (4 + 11) + 36 * 2 ≤ _; omega⟩, by omega, by omega⟩ (Nat.le_of_ble_eq_true rfl) (xrecv putMod_at.o rfl xcl5) (fun _ _ q => q.elim) (fun v8 h8 q8 => ?_)
  have q7 := q8
  obtain ⟨s1, rfl, rfl, e1, e2⟩ := q7
  have hR := s_pledge W9.1.1 (by omega) (xs (6 * t + 1)) (xs (6 * t + 2))
  have hf2 : ∀ Q, (pledgeR w.1.1 (xs (6 * t + 1)) (xs (6 * t + 2))).2.2 = some Q → 2 ≤ Q.1 1 := f_pledge W9.1.2
  have hb := rr_setPledge (w.1.1) (xs (6 * t + 1)) (xs (6 * t + 2))
  refine x_istore dL_law_1761 (Nat.le_of_ble_eq_true rfl) rfl rfl ?_
  refine law_tail (hx.mod s1) (by rw [e1]; exact hR.1.symm) hb.1 (fun q => hR.2.1 q) (by omega) (by omega) (by omega) (by omega) dL_law_1763 dL_law_1764 dL_law_1767 dL_law_1769 dL_law_1774 dL_law_1776 dL_law_1779 dL_law_1780 dL_law_1781 dL_law_1782 dL_law_1784 dL_law_1785 dL_law_1786 dL_law_1791 (by decide) ?_
  exact xP.widen (by omega) (by omega) (K _ _ _ (hx.mod s1).1 (W9.op2 hR hf2 hb.2 (by omega) (by omega) hw1 hw2 e2))
theorem k_restore (hs : xSc Z g b L xs) (hL : L ≤ 3072) (H : xLW v m o od w s h) (W9 : rWM w s n) (hi : 6 * t + 6 ≤ L) (hr : xRm R9 n kc ks) (K : xGo nm tb g l R9 Z b t v m o od n kc ks) : xP g l (mL_law nm) tb R9 Z 1874 [some (.ref b), some (.ref v), some (.ref m), some (.ref o), some (.ref od), some (.int (nI (6 * t))), none, none, none, none] [] h kc ks := by
  obtain ⟨⟨f, hf⟩, hz, hno⟩ := H.o0
  obtain ⟨⟨r1, r2⟩, ⟨r3, r4⟩, r5⟩ := hr
  refine x_aload_n dL_law_1874 rfl ?_
  refine x_aload_n dL_law_1875 rfl ?_
  refine x_iload dL_law_1876 rfl ?_
  refine x_iconst (nI 1) dL_law_1878 (by decide) ?_
  refine x_iadd_n dL_law_1879 ?_
  refine x_ialdB hs dL_law_1880 (by omega) (by omega) ?_
  refine x_aload_n dL_law_1881 rfl ?_
  refine x_callH dL_law_1882 cH_L_227 (w_restore H.1 W9.2.1.1.1 hf hz hno (xs (6 * t + 1))) rfl rfl ⟨⟨by omega, by show 8 + (4 + 11) + 36 * 8 ≤ _; omega⟩, by omega, by omega⟩ (Nat.le_of_ble_eq_true rfl) (fun _ _ q => q.elim) (fun v9 h9 q9 => ?_)
  obtain ⟨rfl, w1, hx, hw1, hw2⟩ := wrQ.law H q9
  refine x_istore dL_law_1885 (Nat.le_of_ble_eq_true rfl) rfl rfl ?_
  refine x_aload_n dL_law_1887 rfl ?_
  refine x_aload_n dL_law_1888 rfl ?_
  refine x_iload dL_law_1889 rfl ?_
  refine x_iconst (nI 1) dL_law_1891 (by decide) ?_
  refine x_iadd_n dL_law_1892 ?_
  refine x_ialdB hs dL_law_1893 (by omega) (by omega) ?_
  refine xP.eq (h' := putMod h9 m s) rfl rfl rfl hx.1.self ?_
  refine x_callV dL_law_1894 cV_L_229 (c_mRestore (h := h9) (by rw [W9.2.1.1.2]; exact W9.2.1.1.1.2) (xs (6 * t + 1))) rfl rfl ⟨⟨by omega, by show 8 + (2 + 11) + 36 * 2 ≤ _; omega⟩, by omega, by omega⟩ (Nat.le_of_ble_eq_true rfl) (xrecv putMod_at.o rfl xcl5) (fun _ _ q => q.elim) (fun v8 h8 q8 => ?_)
  have q7 := q8
  obtain ⟨s1, rfl, rfl, e1, e2⟩ := q7
  obtain ⟨hR0, hf2⟩ := W9.rest (xs (6 * t + 1))
  have hR := hR0.mono (m' := n + 120) (by omega) (by omega)
  have hb := rr_restore (w) (xs (6 * t + 1))
  refine x_istore dL_law_1897 (Nat.le_of_ble_eq_true rfl) rfl rfl ?_
  refine law_tail (hx.mod s1) (by rw [e1]; exact hR.1.symm) hb.1 (fun q => hR.2.1 q) (by omega) (by omega) (by omega) (by omega) dL_law_1899 dL_law_1900 dL_law_1903 dL_law_1905 dL_law_1910 dL_law_1912 dL_law_1915 dL_law_1916 dL_law_1917 dL_law_1918 dL_law_1920 dL_law_1921 dL_law_1922 dL_law_1927 (by decide) ?_
  exact xP.widen (by omega) (by omega) (K _ _ _ (hx.mod s1).1 (W9.op2 hR hf2 hb.2 (by omega) (by omega) hw1 hw2 e2))
theorem k_writtenByte (hs : xSc Z g b L xs) (hL : L ≤ 3072) (H : xLW v m o od w s h) (W9 : rWM w s n) (hi : 6 * t + 6 ≤ L) (hr : xRm R9 n kc ks) (K : xGo nm tb g l R9 Z b t v m o od n kc ks) : xP g l (mL_law nm) tb R9 Z 1943 [some (.ref b), some (.ref v), some (.ref m), some (.ref o), some (.ref od), some (.int (nI (6 * t))), none, none, none, none] [] h kc ks := by
  obtain ⟨⟨f, hf⟩, hz, hno⟩ := H.o0
  obtain ⟨⟨r1, r2⟩, ⟨r3, r4⟩, r5⟩ := hr
  refine x_aload_n dL_law_1943 rfl ?_
  refine x_aload_n dL_law_1944 rfl ?_
  refine x_iload dL_law_1945 rfl ?_
  refine x_iconst (nI 1) dL_law_1947 (by decide) ?_
  refine x_iadd_n dL_law_1948 ?_
  refine x_ialdB hs dL_law_1949 (by omega) (by omega) ?_
  refine x_aload_n dL_law_1950 rfl ?_
  refine x_callH dL_law_1951 cH_L_234 (w_writtenByte H.1 W9.2.2.2.2.1 hf hz hno (xs (6 * t + 1))) rfl rfl ⟨⟨by omega, by show 8 + (4 + 11) + 36 * 7 ≤ _; omega⟩, by omega, by omega⟩ (Nat.le_of_ble_eq_true rfl) (fun _ _ q => q.elim) (fun v9 h9 q9 => ?_)
  obtain ⟨rfl, w1, hx, hw1, hw2⟩ := wrQ.law H q9
  refine x_istore dL_law_1954 (Nat.le_of_ble_eq_true rfl) rfl rfl ?_
  refine x_aload_n dL_law_1956 rfl ?_
  refine x_aload_n dL_law_1957 rfl ?_
  refine x_iload dL_law_1958 rfl ?_
  refine x_iconst (nI 1) dL_law_1960 (by decide) ?_
  refine x_iadd_n dL_law_1961 ?_
  refine x_ialdB hs dL_law_1962 (by omega) (by omega) ?_
  refine xP.eq (h' := putMod h9 m s) rfl rfl rfl hx.1.self ?_
  refine x_callV dL_law_1963 cV_L_236 (c_mWrittenByte (h := h9) (by rw [W9.2.2.2.2.2.1]; have := W9.2.2.2.2.1; omega) (xs (6 * t + 1))) rfl rfl ⟨⟨by omega, by show 8 + (2 + 11) + 36 * 1 ≤ _; omega⟩, by omega, by omega⟩ (Nat.le_of_ble_eq_true rfl) (xrecv putMod_at.o rfl xcl5) (fun _ _ q => q.elim) (fun v8 h8 q8 => ?_)
  have q7 := q8
  obtain ⟨s1, rfl, rfl, e1, e2⟩ := q7
  have hR := s_written (m := n + 120) W9 (xs (6 * t + 1))
  have hf2 : ∀ Q, (writtenR w.2.2.2.2.2 (xs (6 * t + 1))).2.2 = some Q → 2 ≤ Q.1 1 := fun Q e => by rw [ra_writtenByte] at e; cases e
  have hb := rr_writtenByte (w.2.2.2.2.2) (xs (6 * t + 1))
  refine x_istore dL_law_1966 (Nat.le_of_ble_eq_true rfl) rfl rfl ?_
  refine law_tail (hx.mod s1) (by rw [e1]; exact hR.1.symm) hb.1 (fun q => hR.2.1 q) (by omega) (by omega) (by omega) (by omega) dL_law_1968 dL_law_1969 dL_law_1972 dL_law_1974 dL_law_1979 dL_law_1981 dL_law_1984 dL_law_1985 dL_law_1986 dL_law_1987 dL_law_1989 dL_law_1990 dL_law_1991 dL_law_1996 (by decide) ?_
  exact xP.widen (by omega) (by omega) (K _ _ _ (hx.mod s1).1 (W9.op2 hR hf2 hb.2 (by omega) (by omega) hw1 hw2 e2))
end LC
