/-! ===== the law: whole_start ===== -/
theorem st_G {s : State} {b : Nat} (hts : ∀ w ∈ lw_tbl, w.before #[Value.ref b] s = true) (hgv : (Jvm.Cond.and given_1 narrow_1).before #[Value.ref b] s = true) : ∃ g : xG, g.1 = s.heap.size ∧ g.2.1 = s.heap ∧ xI g s s.heap := by
  obtain ⟨dC, dI, aC, hK⟩ := st_K hts
  have hA : ∀ a : Nat, a < s.heap.size → ¬ s.heap.size ≤ a := fun a h => Nat.not_le.mpr h
  obtain ⟨S, V, hS⟩ := st_strs (A := fun q => s.heap.size ≤ q) hts hgv hA
  obtain ⟨z1, z2, z3, z4⟩ := st_zq (A := fun q => s.heap.size ≤ q) hts hgv hA
  exact ⟨(s.heap.size, s.heap, dC, dI, aC, S, V), rfl, rfl, ⟨hK _ _ _ _, st_over hts, st_nest hts, st_cast hts, st_ncast hgv, st_decl hts⟩, z1, z2, z3, z4, fun i q hq => hS i q hq⟩
theorem tableOf_map (T : List ExceptionTableEntry) : T = tableOf (T.map fun x => (x.startPc, x.endPc, x.handlerPc, x.catchType)) := by
  unfold tableOf
  rw [List.map_map]
  exact (List.map_id T).symm
theorem whole_start {p : Program} {e : Env} {s : State} {m : MethodId} {below : List Frame} {meth : Method} {c : Code} (l : Launch) (hflags : l.flags = flags0) {b L : Nat} {xs : Nat → Int32} (hL : L ≤ 3072) (C0 : lw_At p s m meth c b L xs) : W p l e room_1 s m #[Value.ref b] below meth c s.heap [] 0 0 (lw_Z below #[Value.ref b] s) (entryFrame m ([Value.ref b] : List Value).toArray 10) := by
  obtain ⟨hx, hb, hr, hml, hown, hts, hX, hbl, hlocks, hgv⟩ := id C0
  obtain ⟨g, g1, g2, hI⟩ := st_G hts hgv
  have hst : l.stackTraces = false := by
    unfold Launch.stackTraces
    rw [hflags]
    decide +kernel
  have hs : xSc (lw9 g b L xs) g b L xs := ⟨by rw [g1]; exact hbl, fun below args s t q _ _ q3 => absurd q3 q⟩
  have B : xB g l (mL_law meth.name) (c.exceptionTable.toList.map fun x => (x.startPc, x.endPc, x.handlerPc, x.catchType)) p s m #[Value.ref b] meth c := ⟨hx, hb, hr, hml, hown, fun w hw => hts w (List.mem_filter.mp hw).1, hlocks, rfl, tableOf_map _, hI, by rw [g1]; exact Nat.le_refl _, hst⟩
  have K := law_open (nm := meth.name) (tb := c.exceptionTable.toList.map fun x => (x.startPc, x.endPc, x.handlerPc, x.catchType)) (g := g) (l := l) (R9 := room_1) (hf := fun _ => none) (v := s.heap.size) hs hL ⟨by decide, by decide⟩ ⟨by decide, by decide⟩ law_exit
  have hl0 := lv_entry ([.ref b] : List Value) (n := 10) (Nat.le_of_ble_eq_true rfl)
  rw [lg_entry_eq]
  have hC : xC g ((fun _ => none), s.heap.size) s.heap := ⟨rfl, by rw [g1]; exact Nat.le_refl _, fun q hq => by rw [g2], fun a e h => by cases h⟩
  have w := K p e s m #[Value.ref b] below meth c s.heap [] _ B hC va_S.rf (xL.sub hl0 fun k v hk => ?_)
  · intro T hT X
    obtain ⟨t, a1, a2⟩ := w T hT X
    exact ⟨t, a1, a2 g1.symm rfl hX⟩
  · have := xV_args ([.ref b] : List Value) 9 0 k hk
    rwa [Nat.zero_add] at this
