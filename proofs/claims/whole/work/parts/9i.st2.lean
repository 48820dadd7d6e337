/-! ===== what the tables say at the law's entry: arrays, strings ===== -/
section LI9
variable {s : State} {b : Nat}
theorem st_arr {ty : FieldType} (h : (Cond.arrayClass ty).before #[Value.ref b] s = true) : ∃ cA : ClassId, ArrOfT s cA ty ∧ s.vm.findClass ("[" ++ ty.toString) = some cA := by
  obtain ⟨cA, kA, comp, h1, h2, h3⟩ := Cond.arrayClass_spec h
  exact ⟨cA, fun n z => ⟨fun k h => (by cases h), kA, h2, comp, h3⟩, h1⟩
theorem st_arrO (hts : ∀ w ∈ lw_tbl, w.before #[Value.ref b] s = true) : ∃ cA : ClassId, ArrOfT s cA (.object "VillagePhotos$Archive") ∧ va_RA s cA (.object "VillagePhotos$Archive") := by
  have h := hts (.arrayOver (.object "VillagePhotos$Archive")) (by decide +kernel)
  obtain ⟨comp, c, k, h1, h2, h3, h4, h5⟩ := Cond.arrayOver_spec h
  exact ⟨c, fun n z => ⟨fun k h => (by cases h), k, h3, comp, h4⟩, k, comp, h3, h4, h1, h5⟩
theorem st_K (hts : ∀ w ∈ lw_tbl, w.before #[Value.ref b] s = true) : ∃ (dC : Nat → ClassId) (dI : Nat → Nat → Nat) (aC : Nat → ClassId), ∀ (z : Nat) (H : Heap) (S V : Nat → Nat), va_K (gD (z, H, dC, dI, aC, S, V)) vwCl (xtys (z, H, dC, dI, aC, S, V)) s := by
  obtain ⟨dC, dI, hK⟩ := st_cls hts
  obtain ⟨a0, p0, q0⟩ := st_arr (hts (.arrayClass .int) (by decide +kernel))
  obtain ⟨a1, p1, q1⟩ := st_arr (hts (.arrayClass .byte) (by decide +kernel))
  obtain ⟨a2, p2, q2⟩ := st_arr (hts (.arrayClass .long) (by decide +kernel))
  obtain ⟨a3, p3, q3⟩ := st_arr (hts (.arrayClass .boolean) (by decide +kernel))
  obtain ⟨a4, p4, q4⟩ := st_arr (hts (.arrayClass .double) (by decide +kernel))
  obtain ⟨a5, p5, q5⟩ := st_arrO hts
  refine ⟨dC, dI, fun k => [a0, a1, a2, a3, a4, a5].getD k a0, fun z H S V => ⟨hK, fun k q hq => ?_⟩⟩
  match k, hq with
  | 0, hq => cases hq; exact ⟨p0, q0⟩
  | 1, hq => cases hq; exact ⟨p1, q1⟩
  | 2, hq => cases hq; exact ⟨p2, q2⟩
  | 3, hq => cases hq; exact ⟨p3, q3⟩
  | 4, hq => cases hq; exact ⟨p4, q4⟩
  | 5, hq => cases hq; exact ⟨p5, q5⟩
  | k + 6, hq => simp [xtys] at hq
end LI9
