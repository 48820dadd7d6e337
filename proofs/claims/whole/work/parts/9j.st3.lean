/-! ===== what the tables say at the law's entry: strings ===== -/
def sW1 (q : String × Nat × String × List Int32) : List Cond := [Cond.exactly (.string q.1 q.2.1) "java/lang/String", Cond.eq (.field (.string q.1 q.2.1) "java/lang/String" "coder" "B") (.int 0), Cond.arrayOf (.field (.string q.1 q.2.1) "java/lang/String" "value" "[B") .byte, Cond.eq (.length (.field (.string q.1 q.2.1) "java/lang/String" "value" "[B")) (.int (Int32.ofNat q.2.2.2.length))]
def sW2 (q : String × Nat × String × List Int32) : List Cond := (List.range q.2.2.2.length).map fun j => Cond.eq (.elem (.field (.string q.1 q.2.1) "java/lang/String" "value" "[B") (.int (Int32.ofNat j))) (.int (q.2.2.2.getD j 0))
theorem st_mem0 : ∀ q ∈ xStr, Cond.stringRef q.1 q.2.1 q.2.2.1 ∈ lw_tbl ∧ q.2.2.2.length < 2 ^ 31 := by decide +kernel
theorem st_mem1 : ∀ q ∈ xStr, ∀ w ∈ sW1 q, w ∈ flatC (Jvm.Cond.and given_1 narrow_1) := by decide +kernel
theorem st_mem2 : ∀ q ∈ xStr, ∀ w ∈ sW2 q, w ∈ flatC (Jvm.Cond.and given_1 narrow_1) := by decide +kernel
section LJ
variable {s : State} {b : Nat}
theorem st_str1 (hts : ∀ w ∈ lw_tbl, w.before #[Value.ref b] s = true) (hgv : (Jvm.Cond.and given_1 narrow_1).before #[Value.ref b] s = true) {A : Nat → Prop} (hA : ∀ a : Nat, a < s.heap.size → ¬ A a) (q : String × Nat × String × List Int32) (hq : q ∈ xStr) :
    ∃ a v : Nat, vk_R q.1 q.2.1 q.2.2.1 a s ∧ va_O "java/lang/String" a A s s.heap ∧ va_OF "java/lang/String" "coder" "B" (.int 0) a A s s.heap ∧ va_OF "java/lang/String" "value" "[B" (.ref v) a A s s.heap ∧ va_T .byte v q.2.2.2.length (fun j => .int (q.2.2.2.getD j 0)) A s s.heap := by
  have hs := flat_of_before _ hgv
  have m1 := st_mem1 q hq
  have m2 := st_mem2 q hq
  obtain ⟨m0, ml⟩ := st_mem0 q hq
  obtain ⟨aK, aV, h1, h2⟩ := vk_Sof (args := #[Value.ref b]) (s := s) (N := 1) (tm := fun _ => .string q.1 q.2.1) (len := [q.2.2.2.length]) (byt := [q.2.2.2]) (A := A)
    (fun i hi => by obtain rfl : i = 0 := by omega
                    exact ml)
    (fun i hi => hs _ (m1 _ (List.mem_cons_self)))
    (fun i hi => hs _ (m1 _ (List.mem_cons_of_mem _ List.mem_cons_self)))
    (fun i hi => hs _ (m1 _ (List.mem_cons_of_mem _ (List.mem_cons_of_mem _ List.mem_cons_self))))
    (fun i hi => by
      obtain rfl : i = 0 := by omega
      exact hs _ (m1 _ (List.mem_cons_of_mem _ (List.mem_cons_of_mem _ (List.mem_cons_of_mem _ List.mem_cons_self)))))
    (fun i hi j hj => by
      obtain rfl : i = 0 := by omega
      exact hs _ (m2 _ (List.mem_map.mpr ⟨j, List.mem_range.mpr hj, rfl⟩)))
    (fun i j hi hj hij => absurd (show i = j by omega) hij) hA
  obtain ⟨k1, k2, k3, k4⟩ := h1.1 0 (by decide)
  have e := h2 0 (by decide)
  exact ⟨aK 0, aV 0, vk_R.of (hts _ m0) e, k1, k2, k3, k4⟩
theorem st_strs (hts : ∀ w ∈ lw_tbl, w.before #[Value.ref b] s = true) (hgv : (Jvm.Cond.and given_1 narrow_1).before #[Value.ref b] s = true) {A : Nat → Prop} (hA : ∀ a : Nat, a < s.heap.size → ¬ A a) :
    ∃ S V : Nat → Nat, ∀ (i : Nat) (q : String × Nat × String × List Int32), xStr[i]? = some q → vk_R q.1 q.2.1 q.2.2.1 (S i) s ∧ va_O "java/lang/String" (S i) A s s.heap ∧ va_OF "java/lang/String" "coder" "B" (.int 0) (S i) A s s.heap ∧ va_OF "java/lang/String" "value" "[B" (.ref (V i)) (S i) A s s.heap ∧ va_T .byte (V i) q.2.2.2.length (fun j => .int (q.2.2.2.getD j 0)) A s s.heap := by
  have h0 : ∀ i : Nat, ∃ p : Nat × Nat, ∀ q : String × Nat × String × List Int32, xStr[i]? = some q → vk_R q.1 q.2.1 q.2.2.1 p.1 s ∧ va_O "java/lang/String" p.1 A s s.heap ∧ va_OF "java/lang/String" "coder" "B" (.int 0) p.1 A s s.heap ∧ va_OF "java/lang/String" "value" "[B" (.ref p.2) p.1 A s s.heap ∧ va_T .byte p.2 q.2.2.2.length (fun j => .int (q.2.2.2.getD j 0)) A s s.heap := by
    intro i
    cases hq : xStr[i]? with
    | none => exact ⟨(0, 0), fun q h => by cases h⟩
    | some q =>
      obtain ⟨a, v, h⟩ := st_str1 hts hgv hA q (List.mem_of_getElem? hq)
      exact ⟨(a, v), fun q' h' => by cases h'; exact h⟩
  obtain ⟨ad, had⟩ := Classical.axiomOfChoice h0
  exact ⟨fun i => (ad i).1, fun i => (ad i).2, fun i q hq => had i q hq⟩
end LJ
