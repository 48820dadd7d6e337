/-! ===== what the tables say at the law's entry: strings ===== -/
def sW1 (q : String × Nat × String × List Int32) : List Cond := [Cond.exactly (.string q.1 q.2.1) "java/lang/String", Cond.eq (.field (.string q.1 q.2.1) "java/lang/String" "coder" "B") (.int 0), Cond.arrayOf (.field (.string q.1 q.2.1) "java/lang/String" "value" "[B") .byte, Cond.eq (.length (.field (.string q.1 q.2.1) "java/lang/String" "value" "[B")) (.int (Int32.ofNat q.2.2.2.length))]
def sW2 (q : String × Nat × String × List Int32) : List Cond := (List.range q.2.2.2.length).map fun j => Cond.eq (.elem (.field (.string q.1 q.2.1) "java/lang/String" "value" "[B") (.int (Int32.ofNat j))) (.int (q.2.2.2.getD j 0))
theorem st_mem0 : ∀ q ∈ xStr, Cond.stringRef q.1 q.2.1 q.2.2.1 ∈ lw_tbl ∧ q.2.2.2.length < 2 ^ 31 := by decide +kernel
def sWq (i : Nat) : List Cond := match xStr[i]? with
  | none => []
  | some q => sW1 q ++ sW2 q
theorem st_w0 : ((flatC (Jvm.Cond.and given_1 narrow_1)).drop 35).take 9 = sWq 0 := by decide +kernel
theorem st_w1 : ((flatC (Jvm.Cond.and given_1 narrow_1)).drop 44).take 10 = sWq 1 := by decide +kernel
theorem st_w2 : ((flatC (Jvm.Cond.and given_1 narrow_1)).drop 54).take 8 = sWq 2 := by decide +kernel
theorem st_w3 : ((flatC (Jvm.Cond.and given_1 narrow_1)).drop 62).take 11 = sWq 3 := by decide +kernel
theorem st_w4 : ((flatC (Jvm.Cond.and given_1 narrow_1)).drop 73).take 10 = sWq 4 := by decide +kernel
theorem st_w5 : ((flatC (Jvm.Cond.and given_1 narrow_1)).drop 83).take 6 = sWq 5 := by decide +kernel
theorem st_w6 : ((flatC (Jvm.Cond.and given_1 narrow_1)).drop 89).take 11 = sWq 6 := by decide +kernel
theorem st_w7 : ((flatC (Jvm.Cond.and given_1 narrow_1)).drop 597).take 9 = sWq 7 := by decide +kernel
theorem st_w8 : ((flatC (Jvm.Cond.and given_1 narrow_1)).drop 607).take 10 = sWq 8 := by decide +kernel
theorem st_w9 : ((flatC (Jvm.Cond.and given_1 narrow_1)).drop 618).take 8 = sWq 9 := by decide +kernel
theorem st_w10 : ((flatC (Jvm.Cond.and given_1 narrow_1)).drop 627).take 11 = sWq 10 := by decide +kernel
theorem st_w11 : ((flatC (Jvm.Cond.and given_1 narrow_1)).drop 639).take 10 = sWq 11 := by decide +kernel
theorem st_w12 : ((flatC (Jvm.Cond.and given_1 narrow_1)).drop 650).take 6 = sWq 12 := by decide +kernel
theorem st_w13 : ((flatC (Jvm.Cond.and given_1 narrow_1)).drop 657).take 11 = sWq 13 := by decide +kernel
theorem st_w14 : ((flatC (Jvm.Cond.and given_1 narrow_1)).drop 100).take 30 = sWq 14 := by decide +kernel
theorem st_w15 : ((flatC (Jvm.Cond.and given_1 narrow_1)).drop 130).take 32 = sWq 15 := by decide +kernel
theorem st_w16 : ((flatC (Jvm.Cond.and given_1 narrow_1)).drop 162).take 27 = sWq 16 := by decide +kernel
theorem st_w17 : ((flatC (Jvm.Cond.and given_1 narrow_1)).drop 189).take 30 = sWq 17 := by decide +kernel
theorem st_w18 : ((flatC (Jvm.Cond.and given_1 narrow_1)).drop 219).take 28 = sWq 18 := by decide +kernel
theorem st_w19 : ((flatC (Jvm.Cond.and given_1 narrow_1)).drop 247).take 31 = sWq 19 := by decide +kernel
theorem st_w20 : ((flatC (Jvm.Cond.and given_1 narrow_1)).drop 278).take 25 = sWq 20 := by decide +kernel
theorem st_w21 : ((flatC (Jvm.Cond.and given_1 narrow_1)).drop 303).take 31 = sWq 21 := by decide +kernel
theorem st_w22 : ((flatC (Jvm.Cond.and given_1 narrow_1)).drop 334).take 21 = sWq 22 := by decide +kernel
theorem st_w23 : ((flatC (Jvm.Cond.and given_1 narrow_1)).drop 355).take 25 = sWq 23 := by decide +kernel
theorem st_w24 : ((flatC (Jvm.Cond.and given_1 narrow_1)).drop 380).take 39 = sWq 24 := by decide +kernel
theorem st_w25 : ((flatC (Jvm.Cond.and given_1 narrow_1)).drop 419).take 16 = sWq 25 := by decide +kernel
theorem st_w26 : ((flatC (Jvm.Cond.and given_1 narrow_1)).drop 435).take 38 = sWq 26 := by decide +kernel
theorem st_w27 : ((flatC (Jvm.Cond.and given_1 narrow_1)).drop 473).take 18 = sWq 27 := by decide +kernel
theorem st_w28 : ((flatC (Jvm.Cond.and given_1 narrow_1)).drop 491).take 30 = sWq 28 := by decide +kernel
theorem st_w29 : ((flatC (Jvm.Cond.and given_1 narrow_1)).drop 521).take 25 = sWq 29 := by decide +kernel
theorem st_w30 : ((flatC (Jvm.Cond.and given_1 narrow_1)).drop 546).take 26 = sWq 30 := by decide +kernel
theorem st_w31 : ((flatC (Jvm.Cond.and given_1 narrow_1)).drop 572).take 25 = sWq 31 := by decide +kernel
theorem st_in {k n i : Nat} (h : ((flatC (Jvm.Cond.and given_1 narrow_1)).drop k).take n = sWq i) : ∀ w ∈ sWq i, w ∈ flatC (Jvm.Cond.and given_1 narrow_1) := fun w hw => List.mem_of_mem_drop (List.mem_of_mem_take (by rw [h]; exact hw))
theorem st_all : ∀ i, i < 32 → ∀ w ∈ sWq i, w ∈ flatC (Jvm.Cond.and given_1 narrow_1) := fun i hi => by
  match i, hi with
  | 0, _ => exact st_in st_w0
  | 1, _ => exact st_in st_w1
  | 2, _ => exact st_in st_w2
  | 3, _ => exact st_in st_w3
  | 4, _ => exact st_in st_w4
  | 5, _ => exact st_in st_w5
  | 6, _ => exact st_in st_w6
  | 7, _ => exact st_in st_w7
  | 8, _ => exact st_in st_w8
  | 9, _ => exact st_in st_w9
  | 10, _ => exact st_in st_w10
  | 11, _ => exact st_in st_w11
  | 12, _ => exact st_in st_w12
  | 13, _ => exact st_in st_w13
  | 14, _ => exact st_in st_w14
  | 15, _ => exact st_in st_w15
  | 16, _ => exact st_in st_w16
  | 17, _ => exact st_in st_w17
  | 18, _ => exact st_in st_w18
  | 19, _ => exact st_in st_w19
  | 20, _ => exact st_in st_w20
  | 21, _ => exact st_in st_w21
  | 22, _ => exact st_in st_w22
  | 23, _ => exact st_in st_w23
  | 24, _ => exact st_in st_w24
  | 25, _ => exact st_in st_w25
  | 26, _ => exact st_in st_w26
  | 27, _ => exact st_in st_w27
  | 28, _ => exact st_in st_w28
  | 29, _ => exact st_in st_w29
  | 30, _ => exact st_in st_w30
  | 31, _ => exact st_in st_w31
  | j + 32, h => exact absurd h (by omega)
theorem st_mem12 (q : String × Nat × String × List Int32) (hq : q ∈ xStr) : (∀ w ∈ sW1 q, w ∈ flatC (Jvm.Cond.and given_1 narrow_1)) ∧ ∀ w ∈ sW2 q, w ∈ flatC (Jvm.Cond.and given_1 narrow_1) := by
  obtain ⟨i, hi, e⟩ := List.getElem_of_mem hq
  have e2 : xStr[i]? = some q := by rw [List.getElem?_eq_getElem hi, e]
  have h := st_all i hi
  have e3 : sWq i = sW1 q ++ sW2 q := by unfold sWq; rw [e2]
  rw [e3] at h
  exact ⟨fun w hw => h w (List.mem_append_left _ hw), fun w hw => h w (List.mem_append_right _ hw)⟩
section LJ
variable {s : State} {b : Nat}
theorem st_str1 (hts : ∀ w ∈ lw_tbl, w.before #[Value.ref b] s = true) (hgv : (Jvm.Cond.and given_1 narrow_1).before #[Value.ref b] s = true) {A : Nat → Prop} (hA : ∀ a : Nat, a < s.heap.size → ¬ A a) (q : String × Nat × String × List Int32) (hq : q ∈ xStr) :
    ∃ a v : Nat, vk_R q.1 q.2.1 q.2.2.1 a s ∧ va_O "java/lang/String" a A s s.heap ∧ va_OF "java/lang/String" "coder" "B" (.int 0) a A s s.heap ∧ va_OF "java/lang/String" "value" "[B" (.ref v) a A s s.heap ∧ va_T .byte v q.2.2.2.length (fun j => .int (q.2.2.2.getD j 0)) A s s.heap := by
  have hs := flat_of_before _ hgv
  obtain ⟨m1, m2⟩ := st_mem12 q hq
  obtain ⟨m0, ml⟩ := st_mem0 q hq
  obtain ⟨aK, aV, h1, h2⟩ := vk_Sof (args := #[Value.ref b]) (s := s) (N := 1) (tm := fun _ => .string q.1 q.2.1) (len := [q.2.2.2.length]) (byt := [q.2.2.2]) (A := A)
    (fun i hi => by obtain rfl : i = 0 := by omega
                    exact ml)
    (fun i hi => hs _ (m1 _ (List.mem_cons_self)))
    (fun i hi => hs _ (m1 _ (List.mem_cons_of_mem _ List.mem_cons_self)))
    (fun i hi => hs _ (m1 _ (List.mem_cons_of_mem _ (List.mem_cons_of_mem _ List.mem_cons_self))))
    (fun i hi => by
      obtain rfl : i = 0 := by omega
      exact hs _ (m1 _ (List.mem_cons_of_mem _ (List.mem_cons_of_mem _ (List.mem_cons_of_mem _ List.mem_cons_self)))))
    (fun i hi j hj => by
      obtain rfl : i = 0 := by omega
      exact hs _ (m2 _ (List.mem_map.mpr ⟨j, List.mem_range.mpr hj, rfl⟩)))
    (fun i j hi hj hij => absurd (show i = j by omega) hij) hA
  obtain ⟨k1, k2, k3, k4⟩ := h1.1 0 (by decide)
  have e := h2 0 (by decide)
  exact ⟨aK 0, aV 0, vk_R.of (hts _ m0) e, k1, k2, k3, k4⟩
theorem st_strs (hts : ∀ w ∈ lw_tbl, w.before #[Value.ref b] s = true) (hgv : (Jvm.Cond.and given_1 narrow_1).before #[Value.ref b] s = true) {A : Nat → Prop} (hA : ∀ a : Nat, a < s.heap.size → ¬ A a) :
    ∃ S V : Nat → Nat, ∀ (i : Nat) (q : String × Nat × String × List Int32), xStr[i]? = some q → vk_R q.1 q.2.1 q.2.2.1 (S i) s ∧ va_O "java/lang/String" (S i) A s s.heap ∧ va_OF "java/lang/String" "coder" "B" (.int 0) (S i) A s s.heap ∧ va_OF "java/lang/String" "value" "[B" (.ref (V i)) (S i) A s s.heap ∧ va_T .byte (V i) q.2.2.2.length (fun j => .int (q.2.2.2.getD j 0)) A s s.heap := by
  have h0 : ∀ i : Nat, ∃ p : Nat × Nat, ∀ q : String × Nat × String × List Int32, xStr[i]? = some q → vk_R q.1 q.2.1 q.2.2.1 p.1 s ∧ va_O "java/lang/String" p.1 A s s.heap ∧ va_OF "java/lang/String" "coder" "B" (.int 0) p.1 A s s.heap ∧ va_OF "java/lang/String" "value" "[B" (.ref p.2) p.1 A s s.heap ∧ va_T .byte p.2 q.2.2.2.length (fun j => .int (q.2.2.2.getD j 0)) A s s.heap := by
    intro i
    cases hq : xStr[i]? with
    | none => exact ⟨(0, 0), fun q h => by cases h⟩
    | some q =>
      obtain ⟨a, v, h⟩ := st_str1 hts hgv hA q (List.mem_of_getElem? hq)
      exact ⟨(a, v), fun q' h' => by cases h'; exact h⟩
  obtain ⟨ad, had⟩ := Classical.axiomOfChoice h0
  exact ⟨fun i => (ad i).1, fun i => (ad i).2, fun i q hq => had i q hq⟩
end LJ
