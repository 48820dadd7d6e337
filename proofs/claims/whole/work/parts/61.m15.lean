/-! ===== the model: rounds ===== -/
/-- rounds of asking over a row, with x and the number of wrong answers: family n of picture p; pictures -/
def mrS (q : (Nat → Nat) × Nat × Nat) (p f : Nat) : (Nat → Nat) × Nat × Nat :=
  if cHeld (rC q.1 p f) = true then (akA q.1 p f (nxtX q.2.1 / 65536 % q.1 0), nxtX q.2.1, q.2.2 + (if rgt q.1 p f (nxtX q.2.1 / 65536 % q.1 0) = true then 0 else 1)) else q
def mrI (q : (Nat → Nat) × Nat × Nat) (p : Nat) : Nat → (Nat → Nat) × Nat × Nat
  | 0 => q
  | n + 1 => mrS (mrI q p n) p n
def mrO (q : (Nat → Nat) × Nat × Nat) : Nat → (Nat → Nat) × Nat × Nat
  | 0 => q
  | n + 1 => mrI (mrO q n) n (q.1 1)
theorem akA_lo {A : Nat → Nat} {p f t k : Nat} (hk : k < 4) : akA A p f t k = A k := by
  have h1 : ∀ (B : Nat → Nat) (i : Nat), ak1 B f i k = B k := fun B i => va_up_ne _ _ (by omega)
  have h2 : ∀ B : Nat → Nat, ak2 B k = B k := fun B => va_up_ne _ _ (by omega)
  have h3 : ∀ B : Nat → Nat, ak3 B p f k = B k := fun B => va_up_ne _ _ (by omega)
  unfold akA
  split
  · rw [h2, h1]
  · rw [h3, h2, h1]
theorem mrS_lo {q : (Nat → Nat) × Nat × Nat} {p f k : Nat} (hk : k < 4) : (mrS q p f).1 k = q.1 k := by
  unfold mrS
  split
  · exact akA_lo hk
  · rfl
theorem mrI_lo {q : (Nat → Nat) × Nat × Nat} {p k : Nat} (hk : k < 4) : ∀ n, (mrI q p n).1 k = q.1 k := by
  intro n
  induction n with
  | zero => rfl
  | succ n ih => rw [mrI, mrS_lo hk, ih]
theorem mrO_lo {q : (Nat → Nat) × Nat × Nat} {k : Nat} (hk : k < 4) : ∀ n, (mrO q n).1 k = q.1 k := by
  intro n
  induction n with
  | zero => rfl
  | succ n ih => rw [mrO, mrI_lo hk, ih]
