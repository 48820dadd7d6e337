/-! ===== the model in the heap: the object at m, its rows behind it ===== -/
/-- eight rows of numbers, twelve numbers, two that may be below 0, what is saved, and x -/
abbrev Mo := (Nat → Nat → Nat) × (Nat → Nat) × (Nat → Int32) × (Nat → Bool) × Int64
def mR (s : Mo) (j : Nat) (f : Nat → Nat) : Mo := (va_up s.1 j f, s.2)
def mN (s : Mo) (j x : Nat) : Mo := (s.1, va_up s.2.1 j x, s.2.2)
def mZ (s : Mo) (j : Nat) (x : Int32) : Mo := (s.1, s.2.1, va_up s.2.2.1 j x, s.2.2.2)
def mB (s : Mo) (f : Nat → Bool) : Mo := (s.1, s.2.1, s.2.2.1, f, s.2.2.2.2)
def mX (s : Mo) (x : Int64) : Mo := (s.1, s.2.1, s.2.2.1, s.2.2.2.1, x)
def modE (m : Nat) (s : Mo) (k : Nat) : xE := match k with
  | 0 => .inr (5, [.ref (m + 1), .ref (m + 2), .ref (m + 3), .ref (m + 4), .ref (m + 5), .ref (m + 6), .int (nI (s.2.1 0)), .int (nI (s.2.1 1)), .ref (m + 7), .int (nI (s.2.1 2)), .int (nI (s.2.1 3)), .int (nI (s.2.1 4)), .int (nI (s.2.1 5)), .int (nI (s.2.1 6)), .int (s.2.2.1 0), .int (nI (s.2.1 7)), .int (s.2.2.1 1), .long s.2.2.2.2, .int (nI (s.2.1 8)), .ref (m + 8), .int (nI (s.2.1 9)), .int (nI (s.2.1 10)), .ref (m + 9), .int (nI (s.2.1 11))])
  | 1 => .inl (0, 353, .inl (fun q => nI (s.1 0 q)))
  | 2 => .inl (0, 353, .inl (fun q => nI (s.1 1 q)))
  | 3 => .inl (0, 353, .inl (fun q => nI (s.1 2 q)))
  | 4 => .inl (0, 2824, .inl (fun q => nI (s.1 3 q)))
  | 5 => .inl (0, 706, .inl (fun q => nI (s.1 4 q)))
  | 6 => .inl (3, 2, .inl (fun q => xb (s.2.2.2.1 q)))
  | 7 => .inl (0, 600, .inl (fun q => nI (s.1 5 q)))
  | 8 => .inl (0, 120, .inl (fun q => nI (s.1 6 q)))
  | _ => .inl (0, 1500, .inl (fun q => nI (s.1 7 q)))
def ModAt (h : xH) (m : Nat) (s : Mo) : Prop := ∀ k, k < 10 → h.1 (m + k) = some (modE m s k)
def putMod (h : xH) (m : Nat) (s : Mo) : xH := (fun a => if m ≤ a ∧ a < m + 10 then some (modE m s (a - m)) else h.1 a, h.2)
theorem putMod_in {h : xH} {m : Nat} {s : Mo} {a : Nat} (h1 : m ≤ a) (h2 : a < m + 10) : (putMod h m s).1 a = some (modE m s (a - m)) := by
  unfold putMod
  dsimp only
  rw [if_pos ⟨h1, h2⟩]
theorem putMod_out {h : xH} {m : Nat} {s : Mo} {a : Nat} (h1 : a < m ∨ m + 10 ≤ a) : (putMod h m s).1 a = h.1 a := by
  unfold putMod
  dsimp only
  rw [if_neg (by omega)]
theorem putMod_at {h : xH} {m : Nat} {s : Mo} : ModAt (putMod h m s) m s := by
  intro k hk
  rw [putMod_in (by omega) (by omega), show m + k - m = k by omega]
theorem putMod_put {h : xH} {m : Nat} {s s' : Mo} : putMod (putMod h m s) m s' = putMod h m s' := by
  refine xH_ext (fun a => ?_) rfl
  unfold putMod
  dsimp only
  split
  · rfl
  · rfl
theorem putMod_self {h : xH} {m : Nat} {s : Mo} (hA : ModAt h m s) : putMod h m s = h := by
  refine xH_ext (fun a => ?_) rfl
  unfold putMod
  dsimp only
  split
  · have := hA (a - m) (by omega)
    rw [show m + (a - m) = a by omega] at this
    exact this.symm
  · rfl
theorem hset_mod {h : xH} {m : Nat} {s s' : Mo} {e : xE} (k : Nat) (hk : k < 10) (he : modE m s' k = e) (hr : ∀ j, j < 10 → j ≠ k → modE m s' j = modE m s j) : hset (putMod h m s) (m + k) e = putMod h m s' := by
  subst he
  refine xH_ext (fun a => ?_) rfl
  unfold hset putMod
  dsimp only
  by_cases h1 : a = m + k
  · subst h1
    rw [if_pos rfl, if_pos (by omega), show m + k - m = k by omega]
  · rw [if_neg h1]
    split
    · rw [hr (a - m) (by omega) (by omega)]
    · rfl
theorem ModAt.same {h h' : xH} {m : Nat} {s : Mo} (hA : ModAt h m s) (hk : ∀ a, m ≤ a → a < m + 10 → h'.1 a = h.1 a) : ModAt h' m s := fun k hk9 => by rw [hk _ (by omega) (by omega)]; exact hA k hk9
theorem ModAt.o {h : xH} {m : Nat} {s : Mo} (hA : ModAt h m s) : h.1 m = some (modE m s 0) := hA 0 (by omega)
theorem ModAt.a {h : xH} {m : Nat} {s : Mo} (hA : ModAt h m s) : h.1 (m + 1) = some (.inl (0, 353, .inl (fun q => nI (s.1 0 q)))) := hA 1 (by omega)
theorem ModAt.aside {h : xH} {m : Nat} {s : Mo} (hA : ModAt h m s) : h.1 (m + 2) = some (.inl (0, 353, .inl (fun q => nI (s.1 1 q)))) := hA 2 (by omega)
theorem ModAt.tried {h : xH} {m : Nat} {s : Mo} (hA : ModAt h m s) : h.1 (m + 3) = some (.inl (0, 353, .inl (fun q => nI (s.1 2 q)))) := hA 3 (by omega)
theorem ModAt.kept {h : xH} {m : Nat} {s : Mo} (hA : ModAt h m s) : h.1 (m + 4) = some (.inl (0, 2824, .inl (fun q => nI (s.1 3 q)))) := hA 4 (by omega)
theorem ModAt.saved {h : xH} {m : Nat} {s : Mo} (hA : ModAt h m s) : h.1 (m + 5) = some (.inl (0, 706, .inl (fun q => nI (s.1 4 q)))) := hA 5 (by omega)
theorem ModAt.isSaved {h : xH} {m : Nat} {s : Mo} (hA : ModAt h m s) : h.1 (m + 6) = some (.inl (3, 2, .inl (fun q => xb (s.2.2.2.1 q)))) := hA 6 (by omega)
theorem ModAt.buffer {h : xH} {m : Nat} {s : Mo} (hA : ModAt h m s) : h.1 (m + 7) = some (.inl (0, 600, .inl (fun q => nI (s.1 5 q)))) := hA 7 (by omega)
theorem ModAt.got {h : xH} {m : Nat} {s : Mo} (hA : ModAt h m s) : h.1 (m + 8) = some (.inl (0, 120, .inl (fun q => nI (s.1 6 q)))) := hA 8 (by omega)
theorem ModAt.written {h : xH} {m : Nat} {s : Mo} (hA : ModAt h m s) : h.1 (m + 9) = some (.inl (0, 1500, .inl (fun q => nI (s.1 7 q)))) := hA 9 (by omega)
theorem lt10 {P : Nat → Prop} (h : P 0 ∧ P 1 ∧ P 2 ∧ P 3 ∧ P 4 ∧ P 5 ∧ P 6 ∧ P 7 ∧ P 8 ∧ P 9) : ∀ j, j < 10 → P j := by
  intro j hj
  obtain ⟨h0, h1, h2, h3, h4, h5, h6, h7, h8, h9⟩ := h
  match j, hj with
  | 0, _ => exact h0
  | 1, _ => exact h1
  | 2, _ => exact h2
  | 3, _ => exact h3
  | 4, _ => exact h4
  | 5, _ => exact h5
  | 6, _ => exact h6
  | 7, _ => exact h7
  | 8, _ => exact h8
  | 9, _ => exact h9
section XM
variable {g : xG} {l : Launch} {M : xM} {tb : List (Nat × Nat × Nat × Nat)} {R : Room} {Z : List Frame → Array Value → State → State → Prop} {pc : Nat} {V : List (Option Value)} {S : List Value} {h : xH} {kc ks : Nat} {m : Nat} {s : Mo}
theorem xq_X6_keptMany {x : Nat} {i : Nat} (hd : decode M.2.1 pc = .ok (.putfield i, 3)) (hF : xF M.1.cls i 5 6) (K : xP g l M tb R Z (pc + 3) V S (putMod h m (mN s 0 x)) kc ks) : xP g l M tb R Z pc V (.int (nI x) :: .ref m :: S) (putMod h m s) kc ks := by
  refine x_putf hd hF putMod_at.o rfl rfl rfl (Nat.le_of_ble_eq_true rfl) ?_
  have e : hset (putMod h m s) m (.inr (5, List.set [.ref (m + 1), .ref (m + 2), .ref (m + 3), .ref (m + 4), .ref (m + 5), .ref (m + 6), .int (nI (s.2.1 0)), .int (nI (s.2.1 1)), .ref (m + 7), .int (nI (s.2.1 2)), .int (nI (s.2.1 3)), .int (nI (s.2.1 4)), .int (nI (s.2.1 5)), .int (nI (s.2.1 6)), .int (s.2.2.1 0), .int (nI (s.2.1 7)), .int (s.2.2.1 1), .long s.2.2.2.2, .int (nI (s.2.1 8)), .ref (m + 8), .int (nI (s.2.1 9)), .int (nI (s.2.1 10)), .ref (m + 9), .int (nI (s.2.1 11))] 6 (.int (nI x)))) = putMod h m (mN s 0 x) := hset_mod 0 (by decide) rfl (lt10 ⟨fun q => absurd rfl q, fun _ => rfl, fun _ => rfl, fun _ => rfl, fun _ => rfl, fun _ => rfl, fun _ => rfl, fun _ => rfl, fun _ => rfl, fun _ => rfl⟩)
  rw [← e] at K
  exact K
theorem xq_X6_thrown {x : Nat} {i : Nat} (hd : decode M.2.1 pc = .ok (.putfield i, 3)) (hF : xF M.1.cls i 5 7) (K : xP g l M tb R Z (pc + 3) V S (putMod h m (mN s 1 x)) kc ks) : xP g l M tb R Z pc V (.int (nI x) :: .ref m :: S) (putMod h m s) kc ks := by
  refine x_putf hd hF putMod_at.o rfl rfl rfl (Nat.le_of_ble_eq_true rfl) ?_
  have e : hset (putMod h m s) m (.inr (5, List.set [.ref (m + 1), .ref (m + 2), .ref (m + 3), .ref (m + 4), .ref (m + 5), .ref (m + 6), .int (nI (s.2.1 0)), .int (nI (s.2.1 1)), .ref (m + 7), .int (nI (s.2.1 2)), .int (nI (s.2.1 3)), .int (nI (s.2.1 4)), .int (nI (s.2.1 5)), .int (nI (s.2.1 6)), .int (s.2.2.1 0), .int (nI (s.2.1 7)), .int (s.2.2.1 1), .long s.2.2.2.2, .int (nI (s.2.1 8)), .ref (m + 8), .int (nI (s.2.1 9)), .int (nI (s.2.1 10)), .ref (m + 9), .int (nI (s.2.1 11))] 7 (.int (nI x)))) = putMod h m (mN s 1 x) := hset_mod 0 (by decide) rfl (lt10 ⟨fun q => absurd rfl q, fun _ => rfl, fun _ => rfl, fun _ => rfl, fun _ => rfl, fun _ => rfl, fun _ => rfl, fun _ => rfl, fun _ => rfl, fun _ => rfl⟩)
  rw [← e] at K
  exact K
theorem xq_X6_buffered {x : Nat} {i : Nat} (hd : decode M.2.1 pc = .ok (.putfield i, 3)) (hF : xF M.1.cls i 5 9) (K : xP g l M tb R Z (pc + 3) V S (putMod h m (mN s 2 x)) kc ks) : xP g l M tb R Z pc V (.int (nI x) :: .ref m :: S) (putMod h m s) kc ks := by
  refine x_putf hd hF putMod_at.o rfl rfl rfl (Nat.le_of_ble_eq_true rfl) ?_
  have e : hset (putMod h m s) m (.inr (5, List.set [.ref (m + 1), .ref (m + 2), .ref (m + 3), .ref (m + 4), .ref (m + 5), .ref (m + 6), .int (nI (s.2.1 0)), .int (nI (s.2.1 1)), .ref (m + 7), .int (nI (s.2.1 2)), .int (nI (s.2.1 3)), .int (nI (s.2.1 4)), .int (nI (s.2.1 5)), .int (nI (s.2.1 6)), .int (s.2.2.1 0), .int (nI (s.2.1 7)), .int (s.2.2.1 1), .long s.2.2.2.2, .int (nI (s.2.1 8)), .ref (m + 8), .int (nI (s.2.1 9)), .int (nI (s.2.1 10)), .ref (m + 9), .int (nI (s.2.1 11))] 9 (.int (nI x)))) = putMod h m (mN s 2 x) := hset_mod 0 (by decide) rfl (lt10 ⟨fun q => absurd rfl q, fun _ => rfl, fun _ => rfl, fun _ => rfl, fun _ => rfl, fun _ => rfl, fun _ => rfl, fun _ => rfl, fun _ => rfl, fun _ => rfl⟩)
  rw [← e] at K
  exact K
theorem xq_X6_at {x : Nat} {i : Nat} (hd : decode M.2.1 pc = .ok (.putfield i, 3)) (hF : xF M.1.cls i 5 10) (K : xP g l M tb R Z (pc + 3) V S (putMod h m (mN s 3 x)) kc ks) : xP g l M tb R Z pc V (.int (nI x) :: .ref m :: S) (putMod h m s) kc ks := by
  refine x_putf hd hF putMod_at.o rfl rfl rfl (Nat.le_of_ble_eq_true rfl) ?_
  have e : hset (putMod h m s) m (.inr (5, List.set [.ref (m + 1), .ref (m + 2), .ref (m + 3), .ref (m + 4), .ref (m + 5), .ref (m + 6), .int (nI (s.2.1 0)), .int (nI (s.2.1 1)), .ref (m + 7), .int (nI (s.2.1 2)), .int (nI (s.2.1 3)), .int (nI (s.2.1 4)), .int (nI (s.2.1 5)), .int (nI (s.2.1 6)), .int (s.2.2.1 0), .int (nI (s.2.1 7)), .int (s.2.2.1 1), .long s.2.2.2.2, .int (nI (s.2.1 8)), .ref (m + 8), .int (nI (s.2.1 9)), .int (nI (s.2.1 10)), .ref (m + 9), .int (nI (s.2.1 11))] 10 (.int (nI x)))) = putMod h m (mN s 3 x) := hset_mod 0 (by decide) rfl (lt10 ⟨fun q => absurd rfl q, fun _ => rfl, fun _ => rfl, fun _ => rfl, fun _ => rfl, fun _ => rfl, fun _ => rfl, fun _ => rfl, fun _ => rfl, fun _ => rfl⟩)
  rw [← e] at K
  exact K
theorem xq_X6_behind {x : Nat} {i : Nat} (hd : decode M.2.1 pc = .ok (.putfield i, 3)) (hF : xF M.1.cls i 5 11) (K : xP g l M tb R Z (pc + 3) V S (putMod h m (mN s 4 x)) kc ks) : xP g l M tb R Z pc V (.int (nI x) :: .ref m :: S) (putMod h m s) kc ks := by
  refine x_putf hd hF putMod_at.o rfl rfl rfl (Nat.le_of_ble_eq_true rfl) ?_
  have e : hset (putMod h m s) m (.inr (5, List.set [.ref (m + 1), .ref (m + 2), .ref (m + 3), .ref (m + 4), .ref (m + 5), .ref (m + 6), .int (nI (s.2.1 0)), .int (nI (s.2.1 1)), .ref (m + 7), .int (nI (s.2.1 2)), .int (nI (s.2.1 3)), .int (nI (s.2.1 4)), .int (nI (s.2.1 5)), .int (nI (s.2.1 6)), .int (s.2.2.1 0), .int (nI (s.2.1 7)), .int (s.2.2.1 1), .long s.2.2.2.2, .int (nI (s.2.1 8)), .ref (m + 8), .int (nI (s.2.1 9)), .int (nI (s.2.1 10)), .ref (m + 9), .int (nI (s.2.1 11))] 11 (.int (nI x)))) = putMod h m (mN s 4 x) := hset_mod 0 (by decide) rfl (lt10 ⟨fun q => absurd rfl q, fun _ => rfl, fun _ => rfl, fun _ => rfl, fun _ => rfl, fun _ => rfl, fun _ => rfl, fun _ => rfl, fun _ => rfl, fun _ => rfl⟩)
  rw [← e] at K
  exact K
theorem xq_X6_kind {x : Nat} {i : Nat} (hd : decode M.2.1 pc = .ok (.putfield i, 3)) (hF : xF M.1.cls i 5 12) (K : xP g l M tb R Z (pc + 3) V S (putMod h m (mN s 5 x)) kc ks) : xP g l M tb R Z pc V (.int (nI x) :: .ref m :: S) (putMod h m s) kc ks := by
  refine x_putf hd hF putMod_at.o rfl rfl rfl (Nat.le_of_ble_eq_true rfl) ?_
  have e : hset (putMod h m s) m (.inr (5, List.set [.ref (m + 1), .ref (m + 2), .ref (m + 3), .ref (m + 4), .ref (m + 5), .ref (m + 6), .int (nI (s.2.1 0)), .int (nI (s.2.1 1)), .ref (m + 7), .int (nI (s.2.1 2)), .int (nI (s.2.1 3)), .int (nI (s.2.1 4)), .int (nI (s.2.1 5)), .int (nI (s.2.1 6)), .int (s.2.2.1 0), .int (nI (s.2.1 7)), .int (s.2.2.1 1), .long s.2.2.2.2, .int (nI (s.2.1 8)), .ref (m + 8), .int (nI (s.2.1 9)), .int (nI (s.2.1 10)), .ref (m + 9), .int (nI (s.2.1 11))] 12 (.int (nI x)))) = putMod h m (mN s 5 x) := hset_mod 0 (by decide) rfl (lt10 ⟨fun q => absurd rfl q, fun _ => rfl, fun _ => rfl, fun _ => rfl, fun _ => rfl, fun _ => rfl, fun _ => rfl, fun _ => rfl, fun _ => rfl, fun _ => rfl⟩)
  rw [← e] at K
  exact K
theorem xq_X6_number {x : Nat} {i : Nat} (hd : decode M.2.1 pc = .ok (.putfield i, 3)) (hF : xF M.1.cls i 5 13) (K : xP g l M tb R Z (pc + 3) V S (putMod h m (mN s 6 x)) kc ks) : xP g l M tb R Z pc V (.int (nI x) :: .ref m :: S) (putMod h m s) kc ks := by
  refine x_putf hd hF putMod_at.o rfl rfl rfl (Nat.le_of_ble_eq_true rfl) ?_
  have e : hset (putMod h m s) m (.inr (5, List.set [.ref (m + 1), .ref (m + 2), .ref (m + 3), .ref (m + 4), .ref (m + 5), .ref (m + 6), .int (nI (s.2.1 0)), .int (nI (s.2.1 1)), .ref (m + 7), .int (nI (s.2.1 2)), .int (nI (s.2.1 3)), .int (nI (s.2.1 4)), .int (nI (s.2.1 5)), .int (nI (s.2.1 6)), .int (s.2.2.1 0), .int (nI (s.2.1 7)), .int (s.2.2.1 1), .long s.2.2.2.2, .int (nI (s.2.1 8)), .ref (m + 8), .int (nI (s.2.1 9)), .int (nI (s.2.1 10)), .ref (m + 9), .int (nI (s.2.1 11))] 13 (.int (nI x)))) = putMod h m (mN s 6 x) := hset_mod 0 (by decide) rfl (lt10 ⟨fun q => absurd rfl q, fun _ => rfl, fun _ => rfl, fun _ => rfl, fun _ => rfl, fun _ => rfl, fun _ => rfl, fun _ => rfl, fun _ => rfl, fun _ => rfl⟩)
  rw [← e] at K
  exact K
theorem xq_X6_wrongAt {x : Nat} {i : Nat} (hd : decode M.2.1 pc = .ok (.putfield i, 3)) (hF : xF M.1.cls i 5 15) (K : xP g l M tb R Z (pc + 3) V S (putMod h m (mN s 7 x)) kc ks) : xP g l M tb R Z pc V (.int (nI x) :: .ref m :: S) (putMod h m s) kc ks := by
  refine x_putf hd hF putMod_at.o rfl rfl rfl (Nat.le_of_ble_eq_true rfl) ?_
  have e : hset (putMod h m s) m (.inr (5, List.set [.ref (m + 1), .ref (m + 2), .ref (m + 3), .ref (m + 4), .ref (m + 5), .ref (m + 6), .int (nI (s.2.1 0)), .int (nI (s.2.1 1)), .ref (m + 7), .int (nI (s.2.1 2)), .int (nI (s.2.1 3)), .int (nI (s.2.1 4)), .int (nI (s.2.1 5)), .int (nI (s.2.1 6)), .int (s.2.2.1 0), .int (nI (s.2.1 7)), .int (s.2.2.1 1), .long s.2.2.2.2, .int (nI (s.2.1 8)), .ref (m + 8), .int (nI (s.2.1 9)), .int (nI (s.2.1 10)), .ref (m + 9), .int (nI (s.2.1 11))] 15 (.int (nI x)))) = putMod h m (mN s 7 x) := hset_mod 0 (by decide) rfl (lt10 ⟨fun q => absurd rfl q, fun _ => rfl, fun _ => rfl, fun _ => rfl, fun _ => rfl, fun _ => rfl, fun _ => rfl, fun _ => rfl, fun _ => rfl, fun _ => rfl⟩)
  rw [← e] at K
  exact K
theorem xq_X6_unused {x : Nat} {i : Nat} (hd : decode M.2.1 pc = .ok (.putfield i, 3)) (hF : xF M.1.cls i 5 18) (K : xP g l M tb R Z (pc + 3) V S (putMod h m (mN s 8 x)) kc ks) : xP g l M tb R Z pc V (.int (nI x) :: .ref m :: S) (putMod h m s) kc ks := by
  refine x_putf hd hF putMod_at.o rfl rfl rfl (Nat.le_of_ble_eq_true rfl) ?_
  have e : hset (putMod h m s) m (.inr (5, List.set [.ref (m + 1), .ref (m + 2), .ref (m + 3), .ref (m + 4), .ref (m + 5), .ref (m + 6), .int (nI (s.2.1 0)), .int (nI (s.2.1 1)), .ref (m + 7), .int (nI (s.2.1 2)), .int (nI (s.2.1 3)), .int (nI (s.2.1 4)), .int (nI (s.2.1 5)), .int (nI (s.2.1 6)), .int (s.2.2.1 0), .int (nI (s.2.1 7)), .int (s.2.2.1 1), .long s.2.2.2.2, .int (nI (s.2.1 8)), .ref (m + 8), .int (nI (s.2.1 9)), .int (nI (s.2.1 10)), .ref (m + 9), .int (nI (s.2.1 11))] 18 (.int (nI x)))) = putMod h m (mN s 8 x) := hset_mod 0 (by decide) rfl (lt10 ⟨fun q => absurd rfl q, fun _ => rfl, fun _ => rfl, fun _ => rfl, fun _ => rfl, fun _ => rfl, fun _ => rfl, fun _ => rfl, fun _ => rfl, fun _ => rfl⟩)
  rw [← e] at K
  exact K
theorem xq_X6_wavesMany {x : Nat} {i : Nat} (hd : decode M.2.1 pc = .ok (.putfield i, 3)) (hF : xF M.1.cls i 5 20) (K : xP g l M tb R Z (pc + 3) V S (putMod h m (mN s 9 x)) kc ks) : xP g l M tb R Z pc V (.int (nI x) :: .ref m :: S) (putMod h m s) kc ks := by
  refine x_putf hd hF putMod_at.o rfl rfl rfl (Nat.le_of_ble_eq_true rfl) ?_
  have e : hset (putMod h m s) m (.inr (5, List.set [.ref (m + 1), .ref (m + 2), .ref (m + 3), .ref (m + 4), .ref (m + 5), .ref (m + 6), .int (nI (s.2.1 0)), .int (nI (s.2.1 1)), .ref (m + 7), .int (nI (s.2.1 2)), .int (nI (s.2.1 3)), .int (nI (s.2.1 4)), .int (nI (s.2.1 5)), .int (nI (s.2.1 6)), .int (s.2.2.1 0), .int (nI (s.2.1 7)), .int (s.2.2.1 1), .long s.2.2.2.2, .int (nI (s.2.1 8)), .ref (m + 8), .int (nI (s.2.1 9)), .int (nI (s.2.1 10)), .ref (m + 9), .int (nI (s.2.1 11))] 20 (.int (nI x)))) = putMod h m (mN s 9 x) := hset_mod 0 (by decide) rfl (lt10 ⟨fun q => absurd rfl q, fun _ => rfl, fun _ => rfl, fun _ => rfl, fun _ => rfl, fun _ => rfl, fun _ => rfl, fun _ => rfl, fun _ => rfl, fun _ => rfl⟩)
  rw [← e] at K
  exact K
theorem xq_X6_lostMany {x : Nat} {i : Nat} (hd : decode M.2.1 pc = .ok (.putfield i, 3)) (hF : xF M.1.cls i 5 21) (K : xP g l M tb R Z (pc + 3) V S (putMod h m (mN s 10 x)) kc ks) : xP g l M tb R Z pc V (.int (nI x) :: .ref m :: S) (putMod h m s) kc ks := by
  refine x_putf hd hF putMod_at.o rfl rfl rfl (Nat.le_of_ble_eq_true rfl) ?_
  have e : hset (putMod h m s) m (.inr (5, List.set [.ref (m + 1), .ref (m + 2), .ref (m + 3), .ref (m + 4), .ref (m + 5), .ref (m + 6), .int (nI (s.2.1 0)), .int (nI (s.2.1 1)), .ref (m + 7), .int (nI (s.2.1 2)), .int (nI (s.2.1 3)), .int (nI (s.2.1 4)), .int (nI (s.2.1 5)), .int (nI (s.2.1 6)), .int (s.2.2.1 0), .int (nI (s.2.1 7)), .int (s.2.2.1 1), .long s.2.2.2.2, .int (nI (s.2.1 8)), .ref (m + 8), .int (nI (s.2.1 9)), .int (nI (s.2.1 10)), .ref (m + 9), .int (nI (s.2.1 11))] 21 (.int (nI x)))) = putMod h m (mN s 10 x) := hset_mod 0 (by decide) rfl (lt10 ⟨fun q => absurd rfl q, fun _ => rfl, fun _ => rfl, fun _ => rfl, fun _ => rfl, fun _ => rfl, fun _ => rfl, fun _ => rfl, fun _ => rfl, fun _ => rfl⟩)
  rw [← e] at K
  exact K
theorem xq_X6_writtenMany {x : Nat} {i : Nat} (hd : decode M.2.1 pc = .ok (.putfield i, 3)) (hF : xF M.1.cls i 5 23) (K : xP g l M tb R Z (pc + 3) V S (putMod h m (mN s 11 x)) kc ks) : xP g l M tb R Z pc V (.int (nI x) :: .ref m :: S) (putMod h m s) kc ks := by
  refine x_putf hd hF putMod_at.o rfl rfl rfl (Nat.le_of_ble_eq_true rfl) ?_
  have e : hset (putMod h m s) m (.inr (5, List.set [.ref (m + 1), .ref (m + 2), .ref (m + 3), .ref (m + 4), .ref (m + 5), .ref (m + 6), .int (nI (s.2.1 0)), .int (nI (s.2.1 1)), .ref (m + 7), .int (nI (s.2.1 2)), .int (nI (s.2.1 3)), .int (nI (s.2.1 4)), .int (nI (s.2.1 5)), .int (nI (s.2.1 6)), .int (s.2.2.1 0), .int (nI (s.2.1 7)), .int (s.2.2.1 1), .long s.2.2.2.2, .int (nI (s.2.1 8)), .ref (m + 8), .int (nI (s.2.1 9)), .int (nI (s.2.1 10)), .ref (m + 9), .int (nI (s.2.1 11))] 23 (.int (nI x)))) = putMod h m (mN s 11 x) := hset_mod 0 (by decide) rfl (lt10 ⟨fun q => absurd rfl q, fun _ => rfl, fun _ => rfl, fun _ => rfl, fun _ => rfl, fun _ => rfl, fun _ => rfl, fun _ => rfl, fun _ => rfl, fun _ => rfl⟩)
  rw [← e] at K
  exact K
theorem xq_X6_wrong {x : Int32} {i : Nat} (hd : decode M.2.1 pc = .ok (.putfield i, 3)) (hF : xF M.1.cls i 5 14) (K : xP g l M tb R Z (pc + 3) V S (putMod h m (mZ s 0 x)) kc ks) : xP g l M tb R Z pc V (.int x :: .ref m :: S) (putMod h m s) kc ks := by
  refine x_putf hd hF putMod_at.o rfl rfl rfl (Nat.le_of_ble_eq_true rfl) ?_
  have e : hset (putMod h m s) m (.inr (5, List.set [.ref (m + 1), .ref (m + 2), .ref (m + 3), .ref (m + 4), .ref (m + 5), .ref (m + 6), .int (nI (s.2.1 0)), .int (nI (s.2.1 1)), .ref (m + 7), .int (nI (s.2.1 2)), .int (nI (s.2.1 3)), .int (nI (s.2.1 4)), .int (nI (s.2.1 5)), .int (nI (s.2.1 6)), .int (s.2.2.1 0), .int (nI (s.2.1 7)), .int (s.2.2.1 1), .long s.2.2.2.2, .int (nI (s.2.1 8)), .ref (m + 8), .int (nI (s.2.1 9)), .int (nI (s.2.1 10)), .ref (m + 9), .int (nI (s.2.1 11))] 14 (.int x))) = putMod h m (mZ s 0 x) := hset_mod 0 (by decide) rfl (lt10 ⟨fun q => absurd rfl q, fun _ => rfl, fun _ => rfl, fun _ => rfl, fun _ => rfl, fun _ => rfl, fun _ => rfl, fun _ => rfl, fun _ => rfl, fun _ => rfl⟩)
  rw [← e] at K
  exact K
theorem xq_X6_errorAt {x : Int32} {i : Nat} (hd : decode M.2.1 pc = .ok (.putfield i, 3)) (hF : xF M.1.cls i 5 16) (K : xP g l M tb R Z (pc + 3) V S (putMod h m (mZ s 1 x)) kc ks) : xP g l M tb R Z pc V (.int x :: .ref m :: S) (putMod h m s) kc ks := by
  refine x_putf hd hF putMod_at.o rfl rfl rfl (Nat.le_of_ble_eq_true rfl) ?_
  have e : hset (putMod h m s) m (.inr (5, List.set [.ref (m + 1), .ref (m + 2), .ref (m + 3), .ref (m + 4), .ref (m + 5), .ref (m + 6), .int (nI (s.2.1 0)), .int (nI (s.2.1 1)), .ref (m + 7), .int (nI (s.2.1 2)), .int (nI (s.2.1 3)), .int (nI (s.2.1 4)), .int (nI (s.2.1 5)), .int (nI (s.2.1 6)), .int (s.2.2.1 0), .int (nI (s.2.1 7)), .int (s.2.2.1 1), .long s.2.2.2.2, .int (nI (s.2.1 8)), .ref (m + 8), .int (nI (s.2.1 9)), .int (nI (s.2.1 10)), .ref (m + 9), .int (nI (s.2.1 11))] 16 (.int x))) = putMod h m (mZ s 1 x) := hset_mod 0 (by decide) rfl (lt10 ⟨fun q => absurd rfl q, fun _ => rfl, fun _ => rfl, fun _ => rfl, fun _ => rfl, fun _ => rfl, fun _ => rfl, fun _ => rfl, fun _ => rfl, fun _ => rfl⟩)
  rw [← e] at K
  exact K
theorem xq_X6_x {x : Int64} {i : Nat} (hd : decode M.2.1 pc = .ok (.putfield i, 3)) (hF : xF M.1.cls i 5 17) (K : xP g l M tb R Z (pc + 3) V S (putMod h m (mX s x)) kc ks) : xP g l M tb R Z pc V (.long x :: .ref m :: S) (putMod h m s) kc ks := by
  refine x_putf hd hF putMod_at.o rfl rfl rfl (Nat.le_of_ble_eq_true rfl) ?_
  have e : hset (putMod h m s) m (.inr (5, List.set [.ref (m + 1), .ref (m + 2), .ref (m + 3), .ref (m + 4), .ref (m + 5), .ref (m + 6), .int (nI (s.2.1 0)), .int (nI (s.2.1 1)), .ref (m + 7), .int (nI (s.2.1 2)), .int (nI (s.2.1 3)), .int (nI (s.2.1 4)), .int (nI (s.2.1 5)), .int (nI (s.2.1 6)), .int (s.2.2.1 0), .int (nI (s.2.1 7)), .int (s.2.2.1 1), .long s.2.2.2.2, .int (nI (s.2.1 8)), .ref (m + 8), .int (nI (s.2.1 9)), .int (nI (s.2.1 10)), .ref (m + 9), .int (nI (s.2.1 11))] 17 (.long x))) = putMod h m (mX s x) := hset_mod 0 (by decide) rfl (lt10 ⟨fun q => absurd rfl q, fun _ => rfl, fun _ => rfl, fun _ => rfl, fun _ => rfl, fun _ => rfl, fun _ => rfl, fun _ => rfl, fun _ => rfl, fun _ => rfl⟩)
  rw [← e] at K
  exact K
theorem xq_X6_a {x i : Nat} (hd : decode M.2.1 pc = .ok (.iastore, 1)) (hi : i < 353) (K : xP g l M tb R Z (pc + 1) V S (putMod h m (mR s 0 (va_up (s.1 0) i x))) kc ks) : xP g l M tb R Z pc V (.int (nI x) :: .int (nI i) :: .ref (m + 1) :: S) (putMod h m s) kc ks := by
  refine x_iast_n hd putMod_at.a hi (by decide) ?_
  have e : hset (putMod h m s) (m + 1) (.inl (0, 353, .inl (fun k => nI (va_up (s.1 0) i x k)))) = putMod h m (mR s 0 (va_up (s.1 0) i x)) := hset_mod 1 (by decide) rfl (lt10 ⟨fun _ => rfl, fun q => absurd rfl q, fun _ => rfl, fun _ => rfl, fun _ => rfl, fun _ => rfl, fun _ => rfl, fun _ => rfl, fun _ => rfl, fun _ => rfl⟩)
  rw [← e] at K
  exact K
theorem xq_X6_aside {x i : Nat} (hd : decode M.2.1 pc = .ok (.iastore, 1)) (hi : i < 353) (K : xP g l M tb R Z (pc + 1) V S (putMod h m (mR s 1 (va_up (s.1 1) i x))) kc ks) : xP g l M tb R Z pc V (.int (nI x) :: .int (nI i) :: .ref (m + 2) :: S) (putMod h m s) kc ks := by
  refine x_iast_n hd putMod_at.aside hi (by decide) ?_
  have e : hset (putMod h m s) (m + 2) (.inl (0, 353, .inl (fun k => nI (va_up (s.1 1) i x k)))) = putMod h m (mR s 1 (va_up (s.1 1) i x)) := hset_mod 2 (by decide) rfl (lt10 ⟨fun _ => rfl, fun _ => rfl, fun q => absurd rfl q, fun _ => rfl, fun _ => rfl, fun _ => rfl, fun _ => rfl, fun _ => rfl, fun _ => rfl, fun _ => rfl⟩)
  rw [← e] at K
  exact K
theorem xq_X6_tried {x i : Nat} (hd : decode M.2.1 pc = .ok (.iastore, 1)) (hi : i < 353) (K : xP g l M tb R Z (pc + 1) V S (putMod h m (mR s 2 (va_up (s.1 2) i x))) kc ks) : xP g l M tb R Z pc V (.int (nI x) :: .int (nI i) :: .ref (m + 3) :: S) (putMod h m s) kc ks := by
  refine x_iast_n hd putMod_at.tried hi (by decide) ?_
  have e : hset (putMod h m s) (m + 3) (.inl (0, 353, .inl (fun k => nI (va_up (s.1 2) i x k)))) = putMod h m (mR s 2 (va_up (s.1 2) i x)) := hset_mod 3 (by decide) rfl (lt10 ⟨fun _ => rfl, fun _ => rfl, fun _ => rfl, fun q => absurd rfl q, fun _ => rfl, fun _ => rfl, fun _ => rfl, fun _ => rfl, fun _ => rfl, fun _ => rfl⟩)
  rw [← e] at K
  exact K
theorem xq_X6_kept {x i : Nat} (hd : decode M.2.1 pc = .ok (.iastore, 1)) (hi : i < 2824) (K : xP g l M tb R Z (pc + 1) V S (putMod h m (mR s 3 (va_up (s.1 3) i x))) kc ks) : xP g l M tb R Z pc V (.int (nI x) :: .int (nI i) :: .ref (m + 4) :: S) (putMod h m s) kc ks := by
  refine x_iast_n hd putMod_at.kept hi (by decide) ?_
  have e : hset (putMod h m s) (m + 4) (.inl (0, 2824, .inl (fun k => nI (va_up (s.1 3) i x k)))) = putMod h m (mR s 3 (va_up (s.1 3) i x)) := hset_mod 4 (by decide) rfl (lt10 ⟨fun _ => rfl, fun _ => rfl, fun _ => rfl, fun _ => rfl, fun q => absurd rfl q, fun _ => rfl, fun _ => rfl, fun _ => rfl, fun _ => rfl, fun _ => rfl⟩)
  rw [← e] at K
  exact K
theorem xq_X6_saved {x i : Nat} (hd : decode M.2.1 pc = .ok (.iastore, 1)) (hi : i < 706) (K : xP g l M tb R Z (pc + 1) V S (putMod h m (mR s 4 (va_up (s.1 4) i x))) kc ks) : xP g l M tb R Z pc V (.int (nI x) :: .int (nI i) :: .ref (m + 5) :: S) (putMod h m s) kc ks := by
  refine x_iast_n hd putMod_at.saved hi (by decide) ?_
  have e : hset (putMod h m s) (m + 5) (.inl (0, 706, .inl (fun k => nI (va_up (s.1 4) i x k)))) = putMod h m (mR s 4 (va_up (s.1 4) i x)) := hset_mod 5 (by decide) rfl (lt10 ⟨fun _ => rfl, fun _ => rfl, fun _ => rfl, fun _ => rfl, fun _ => rfl, fun q => absurd rfl q, fun _ => rfl, fun _ => rfl, fun _ => rfl, fun _ => rfl⟩)
  rw [← e] at K
  exact K
theorem xq_X6_buffer {x i : Nat} (hd : decode M.2.1 pc = .ok (.iastore, 1)) (hi : i < 600) (K : xP g l M tb R Z (pc + 1) V S (putMod h m (mR s 5 (va_up (s.1 5) i x))) kc ks) : xP g l M tb R Z pc V (.int (nI x) :: .int (nI i) :: .ref (m + 7) :: S) (putMod h m s) kc ks := by
  refine x_iast_n hd putMod_at.buffer hi (by decide) ?_
  have e : hset (putMod h m s) (m + 7) (.inl (0, 600, .inl (fun k => nI (va_up (s.1 5) i x k)))) = putMod h m (mR s 5 (va_up (s.1 5) i x)) := hset_mod 7 (by decide) rfl (lt10 ⟨fun _ => rfl, fun _ => rfl, fun _ => rfl, fun _ => rfl, fun _ => rfl, fun _ => rfl, fun _ => rfl, fun q => absurd rfl q, fun _ => rfl, fun _ => rfl⟩)
  rw [← e] at K
  exact K
theorem xq_X6_got {x i : Nat} (hd : decode M.2.1 pc = .ok (.iastore, 1)) (hi : i < 120) (K : xP g l M tb R Z (pc + 1) V S (putMod h m (mR s 6 (va_up (s.1 6) i x))) kc ks) : xP g l M tb R Z pc V (.int (nI x) :: .int (nI i) :: .ref (m + 8) :: S) (putMod h m s) kc ks := by
  refine x_iast_n hd putMod_at.got hi (by decide) ?_
  have e : hset (putMod h m s) (m + 8) (.inl (0, 120, .inl (fun k => nI (va_up (s.1 6) i x k)))) = putMod h m (mR s 6 (va_up (s.1 6) i x)) := hset_mod 8 (by decide) rfl (lt10 ⟨fun _ => rfl, fun _ => rfl, fun _ => rfl, fun _ => rfl, fun _ => rfl, fun _ => rfl, fun _ => rfl, fun _ => rfl, fun q => absurd rfl q, fun _ => rfl⟩)
  rw [← e] at K
  exact K
theorem xq_X6_written {x i : Nat} (hd : decode M.2.1 pc = .ok (.iastore, 1)) (hi : i < 1500) (K : xP g l M tb R Z (pc + 1) V S (putMod h m (mR s 7 (va_up (s.1 7) i x))) kc ks) : xP g l M tb R Z pc V (.int (nI x) :: .int (nI i) :: .ref (m + 9) :: S) (putMod h m s) kc ks := by
  refine x_iast_n hd putMod_at.written hi (by decide) ?_
  have e : hset (putMod h m s) (m + 9) (.inl (0, 1500, .inl (fun k => nI (va_up (s.1 7) i x k)))) = putMod h m (mR s 7 (va_up (s.1 7) i x)) := hset_mod 9 (by decide) rfl (lt10 ⟨fun _ => rfl, fun _ => rfl, fun _ => rfl, fun _ => rfl, fun _ => rfl, fun _ => rfl, fun _ => rfl, fun _ => rfl, fun _ => rfl, fun q => absurd rfl q⟩)
  rw [← e] at K
  exact K
end XM
