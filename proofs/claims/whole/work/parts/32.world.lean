/-! ===== the world of a VillagePhotos: v the object, then its parts in a row, then what was made later ===== -/
/-- (present, trial), (next, size), (what was made: where, what), reader, writer -/
abbrev Wd := (Ar × Ar) × (Nat × Nat) × ((Nat → Option Nat) × (Nat → Ar)) × ((Nat → Nat) × Tr) × ((Nat → Int32) × List Nat)
abbrev wD (w : Wd) : Nat → Option Nat := w.2.2.1.1
abbrev wS (w : Wd) : Nat → Ar := w.2.2.1.2
/-- what the arrays of references hold -/
def wK (d : Nat → Option Nat) : Nat → Option Nat := fun j => if j < 8 then d j else none
def wV (d : Nat → Option Nat) : Nat → Option Nat := fun j => if j < 2 then d (8 + j) else none
theorem wK_lt {d : Nat → Option Nat} {j : Nat} (h : j < 8) : wK d j = d j := by unfold wK; rw [if_pos h]
theorem wV_lt {d : Nat → Option Nat} {j : Nat} (h : j < 2) : wV d j = d (8 + j) := by unfold wV; rw [if_pos h]
theorem wK_up {d : Nat → Option Nat} {j : Nat} {x : Option Nat} (h : j < 8) : va_up (wK d) j x = wK (va_up d j x) := by
  funext i
  unfold va_up wK
  dsimp only
  by_cases e : i = j
  · subst e; rw [if_pos rfl, if_pos h, if_pos rfl]
  · rw [if_neg e]; split
    · rfl
    · rfl
theorem wV_up {d : Nat → Option Nat} {j : Nat} {x : Option Nat} (h : j < 2) : va_up (wV d) j x = wV (va_up d (8 + j) x) := by
  funext i
  unfold va_up wV
  dsimp only
  by_cases e : i = j
  · subst e; rw [if_pos rfl, if_pos h, if_pos rfl]
  · rw [if_neg e]; split
    · rw [if_neg (by omega)]
    · rfl
theorem wK_out {d : Nat → Option Nat} {j : Nat} {x : Option Nat} (h : 8 ≤ j) : wK (va_up d j x) = wK d := by
  funext i
  unfold wK va_up
  split
  · rw [if_neg (by omega)]
  · rfl
theorem wV_out {d : Nat → Option Nat} {j : Nat} {x : Option Nat} (h : j < 8) : wV (va_up d j x) = wV d := by
  funext i
  unfold wV va_up
  split
  · rw [if_neg (by omega)]
  · rfl
def inW (v : Nat) (w : Wd) (a : Nat) : Prop := (v ≤ a ∧ a < v + 32) ∨ ∃ d x, d < 10 ∧ wD w d = some x ∧ x ≤ a ∧ a < x + 12
def dynAt (h : xH) (v : Nat) (w : Wd) : Prop := ∀ d x, d < 10 → wD w d = some x → v + 32 ≤ x ∧ x + 12 ≤ h.2 ∧ ArchAt h x (wS w d) ∧ ∀ e y, e < 10 → e ≠ d → wD w e = some y → x + 12 ≤ y ∨ y + 12 ≤ x
def WAt (h : xH) (v : Nat) (w : Wd) : Prop :=
  h.1 v = some (.inr (4, [.ref (v + 1), .ref (v + 13), .ref (v + 25), .ref (v + 27), .ref (v + 28), .ref (v + 30)])) ∧
  ArchAt h (v + 1) w.1.1 ∧ ArchAt h (v + 13) w.1.2 ∧
  h.1 (v + 25) = some (.inr (1, [.ref (v + 26), .int (nI w.2.1.1), .int (nI w.2.1.2)])) ∧
  h.1 (v + 26) = some (.inl (5, 8, .inr (.inr (.inr (.inr (wK (wD w))))))) ∧
  h.1 (v + 27) = some (.inl (5, 2, .inr (.inr (.inr (.inr (wV (wD w))))))) ∧
  TrAt h (v + 28) w.2.2.2.1.1 w.2.2.2.1.2 ∧ WrAt h (v + 30) w.2.2.2.2.1 w.2.2.2.2.2 ∧ dynAt h v w ∧ v + 32 ≤ h.2
abbrev sP (w : Wd) (P : Ar) : Wd := ((P, w.1.2), w.2)
abbrev sT (w : Wd) (T : Ar) : Wd := ((w.1.1, T), w.2)
abbrev sNx (w : Wd) (n s : Nat) : Wd := (w.1, (n, s), w.2.2)
abbrev sDy (w : Wd) (d : Nat → Option Nat) (s : Nat → Ar) : Wd := (w.1, w.2.1, (d, s), w.2.2.2)
abbrev sRd (w : Wd) (b : Nat → Nat) (t : Tr) : Wd := (w.1, w.2.1, w.2.2.1, (b, t), w.2.2.2.2)
abbrev sWr (w : Wd) (f : Nat → Int32) (T : List Nat) : Wd := (w.1, w.2.1, w.2.2.1, w.2.2.2.1, (f, T))
section WL
variable {h h' : xH} {v : Nat} {w : Wd}
theorem WAt.o (hW : WAt h v w) : h.1 v = some (.inr (4, [.ref (v + 1), .ref (v + 13), .ref (v + 25), .ref (v + 27), .ref (v + 28), .ref (v + 30)])) := hW.1
theorem WAt.present (hW : WAt h v w) : ArchAt h (v + 1) w.1.1 := hW.2.1
theorem WAt.trial (hW : WAt h v w) : ArchAt h (v + 13) w.1.2 := hW.2.2.1
theorem WAt.history (hW : WAt h v w) : h.1 (v + 25) = some (.inr (1, [.ref (v + 26), .int (nI w.2.1.1), .int (nI w.2.1.2)])) := hW.2.2.2.1
theorem WAt.kept (hW : WAt h v w) : h.1 (v + 26) = some (.inl (5, 8, .inr (.inr (.inr (.inr (wK (wD w))))))) := hW.2.2.2.2.1
theorem WAt.saved (hW : WAt h v w) : h.1 (v + 27) = some (.inl (5, 2, .inr (.inr (.inr (.inr (wV (wD w))))))) := hW.2.2.2.2.2.1
theorem WAt.reader (hW : WAt h v w) : TrAt h (v + 28) w.2.2.2.1.1 w.2.2.2.1.2 := hW.2.2.2.2.2.2.1
theorem WAt.writer (hW : WAt h v w) : WrAt h (v + 30) w.2.2.2.2.1 w.2.2.2.2.2 := hW.2.2.2.2.2.2.2.1
theorem WAt.dyn (hW : WAt h v w) : dynAt h v w := hW.2.2.2.2.2.2.2.2.1
theorem WAt.low (hW : WAt h v w) : v + 32 ≤ h.2 := hW.2.2.2.2.2.2.2.2.2
theorem arch_same {o : Nat} {st : Ar} (hA : ArchAt h o st) (hk : ∀ a, o ≤ a → a < o + 12 → h'.1 a = h.1 a) : ArchAt h' o st := fun k hk9 => by rw [hk _ (by omega) (by omega)]; exact hA k hk9
theorem dyn_same (hd : dynAt h v w) (hz : h.2 ≤ h'.2) (hk : ∀ a, v + 32 ≤ a → a < h.2 → h'.1 a = h.1 a) : dynAt h' v w := fun d x h1 h2 => by
  obtain ⟨q1, q2, q3, q4⟩ := hd d x h1 h2
  exact ⟨q1, by omega, arch_same q3 fun a e1 e2 => hk a (by omega) (by omega), q4⟩
/-- nothing of ours changed -/
theorem WAt.same (hW : WAt h v w) (hz : h.2 ≤ h'.2) (hk : ∀ a, inW v w a → h'.1 a = h.1 a) : WAt h' v w := by
  have hf : ∀ a, v ≤ a → a < v + 32 → h'.1 a = h.1 a := fun a q1 q2 => hk a (Or.inl ⟨q1, q2⟩)
  obtain ⟨h1, h2, h3, h4, h5, h6, h7, h8, h9, h10⟩ := hW
  refine ⟨by rw [hf _ (by omega) (by omega)]; exact h1, arch_same h2 fun a q1 q2 => hf a (by omega) (by omega), arch_same h3 fun a q1 q2 => hf a (by omega) (by omega), by rw [hf _ (by omega) (by omega)]; exact h4, by rw [hf _ (by omega) (by omega)]; exact h5, by rw [hf _ (by omega) (by omega)]; exact h6, ⟨by rw [hf _ (by omega) (by omega)]; exact h7.1, by rw [hf _ (by omega) (by omega)]; exact h7.2⟩, ⟨by rw [hf _ (by omega) (by omega)]; exact h8.1, by rw [hf _ (by omega) (by omega)]; exact h8.2⟩, fun d x q1 q2 => ?_, by omega⟩
  obtain ⟨p1, p2, p3, p4⟩ := h9 d x q1 q2
  exact ⟨p1, by omega, arch_same p3 fun a e1 e2 => hk a (Or.inr ⟨d, x, q1, q2, e1, e2⟩), p4⟩
theorem WAt.setP (hW : WAt h v w) (P : Ar) : WAt (putArch h (v + 1) P) v (sP w P) := by
  have hf : ∀ a, a < v + 1 ∨ v + 13 ≤ a → (putArch h (v + 1) P).1 a = h.1 a := fun a q => putArch_out (by omega)
  obtain ⟨h1, h2, h3, h4, h5, h6, h7, h8, h9, h10⟩ := hW
  exact ⟨by rw [hf _ (by omega)]; exact h1, putArch_at, h3.kept (by omega), by rw [hf _ (by omega)]; exact h4, by rw [hf _ (by omega)]; exact h5, by rw [hf _ (by omega)]; exact h6, ⟨by rw [hf _ (by omega)]; exact h7.1, by rw [hf _ (by omega)]; exact h7.2⟩, ⟨by rw [hf _ (by omega)]; exact h8.1, by rw [hf _ (by omega)]; exact h8.2⟩, dyn_same h9 (Nat.le_refl _) fun a q1 q2 => hf a (by omega), h10⟩
theorem WAt.setT (hW : WAt h v w) (T : Ar) : WAt (putArch h (v + 13) T) v (sT w T) := by
  have hf : ∀ a, a < v + 13 ∨ v + 25 ≤ a → (putArch h (v + 13) T).1 a = h.1 a := fun a q => putArch_out (by omega)
  obtain ⟨h1, h2, h3, h4, h5, h6, h7, h8, h9, h10⟩ := hW
  exact ⟨by rw [hf _ (by omega)]; exact h1, h2.kept (by omega), putArch_at, by rw [hf _ (by omega)]; exact h4, by rw [hf _ (by omega)]; exact h5, by rw [hf _ (by omega)]; exact h6, ⟨by rw [hf _ (by omega)]; exact h7.1, by rw [hf _ (by omega)]; exact h7.2⟩, ⟨by rw [hf _ (by omega)]; exact h8.1, by rw [hf _ (by omega)]; exact h8.2⟩, dyn_same h9 (Nat.le_refl _) fun a q1 q2 => hf a (by omega), h10⟩
theorem WAt.setR (hW : WAt h v w) (b : Nat → Nat) (t : Tr) : WAt (putTr h (v + 28) b t) v (sRd w b t) := by
  have hf : ∀ a, a < v + 28 ∨ v + 30 ≤ a → (putTr h (v + 28) b t).1 a = h.1 a := fun a q => putTr_out (by omega) (by omega)
  obtain ⟨h1, h2, h3, h4, h5, h6, h7, h8, h9, h10⟩ := hW
  exact ⟨by rw [hf _ (by omega)]; exact h1, arch_same h2 fun a q1 q2 => hf a (by omega), arch_same h3 fun a q1 q2 => hf a (by omega), by rw [hf _ (by omega)]; exact h4, by rw [hf _ (by omega)]; exact h5, by rw [hf _ (by omega)]; exact h6, putTr_at, ⟨by rw [hf _ (by omega)]; exact h8.1, by rw [hf _ (by omega)]; exact h8.2⟩, dyn_same h9 (Nat.le_refl _) fun a q1 q2 => hf a (by omega), h10⟩
theorem WAt.setW (hW : WAt h v w) (f : Nat → Int32) (T : List Nat) : WAt (putWr h (v + 30) f T) v (sWr w f T) := by
  have hf : ∀ a, a < v + 30 ∨ v + 32 ≤ a → (putWr h (v + 30) f T).1 a = h.1 a := fun a q => putWr_out (by omega) (by omega)
  obtain ⟨h1, h2, h3, h4, h5, h6, h7, h8, h9, h10⟩ := hW
  exact ⟨by rw [hf _ (by omega)]; exact h1, arch_same h2 fun a q1 q2 => hf a (by omega), arch_same h3 fun a q1 q2 => hf a (by omega), by rw [hf _ (by omega)]; exact h4, by rw [hf _ (by omega)]; exact h5, by rw [hf _ (by omega)]; exact h6, ⟨by rw [hf _ (by omega)]; exact h7.1, by rw [hf _ (by omega)]; exact h7.2⟩, putWr_at, dyn_same h9 (Nat.le_refl _) fun a q1 q2 => hf a (by omega), h10⟩
/-- from one world to another one: what is not of the worlds stays -/
def wTo (v : Nat) (w : Wd) (h : xH) (w' : Wd) (h' : xH) : Prop := WAt h' v w' ∧ h.2 ≤ h'.2 ∧ ∀ a, a < h.2 → ¬ inW v w a → h'.1 a = h.1 a ∧ ¬ inW v w' a
theorem wTo.rf (hW : WAt h v w) : wTo v w h w h := ⟨hW, Nat.le_refl _, fun _ _ q => ⟨rfl, q⟩⟩
theorem wTo.tr {w1 w2 : Wd} {h1 h2 : xH} (a : wTo v w h w1 h1) (b : wTo v w1 h1 w2 h2) : wTo v w h w2 h2 := by
  refine ⟨b.1, Nat.le_trans a.2.1 b.2.1, fun x q1 q2 => ?_⟩
  obtain ⟨e1, e2⟩ := a.2.2 x q1 q2
  obtain ⟨e3, e4⟩ := b.2.2 x (Nat.lt_of_lt_of_le q1 a.2.1) e2
  exact ⟨e3.trans e1, e4⟩
theorem wTo.fix {w' : Wd} (hW : WAt h' v w') (hz : h.2 ≤ h'.2) (hd : wD w' = wD w) (hk : ∀ a, a < v ∨ v + 32 ≤ a → h'.1 a = h.1 a) : wTo v w h w' h' := by
  refine ⟨hW, hz, fun a _ q => ⟨hk a ?_, fun q9 => q ?_⟩⟩
  · refine Decidable.byContradiction fun e => q (Or.inl (by omega))
  · unfold inW at q9 ⊢
    rw [hd] at q9
    exact q9
theorem wTo.P (hW : WAt h v w) (P : Ar) : wTo v w h (sP w P) (putArch h (v + 1) P) := wTo.fix (hW.setP P) (Nat.le_refl _) rfl fun a q => putArch_out (by omega)
theorem wTo.T (hW : WAt h v w) (T : Ar) : wTo v w h (sT w T) (putArch h (v + 13) T) := wTo.fix (hW.setT T) (Nat.le_refl _) rfl fun a q => putArch_out (by omega)
theorem wTo.R (hW : WAt h v w) (b : Nat → Nat) (t : Tr) : wTo v w h (sRd w b t) (putTr h (v + 28) b t) := wTo.fix (hW.setR b t) (Nat.le_refl _) rfl fun a q => putTr_out (by omega) (by omega)
theorem wTo.W (hW : WAt h v w) (f : Nat → Int32) (T : List Nat) : wTo v w h (sWr w f T) (putWr h (v + 30) f T) := wTo.fix (hW.setW f T) (Nat.le_refl _) rfl fun a q => putWr_out (by omega) (by omega)
theorem WAt.P_self (hW : WAt h v w) : putArch h (v + 1) w.1.1 = h := putArch_self hW.present
theorem WAt.T_self (hW : WAt h v w) : putArch h (v + 13) w.1.2 = h := putArch_self hW.trial
theorem WAt.R_self (hW : WAt h v w) : putTr h (v + 28) w.2.2.2.1.1 w.2.2.2.1.2 = h := putTr_self hW.reader
theorem WAt.W_self (hW : WAt h v w) : putWr h (v + 30) w.2.2.2.2.1 w.2.2.2.2.2 = h := putWr_self hW.writer
/-- a made Archive is written -/
theorem WAt.setD (hW : WAt h v w) {d x : Nat} (hd : d < 10) (hx : wD w d = some x) (s : Ar) : wTo v w h (sDy w (wD w) (va_up (wS w) d s)) (putArch h x s) := by
  obtain ⟨h1, h2, h3, h4, h5, h6, h7, h8, h9, h10⟩ := hW
  obtain ⟨p1, p2, p3, p4⟩ := h9 d x hd hx
  have hf : ∀ a, a < x ∨ x + 12 ≤ a → (putArch h x s).1 a = h.1 a := fun a q => putArch_out (by omega)
  refine ⟨⟨by rw [hf _ (by omega)]; exact h1, h2.kept (by omega), h3.kept (by omega), by rw [hf _ (by omega)]; exact h4, by rw [hf _ (by omega)]; exact h5, by rw [hf _ (by omega)]; exact h6, ⟨by rw [hf _ (by omega)]; exact h7.1, by rw [hf _ (by omega)]; exact h7.2⟩, ⟨by rw [hf _ (by omega)]; exact h8.1, by rw [hf _ (by omega)]; exact h8.2⟩, fun e y q1 q2 => ?_, h10⟩, Nat.le_refl _, fun a q1 q2 => ⟨hf a (Decidable.byContradiction fun e => q2 (Or.inr ⟨d, x, hd, hx, by omega, by omega⟩)), q2⟩⟩
  obtain ⟨r1, r2, r3, r4⟩ := h9 e y q1 q2
  refine ⟨r1, r2, ?_, r4⟩
  by_cases e1 : e = d
  · subst e1
    have : y = x := Option.some.inj (q2.symm.trans hx)
    subst this
    show ArchAt (putArch h y s) y (va_up (wS w) e s e)
    rw [va_up_self]
    exact putArch_at
  · show ArchAt (putArch h x s) y (va_up (wS w) d s e)
    rw [va_up_ne _ _ e1]
    have := p4 e y q1 e1 q2
    exact r3.kept (by omega)
/-- an Archive is made -/
theorem WAt.made (hW : WAt h v w) {d : Nat} {s : Ar} (hd : d < 10) (hx : wD w d = none) {hh : xH} (e2 : hh.2 = h.2 + 12) (eA : ArchAt hh h.2 s) (e8 : hh.1 (v + 26) = some (.inl (5, 8, .inr (.inr (.inr (.inr (wK (va_up (wD w) d (some h.2)))))))))  (e9 : hh.1 (v + 27) = some (.inl (5, 2, .inr (.inr (.inr (.inr (wV (va_up (wD w) d (some h.2))))))))) (ek : ∀ a, a < h.2 → a ≠ v + 26 → a ≠ v + 27 → hh.1 a = h.1 a) : wTo v w h (sDy w (va_up (wD w) d (some h.2)) (va_up (wS w) d s)) hh := by
  obtain ⟨h1, h2, h3, h4, h5, h6, h7, h8, h9, h10⟩ := hW
  have hf : ∀ a, v ≤ a → a < v + 32 → a ≠ v + 26 → a ≠ v + 27 → hh.1 a = h.1 a := fun a q1 q2 q3 q4 => ek a (by omega) q3 q4
  refine ⟨⟨by rw [hf _ (by omega) (by omega) (by omega) (by omega)]; exact h1, arch_same h2 fun a q1 q2 => hf a (by omega) (by omega) (by omega) (by omega), arch_same h3 fun a q1 q2 => hf a (by omega) (by omega) (by omega) (by omega), by rw [hf _ (by omega) (by omega) (by omega) (by omega)]; exact h4, e8, e9, ⟨by rw [hf _ (by omega) (by omega) (by omega) (by omega)]; exact h7.1, by rw [hf _ (by omega) (by omega) (by omega) (by omega)]; exact h7.2⟩, ⟨by rw [hf _ (by omega) (by omega) (by omega) (by omega)]; exact h8.1, by rw [hf _ (by omega) (by omega) (by omega) (by omega)]; exact h8.2⟩, fun e y q1 q2 => ?_, by omega⟩, by omega, fun a q1 q2 => ⟨ek a q1 (fun q => q2 (Or.inl (by omega))) (fun q => q2 (Or.inl (by omega))), fun q => ?_⟩⟩
  · change va_up (wD w) d (some h.2) e = some y at q2
    by_cases e1 : e = d
    · subst e1
      rw [va_up_self] at q2
      cases q2
      refine ⟨h10, by omega, ?_, fun e3 y3 r1 r2 r3 => ?_⟩
      · show ArchAt hh h.2 (va_up (wS w) e s e)
        rw [va_up_self]
        exact eA
      · change va_up (wD w) e (some h.2) e3 = some y3 at r3
        rw [va_up_ne _ _ r2] at r3
        have := (h9 e3 y3 r1 r3).2.1
        omega
    · rw [va_up_ne _ _ e1] at q2
      obtain ⟨p1, p2, p3, p4⟩ := h9 e y q1 q2
      refine ⟨p1, by omega, ?_, fun e3 y3 r1 r2 r3 => ?_⟩
      · show ArchAt hh y (va_up (wS w) d s e)
        rw [va_up_ne _ _ e1]
        exact arch_same p3 fun a t1 t2 => ek a (by omega) (by omega) (by omega)
      · change va_up (wD w) d (some h.2) e3 = some y3 at r3
        by_cases e4 : e3 = d
        · subst e4
          rw [va_up_self] at r3
          cases r3
          omega
        · rw [va_up_ne _ _ e4] at r3
          exact p4 e3 y3 r1 r2 r3
  · rcases q with q | ⟨e, y, r1, r2, r3, r4⟩
    · exact q2 (Or.inl q)
    · change va_up (wD w) d (some h.2) e = some y at r2
      by_cases e1 : e = d
      · subst e1
        rw [va_up_self] at r2
        cases r2
        omega
      · rw [va_up_ne _ _ e1] at r2
        exact q2 (Or.inr ⟨e, y, r1, r2, r3, r4⟩)
end WL
