/-! ===== an Archive in the heap: the object at o, its rows behind it ===== -/
/-- what an Archive holds: five numbers, two rows of names, nine rows of numbers -/
abbrev Ar := (Nat → Nat) × (Nat → Nat → Int64) × (Nat → Nat → Nat)
def aI (st : Ar) (i v : Nat) : Ar := (va_up st.1 i v, st.2)
def aL (st : Ar) (j : Nat) (f : Nat → Int64) : Ar := (st.1, va_up st.2.1 j f, st.2.2)
def aF (st : Ar) (j : Nat) (f : Nat → Nat) : Ar := (st.1, st.2.1, va_up st.2.2 j f)
def archE (o : Nat) (st : Ar) (k : Nat) : xE := match k with
  | 0 => .inr (0, [.int (nI (st.1 0)), .int (nI (st.1 1)), .int (nI (st.1 2)), .int (nI (st.1 3)), .int (nI (st.1 4)), .ref (o + 1), .ref (o + 2), .ref (o + 3), .ref (o + 4), .ref (o + 5), .ref (o + 6), .ref (o + 7), .ref (o + 8), .ref (o + 9), .ref (o + 10), .ref (o + 11)])
  | 1 => .inl (2, 10, .inr (.inl (st.2.1 0)))
  | 2 => .inl (0, 10, .inl (fun q => nI (st.2.2 0 q)))
  | 3 => .inl (0, 10, .inl (fun q => nI (st.2.2 1 q)))
  | 4 => .inl (0, 10, .inl (fun q => nI (st.2.2 2 q)))
  | 5 => .inl (0, 10, .inl (fun q => nI (st.2.2 3 q)))
  | 6 => .inl (0, 10, .inl (fun q => nI (st.2.2 4 q)))
  | 7 => .inl (2, 12, .inr (.inl (st.2.1 1)))
  | 8 => .inl (0, 12, .inl (fun q => nI (st.2.2 5 q)))
  | 9 => .inl (0, 12, .inl (fun q => nI (st.2.2 6 q)))
  | 10 => .inl (0, 12, .inl (fun q => nI (st.2.2 7 q)))
  | _ => .inl (0, 120, .inl (fun q => nI (st.2.2 8 q)))
def ArchAt (h : xH) (o : Nat) (st : Ar) : Prop := ∀ k, k < 12 → h.1 (o + k) = some (archE o st k)
def putArch (h : xH) (o : Nat) (st : Ar) : xH := (fun a => if o ≤ a ∧ a < o + 12 then some (archE o st (a - o)) else h.1 a, h.2)
theorem putArch_in {h : xH} {o : Nat} {st : Ar} {a : Nat} (h1 : o ≤ a) (h2 : a < o + 12) : (putArch h o st).1 a = some (archE o st (a - o)) := by
  unfold putArch
  dsimp only
  rw [if_pos ⟨h1, h2⟩]
theorem putArch_out {h : xH} {o : Nat} {st : Ar} {a : Nat} (h1 : a < o ∨ o + 12 ≤ a) : (putArch h o st).1 a = h.1 a := by
  unfold putArch
  dsimp only
  rw [if_neg (by omega)]
theorem putArch_at {h : xH} {o : Nat} {st : Ar} : ArchAt (putArch h o st) o st := by
  intro k hk
  rw [putArch_in (by omega) (by omega), show o + k - o = k by omega]
theorem xH_ext {h h' : xH} (h1 : ∀ a, h.1 a = h'.1 a) (h2 : h.2 = h'.2) : h = h' := Prod.ext (funext h1) h2
theorem putArch_put {h : xH} {o : Nat} {st st' : Ar} : putArch (putArch h o st) o st' = putArch h o st' := by
  refine xH_ext (fun a => ?_) rfl
  unfold putArch
  dsimp only
  split
  · rfl
  · rfl
theorem putArch_self {h : xH} {o : Nat} {st : Ar} (hA : ArchAt h o st) : putArch h o st = h := by
  refine xH_ext (fun a => ?_) rfl
  unfold putArch
  dsimp only
  split
  · have := hA (a - o) (by omega)
    rw [show o + (a - o) = a by omega] at this
    exact this.symm
  · rfl
theorem hset_arch {h : xH} {o : Nat} {st st' : Ar} {e : xE} (k : Nat) (hk : k < 12) (hA : ArchAt h o st) (he : archE o st' k = e) (hr : ∀ j, j < 12 → j ≠ k → archE o st' j = archE o st j) : hset h (o + k) e = putArch h o st' := by
  subst he
  refine xH_ext (fun a => ?_) rfl
  unfold hset putArch
  dsimp only
  by_cases h1 : a = o + k
  · subst h1
    rw [if_pos rfl, if_pos (by omega), show o + k - o = k by omega]
  · rw [if_neg h1]
    split
    · rename_i h2
      rw [hr (a - o) (by omega) (by omega), ← hA (a - o) (by omega), show o + (a - o) = a by omega]
    · rfl
theorem arch_other {o : Nat} {st st' : Ar} {k : Nat} (e : ∀ j, j < 12 → j ≠ k → archE o st' j = archE o st j) : ∀ j, j < 12 → j ≠ k → archE o st' j = archE o st j := e
/-- an Archive elsewhere stays -/
theorem ArchAt.kept {h : xH} {o o' : Nat} {st st' : Ar} (hA : ArchAt h o st) (hd : o + 12 ≤ o' ∨ o' + 12 ≤ o) : ArchAt (putArch h o' st') o st := by
  intro k hk
  rw [putArch_out (by omega)]
  exact hA k hk
theorem ArchAt.o {h : xH} {o : Nat} {st : Ar} (hA : ArchAt h o st) : h.1 o = some (archE o st 0) := hA 0 (by omega)
theorem ArchAt.familyNames {h : xH} {o : Nat} {st : Ar} (hA : ArchAt h o st) : h.1 (o + 1) = some (.inl (2, 10, .inr (.inl (st.2.1 0)))) := hA 1 (by omega)
theorem ArchAt.rooms {h : xH} {o : Nat} {st : Ar} (hA : ArchAt h o st) : h.1 (o + 2) = some (.inl (0, 10, .inl (fun q => nI (st.2.2 0 q)))) := hA 2 (by omega)
theorem ArchAt.near {h : xH} {o : Nat} {st : Ar} (hA : ArchAt h o st) : h.1 (o + 3) = some (.inl (0, 10, .inl (fun q => nI (st.2.2 1 q)))) := hA 3 (by omega)
theorem ArchAt.right {h : xH} {o : Nat} {st : Ar} (hA : ArchAt h o st) : h.1 (o + 4) = some (.inl (0, 10, .inl (fun q => nI (st.2.2 2 q)))) := hA 4 (by omega)
theorem ArchAt.wrong {h : xH} {o : Nat} {st : Ar} (hA : ArchAt h o st) : h.1 (o + 5) = some (.inl (0, 10, .inl (fun q => nI (st.2.2 3 q)))) := hA 5 (by omega)
theorem ArchAt.copies {h : xH} {o : Nat} {st : Ar} (hA : ArchAt h o st) : h.1 (o + 6) = some (.inl (0, 10, .inl (fun q => nI (st.2.2 4 q)))) := hA 6 (by omega)
theorem ArchAt.pictureNames {h : xH} {o : Nat} {st : Ar} (hA : ArchAt h o st) : h.1 (o + 7) = some (.inl (2, 12, .inr (.inl (st.2.1 1)))) := hA 7 (by omega)
theorem ArchAt.pledges {h : xH} {o : Nat} {st : Ar} (hA : ArchAt h o st) : h.1 (o + 8) = some (.inl (0, 12, .inl (fun q => nI (st.2.2 5 q)))) := hA 8 (by omega)
theorem ArchAt.held {h : xH} {o : Nat} {st : Ar} (hA : ArchAt h o st) : h.1 (o + 9) = some (.inl (0, 12, .inl (fun q => nI (st.2.2 6 q)))) := hA 9 (by omega)
theorem ArchAt.broken {h : xH} {o : Nat} {st : Ar} (hA : ArchAt h o st) : h.1 (o + 10) = some (.inl (0, 12, .inl (fun q => nI (st.2.2 7 q)))) := hA 10 (by omega)
theorem ArchAt.spoiled {h : xH} {o : Nat} {st : Ar} (hA : ArchAt h o st) : h.1 (o + 11) = some (.inl (0, 120, .inl (fun q => nI (st.2.2 8 q)))) := hA 11 (by omega)
theorem lt12 {P : Nat → Prop} (h : P 0 ∧ P 1 ∧ P 2 ∧ P 3 ∧ P 4 ∧ P 5 ∧ P 6 ∧ P 7 ∧ P 8 ∧ P 9 ∧ P 10 ∧ P 11) : ∀ j, j < 12 → P j := by
  intro j hj
  obtain ⟨h0, h1, h2, h3, h4, h5, h6, h7, h8, h9, h10, h11⟩ := h
  match j, hj with
  | 0, _ => exact h0
  | 1, _ => exact h1
  | 2, _ => exact h2
  | 3, _ => exact h3
  | 4, _ => exact h4
  | 5, _ => exact h5
  | 6, _ => exact h6
  | 7, _ => exact h7
  | 8, _ => exact h8
  | 9, _ => exact h9
  | 10, _ => exact h10
  | 11, _ => exact h11
theorem x_cpy_n (f f1 : Nat → Nat) (sp dp n : Nat) : va_cpy (fun q => nI (f q)) (fun q => nI (f1 q)) sp dp n = fun q => nI (va_cpy f f1 sp dp n q) := by
  funext k
  unfold va_cpy
  split <;> rfl
section XA
variable {g : xG} {l : Launch} {M : xM} {tb : List (Nat × Nat × Nat × Nat)} {R : Room} {Z : List Frame → Array Value → State → State → Prop} {pc : Nat} {V : List (Option Value)} {S : List Value} {h : xH} {kc ks : Nat} {o : Nat} {st : Ar}
theorem xw_X0_tiles {x i : Nat} (hd : decode M.2.1 pc = .ok (.putfield i, 3)) (hF : xF M.1.cls i 0 0) (hA : ArchAt h o st) (K : ∀ h', h' = putArch h o (aI st 0 x) → ArchAt h' o (aI st 0 x) → xP g l M tb R Z (pc + 3) V S h' kc ks) : xP g l M tb R Z pc V (.int (nI x) :: .ref o :: S) h kc ks := by
  refine x_putf hd hF hA.o rfl rfl rfl (show 0 < 16 by decide) ?_
  have e : hset h o (.inr (0, List.set [.int (nI (st.1 0)), .int (nI (st.1 1)), .int (nI (st.1 2)), .int (nI (st.1 3)), .int (nI (st.1 4)), .ref (o + 1), .ref (o + 2), .ref (o + 3), .ref (o + 4), .ref (o + 5), .ref (o + 6), .ref (o + 7), .ref (o + 8), .ref (o + 9), .ref (o + 10), .ref (o + 11)] 0 (.int (nI x)))) = putArch h o (aI st 0 x) := hset_arch 0 (by decide) hA rfl (lt12 ⟨fun q => absurd rfl q, fun _ => rfl, fun _ => rfl, fun _ => rfl, fun _ => rfl, fun _ => rfl, fun _ => rfl, fun _ => rfl, fun _ => rfl, fun _ => rfl, fun _ => rfl, fun _ => rfl⟩)
  have k := K _ rfl putArch_at
  rw [← e] at k
  exact k
theorem xw_X0_families {x i : Nat} (hd : decode M.2.1 pc = .ok (.putfield i, 3)) (hF : xF M.1.cls i 0 1) (hA : ArchAt h o st) (K : ∀ h', h' = putArch h o (aI st 1 x) → ArchAt h' o (aI st 1 x) → xP g l M tb R Z (pc + 3) V S h' kc ks) : xP g l M tb R Z pc V (.int (nI x) :: .ref o :: S) h kc ks := by
  refine x_putf hd hF hA.o rfl rfl rfl (show 1 < 16 by decide) ?_
  have e : hset h o (.inr (0, List.set [.int (nI (st.1 0)), .int (nI (st.1 1)), .int (nI (st.1 2)), .int (nI (st.1 3)), .int (nI (st.1 4)), .ref (o + 1), .ref (o + 2), .ref (o + 3), .ref (o + 4), .ref (o + 5), .ref (o + 6), .ref (o + 7), .ref (o + 8), .ref (o + 9), .ref (o + 10), .ref (o + 11)] 1 (.int (nI x)))) = putArch h o (aI st 1 x) := hset_arch 0 (by decide) hA rfl (lt12 ⟨fun q => absurd rfl q, fun _ => rfl, fun _ => rfl, fun _ => rfl, fun _ => rfl, fun _ => rfl, fun _ => rfl, fun _ => rfl, fun _ => rfl, fun _ => rfl, fun _ => rfl, fun _ => rfl⟩)
  have k := K _ rfl putArch_at
  rw [← e] at k
  exact k
theorem xw_X0_pictures {x i : Nat} (hd : decode M.2.1 pc = .ok (.putfield i, 3)) (hF : xF M.1.cls i 0 2) (hA : ArchAt h o st) (K : ∀ h', h' = putArch h o (aI st 2 x) → ArchAt h' o (aI st 2 x) → xP g l M tb R Z (pc + 3) V S h' kc ks) : xP g l M tb R Z pc V (.int (nI x) :: .ref o :: S) h kc ks := by
  refine x_putf hd hF hA.o rfl rfl rfl (show 2 < 16 by decide) ?_
  have e : hset h o (.inr (0, List.set [.int (nI (st.1 0)), .int (nI (st.1 1)), .int (nI (st.1 2)), .int (nI (st.1 3)), .int (nI (st.1 4)), .ref (o + 1), .ref (o + 2), .ref (o + 3), .ref (o + 4), .ref (o + 5), .ref (o + 6), .ref (o + 7), .ref (o + 8), .ref (o + 9), .ref (o + 10), .ref (o + 11)] 2 (.int (nI x)))) = putArch h o (aI st 2 x) := hset_arch 0 (by decide) hA rfl (lt12 ⟨fun q => absurd rfl q, fun _ => rfl, fun _ => rfl, fun _ => rfl, fun _ => rfl, fun _ => rfl, fun _ => rfl, fun _ => rfl, fun _ => rfl, fun _ => rfl, fun _ => rfl, fun _ => rfl⟩)
  have k := K _ rfl putArch_at
  rw [← e] at k
  exact k
theorem xw_X0_questions {x i : Nat} (hd : decode M.2.1 pc = .ok (.putfield i, 3)) (hF : xF M.1.cls i 0 3) (hA : ArchAt h o st) (K : ∀ h', h' = putArch h o (aI st 3 x) → ArchAt h' o (aI st 3 x) → xP g l M tb R Z (pc + 3) V S h' kc ks) : xP g l M tb R Z pc V (.int (nI x) :: .ref o :: S) h kc ks := by
  refine x_putf hd hF hA.o rfl rfl rfl (show 3 < 16 by decide) ?_
  have e : hset h o (.inr (0, List.set [.int (nI (st.1 0)), .int (nI (st.1 1)), .int (nI (st.1 2)), .int (nI (st.1 3)), .int (nI (st.1 4)), .ref (o + 1), .ref (o + 2), .ref (o + 3), .ref (o + 4), .ref (o + 5), .ref (o + 6), .ref (o + 7), .ref (o + 8), .ref (o + 9), .ref (o + 10), .ref (o + 11)] 3 (.int (nI x)))) = putArch h o (aI st 3 x) := hset_arch 0 (by decide) hA rfl (lt12 ⟨fun q => absurd rfl q, fun _ => rfl, fun _ => rfl, fun _ => rfl, fun _ => rfl, fun _ => rfl, fun _ => rfl, fun _ => rfl, fun _ => rfl, fun _ => rfl, fun _ => rfl, fun _ => rfl⟩)
  have k := K _ rfl putArch_at
  rw [← e] at k
  exact k
theorem xw_X0_repairs {x i : Nat} (hd : decode M.2.1 pc = .ok (.putfield i, 3)) (hF : xF M.1.cls i 0 4) (hA : ArchAt h o st) (K : ∀ h', h' = putArch h o (aI st 4 x) → ArchAt h' o (aI st 4 x) → xP g l M tb R Z (pc + 3) V S h' kc ks) : xP g l M tb R Z pc V (.int (nI x) :: .ref o :: S) h kc ks := by
  refine x_putf hd hF hA.o rfl rfl rfl (show 4 < 16 by decide) ?_
  have e : hset h o (.inr (0, List.set [.int (nI (st.1 0)), .int (nI (st.1 1)), .int (nI (st.1 2)), .int (nI (st.1 3)), .int (nI (st.1 4)), .ref (o + 1), .ref (o + 2), .ref (o + 3), .ref (o + 4), .ref (o + 5), .ref (o + 6), .ref (o + 7), .ref (o + 8), .ref (o + 9), .ref (o + 10), .ref (o + 11)] 4 (.int (nI x)))) = putArch h o (aI st 4 x) := hset_arch 0 (by decide) hA rfl (lt12 ⟨fun q => absurd rfl q, fun _ => rfl, fun _ => rfl, fun _ => rfl, fun _ => rfl, fun _ => rfl, fun _ => rfl, fun _ => rfl, fun _ => rfl, fun _ => rfl, fun _ => rfl, fun _ => rfl⟩)
  have k := K _ rfl putArch_at
  rw [← e] at k
  exact k
theorem xs_X0_familyNames {x : Int64} {i : Nat} (hd : decode M.2.1 pc = .ok (.lastore, 1)) (hA : ArchAt h o st) (hi : i < 10) (K : ∀ h', h' = putArch h o (aL st 0 (vp_updL (st.2.1 0) i x)) → ArchAt h' o (aL st 0 (vp_updL (st.2.1 0) i x)) → xP g l M tb R Z (pc + 1) V S h' kc ks) : xP g l M tb R Z pc V (.long x :: .int (nI i) :: .ref (o + 1) :: S) h kc ks := by
  refine x_last hd hA.familyNames hi (by decide) ?_
  refine xP.eq rfl rfl rfl (hset_arch (st' := aL st 0 (vp_updL (st.2.1 0) i x)) 1 (by decide) hA rfl (lt12 ⟨fun _ => rfl, fun q => absurd rfl q, fun _ => rfl, fun _ => rfl, fun _ => rfl, fun _ => rfl, fun _ => rfl, fun _ => rfl, fun _ => rfl, fun _ => rfl, fun _ => rfl, fun _ => rfl⟩)).symm ?_
  exact K _ rfl putArch_at
theorem xc_X0_familyNames {sp dp n a0 n0 : Nat} {f : Nat → Int64} (hd : decode M.2.1 pc = .ok (.invokestatic 71, 3)) (hm : M.1.cls = RX0) (ha0 : h.1 a0 = some (.inl (2, n0, .inr (.inl f)))) (hA : ArchAt h o st) (h4 : sp + n ≤ n0) (h5 : dp + n ≤ 10) (hz0 : n0 < 2 ^ 31) (hR : 1 ≤ R.frames) (hR2 : (S.map fun v => v.category).sum + (nativeFrameWords "java/lang/System" "arraycopy" 5 + 11) ≤ R.locals) (K : ∀ h', h' = putArch h o (aL st 0 (va_cpy f (st.2.1 0) sp dp n)) → ArchAt h' o (aL st 0 (va_cpy f (st.2.1 0) sp dp n)) → xP g l M tb R Z (pc + 3) V S h' kc ks) : xP g l M tb R Z pc V (.int (nI n) :: .int (nI dp) :: .ref (o + 1) :: .int (nI sp) :: .ref a0 :: S) h kc ks := by
  refine x_copyl hd hm ha0 hA.familyNames h4 h5 hz0 (by decide) hR hR2 ?_
  refine xP.eq rfl rfl rfl (hset_arch (st' := aL st 0 (va_cpy f (st.2.1 0) sp dp n)) 1 (by decide) hA rfl (lt12 ⟨fun _ => rfl, fun q => absurd rfl q, fun _ => rfl, fun _ => rfl, fun _ => rfl, fun _ => rfl, fun _ => rfl, fun _ => rfl, fun _ => rfl, fun _ => rfl, fun _ => rfl, fun _ => rfl⟩)).symm ?_
  exact K _ rfl putArch_at
theorem xs_X0_rooms {x i : Nat} (hd : decode M.2.1 pc = .ok (.iastore, 1)) (hA : ArchAt h o st) (hi : i < 10) (K : ∀ h', h' = putArch h o (aF st 0 (va_up (st.2.2 0) i x)) → ArchAt h' o (aF st 0 (va_up (st.2.2 0) i x)) → xP g l M tb R Z (pc + 1) V S h' kc ks) : xP g l M tb R Z pc V (.int (nI x) :: .int (nI i) :: .ref (o + 2) :: S) h kc ks := by
  refine x_iast_n hd hA.rooms hi (by decide) ?_
  refine xP.eq rfl rfl rfl (hset_arch (st' := aF st 0 (va_up (st.2.2 0) i x)) 2 (by decide) hA rfl (lt12 ⟨fun _ => rfl, fun _ => rfl, fun q => absurd rfl q, fun _ => rfl, fun _ => rfl, fun _ => rfl, fun _ => rfl, fun _ => rfl, fun _ => rfl, fun _ => rfl, fun _ => rfl, fun _ => rfl⟩)).symm ?_
  exact K _ rfl putArch_at
theorem xc_X0_rooms {sp dp n a0 n0 : Nat} {f : Nat → Nat} (hd : decode M.2.1 pc = .ok (.invokestatic 71, 3)) (hm : M.1.cls = RX0) (ha0 : h.1 a0 = some (.inl (0, n0, .inl (fun q => nI (f q))))) (hA : ArchAt h o st) (h4 : sp + n ≤ n0) (h5 : dp + n ≤ 10) (hz0 : n0 < 2 ^ 31) (hR : 1 ≤ R.frames) (hR2 : (S.map fun v => v.category).sum + (nativeFrameWords "java/lang/System" "arraycopy" 5 + 11) ≤ R.locals) (K : ∀ h', h' = putArch h o (aF st 0 (va_cpy f (st.2.2 0) sp dp n)) → ArchAt h' o (aF st 0 (va_cpy f (st.2.2 0) sp dp n)) → xP g l M tb R Z (pc + 3) V S h' kc ks) : xP g l M tb R Z pc V (.int (nI n) :: .int (nI dp) :: .ref (o + 2) :: .int (nI sp) :: .ref a0 :: S) h kc ks := by
  refine x_copyi hd hm ha0 hA.rooms h4 h5 hz0 (by decide) hR hR2 ?_
  rw [x_cpy_n]
  refine xP.eq rfl rfl rfl (hset_arch (st' := aF st 0 (va_cpy f (st.2.2 0) sp dp n)) 2 (by decide) hA rfl (lt12 ⟨fun _ => rfl, fun _ => rfl, fun q => absurd rfl q, fun _ => rfl, fun _ => rfl, fun _ => rfl, fun _ => rfl, fun _ => rfl, fun _ => rfl, fun _ => rfl, fun _ => rfl, fun _ => rfl⟩)).symm ?_
  exact K _ rfl putArch_at
theorem xs_X0_near {x i : Nat} (hd : decode M.2.1 pc = .ok (.iastore, 1)) (hA : ArchAt h o st) (hi : i < 10) (K : ∀ h', h' = putArch h o (aF st 1 (va_up (st.2.2 1) i x)) → ArchAt h' o (aF st 1 (va_up (st.2.2 1) i x)) → xP g l M tb R Z (pc + 1) V S h' kc ks) : xP g l M tb R Z pc V (.int (nI x) :: .int (nI i) :: .ref (o + 3) :: S) h kc ks := by
  refine x_iast_n hd hA.near hi (by decide) ?_
  refine xP.eq rfl rfl rfl (hset_arch (st' := aF st 1 (va_up (st.2.2 1) i x)) 3 (by decide) hA rfl (lt12 ⟨fun _ => rfl, fun _ => rfl, fun _ => rfl, fun q => absurd rfl q, fun _ => rfl, fun _ => rfl, fun _ => rfl, fun _ => rfl, fun _ => rfl, fun _ => rfl, fun _ => rfl, fun _ => rfl⟩)).symm ?_
  exact K _ rfl putArch_at
theorem xc_X0_near {sp dp n a0 n0 : Nat} {f : Nat → Nat} (hd : decode M.2.1 pc = .ok (.invokestatic 71, 3)) (hm : M.1.cls = RX0) (ha0 : h.1 a0 = some (.inl (0, n0, .inl (fun q => nI (f q))))) (hA : ArchAt h o st) (h4 : sp + n ≤ n0) (h5 : dp + n ≤ 10) (hz0 : n0 < 2 ^ 31) (hR : 1 ≤ R.frames) (hR2 : (S.map fun v => v.category).sum + (nativeFrameWords "java/lang/System" "arraycopy" 5 + 11) ≤ R.locals) (K : ∀ h', h' = putArch h o (aF st 1 (va_cpy f (st.2.2 1) sp dp n)) → ArchAt h' o (aF st 1 (va_cpy f (st.2.2 1) sp dp n)) → xP g l M tb R Z (pc + 3) V S h' kc ks) : xP g l M tb R Z pc V (.int (nI n) :: .int (nI dp) :: .ref (o + 3) :: .int (nI sp) :: .ref a0 :: S) h kc ks := by
  refine x_copyi hd hm ha0 hA.near h4 h5 hz0 (by decide) hR hR2 ?_
  rw [x_cpy_n]
  refine xP.eq rfl rfl rfl (hset_arch (st' := aF st 1 (va_cpy f (st.2.2 1) sp dp n)) 3 (by decide) hA rfl (lt12 ⟨fun _ => rfl, fun _ => rfl, fun _ => rfl, fun q => absurd rfl q, fun _ => rfl, fun _ => rfl, fun _ => rfl, fun _ => rfl, fun _ => rfl, fun _ => rfl, fun _ => rfl, fun _ => rfl⟩)).symm ?_
  exact K _ rfl putArch_at
theorem xs_X0_right {x i : Nat} (hd : decode M.2.1 pc = .ok (.iastore, 1)) (hA : ArchAt h o st) (hi : i < 10) (K : ∀ h', h' = putArch h o (aF st 2 (va_up (st.2.2 2) i x)) → ArchAt h' o (aF st 2 (va_up (st.2.2 2) i x)) → xP g l M tb R Z (pc + 1) V S h' kc ks) : xP g l M tb R Z pc V (.int (nI x) :: .int (nI i) :: .ref (o + 4) :: S) h kc ks := by
  refine x_iast_n hd hA.right hi (by decide) ?_
  refine xP.eq rfl rfl rfl (hset_arch (st' := aF st 2 (va_up (st.2.2 2) i x)) 4 (by decide) hA rfl (lt12 ⟨fun _ => rfl, fun _ => rfl, fun _ => rfl, fun _ => rfl, fun q => absurd rfl q, fun _ => rfl, fun _ => rfl, fun _ => rfl, fun _ => rfl, fun _ => rfl, fun _ => rfl, fun _ => rfl⟩)).symm ?_
  exact K _ rfl putArch_at
theorem xc_X0_right {sp dp n a0 n0 : Nat} {f : Nat → Nat} (hd : decode M.2.1 pc = .ok (.invokestatic 71, 3)) (hm : M.1.cls = RX0) (ha0 : h.1 a0 = some (.inl (0, n0, .inl (fun q => nI (f q))))) (hA : ArchAt h o st) (h4 : sp + n ≤ n0) (h5 : dp + n ≤ 10) (hz0 : n0 < 2 ^ 31) (hR : 1 ≤ R.frames) (hR2 : (S.map fun v => v.category).sum + (nativeFrameWords "java/lang/System" "arraycopy" 5 + 11) ≤ R.locals) (K : ∀ h', h' = putArch h o (aF st 2 (va_cpy f (st.2.2 2) sp dp n)) → ArchAt h' o (aF st 2 (va_cpy f (st.2.2 2) sp dp n)) → xP g l M tb R Z (pc + 3) V S h' kc ks) : xP g l M tb R Z pc V (.int (nI n) :: .int (nI dp) :: .ref (o + 4) :: .int (nI sp) :: .ref a0 :: S) h kc ks := by
  refine x_copyi hd hm ha0 hA.right h4 h5 hz0 (by decide) hR hR2 ?_
  rw [x_cpy_n]
  refine xP.eq rfl rfl rfl (hset_arch (st' := aF st 2 (va_cpy f (st.2.2 2) sp dp n)) 4 (by decide) hA rfl (lt12 ⟨fun _ => rfl, fun _ => rfl, fun _ => rfl, fun _ => rfl, fun q => absurd rfl q, fun _ => rfl, fun _ => rfl, fun _ => rfl, fun _ => rfl, fun _ => rfl, fun _ => rfl, fun _ => rfl⟩)).symm ?_
  exact K _ rfl putArch_at
theorem xs_X0_wrong {x i : Nat} (hd : decode M.2.1 pc = .ok (.iastore, 1)) (hA : ArchAt h o st) (hi : i < 10) (K : ∀ h', h' = putArch h o (aF st 3 (va_up (st.2.2 3) i x)) → ArchAt h' o (aF st 3 (va_up (st.2.2 3) i x)) → xP g l M tb R Z (pc + 1) V S h' kc ks) : xP g l M tb R Z pc V (.int (nI x) :: .int (nI i) :: .ref (o + 5) :: S) h kc ks := by
  refine x_iast_n hd hA.wrong hi (by decide) ?_
  refine xP.eq rfl rfl rfl (hset_arch (st' := aF st 3 (va_up (st.2.2 3) i x)) 5 (by decide) hA rfl (lt12 ⟨fun _ => rfl, fun _ => rfl, fun _ => rfl, fun _ => rfl, fun _ => rfl, fun q => absurd rfl q, fun _ => rfl, fun _ => rfl, fun _ => rfl, fun _ => rfl, fun _ => rfl, fun _ => rfl⟩)).symm ?_
  exact K _ rfl putArch_at
theorem xc_X0_wrong {sp dp n a0 n0 : Nat} {f : Nat → Nat} (hd : decode M.2.1 pc = .ok (.invokestatic 71, 3)) (hm : M.1.cls = RX0) (ha0 : h.1 a0 = some (.inl (0, n0, .inl (fun q => nI (f q))))) (hA : ArchAt h o st) (h4 : sp + n ≤ n0) (h5 : dp + n ≤ 10) (hz0 : n0 < 2 ^ 31) (hR : 1 ≤ R.frames) (hR2 : (S.map fun v => v.category).sum + (nativeFrameWords "java/lang/System" "arraycopy" 5 + 11) ≤ R.locals) (K : ∀ h', h' = putArch h o (aF st 3 (va_cpy f (st.2.2 3) sp dp n)) → ArchAt h' o (aF st 3 (va_cpy f (st.2.2 3) sp dp n)) → xP g l M tb R Z (pc + 3) V S h' kc ks) : xP g l M tb R Z pc V (.int (nI n) :: .int (nI dp) :: .ref (o + 5) :: .int (nI sp) :: .ref a0 :: S) h kc ks := by
  refine x_copyi hd hm ha0 hA.wrong h4 h5 hz0 (by decide) hR hR2 ?_
  rw [x_cpy_n]
  refine xP.eq rfl rfl rfl (hset_arch (st' := aF st 3 (va_cpy f (st.2.2 3) sp dp n)) 5 (by decide) hA rfl (lt12 ⟨fun _ => rfl, fun _ => rfl, fun _ => rfl, fun _ => rfl, fun _ => rfl, fun q => absurd rfl q, fun _ => rfl, fun _ => rfl, fun _ => rfl, fun _ => rfl, fun _ => rfl, fun _ => rfl⟩)).symm ?_
  exact K _ rfl putArch_at
theorem xs_X0_copies {x i : Nat} (hd : decode M.2.1 pc = .ok (.iastore, 1)) (hA : ArchAt h o st) (hi : i < 10) (K : ∀ h', h' = putArch h o (aF st 4 (va_up (st.2.2 4) i x)) → ArchAt h' o (aF st 4 (va_up (st.2.2 4) i x)) → xP g l M tb R Z (pc + 1) V S h' kc ks) : xP g l M tb R Z pc V (.int (nI x) :: .int (nI i) :: .ref (o + 6) :: S) h kc ks := by
  refine x_iast_n hd hA.copies hi (by decide) ?_
  refine xP.eq rfl rfl rfl (hset_arch (st' := aF st 4 (va_up (st.2.2 4) i x)) 6 (by decide) hA rfl (lt12 ⟨fun _ => rfl, fun _ => rfl, fun _ => rfl, fun _ => rfl, fun _ => rfl, fun _ => rfl, fun q => absurd rfl q, fun _ => rfl, fun _ => rfl, fun _ => rfl, fun _ => rfl, fun _ => rfl⟩)).symm ?_
  exact K _ rfl putArch_at
theorem xc_X0_copies {sp dp n a0 n0 : Nat} {f : Nat → Nat} (hd : decode M.2.1 pc = .ok (.invokestatic 71, 3)) (hm : M.1.cls = RX0) (ha0 : h.1 a0 = some (.inl (0, n0, .inl (fun q => nI (f q))))) (hA : ArchAt h o st) (h4 : sp + n ≤ n0) (h5 : dp + n ≤ 10) (hz0 : n0 < 2 ^ 31) (hR : 1 ≤ R.frames) (hR2 : (S.map fun v => v.category).sum + (nativeFrameWords "java/lang/System" "arraycopy" 5 + 11) ≤ R.locals) (K : ∀ h', h' = putArch h o (aF st 4 (va_cpy f (st.2.2 4) sp dp n)) → ArchAt h' o (aF st 4 (va_cpy f (st.2.2 4) sp dp n)) → xP g l M tb R Z (pc + 3) V S h' kc ks) : xP g l M tb R Z pc V (.int (nI n) :: .int (nI dp) :: .ref (o + 6) :: .int (nI sp) :: .ref a0 :: S) h kc ks := by
  refine x_copyi hd hm ha0 hA.copies h4 h5 hz0 (by decide) hR hR2 ?_
  rw [x_cpy_n]
  refine xP.eq rfl rfl rfl (hset_arch (st' := aF st 4 (va_cpy f (st.2.2 4) sp dp n)) 6 (by decide) hA rfl (lt12 ⟨fun _ => rfl, fun _ => rfl, fun _ => rfl, fun _ => rfl, fun _ => rfl, fun _ => rfl, fun q => absurd rfl q, fun _ => rfl, fun _ => rfl, fun _ => rfl, fun _ => rfl, fun _ => rfl⟩)).symm ?_
  exact K _ rfl putArch_at
theorem xs_X0_pictureNames {x : Int64} {i : Nat} (hd : decode M.2.1 pc = .ok (.lastore, 1)) (hA : ArchAt h o st) (hi : i < 12) (K : ∀ h', h' = putArch h o (aL st 1 (vp_updL (st.2.1 1) i x)) → ArchAt h' o (aL st 1 (vp_updL (st.2.1 1) i x)) → xP g l M tb R Z (pc + 1) V S h' kc ks) : xP g l M tb R Z pc V (.long x :: .int (nI i) :: .ref (o + 7) :: S) h kc ks := by
  refine x_last hd hA.pictureNames hi (by decide) ?_
  refine xP.eq rfl rfl rfl (hset_arch (st' := aL st 1 (vp_updL (st.2.1 1) i x)) 7 (by decide) hA rfl (lt12 ⟨fun _ => rfl, fun _ => rfl, fun _ => rfl, fun _ => rfl, fun _ => rfl, fun _ => rfl, fun _ => rfl, fun q => absurd rfl q, fun _ => rfl, fun _ => rfl, fun _ => rfl, fun _ => rfl⟩)).symm ?_
  exact K _ rfl putArch_at
theorem xc_X0_pictureNames {sp dp n a0 n0 : Nat} {f : Nat → Int64} (hd : decode M.2.1 pc = .ok (.invokestatic 71, 3)) (hm : M.1.cls = RX0) (ha0 : h.1 a0 = some (.inl (2, n0, .inr (.inl f)))) (hA : ArchAt h o st) (h4 : sp + n ≤ n0) (h5 : dp + n ≤ 12) (hz0 : n0 < 2 ^ 31) (hR : 1 ≤ R.frames) (hR2 : (S.map fun v => v.category).sum + (nativeFrameWords "java/lang/System" "arraycopy" 5 + 11) ≤ R.locals) (K : ∀ h', h' = putArch h o (aL st 1 (va_cpy f (st.2.1 1) sp dp n)) → ArchAt h' o (aL st 1 (va_cpy f (st.2.1 1) sp dp n)) → xP g l M tb R Z (pc + 3) V S h' kc ks) : xP g l M tb R Z pc V (.int (nI n) :: .int (nI dp) :: .ref (o + 7) :: .int (nI sp) :: .ref a0 :: S) h kc ks := by
  refine x_copyl hd hm ha0 hA.pictureNames h4 h5 hz0 (by decide) hR hR2 ?_
  refine xP.eq rfl rfl rfl (hset_arch (st' := aL st 1 (va_cpy f (st.2.1 1) sp dp n)) 7 (by decide) hA rfl (lt12 ⟨fun _ => rfl, fun _ => rfl, fun _ => rfl, fun _ => rfl, fun _ => rfl, fun _ => rfl, fun _ => rfl, fun q => absurd rfl q, fun _ => rfl, fun _ => rfl, fun _ => rfl, fun _ => rfl⟩)).symm ?_
  exact K _ rfl putArch_at
theorem xs_X0_pledges {x i : Nat} (hd : decode M.2.1 pc = .ok (.iastore, 1)) (hA : ArchAt h o st) (hi : i < 12) (K : ∀ h', h' = putArch h o (aF st 5 (va_up (st.2.2 5) i x)) → ArchAt h' o (aF st 5 (va_up (st.2.2 5) i x)) → xP g l M tb R Z (pc + 1) V S h' kc ks) : xP g l M tb R Z pc V (.int (nI x) :: .int (nI i) :: .ref (o + 8) :: S) h kc ks := by
  refine x_iast_n hd hA.pledges hi (by decide) ?_
  refine xP.eq rfl rfl rfl (hset_arch (st' := aF st 5 (va_up (st.2.2 5) i x)) 8 (by decide) hA rfl (lt12 ⟨fun _ => rfl, fun _ => rfl, fun _ => rfl, fun _ => rfl, fun _ => rfl, fun _ => rfl, fun _ => rfl, fun _ => rfl, fun q => absurd rfl q, fun _ => rfl, fun _ => rfl, fun _ => rfl⟩)).symm ?_
  exact K _ rfl putArch_at
theorem xc_X0_pledges {sp dp n a0 n0 : Nat} {f : Nat → Nat} (hd : decode M.2.1 pc = .ok (.invokestatic 71, 3)) (hm : M.1.cls = RX0) (ha0 : h.1 a0 = some (.inl (0, n0, .inl (fun q => nI (f q))))) (hA : ArchAt h o st) (h4 : sp + n ≤ n0) (h5 : dp + n ≤ 12) (hz0 : n0 < 2 ^ 31) (hR : 1 ≤ R.frames) (hR2 : (S.map fun v => v.category).sum + (nativeFrameWords "java/lang/System" "arraycopy" 5 + 11) ≤ R.locals) (K : ∀ h', h' = putArch h o (aF st 5 (va_cpy f (st.2.2 5) sp dp n)) → ArchAt h' o (aF st 5 (va_cpy f (st.2.2 5) sp dp n)) → xP g l M tb R Z (pc + 3) V S h' kc ks) : xP g l M tb R Z pc V (.int (nI n) :: .int (nI dp) :: .ref (o + 8) :: .int (nI sp) :: .ref a0 :: S) h kc ks := by
  refine x_copyi hd hm ha0 hA.pledges h4 h5 hz0 (by decide) hR hR2 ?_
  rw [x_cpy_n]
  refine xP.eq rfl rfl rfl (hset_arch (st' := aF st 5 (va_cpy f (st.2.2 5) sp dp n)) 8 (by decide) hA rfl (lt12 ⟨fun _ => rfl, fun _ => rfl, fun _ => rfl, fun _ => rfl, fun _ => rfl, fun _ => rfl, fun _ => rfl, fun _ => rfl, fun q => absurd rfl q, fun _ => rfl, fun _ => rfl, fun _ => rfl⟩)).symm ?_
  exact K _ rfl putArch_at
theorem xs_X0_held {x i : Nat} (hd : decode M.2.1 pc = .ok (.iastore, 1)) (hA : ArchAt h o st) (hi : i < 12) (K : ∀ h', h' = putArch h o (aF st 6 (va_up (st.2.2 6) i x)) → ArchAt h' o (aF st 6 (va_up (st.2.2 6) i x)) → xP g l M tb R Z (pc + 1) V S h' kc ks) : xP g l M tb R Z pc V (.int (nI x) :: .int (nI i) :: .ref (o + 9) :: S) h kc ks := by
  refine x_iast_n hd hA.held hi (by decide) ?_
  refine xP.eq rfl rfl rfl (hset_arch (st' := aF st 6 (va_up (st.2.2 6) i x)) 9 (by decide) hA rfl (lt12 ⟨fun _ => rfl, fun _ => rfl, fun _ => rfl, fun _ => rfl, fun _ => rfl, fun _ => rfl, fun _ => rfl, fun _ => rfl, fun _ => rfl, fun q => absurd rfl q, fun _ => rfl, fun _ => rfl⟩)).symm ?_
  exact K _ rfl putArch_at
theorem xc_X0_held {sp dp n a0 n0 : Nat} {f : Nat → Nat} (hd : decode M.2.1 pc = .ok (.invokestatic 71, 3)) (hm : M.1.cls = RX0) (ha0 : h.1 a0 = some (.inl (0, n0, .inl (fun q => nI (f q))))) (hA : ArchAt h o st) (h4 : sp + n ≤ n0) (h5 : dp + n ≤ 12) (hz0 : n0 < 2 ^ 31) (hR : 1 ≤ R.frames) (hR2 : (S.map fun v => v.category).sum + (nativeFrameWords "java/lang/System" "arraycopy" 5 + 11) ≤ R.locals) (K : ∀ h', h' = putArch h o (aF st 6 (va_cpy f (st.2.2 6) sp dp n)) → ArchAt h' o (aF st 6 (va_cpy f (st.2.2 6) sp dp n)) → xP g l M tb R Z (pc + 3) V S h' kc ks) : xP g l M tb R Z pc V (.int (nI n) :: .int (nI dp) :: .ref (o + 9) :: .int (nI sp) :: .ref a0 :: S) h kc ks := by
  refine x_copyi hd hm ha0 hA.held h4 h5 hz0 (by decide) hR hR2 ?_
  rw [x_cpy_n]
  refine xP.eq rfl rfl rfl (hset_arch (st' := aF st 6 (va_cpy f (st.2.2 6) sp dp n)) 9 (by decide) hA rfl (lt12 ⟨fun _ => rfl, fun _ => rfl, fun _ => rfl, fun _ => rfl, fun _ => rfl, fun _ => rfl, fun _ => rfl, fun _ => rfl, fun _ => rfl, fun q => absurd rfl q, fun _ => rfl, fun _ => rfl⟩)).symm ?_
  exact K _ rfl putArch_at
theorem xs_X0_broken {x i : Nat} (hd : decode M.2.1 pc = .ok (.iastore, 1)) (hA : ArchAt h o st) (hi : i < 12) (K : ∀ h', h' = putArch h o (aF st 7 (va_up (st.2.2 7) i x)) → ArchAt h' o (aF st 7 (va_up (st.2.2 7) i x)) → xP g l M tb R Z (pc + 1) V S h' kc ks) : xP g l M tb R Z pc V (.int (nI x) :: .int (nI i) :: .ref (o + 10) :: S) h kc ks := by
  refine x_iast_n hd hA.broken hi (by decide) ?_
  refine xP.eq rfl rfl rfl (hset_arch (st' := aF st 7 (va_up (st.2.2 7) i x)) 10 (by decide) hA rfl (lt12 ⟨fun _ => rfl, fun _ => rfl, fun _ => rfl, fun _ => rfl, fun _ => rfl, fun _ => rfl, fun _ => rfl, fun _ => rfl, fun _ => rfl, fun _ => rfl, fun q => absurd rfl q, fun _ => rfl⟩)).symm ?_
  exact K _ rfl putArch_at
theorem xc_X0_broken {sp dp n a0 n0 : Nat} {f : Nat → Nat} (hd : decode M.2.1 pc = .ok (.invokestatic 71, 3)) (hm : M.1.cls = RX0) (ha0 : h.1 a0 = some (.inl (0, n0, .inl (fun q => nI (f q))))) (hA : ArchAt h o st) (h4 : sp + n ≤ n0) (h5 : dp + n ≤ 12) (hz0 : n0 < 2 ^ 31) (hR : 1 ≤ R.frames) (hR2 : (S.map fun v => v.category).sum + (nativeFrameWords "java/lang/System" "arraycopy" 5 + 11) ≤ R.locals) (K : ∀ h', h' = putArch h o (aF st 7 (va_cpy f (st.2.2 7) sp dp n)) → ArchAt h' o (aF st 7 (va_cpy f (st.2.2 7) sp dp n)) → xP g l M tb R Z (pc + 3) V S h' kc ks) : xP g l M tb R Z pc V (.int (nI n) :: .int (nI dp) :: .ref (o + 10) :: .int (nI sp) :: .ref a0 :: S) h kc ks := by
  refine x_copyi hd hm ha0 hA.broken h4 h5 hz0 (by decide) hR hR2 ?_
  rw [x_cpy_n]
  refine xP.eq rfl rfl rfl (hset_arch (st' := aF st 7 (va_cpy f (st.2.2 7) sp dp n)) 10 (by decide) hA rfl (lt12 ⟨fun _ => rfl, fun _ => rfl, fun _ => rfl, fun _ => rfl, fun _ => rfl, fun _ => rfl, fun _ => rfl, fun _ => rfl, fun _ => rfl, fun _ => rfl, fun q => absurd rfl q, fun _ => rfl⟩)).symm ?_
  exact K _ rfl putArch_at
theorem xs_X0_spoiled {x i : Nat} (hd : decode M.2.1 pc = .ok (.iastore, 1)) (hA : ArchAt h o st) (hi : i < 120) (K : ∀ h', h' = putArch h o (aF st 8 (va_up (st.2.2 8) i x)) → ArchAt h' o (aF st 8 (va_up (st.2.2 8) i x)) → xP g l M tb R Z (pc + 1) V S h' kc ks) : xP g l M tb R Z pc V (.int (nI x) :: .int (nI i) :: .ref (o + 11) :: S) h kc ks := by
  refine x_iast_n hd hA.spoiled hi (by decide) ?_
  refine xP.eq rfl rfl rfl (hset_arch (st' := aF st 8 (va_up (st.2.2 8) i x)) 11 (by decide) hA rfl (lt12 ⟨fun _ => rfl, fun _ => rfl, fun _ => rfl, fun _ => rfl, fun _ => rfl, fun _ => rfl, fun _ => rfl, fun _ => rfl, fun _ => rfl, fun _ => rfl, fun _ => rfl, fun q => absurd rfl q⟩)).symm ?_
  exact K _ rfl putArch_at
theorem xc_X0_spoiled {sp dp n a0 n0 : Nat} {f : Nat → Nat} (hd : decode M.2.1 pc = .ok (.invokestatic 71, 3)) (hm : M.1.cls = RX0) (ha0 : h.1 a0 = some (.inl (0, n0, .inl (fun q => nI (f q))))) (hA : ArchAt h o st) (h4 : sp + n ≤ n0) (h5 : dp + n ≤ 120) (hz0 : n0 < 2 ^ 31) (hR : 1 ≤ R.frames) (hR2 : (S.map fun v => v.category).sum + (nativeFrameWords "java/lang/System" "arraycopy" 5 + 11) ≤ R.locals) (K : ∀ h', h' = putArch h o (aF st 8 (va_cpy f (st.2.2 8) sp dp n)) → ArchAt h' o (aF st 8 (va_cpy f (st.2.2 8) sp dp n)) → xP g l M tb R Z (pc + 3) V S h' kc ks) : xP g l M tb R Z pc V (.int (nI n) :: .int (nI dp) :: .ref (o + 11) :: .int (nI sp) :: .ref a0 :: S) h kc ks := by
  refine x_copyi hd hm ha0 hA.spoiled h4 h5 hz0 (by decide) hR hR2 ?_
  rw [x_cpy_n]
  refine xP.eq rfl rfl rfl (hset_arch (st' := aF st 8 (va_cpy f (st.2.2 8) sp dp n)) 11 (by decide) hA rfl (lt12 ⟨fun _ => rfl, fun _ => rfl, fun _ => rfl, fun _ => rfl, fun _ => rfl, fun _ => rfl, fun _ => rfl, fun _ => rfl, fun _ => rfl, fun _ => rfl, fun _ => rfl, fun q => absurd rfl q⟩)).symm ?_
  exact K _ rfl putArch_at
theorem xq_X0_tiles {x i : Nat} (hd : decode M.2.1 pc = .ok (.putfield i, 3)) (hF : xF M.1.cls i 0 0) (K : xP g l M tb R Z (pc + 3) V S (putArch h o (aI st 0 x)) kc ks) : xP g l M tb R Z pc V (.int (nI x) :: .ref o :: S) (putArch h o st) kc ks := xw_X0_tiles hd hF putArch_at (fun h' e _ => by rw [e, putArch_put]; exact K)
theorem xq_X0_families {x i : Nat} (hd : decode M.2.1 pc = .ok (.putfield i, 3)) (hF : xF M.1.cls i 0 1) (K : xP g l M tb R Z (pc + 3) V S (putArch h o (aI st 1 x)) kc ks) : xP g l M tb R Z pc V (.int (nI x) :: .ref o :: S) (putArch h o st) kc ks := xw_X0_families hd hF putArch_at (fun h' e _ => by rw [e, putArch_put]; exact K)
theorem xq_X0_pictures {x i : Nat} (hd : decode M.2.1 pc = .ok (.putfield i, 3)) (hF : xF M.1.cls i 0 2) (K : xP g l M tb R Z (pc + 3) V S (putArch h o (aI st 2 x)) kc ks) : xP g l M tb R Z pc V (.int (nI x) :: .ref o :: S) (putArch h o st) kc ks := xw_X0_pictures hd hF putArch_at (fun h' e _ => by rw [e, putArch_put]; exact K)
theorem xq_X0_questions {x i : Nat} (hd : decode M.2.1 pc = .ok (.putfield i, 3)) (hF : xF M.1.cls i 0 3) (K : xP g l M tb R Z (pc + 3) V S (putArch h o (aI st 3 x)) kc ks) : xP g l M tb R Z pc V (.int (nI x) :: .ref o :: S) (putArch h o st) kc ks := xw_X0_questions hd hF putArch_at (fun h' e _ => by rw [e, putArch_put]; exact K)
theorem xq_X0_repairs {x i : Nat} (hd : decode M.2.1 pc = .ok (.putfield i, 3)) (hF : xF M.1.cls i 0 4) (K : xP g l M tb R Z (pc + 3) V S (putArch h o (aI st 4 x)) kc ks) : xP g l M tb R Z pc V (.int (nI x) :: .ref o :: S) (putArch h o st) kc ks := xw_X0_repairs hd hF putArch_at (fun h' e _ => by rw [e, putArch_put]; exact K)
theorem xq_X0_familyNames {x : Int64} {i : Nat} (hd : decode M.2.1 pc = .ok (.lastore, 1)) (hi : i < 10) (K : xP g l M tb R Z (pc + 1) V S (putArch h o (aL st 0 (vp_updL (st.2.1 0) i x))) kc ks) : xP g l M tb R Z pc V (.long x :: .int (nI i) :: .ref (o + 1) :: S) (putArch h o st) kc ks := xs_X0_familyNames hd putArch_at hi (fun h' e _ => by rw [e, putArch_put]; exact K)
theorem xqc_X0_familyNames {sp dp n a0 n0 : Nat} {f : Nat → Int64} (hd : decode M.2.1 pc = .ok (.invokestatic 71, 3)) (hm : M.1.cls = RX0) (ha0 : (putArch h o st).1 a0 = some (.inl (2, n0, .inr (.inl f)))) (h4 : sp + n ≤ n0) (h5 : dp + n ≤ 10) (hz0 : n0 < 2 ^ 31) (hR : 1 ≤ R.frames) (hR2 : (S.map fun v => v.category).sum + (nativeFrameWords "java/lang/System" "arraycopy" 5 + 11) ≤ R.locals) (K : xP g l M tb R Z (pc + 3) V S (putArch h o (aL st 0 (va_cpy f (st.2.1 0) sp dp n))) kc ks) : xP g l M tb R Z pc V (.int (nI n) :: .int (nI dp) :: .ref (o + 1) :: .int (nI sp) :: .ref a0 :: S) (putArch h o st) kc ks := xc_X0_familyNames hd hm ha0 putArch_at h4 h5 hz0 hR hR2 (fun h' e _ => by rw [e, putArch_put]; exact K)
theorem xq_X0_rooms {x i : Nat} (hd : decode M.2.1 pc = .ok (.iastore, 1)) (hi : i < 10) (K : xP g l M tb R Z (pc + 1) V S (putArch h o (aF st 0 (va_up (st.2.2 0) i x))) kc ks) : xP g l M tb R Z pc V (.int (nI x) :: .int (nI i) :: .ref (o + 2) :: S) (putArch h o st) kc ks := xs_X0_rooms hd putArch_at hi (fun h' e _ => by rw [e, putArch_put]; exact K)
theorem xqc_X0_rooms {sp dp n a0 n0 : Nat} {f : Nat → Nat} (hd : decode M.2.1 pc = .ok (.invokestatic 71, 3)) (hm : M.1.cls = RX0) (ha0 : (putArch h o st).1 a0 = some (.inl (0, n0, .inl (fun q => nI (f q))))) (h4 : sp + n ≤ n0) (h5 : dp + n ≤ 10) (hz0 : n0 < 2 ^ 31) (hR : 1 ≤ R.frames) (hR2 : (S.map fun v => v.category).sum + (nativeFrameWords "java/lang/System" "arraycopy" 5 + 11) ≤ R.locals) (K : xP g l M tb R Z (pc + 3) V S (putArch h o (aF st 0 (va_cpy f (st.2.2 0) sp dp n))) kc ks) : xP g l M tb R Z pc V (.int (nI n) :: .int (nI dp) :: .ref (o + 2) :: .int (nI sp) :: .ref a0 :: S) (putArch h o st) kc ks := xc_X0_rooms hd hm ha0 putArch_at h4 h5 hz0 hR hR2 (fun h' e _ => by rw [e, putArch_put]; exact K)
theorem xq_X0_near {x i : Nat} (hd : decode M.2.1 pc = .ok (.iastore, 1)) (hi : i < 10) (K : xP g l M tb R Z (pc + 1) V S (putArch h o (aF st 1 (va_up (st.2.2 1) i x))) kc ks) : xP g l M tb R Z pc V (.int (nI x) :: .int (nI i) :: .ref (o + 3) :: S) (putArch h o st) kc ks := xs_X0_near hd putArch_at hi (fun h' e _ => by rw [e, putArch_put]; exact K)
theorem xqc_X0_near {sp dp n a0 n0 : Nat} {f : Nat → Nat} (hd : decode M.2.1 pc = .ok (.invokestatic 71, 3)) (hm : M.1.cls = RX0) (ha0 : (putArch h o st).1 a0 = some (.inl (0, n0, .inl (fun q => nI (f q))))) (h4 : sp + n ≤ n0) (h5 : dp + n ≤ 10) (hz0 : n0 < 2 ^ 31) (hR : 1 ≤ R.frames) (hR2 : (S.map fun v => v.category).sum + (nativeFrameWords "java/lang/System" "arraycopy" 5 + 11) ≤ R.locals) (K : xP g l M tb R Z (pc + 3) V S (putArch h o (aF st 1 (va_cpy f (st.2.2 1) sp dp n))) kc ks) : xP g l M tb R Z pc V (.int (nI n) :: .int (nI dp) :: .ref (o + 3) :: .int (nI sp) :: .ref a0 :: S) (putArch h o st) kc ks := xc_X0_near hd hm ha0 putArch_at h4 h5 hz0 hR hR2 (fun h' e _ => by rw [e, putArch_put]; exact K)
theorem xq_X0_right {x i : Nat} (hd : decode M.2.1 pc = .ok (.iastore, 1)) (hi : i < 10) (K : xP g l M tb R Z (pc + 1) V S (putArch h o (aF st 2 (va_up (st.2.2 2) i x))) kc ks) : xP g l M tb R Z pc V (.int (nI x) :: .int (nI i) :: .ref (o + 4) :: S) (putArch h o st) kc ks := xs_X0_right hd putArch_at hi (fun h' e _ => by rw [e, putArch_put]; exact K)
theorem xqc_X0_right {sp dp n a0 n0 : Nat} {f : Nat → Nat} (hd : decode M.2.1 pc = .ok (.invokestatic 71, 3)) (hm : M.1.cls = RX0) (ha0 : (putArch h o st).1 a0 = some (.inl (0, n0, .inl (fun q => nI (f q))))) (h4 : sp + n ≤ n0) (h5 : dp + n ≤ 10) (hz0 : n0 < 2 ^ 31) (hR : 1 ≤ R.frames) (hR2 : (S.map fun v => v.category).sum + (nativeFrameWords "java/lang/System" "arraycopy" 5 + 11) ≤ R.locals) (K : xP g l M tb R Z (pc + 3) V S (putArch h o (aF st 2 (va_cpy f (st.2.2 2) sp dp n))) kc ks) : xP g l M tb R Z pc V (.int (nI n) :: .int (nI dp) :: .ref (o + 4) :: .int (nI sp) :: .ref a0 :: S) (putArch h o st) kc ks := xc_X0_right hd hm ha0 putArch_at h4 h5 hz0 hR hR2 (fun h' e _ => by rw [e, putArch_put]; exact K)
theorem xq_X0_wrong {x i : Nat} (hd : decode M.2.1 pc = .ok (.iastore, 1)) (hi : i < 10) (K : xP g l M tb R Z (pc + 1) V S (putArch h o (aF st 3 (va_up (st.2.2 3) i x))) kc ks) : xP g l M tb R Z pc V (.int (nI x) :: .int (nI i) :: .ref (o + 5) :: S) (putArch h o st) kc ks := xs_X0_wrong hd putArch_at hi (fun h' e _ => by rw [e, putArch_put]; exact K)
theorem xqc_X0_wrong {sp dp n a0 n0 : Nat} {f : Nat → Nat} (hd : decode M.2.1 pc = .ok (.invokestatic 71, 3)) (hm : M.1.cls = RX0) (ha0 : (putArch h o st).1 a0 = some (.inl (0, n0, .inl (fun q => nI (f q))))) (h4 : sp + n ≤ n0) (h5 : dp + n ≤ 10) (hz0 : n0 < 2 ^ 31) (hR : 1 ≤ R.frames) (hR2 : (S.map fun v => v.category).sum + (nativeFrameWords "java/lang/System" "arraycopy" 5 + 11) ≤ R.locals) (K : xP g l M tb R Z (pc + 3) V S (putArch h o (aF st 3 (va_cpy f (st.2.2 3) sp dp n))) kc ks) : xP g l M tb R Z pc V (.int (nI n) :: .int (nI dp) :: .ref (o + 5) :: .int (nI sp) :: .ref a0 :: S) (putArch h o st) kc ks := xc_X0_wrong hd hm ha0 putArch_at h4 h5 hz0 hR hR2 (fun h' e _ => by rw [e, putArch_put]; exact K)
theorem xq_X0_copies {x i : Nat} (hd : decode M.2.1 pc = .ok (.iastore, 1)) (hi : i < 10) (K : xP g l M tb R Z (pc + 1) V S (putArch h o (aF st 4 (va_up (st.2.2 4) i x))) kc ks) : xP g l M tb R Z pc V (.int (nI x) :: .int (nI i) :: .ref (o + 6) :: S) (putArch h o st) kc ks := xs_X0_copies hd putArch_at hi (fun h' e _ => by rw [e, putArch_put]; exact K)
theorem xqc_X0_copies {sp dp n a0 n0 : Nat} {f : Nat → Nat} (hd : decode M.2.1 pc = .ok (.invokestatic 71, 3)) (hm : M.1.cls = RX0) (ha0 : (putArch h o st).1 a0 = some (.inl (0, n0, .inl (fun q => nI (f q))))) (h4 : sp + n ≤ n0) (h5 : dp + n ≤ 10) (hz0 : n0 < 2 ^ 31) (hR : 1 ≤ R.frames) (hR2 : (S.map fun v => v.category).sum + (nativeFrameWords "java/lang/System" "arraycopy" 5 + 11) ≤ R.locals) (K : xP g l M tb R Z (pc + 3) V S (putArch h o (aF st 4 (va_cpy f (st.2.2 4) sp dp n))) kc ks) : xP g l M tb R Z pc V (.int (nI n) :: .int (nI dp) :: .ref (o + 6) :: .int (nI sp) :: .ref a0 :: S) (putArch h o st) kc ks := xc_X0_copies hd hm ha0 putArch_at h4 h5 hz0 hR hR2 (fun h' e _ => by rw [e, putArch_put]; exact K)
theorem xq_X0_pictureNames {x : Int64} {i : Nat} (hd : decode M.2.1 pc = .ok (.lastore, 1)) (hi : i < 12) (K : xP g l M tb R Z (pc + 1) V S (putArch h o (aL st 1 (vp_updL (st.2.1 1) i x))) kc ks) : xP g l M tb R Z pc V (.long x :: .int (nI i) :: .ref (o + 7) :: S) (putArch h o st) kc ks := xs_X0_pictureNames hd putArch_at hi (fun h' e _ => by rw [e, putArch_put]; exact K)
theorem xqc_X0_pictureNames {sp dp n a0 n0 : Nat} {f : Nat → Int64} (hd : decode M.2.1 pc = .ok (.invokestatic 71, 3)) (hm : M.1.cls = RX0) (ha0 : (putArch h o st).1 a0 = some (.inl (2, n0, .inr (.inl f)))) (h4 : sp + n ≤ n0) (h5 : dp + n ≤ 12) (hz0 : n0 < 2 ^ 31) (hR : 1 ≤ R.frames) (hR2 : (S.map fun v => v.category).sum + (nativeFrameWords "java/lang/System" "arraycopy" 5 + 11) ≤ R.locals) (K : xP g l M tb R Z (pc + 3) V S (putArch h o (aL st 1 (va_cpy f (st.2.1 1) sp dp n))) kc ks) : xP g l M tb R Z pc V (.int (nI n) :: .int (nI dp) :: .ref (o + 7) :: .int (nI sp) :: .ref a0 :: S) (putArch h o st) kc ks := xc_X0_pictureNames hd hm ha0 putArch_at h4 h5 hz0 hR hR2 (fun h' e _ => by rw [e, putArch_put]; exact K)
theorem xq_X0_pledges {x i : Nat} (hd : decode M.2.1 pc = .ok (.iastore, 1)) (hi : i < 12) (K : xP g l M tb R Z (pc + 1) V S (putArch h o (aF st 5 (va_up (st.2.2 5) i x))) kc ks) : xP g l M tb R Z pc V (.int (nI x) :: .int (nI i) :: .ref (o + 8) :: S) (putArch h o st) kc ks := xs_X0_pledges hd putArch_at hi (fun h' e _ => by rw [e, putArch_put]; exact K)
theorem xqc_X0_pledges {sp dp n a0 n0 : Nat} {f : Nat → Nat} (hd : decode M.2.1 pc = .ok (.invokestatic 71, 3)) (hm : M.1.cls = RX0) (ha0 : (putArch h o st).1 a0 = some (.inl (0, n0, .inl (fun q => nI (f q))))) (h4 : sp + n ≤ n0) (h5 : dp + n ≤ 12) (hz0 : n0 < 2 ^ 31) (hR : 1 ≤ R.frames) (hR2 : (S.map fun v => v.category).sum + (nativeFrameWords "java/lang/System" "arraycopy" 5 + 11) ≤ R.locals) (K : xP g l M tb R Z (pc + 3) V S (putArch h o (aF st 5 (va_cpy f (st.2.2 5) sp dp n))) kc ks) : xP g l M tb R Z pc V (.int (nI n) :: .int (nI dp) :: .ref (o + 8) :: .int (nI sp) :: .ref a0 :: S) (putArch h o st) kc ks := xc_X0_pledges hd hm ha0 putArch_at h4 h5 hz0 hR hR2 (fun h' e _ => by rw [e, putArch_put]; exact K)
theorem xq_X0_held {x i : Nat} (hd : decode M.2.1 pc = .ok (.iastore, 1)) (hi : i < 12) (K : xP g l M tb R Z (pc + 1) V S (putArch h o (aF st 6 (va_up (st.2.2 6) i x))) kc ks) : xP g l M tb R Z pc V (.int (nI x) :: .int (nI i) :: .ref (o + 9) :: S) (putArch h o st) kc ks := xs_X0_held hd putArch_at hi (fun h' e _ => by rw [e, putArch_put]; exact K)
theorem xqc_X0_held {sp dp n a0 n0 : Nat} {f : Nat → Nat} (hd : decode M.2.1 pc = .ok (.invokestatic 71, 3)) (hm : M.1.cls = RX0) (ha0 : (putArch h o st).1 a0 = some (.inl (0, n0, .inl (fun q => nI (f q))))) (h4 : sp + n ≤ n0) (h5 : dp + n ≤ 12) (hz0 : n0 < 2 ^ 31) (hR : 1 ≤ R.frames) (hR2 : (S.map fun v => v.category).sum + (nativeFrameWords "java/lang/System" "arraycopy" 5 + 11) ≤ R.locals) (K : xP g l M tb R Z (pc + 3) V S (putArch h o (aF st 6 (va_cpy f (st.2.2 6) sp dp n))) kc ks) : xP g l M tb R Z pc V (.int (nI n) :: .int (nI dp) :: .ref (o + 9) :: .int (nI sp) :: .ref a0 :: S) (putArch h o st) kc ks := xc_X0_held hd hm ha0 putArch_at h4 h5 hz0 hR hR2 (fun h' e _ => by rw [e, putArch_put]; exact K)
theorem xq_X0_broken {x i : Nat} (hd : decode M.2.1 pc = .ok (.iastore, 1)) (hi : i < 12) (K : xP g l M tb R Z (pc + 1) V S (putArch h o (aF st 7 (va_up (st.2.2 7) i x))) kc ks) : xP g l M tb R Z pc V (.int (nI x) :: .int (nI i) :: .ref (o + 10) :: S) (putArch h o st) kc ks := xs_X0_broken hd putArch_at hi (fun h' e _ => by rw [e, putArch_put]; exact K)
theorem xqc_X0_broken {sp dp n a0 n0 : Nat} {f : Nat → Nat} (hd : decode M.2.1 pc = .ok (.invokestatic 71, 3)) (hm : M.1.cls = RX0) (ha0 : (putArch h o st).1 a0 = some (.inl (0, n0, .inl (fun q => nI (f q))))) (h4 : sp + n ≤ n0) (h5 : dp + n ≤ 12) (hz0 : n0 < 2 ^ 31) (hR : 1 ≤ R.frames) (hR2 : (S.map fun v => v.category).sum + (nativeFrameWords "java/lang/System" "arraycopy" 5 + 11) ≤ R.locals) (K : xP g l M tb R Z (pc + 3) V S (putArch h o (aF st 7 (va_cpy f (st.2.2 7) sp dp n))) kc ks) : xP g l M tb R Z pc V (.int (nI n) :: .int (nI dp) :: .ref (o + 10) :: .int (nI sp) :: .ref a0 :: S) (putArch h o st) kc ks := xc_X0_broken hd hm ha0 putArch_at h4 h5 hz0 hR hR2 (fun h' e _ => by rw [e, putArch_put]; exact K)
theorem xq_X0_spoiled {x i : Nat} (hd : decode M.2.1 pc = .ok (.iastore, 1)) (hi : i < 120) (K : xP g l M tb R Z (pc + 1) V S (putArch h o (aF st 8 (va_up (st.2.2 8) i x))) kc ks) : xP g l M tb R Z pc V (.int (nI x) :: .int (nI i) :: .ref (o + 11) :: S) (putArch h o st) kc ks := xs_X0_spoiled hd putArch_at hi (fun h' e _ => by rw [e, putArch_put]; exact K)
theorem xqc_X0_spoiled {sp dp n a0 n0 : Nat} {f : Nat → Nat} (hd : decode M.2.1 pc = .ok (.invokestatic 71, 3)) (hm : M.1.cls = RX0) (ha0 : (putArch h o st).1 a0 = some (.inl (0, n0, .inl (fun q => nI (f q))))) (h4 : sp + n ≤ n0) (h5 : dp + n ≤ 120) (hz0 : n0 < 2 ^ 31) (hR : 1 ≤ R.frames) (hR2 : (S.map fun v => v.category).sum + (nativeFrameWords "java/lang/System" "arraycopy" 5 + 11) ≤ R.locals) (K : xP g l M tb R Z (pc + 3) V S (putArch h o (aF st 8 (va_cpy f (st.2.2 8) sp dp n))) kc ks) : xP g l M tb R Z pc V (.int (nI n) :: .int (nI dp) :: .ref (o + 11) :: .int (nI sp) :: .ref a0 :: S) (putArch h o st) kc ks := xc_X0_spoiled hd hm ha0 putArch_at h4 h5 hz0 hR hR2 (fun h' e _ => by rw [e, putArch_put]; exact K)
end XA
