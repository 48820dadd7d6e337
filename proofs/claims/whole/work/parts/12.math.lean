/-! ===== sets of bits, how many, and the heap up to what it shows ===== -/
/-! cells that show the same -/
def cEq : xE → xE → Prop
  | .inl (t, a), .inl (t', a') => t = t' ∧ ∀ cA, vp_cell cA a = vp_cell cA a'
  | .inr x, .inr y => x = y
  | _, _ => False
def hEq (h h' : xH) : Prop := h.2 = h'.2 ∧ ∀ (a : Nat) (e' : xE), h'.1 a = some e' → ∃ e, h.1 a = some e ∧ cEq e e'
theorem cEq.rf (e : xE) : cEq e e := by
  rcases e with ⟨t, a⟩ | x
  · exact ⟨rfl, fun _ => rfl⟩
  · rfl
theorem xC.heq {g : xG} {h h' : xH} {H : Heap} (he : hEq h h') (hC : xC g h H) : xC g h' H := by
  refine ⟨hC.1.trans he.1, by rw [← he.1]; exact hC.2.1, hC.2.2.1, fun a e' ha => ?_⟩
  obtain ⟨e, h1, h2⟩ := he.2 a e' ha
  obtain ⟨k1, k2⟩ := hC.2.2.2 a e h1
  refine ⟨k1, ?_⟩
  rcases e with ⟨t, x⟩ | x <;> rcases e' with ⟨t', y⟩ | y
  · obtain ⟨rfl, h3⟩ := h2
    show H[a]? = some (vp_cell _ _)
    rw [← h3]
    exact k2
  · exact h2.elim
  · exact h2.elim
  · cases h2
    exact k2
theorem xP.heq {g : xG} {l : Launch} {M : xM} {tb : List (Nat × Nat × Nat × Nat)} {R : Room} {Z : List Frame → Array Value → State → State → Prop} {pc : Nat} {V : List (Option Value)} {S : List Value} {h : xH} {kc ks : Nat} (h' : xH) (he : hEq h h') (K : xP g l M tb R Z pc V S h' kc ks) : xP g l M tb R Z pc V S h kc ks :=
  fun p e s m args below meth c H locs ls B hC hS hl => K p e s m args below meth c H locs ls B (hC.heq he) hS hl
theorem arr_same {α : Type} {mkv : α → Value} {cA : ClassId} {n : Nat} {f f' : Nat → α} (hf : ∀ k, k < n → f k = f' k) : arrV cA n (fun j => mkv (f j)) = arrV cA n (fun j => mkv (f' j)) := by
  unfold arrV
  congr 1
  congr 1
  funext j
  exact congrArg mkv (hf j.val j.isLt)
theorem cEq_i {t n : Nat} {f f' : Nat → Int32} (hf : ∀ k, k < n → f k = f' k) : cEq (.inl (t, n, .inl f)) (.inl (t, n, .inl f')) := ⟨rfl, fun _ => arr_same hf⟩
theorem cEq_l {t n : Nat} {f f' : Nat → Int64} (hf : ∀ k, k < n → f k = f' k) : cEq (.inl (t, n, .inr (.inl f))) (.inl (t, n, .inr (.inl f'))) := ⟨rfl, fun _ => arr_same hf⟩
/-- how many places each row of an Archive has -/
def alen (j : Nat) : Nat := if j < 5 then 10 else if j < 8 then 12 else 120
def allen (j : Nat) : Nat := if j = 0 then 10 else 12
/-- the same Archive, as far as its rows show -/
def aEq (st st' : Ar) : Prop := (∀ i, i < 5 → st.1 i = st'.1 i) ∧ (∀ j k, j < 2 → k < allen j → st.2.1 j k = st'.2.1 j k) ∧ ∀ j k, j < 9 → k < alen j → st.2.2 j k = st'.2.2 j k
theorem aEq.rf (st : Ar) : aEq st st := ⟨fun _ _ => rfl, fun _ _ _ _ => rfl, fun _ _ _ _ => rfl⟩
theorem arch_cEq {o : Nat} {st st' : Ar} (he : aEq st st') : ∀ k, k < 12 → cEq (archE o st k) (archE o st' k) := by
  obtain ⟨h1, h2, h3⟩ := he
  refine lt12 ⟨?_, ?_, ?_, ?_, ?_, ?_, ?_, ?_, ?_, ?_, ?_, ?_⟩
  · show (_ : Nat × List Value) = _
    rw [h1 0 (by decide), h1 1 (by decide), h1 2 (by decide), h1 3 (by decide), h1 4 (by decide)]
  · exact cEq_l fun k hk => h2 0 k (by decide) hk
  · exact cEq_i fun k hk => congrArg nI (h3 0 k (by decide) hk)
  · exact cEq_i fun k hk => congrArg nI (h3 1 k (by decide) hk)
  · exact cEq_i fun k hk => congrArg nI (h3 2 k (by decide) hk)
  · exact cEq_i fun k hk => congrArg nI (h3 3 k (by decide) hk)
  · exact cEq_i fun k hk => congrArg nI (h3 4 k (by decide) hk)
  · exact cEq_l fun k hk => h2 1 k (by decide) hk
  · exact cEq_i fun k hk => congrArg nI (h3 5 k (by decide) hk)
  · exact cEq_i fun k hk => congrArg nI (h3 6 k (by decide) hk)
  · exact cEq_i fun k hk => congrArg nI (h3 7 k (by decide) hk)
  · exact cEq_i fun k hk => congrArg nI (h3 8 k (by decide) hk)
theorem putArch_heq {h : xH} {o : Nat} {st st' : Ar} (he : aEq st st') : hEq (putArch h o st) (putArch h o st') := by
  refine ⟨rfl, fun a e' ha => ?_⟩
  by_cases hin : o ≤ a ∧ a < o + 12
  · rw [putArch_in hin.1 hin.2] at ha ⊢
    cases ha
    exact ⟨_, rfl, arch_cEq he _ (by omega)⟩
  · rw [putArch_out (by omega)] at ha ⊢
    exact ⟨e', ha, cEq.rf e'⟩
section X7
variable {g : xG} {l : Launch} {M : xM} {tb : List (Nat × Nat × Nat × Nat)} {R : Room} {Z : List Frame → Array Value → State → State → Prop} {pc : Nat} {V : List (Option Value)} {S : List Value} {h : xH} {kc ks : Nat}
theorem nI_mod (n : Nat) : nI n = nI (n % 4294967296) := by
  unfold nI
  refine Int32.toBitVec_inj.mp ?_
  refine BitVec.eq_of_toNat_eq ?_
  show (BitVec.ofNat 32 n).toNat = (BitVec.ofNat 32 (n % 4294967296)).toNat
  simp [BitVec.toNat_ofNat]
theorem nI_not {s : Nat} (hs : s < 4294967296) : nI s ^^^ (-1) = nI (4294967295 - s) := by
  have h1 : (nI s).toBitVec.toNat = s := pk_tn hs
  refine Int32.toBitVec_inj.mp ?_
  refine BitVec.eq_of_toNat_eq ?_
  rw [pk_tn (show 4294967295 - s < 2 ^ 32 by omega)]
  show ((nI s).toBitVec ^^^ (-1 : Int32).toBitVec).toNat = _
  rw [show (-1 : Int32).toBitVec = BitVec.allOnes 32 by decide, BitVec.xor_allOnes, BitVec.toNat_not, h1]
theorem x_inot_n {s : Nat} (hd : decode M.2.1 pc = .ok (.ixor, 1)) (hs : s < 4294967296) (K : xP g l M tb R Z (pc + 1) V (.int (nI (4294967295 - s)) :: S) h kc ks) : xP g l M tb R Z pc V (.int (-1) :: .int (nI s) :: S) h kc ks := x_ixor hd (by rw [nI_not hs]; exact K)
end X7
