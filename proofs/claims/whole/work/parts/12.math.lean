/-! ===== sets of bits, how many, and the heap up to what it shows ===== -/
def mk (q : Nat → Bool) : Nat → Nat
  | 0 => 0
  | n + 1 => if q n then mk q n ||| 2 ^ n else mk q n
theorem mk_bit (q : Nat → Bool) : ∀ n i, (mk q n).testBit i = (decide (i < n) && q i) := by
  intro n
  induction n with
  | zero => intro i; simp [mk]
  | succ n ih =>
    intro i
    rw [mk]
    by_cases e : i = n
    · subst e
      cases hq : q i
      · simp [ih, hq]
      · simp [ih, hq, Nat.testBit_or, Nat.testBit_two_pow_self]
    · have h1 : (i < n + 1) = (i < n) := by rw [eq_iff_iff]; omega
      cases hq : q n
      · simp [ih, h1]
      · simp [ih, h1, Nat.testBit_or, Nat.testBit_two_pow_of_ne (fun q => e q.symm)]
theorem mk_lt (q : Nat → Bool) : ∀ n, mk q n < 2 ^ n := by
  intro n
  induction n with
  | zero => exact Nat.one_pos
  | succ n ih =>
    rw [mk]
    have h2 : 2 ^ (n + 1) = 2 ^ n + 2 ^ n := by rw [Nat.pow_succ]; omega
    split
    · exact Nat.or_lt_two_pow (by omega) (by omega)
    · omega
theorem mk_cong {q r : Nat → Bool} : ∀ {n : Nat}, (∀ i, i < n → q i = r i) → mk q n = mk r n := by
  intro n
  induction n with
  | zero => intro _; rfl
  | succ n ih =>
    intro hh
    rw [mk, mk, ih (fun i hi => hh i (by omega)), hh n (by omega)]
theorem bits_ext {x y n : Nat} (hx : x < 2 ^ n) (hy : y < 2 ^ n) (h : ∀ i, i < n → x.testBit i = y.testBit i) : x = y := by
  refine Nat.eq_of_testBit_eq fun i => ?_
  rcases Nat.lt_or_ge i n with q | q
  · exact h i q
  · rw [Nat.testBit_lt_two_pow (Nat.lt_of_lt_of_le hx (Nat.pow_le_pow_right (by decide) q)), Nat.testBit_lt_two_pow (Nat.lt_of_lt_of_le hy (Nat.pow_le_pow_right (by decide) q))]
theorem mk_of {x n : Nat} (hx : x < 2 ^ n) : mk (fun i => x.testBit i) n = x := by
  refine bits_ext (mk_lt _ n) hx fun i hi => ?_
  rw [mk_bit]
  simp [hi]
def popc (x : Nat) : Nat := fb_ct (fun i => x.testBit i) 32
theorem popc_of {x n : Nat} (hx : x < 2 ^ n) (hn : n ≤ 32) : popc x = fb_ct (fun i => x.testBit i) n := by
  unfold popc
  have e : (32 : Nat) = n + (32 - n) := by omega
  rw [e, fb_ct_split]
  have h0 : fb_ct (fun k => x.testBit (n + k)) (32 - n) = 0 := fb_ct_zero.mpr fun k hk => Nat.testBit_lt_two_pow (Nat.lt_of_lt_of_le hx (Nat.pow_le_pow_right (by decide) (by omega)))
  omega
theorem popc_mk (q : Nat → Bool) {n : Nat} (hn : n ≤ 32) : popc (mk q n) = fb_ct q n := by
  rw [popc_of (mk_lt q n) hn]
  refine fb_ct_cong fun k hk => ?_
  rw [mk_bit]
  simp [hk]
theorem popc_le {x n : Nat} (hx : x < 2 ^ n) (hn : n ≤ 32) : popc x ≤ n := by
  rw [popc_of hx hn]
  exact fb_ct_le _ n
/-- what is in h and not in s, both sets of at most 32 -/
abbrev andn (h s : Nat) : Nat := h &&& (4294967295 - s)
theorem andn_bit {h s i : Nat} (hs : s < 4294967296) (hi : i < 32) : (andn h s).testBit i = (h.testBit i && !s.testBit i) := by
  unfold andn
  have e : 4294967295 - s = 2 ^ 32 - (s + 1) := by omega
  rw [Nat.testBit_and, e, Nat.testBit_two_pow_sub_succ (by omega)]
  simp [hi]
theorem andn_le (h s : Nat) : andn h s ≤ h := Nat.and_le_left
/-- Integer.bitCount, as it is written -/
def bcC (x : Nat) : Nat :=
  let a := x - (x / 2 ^ 1 &&& 1431655765)
  let b := (a &&& 858993459) + (a / 2 ^ 2 &&& 858993459)
  let c := (b + b / 2 ^ 4) &&& 252645135
  let d := c + c / 2 ^ 8
  (d + d / 2 ^ 16) &&& 63
/-- how many ones, digit by digit -/
def pcR : Nat → Nat → Nat
  | 0, _ => 0
  | n + 1, x => x % 2 + pcR n (x / 2)
theorem pcR_ct : ∀ n x, pcR n x = fb_ct (fun i => x.testBit i) n := by
  intro n
  induction n with
  | zero => intro x; rfl
  | succ n ih =>
    intro x
    rw [pcR, ih, show n + 1 = 1 + n by omega, fb_ct_split]
    have h1 : fb_ct (fun i => x.testBit i) 1 = x % 2 := by
      show 0 + (if x.testBit 0 then 1 else 0) = x % 2
      rw [Nat.testBit_zero]
      by_cases hx : x % 2 = 1
      · simp [hx]
      · have : x % 2 = 0 := by omega
        simp [this]
    rw [h1]
    congr 1
    refine fb_ct_cong fun k _ => ?_
    show (x / 2).testBit k = x.testBit (1 + k)
    rw [Nat.add_comm 1 k, Nat.testBit_succ]
theorem bcC_0 : (List.range 64).all (fun i => (List.range 64).all (fun j => bcC (0 + (64 * i + j)) == pcR 16 (0 + (64 * i + j)))) = true := by decide +kernel
theorem bcC_1 : (List.range 64).all (fun i => (List.range 64).all (fun j => bcC (4096 + (64 * i + j)) == pcR 16 (4096 + (64 * i + j)))) = true := by decide +kernel
theorem bcC_2 : (List.range 64).all (fun i => (List.range 64).all (fun j => bcC (8192 + (64 * i + j)) == pcR 16 (8192 + (64 * i + j)))) = true := by decide +kernel
theorem bcC_3 : (List.range 64).all (fun i => (List.range 64).all (fun j => bcC (12288 + (64 * i + j)) == pcR 16 (12288 + (64 * i + j)))) = true := by decide +kernel
theorem bcC_4 : (List.range 64).all (fun i => (List.range 64).all (fun j => bcC (16384 + (64 * i + j)) == pcR 16 (16384 + (64 * i + j)))) = true := by decide +kernel
theorem bcC_5 : (List.range 64).all (fun i => (List.range 64).all (fun j => bcC (20480 + (64 * i + j)) == pcR 16 (20480 + (64 * i + j)))) = true := by decide +kernel
theorem bcC_6 : (List.range 64).all (fun i => (List.range 64).all (fun j => bcC (24576 + (64 * i + j)) == pcR 16 (24576 + (64 * i + j)))) = true := by decide +kernel
theorem bcC_7 : (List.range 64).all (fun i => (List.range 64).all (fun j => bcC (28672 + (64 * i + j)) == pcR 16 (28672 + (64 * i + j)))) = true := by decide +kernel
theorem bcC_8 : (List.range 64).all (fun i => (List.range 64).all (fun j => bcC (32768 + (64 * i + j)) == pcR 16 (32768 + (64 * i + j)))) = true := by decide +kernel
theorem bcC_9 : (List.range 64).all (fun i => (List.range 64).all (fun j => bcC (36864 + (64 * i + j)) == pcR 16 (36864 + (64 * i + j)))) = true := by decide +kernel
theorem bcC_10 : (List.range 64).all (fun i => (List.range 64).all (fun j => bcC (40960 + (64 * i + j)) == pcR 16 (40960 + (64 * i + j)))) = true := by decide +kernel
theorem bcC_11 : (List.range 64).all (fun i => (List.range 64).all (fun j => bcC (45056 + (64 * i + j)) == pcR 16 (45056 + (64 * i + j)))) = true := by decide +kernel
theorem bcC_12 : (List.range 64).all (fun i => (List.range 64).all (fun j => bcC (49152 + (64 * i + j)) == pcR 16 (49152 + (64 * i + j)))) = true := by decide +kernel
theorem bcC_13 : (List.range 64).all (fun i => (List.range 64).all (fun j => bcC (53248 + (64 * i + j)) == pcR 16 (53248 + (64 * i + j)))) = true := by decide +kernel
theorem bcC_14 : (List.range 64).all (fun i => (List.range 64).all (fun j => bcC (57344 + (64 * i + j)) == pcR 16 (57344 + (64 * i + j)))) = true := by decide +kernel
theorem bcC_15 : (List.range 64).all (fun i => (List.range 64).all (fun j => bcC (61440 + (64 * i + j)) == pcR 16 (61440 + (64 * i + j)))) = true := by decide +kernel
theorem bcC_64 {c : Nat} (h : (List.range 64).all (fun i => (List.range 64).all (fun j => bcC (c + (64 * i + j)) == pcR 16 (c + (64 * i + j)))) = true) {y : Nat} (hy : y < 4096) : bcC (c + y) = pcR 16 (c + y) := by
  have h := List.all_eq_true.mp h (y / 64) (List.mem_range.mpr (by omega))
  have h2 := List.all_eq_true.mp h (y % 64) (List.mem_range.mpr (by omega))
  rw [show 64 * (y / 64) + y % 64 = y by omega] at h2
  exact eq_of_beq h2
theorem bcC_ok {x : Nat} (hx : x < 65536) : bcC x = popc x := by
  rw [popc_of (n := 16) hx (by decide), ← pcR_ct]
  have key : ∀ c y, x = c + y → y < 4096 → (List.range 64).all (fun i => (List.range 64).all (fun j => bcC (c + (64 * i + j)) == pcR 16 (c + (64 * i + j)))) = true → bcC x = pcR 16 x := by
    intro c y e hy h
    rw [e]
    exact bcC_64 h hy
  have h16 : x / 4096 < 16 := by omega
  rcases (show x / 4096 = 0 ∨ x / 4096 = 1 ∨ x / 4096 = 2 ∨ x / 4096 = 3 ∨ x / 4096 = 4 ∨ x / 4096 = 5 ∨ x / 4096 = 6 ∨ x / 4096 = 7 ∨ x / 4096 = 8 ∨ x / 4096 = 9 ∨ x / 4096 = 10 ∨ x / 4096 = 11 ∨ x / 4096 = 12 ∨ x / 4096 = 13 ∨ x / 4096 = 14 ∨ x / 4096 = 15 by omega) with h9 | h9 | h9 | h9 | h9 | h9 | h9 | h9 | h9 | h9 | h9 | h9 | h9 | h9 | h9 | h9
  · exact key 0 (x - 0) (by omega) (by omega) bcC_0
  · exact key 4096 (x - 4096) (by omega) (by omega) bcC_1
  · exact key 8192 (x - 8192) (by omega) (by omega) bcC_2
  · exact key 12288 (x - 12288) (by omega) (by omega) bcC_3
  · exact key 16384 (x - 16384) (by omega) (by omega) bcC_4
  · exact key 20480 (x - 20480) (by omega) (by omega) bcC_5
  · exact key 24576 (x - 24576) (by omega) (by omega) bcC_6
  · exact key 28672 (x - 28672) (by omega) (by omega) bcC_7
  · exact key 32768 (x - 32768) (by omega) (by omega) bcC_8
  · exact key 36864 (x - 36864) (by omega) (by omega) bcC_9
  · exact key 40960 (x - 40960) (by omega) (by omega) bcC_10
  · exact key 45056 (x - 45056) (by omega) (by omega) bcC_11
  · exact key 49152 (x - 49152) (by omega) (by omega) bcC_12
  · exact key 53248 (x - 53248) (by omega) (by omega) bcC_13
  · exact key 57344 (x - 57344) (by omega) (by omega) bcC_14
  · exact key 61440 (x - 61440) (by omega) (by omega) bcC_15
/-! cells that show the same -/
def cEq : xE → xE → Prop
  | .inl (t, a), .inl (t', a') => t = t' ∧ ∀ cA, vp_cell cA a = vp_cell cA a'
  | .inr x, .inr y => x = y
  | _, _ => False
def hEq (h h' : xH) : Prop := h.2 = h'.2 ∧ ∀ (a : Nat) (e' : xE), h'.1 a = some e' → ∃ e, h.1 a = some e ∧ cEq e e'
theorem cEq.rf (e : xE) : cEq e e := by
  rcases e with ⟨t, a⟩ | x
  · exact ⟨rfl, fun _ => rfl⟩
  · rfl
theorem xC.heq {g : xG} {h h' : xH} {H : Heap} (he : hEq h h') (hC : xC g h H) : xC g h' H := by
  refine ⟨hC.1.trans he.1, by rw [← he.1]; exact hC.2.1, hC.2.2.1, fun a e' ha => ?_⟩
  obtain ⟨e, h1, h2⟩ := he.2 a e' ha
  obtain ⟨k1, k2⟩ := hC.2.2.2 a e h1
  refine ⟨k1, ?_⟩
  rcases e with ⟨t, x⟩ | x <;> rcases e' with ⟨t', y⟩ | y
  · obtain ⟨rfl, h3⟩ := h2
    show H[a]? = some (vp_cell _ _)
    rw [← h3]
    exact k2
  · exact h2.elim
  · exact h2.elim
  · cases h2
    exact k2
theorem xP.heq {g : xG} {l : Launch} {M : xM} {tb : List (Nat × Nat × Nat × Nat)} {R : Room} {Z : List Frame → Array Value → State → State → Prop} {pc : Nat} {V : List (Option Value)} {S : List Value} {h : xH} {kc ks : Nat} (h' : xH) (he : hEq h h') (K : xP g l M tb R Z pc V S h' kc ks) : xP g l M tb R Z pc V S h kc ks :=
  fun p e s m args below meth c H locs ls B hC hS hl => K p e s m args below meth c H locs ls B (hC.heq he) hS hl
theorem arr_same {α : Type} {mkv : α → Value} {cA : ClassId} {n : Nat} {f f' : Nat → α} (hf : ∀ k, k < n → f k = f' k) : arrV cA n (fun j => mkv (f j)) = arrV cA n (fun j => mkv (f' j)) := by
  unfold arrV
  congr 1
  congr 1
  funext j
  exact congrArg mkv (hf j.val j.isLt)
theorem cEq_i {t n : Nat} {f f' : Nat → Int32} (hf : ∀ k, k < n → f k = f' k) : cEq (.inl (t, n, .inl f)) (.inl (t, n, .inl f')) := ⟨rfl, fun _ => arr_same hf⟩
theorem cEq_l {t n : Nat} {f f' : Nat → Int64} (hf : ∀ k, k < n → f k = f' k) : cEq (.inl (t, n, .inr (.inl f))) (.inl (t, n, .inr (.inl f'))) := ⟨rfl, fun _ => arr_same hf⟩
/-- how many places each row of an Archive has -/
def alen (j : Nat) : Nat := if j < 5 then 10 else if j < 8 then 12 else 120
def allen (j : Nat) : Nat := if j = 0 then 10 else 12
/-- the same Archive, as far as its rows show -/
def aEq (st st' : Ar) : Prop := (∀ i, i < 5 → st.1 i = st'.1 i) ∧ (∀ j k, j < 2 → k < allen j → st.2.1 j k = st'.2.1 j k) ∧ ∀ j k, j < 9 → k < alen j → st.2.2 j k = st'.2.2 j k
theorem aEq.rf (st : Ar) : aEq st st := ⟨fun _ _ => rfl, fun _ _ _ _ => rfl, fun _ _ _ _ => rfl⟩
theorem arch_cEq {o : Nat} {st st' : Ar} (he : aEq st st') : ∀ k, k < 12 → cEq (archE o st k) (archE o st' k) := by
  obtain ⟨h1, h2, h3⟩ := he
  refine lt12 ⟨?_, ?_, ?_, ?_, ?_, ?_, ?_, ?_, ?_, ?_, ?_, ?_⟩
  · show (_ : Nat × List Value) = _
    rw [h1 0 (by decide), h1 1 (by decide), h1 2 (by decide), h1 3 (by decide), h1 4 (by decide)]
  · exact cEq_l fun k hk => h2 0 k (by decide) hk
  · exact cEq_i fun k hk => congrArg nI (h3 0 k (by decide) hk)
  · exact cEq_i fun k hk => congrArg nI (h3 1 k (by decide) hk)
  · exact cEq_i fun k hk => congrArg nI (h3 2 k (by decide) hk)
  · exact cEq_i fun k hk => congrArg nI (h3 3 k (by decide) hk)
  · exact cEq_i fun k hk => congrArg nI (h3 4 k (by decide) hk)
  · exact cEq_l fun k hk => h2 1 k (by decide) hk
  · exact cEq_i fun k hk => congrArg nI (h3 5 k (by decide) hk)
  · exact cEq_i fun k hk => congrArg nI (h3 6 k (by decide) hk)
  · exact cEq_i fun k hk => congrArg nI (h3 7 k (by decide) hk)
  · exact cEq_i fun k hk => congrArg nI (h3 8 k (by decide) hk)
theorem putArch_heq {h : xH} {o : Nat} {st st' : Ar} (he : aEq st st') : hEq (putArch h o st) (putArch h o st') := by
  refine ⟨rfl, fun a e' ha => ?_⟩
  by_cases hin : o ≤ a ∧ a < o + 12
  · rw [putArch_in hin.1 hin.2] at ha ⊢
    cases ha
    exact ⟨_, rfl, arch_cEq he _ (by omega)⟩
  · rw [putArch_out (by omega)] at ha ⊢
    exact ⟨e', ha, cEq.rf e'⟩
section X7
variable {g : xG} {l : Launch} {M : xM} {tb : List (Nat × Nat × Nat × Nat)} {R : Room} {Z : List Frame → Array Value → State → State → Prop} {pc : Nat} {V : List (Option Value)} {S : List Value} {h : xH} {kc ks : Nat}
theorem nI_mod (n : Nat) : nI n = nI (n % 4294967296) := by
  unfold nI
  refine Int32.toBitVec_inj.mp ?_
  refine BitVec.eq_of_toNat_eq ?_
  show (BitVec.ofNat 32 n).toNat = (BitVec.ofNat 32 (n % 4294967296)).toNat
  simp [BitVec.toNat_ofNat]
theorem nI_not {s : Nat} (hs : s < 4294967296) : nI s ^^^ (-1) = nI (4294967295 - s) := by
  have h1 : (nI s).toBitVec.toNat = s := pk_tn hs
  refine Int32.toBitVec_inj.mp ?_
  refine BitVec.eq_of_toNat_eq ?_
  rw [pk_tn (show 4294967295 - s < 2 ^ 32 by omega)]
  show ((nI s).toBitVec ^^^ (-1 : Int32).toBitVec).toNat = _
  rw [show (-1 : Int32).toBitVec = BitVec.allOnes 32 by decide, BitVec.xor_allOnes, BitVec.toNat_not, h1]
theorem x_inot_n {s : Nat} (hd : decode M.2.1 pc = .ok (.ixor, 1)) (hs : s < 4294967296) (K : xP g l M tb R Z (pc + 1) V (.int (nI (4294967295 - s)) :: S) h kc ks) : xP g l M tb R Z pc V (.int (-1) :: .int (nI s) :: S) h kc ks := x_ixor hd (by rw [nI_not hs]; exact K)
end X7
