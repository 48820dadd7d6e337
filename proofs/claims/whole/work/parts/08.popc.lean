/-! ===== sets of bits, how many ===== -/
def mk (q : Nat → Bool) : Nat → Nat
  | 0 => 0
  | n + 1 => if q n then mk q n ||| 2 ^ n else mk q n
theorem mk_bit (q : Nat → Bool) : ∀ n i, (mk q n).testBit i = (decide (i < n) && q i) := by
  intro n
  induction n with
  | zero => intro i; simp [mk]
  | succ n ih =>
    intro i
    rw [mk]
    by_cases e : i = n
    · subst e
      cases hq : q i
      · simp [ih, hq]
      · simp [ih, hq, Nat.testBit_or, Nat.testBit_two_pow_self]
    · have h1 : (i < n + 1) = (i < n) := by rw [eq_iff_iff]; omega
      cases hq : q n
      · simp [ih, h1]
      · simp [ih, h1, Nat.testBit_or, Nat.testBit_two_pow_of_ne (fun q => e q.symm)]
theorem mk_lt (q : Nat → Bool) : ∀ n, mk q n < 2 ^ n := by
  intro n
  induction n with
  | zero => exact Nat.one_pos
  | succ n ih =>
    rw [mk]
    have h2 : 2 ^ (n + 1) = 2 ^ n + 2 ^ n := by rw [Nat.pow_succ]; omega
    split
    · exact Nat.or_lt_two_pow (by omega) (by omega)
    · omega
theorem mk_cong {q r : Nat → Bool} : ∀ {n : Nat}, (∀ i, i < n → q i = r i) → mk q n = mk r n := by
  intro n
  induction n with
  | zero => intro _; rfl
  | succ n ih =>
    intro hh
    rw [mk, mk, ih (fun i hi => hh i (by omega)), hh n (by omega)]
theorem bits_ext {x y n : Nat} (hx : x < 2 ^ n) (hy : y < 2 ^ n) (h : ∀ i, i < n → x.testBit i = y.testBit i) : x = y := by
  refine Nat.eq_of_testBit_eq fun i => ?_
  rcases Nat.lt_or_ge i n with q | q
  · exact h i q
  · rw [Nat.testBit_lt_two_pow (Nat.lt_of_lt_of_le hx (Nat.pow_le_pow_right (by decide) q)), Nat.testBit_lt_two_pow (Nat.lt_of_lt_of_le hy (Nat.pow_le_pow_right (by decide) q))]
theorem mk_of {x n : Nat} (hx : x < 2 ^ n) : mk (fun i => x.testBit i) n = x := by
  refine bits_ext (mk_lt _ n) hx fun i hi => ?_
  rw [mk_bit]
  simp [hi]
def popc (x : Nat) : Nat := fb_ct (fun i => x.testBit i) 32
theorem popc_of {x n : Nat} (hx : x < 2 ^ n) (hn : n ≤ 32) : popc x = fb_ct (fun i => x.testBit i) n := by
  unfold popc
  have e : (32 : Nat) = n + (32 - n) := by omega
  rw [e, fb_ct_split]
  have h0 : fb_ct (fun k => x.testBit (n + k)) (32 - n) = 0 := fb_ct_zero.mpr fun k hk => Nat.testBit_lt_two_pow (Nat.lt_of_lt_of_le hx (Nat.pow_le_pow_right (by decide) (by omega)))
  omega
theorem popc_mk (q : Nat → Bool) {n : Nat} (hn : n ≤ 32) : popc (mk q n) = fb_ct q n := by
  rw [popc_of (mk_lt q n) hn]
  refine fb_ct_cong fun k hk => ?_
  rw [mk_bit]
  simp [hk]
theorem popc_le {x n : Nat} (hx : x < 2 ^ n) (hn : n ≤ 32) : popc x ≤ n := by
  rw [popc_of hx hn]
  exact fb_ct_le _ n
/-- what is in h and not in s, both sets of at most 32 -/
abbrev andn (h s : Nat) : Nat := h &&& (4294967295 - s)
theorem andn_bit {h s i : Nat} (hs : s < 4294967296) (hi : i < 32) : (andn h s).testBit i = (h.testBit i && !s.testBit i) := by
  unfold andn
  have e : 4294967295 - s = 2 ^ 32 - (s + 1) := by omega
  rw [Nat.testBit_and, e, Nat.testBit_two_pow_sub_succ (by omega)]
  simp [hi]
theorem andn_le (h s : Nat) : andn h s ≤ h := Nat.and_le_left
/-- Integer.bitCount, as it is written -/
def bcC (x : Nat) : Nat :=
  let a := x - (x / 2 ^ 1 &&& 1431655765)
  let b := (a &&& 858993459) + (a / 2 ^ 2 &&& 858993459)
  let c := (b + b / 2 ^ 4) &&& 252645135
  let d := c + c / 2 ^ 8
  (d + d / 2 ^ 16) &&& 63
/-- how many ones, digit by digit -/
def pcR : Nat → Nat → Nat
  | 0, _ => 0
  | n + 1, x => x % 2 + pcR n (x / 2)
theorem pcR_ct : ∀ n x, pcR n x = fb_ct (fun i => x.testBit i) n := by
  intro n
  induction n with
  | zero => intro x; rfl
  | succ n ih =>
    intro x
    rw [pcR, ih, show n + 1 = 1 + n by omega, fb_ct_split]
    have h1 : fb_ct (fun i => x.testBit i) 1 = x % 2 := by
      show 0 + (if x.testBit 0 then 1 else 0) = x % 2
      rw [Nat.testBit_zero]
      by_cases hx : x % 2 = 1
      · simp [hx]
      · have : x % 2 = 0 := by omega
        simp [this]
    rw [h1]
    congr 1
    refine fb_ct_cong fun k _ => ?_
    show (x / 2).testBit k = x.testBit (1 + k)
    rw [Nat.add_comm 1 k, Nat.testBit_succ]
theorem bcC_0 : (List.range 64).all (fun i => (List.range 64).all (fun j => bcC (0 + (64 * i + j)) == pcR 16 (0 + (64 * i + j)))) = true := by decide +kernel
theorem bcC_1 : (List.range 64).all (fun i => (List.range 64).all (fun j => bcC (4096 + (64 * i + j)) == pcR 16 (4096 + (64 * i + j)))) = true := by decide +kernel
theorem bcC_2 : (List.range 64).all (fun i => (List.range 64).all (fun j => bcC (8192 + (64 * i + j)) == pcR 16 (8192 + (64 * i + j)))) = true := by decide +kernel
theorem bcC_3 : (List.range 64).all (fun i => (List.range 64).all (fun j => bcC (12288 + (64 * i + j)) == pcR 16 (12288 + (64 * i + j)))) = true := by decide +kernel
theorem bcC_4 : (List.range 64).all (fun i => (List.range 64).all (fun j => bcC (16384 + (64 * i + j)) == pcR 16 (16384 + (64 * i + j)))) = true := by decide +kernel
theorem bcC_5 : (List.range 64).all (fun i => (List.range 64).all (fun j => bcC (20480 + (64 * i + j)) == pcR 16 (20480 + (64 * i + j)))) = true := by decide +kernel
theorem bcC_6 : (List.range 64).all (fun i => (List.range 64).all (fun j => bcC (24576 + (64 * i + j)) == pcR 16 (24576 + (64 * i + j)))) = true := by decide +kernel
theorem bcC_7 : (List.range 64).all (fun i => (List.range 64).all (fun j => bcC (28672 + (64 * i + j)) == pcR 16 (28672 + (64 * i + j)))) = true := by decide +kernel
theorem bcC_8 : (List.range 64).all (fun i => (List.range 64).all (fun j => bcC (32768 + (64 * i + j)) == pcR 16 (32768 + (64 * i + j)))) = true := by decide +kernel
theorem bcC_9 : (List.range 64).all (fun i => (List.range 64).all (fun j => bcC (36864 + (64 * i + j)) == pcR 16 (36864 + (64 * i + j)))) = true := by decide +kernel
theorem bcC_10 : (List.range 64).all (fun i => (List.range 64).all (fun j => bcC (40960 + (64 * i + j)) == pcR 16 (40960 + (64 * i + j)))) = true := by decide +kernel
theorem bcC_11 : (List.range 64).all (fun i => (List.range 64).all (fun j => bcC (45056 + (64 * i + j)) == pcR 16 (45056 + (64 * i + j)))) = true := by decide +kernel
theorem bcC_12 : (List.range 64).all (fun i => (List.range 64).all (fun j => bcC (49152 + (64 * i + j)) == pcR 16 (49152 + (64 * i + j)))) = true := by decide +kernel
theorem bcC_13 : (List.range 64).all (fun i => (List.range 64).all (fun j => bcC (53248 + (64 * i + j)) == pcR 16 (53248 + (64 * i + j)))) = true := by decide +kernel
theorem bcC_14 : (List.range 64).all (fun i => (List.range 64).all (fun j => bcC (57344 + (64 * i + j)) == pcR 16 (57344 + (64 * i + j)))) = true := by decide +kernel
theorem bcC_15 : (List.range 64).all (fun i => (List.range 64).all (fun j => bcC (61440 + (64 * i + j)) == pcR 16 (61440 + (64 * i + j)))) = true := by decide +kernel
theorem bcC_64 {c : Nat} (h : (List.range 64).all (fun i => (List.range 64).all (fun j => bcC (c + (64 * i + j)) == pcR 16 (c + (64 * i + j)))) = true) {y : Nat} (hy : y < 4096) : bcC (c + y) = pcR 16 (c + y) := by
  have h := List.all_eq_true.mp h (y / 64) (List.mem_range.mpr (by omega))
  have h2 := List.all_eq_true.mp h (y % 64) (List.mem_range.mpr (by omega))
  rw [show 64 * (y / 64) + y % 64 = y by omega] at h2
  exact eq_of_beq h2
theorem bcC_ok {x : Nat} (hx : x < 65536) : bcC x = popc x := by
  rw [popc_of (n := 16) hx (by decide), ← pcR_ct]
  have key : ∀ c y, x = c + y → y < 4096 → (List.range 64).all (fun i => (List.range 64).all (fun j => bcC (c + (64 * i + j)) == pcR 16 (c + (64 * i + j)))) = true → bcC x = pcR 16 x := by
    intro c y e hy h
    rw [e]
    exact bcC_64 h hy
  have h16 : x / 4096 < 16 := by omega
  rcases (show x / 4096 = 0 ∨ x / 4096 = 1 ∨ x / 4096 = 2 ∨ x / 4096 = 3 ∨ x / 4096 = 4 ∨ x / 4096 = 5 ∨ x / 4096 = 6 ∨ x / 4096 = 7 ∨ x / 4096 = 8 ∨ x / 4096 = 9 ∨ x / 4096 = 10 ∨ x / 4096 = 11 ∨ x / 4096 = 12 ∨ x / 4096 = 13 ∨ x / 4096 = 14 ∨ x / 4096 = 15 by omega) with h9 | h9 | h9 | h9 | h9 | h9 | h9 | h9 | h9 | h9 | h9 | h9 | h9 | h9 | h9 | h9
  · exact key 0 (x - 0) (by omega) (by omega) bcC_0
  · exact key 4096 (x - 4096) (by omega) (by omega) bcC_1
  · exact key 8192 (x - 8192) (by omega) (by omega) bcC_2
  · exact key 12288 (x - 12288) (by omega) (by omega) bcC_3
  · exact key 16384 (x - 16384) (by omega) (by omega) bcC_4
  · exact key 20480 (x - 20480) (by omega) (by omega) bcC_5
  · exact key 24576 (x - 24576) (by omega) (by omega) bcC_6
  · exact key 28672 (x - 28672) (by omega) (by omega) bcC_7
  · exact key 32768 (x - 32768) (by omega) (by omega) bcC_8
  · exact key 36864 (x - 36864) (by omega) (by omega) bcC_9
  · exact key 40960 (x - 40960) (by omega) (by omega) bcC_10
  · exact key 45056 (x - 45056) (by omega) (by omega) bcC_11
  · exact key 49152 (x - 49152) (by omega) (by omega) bcC_12
  · exact key 53248 (x - 53248) (by omega) (by omega) bcC_13
  · exact key 57344 (x - 57344) (by omega) (by omega) bcC_14
  · exact key 61440 (x - 61440) (by omega) (by omega) bcC_15
