/-! ===== Archive: taken from another one, begun anew, a family less ===== -/
theorem fl_X0_familyNames {h : xH} {o : Nat} {st : Ar} : hset (putArch h o st) (o + 1) (.inl (2, 10, .inr (.inl (fun k => if k < 10 then lN 0 else st.2.1 0 k)))) = putArch h o (aL st 0 (fun k => if k < 10 then 0 else st.2.1 0 k)) := by
  have k := hset_arch (h := putArch h o st) (o := o) (st := st) (st' := aL st 0 (fun k => if k < 10 then 0 else st.2.1 0 k)) 1 (by decide) putArch_at rfl (lt12 ⟨fun _ => rfl, fun q => absurd rfl q, fun _ => rfl, fun _ => rfl, fun _ => rfl, fun _ => rfl, fun _ => rfl, fun _ => rfl, fun _ => rfl, fun _ => rfl, fun _ => rfl, fun _ => rfl⟩)
  rw [putArch_put] at k
  exact k
theorem fl_X0_rooms {h : xH} {o : Nat} {st : Ar} : hset (putArch h o st) (o + 2) (.inl (0, 10, .inl (fun k => if k < 10 then nI 0 else nI (st.2.2 0 k)))) = putArch h o (aF st 0 (fun k => if k < 10 then 0 else st.2.2 0 k)) := by
  have e : (fun k => if k < 10 then nI 0 else nI (st.2.2 0 k)) = fun k => nI (if k < 10 then 0 else st.2.2 0 k) := by
    funext k
    split <;> rfl
  rw [e]
  have k := hset_arch (h := putArch h o st) (o := o) (st := st) (st' := aF st 0 (fun k => if k < 10 then 0 else st.2.2 0 k)) 2 (by decide) putArch_at rfl (lt12 ⟨fun _ => rfl, fun _ => rfl, fun q => absurd rfl q, fun _ => rfl, fun _ => rfl, fun _ => rfl, fun _ => rfl, fun _ => rfl, fun _ => rfl, fun _ => rfl, fun _ => rfl, fun _ => rfl⟩)
  rw [putArch_put] at k
  exact k
theorem fl_X0_near {h : xH} {o : Nat} {st : Ar} : hset (putArch h o st) (o + 3) (.inl (0, 10, .inl (fun k => if k < 10 then nI 0 else nI (st.2.2 1 k)))) = putArch h o (aF st 1 (fun k => if k < 10 then 0 else st.2.2 1 k)) := by
  have e : (fun k => if k < 10 then nI 0 else nI (st.2.2 1 k)) = fun k => nI (if k < 10 then 0 else st.2.2 1 k) := by
    funext k
    split <;> rfl
  rw [e]
  have k := hset_arch (h := putArch h o st) (o := o) (st := st) (st' := aF st 1 (fun k => if k < 10 then 0 else st.2.2 1 k)) 3 (by decide) putArch_at rfl (lt12 ⟨fun _ => rfl, fun _ => rfl, fun _ => rfl, fun q => absurd rfl q, fun _ => rfl, fun _ => rfl, fun _ => rfl, fun _ => rfl, fun _ => rfl, fun _ => rfl, fun _ => rfl, fun _ => rfl⟩)
  rw [putArch_put] at k
  exact k
theorem fl_X0_right {h : xH} {o : Nat} {st : Ar} : hset (putArch h o st) (o + 4) (.inl (0, 10, .inl (fun k => if k < 10 then nI 0 else nI (st.2.2 2 k)))) = putArch h o (aF st 2 (fun k => if k < 10 then 0 else st.2.2 2 k)) := by
  have e : (fun k => if k < 10 then nI 0 else nI (st.2.2 2 k)) = fun k => nI (if k < 10 then 0 else st.2.2 2 k) := by
    funext k
    split <;> rfl
  rw [e]
  have k := hset_arch (h := putArch h o st) (o := o) (st := st) (st' := aF st 2 (fun k => if k < 10 then 0 else st.2.2 2 k)) 4 (by decide) putArch_at rfl (lt12 ⟨fun _ => rfl, fun _ => rfl, fun _ => rfl, fun _ => rfl, fun q => absurd rfl q, fun _ => rfl, fun _ => rfl, fun _ => rfl, fun _ => rfl, fun _ => rfl, fun _ => rfl, fun _ => rfl⟩)
  rw [putArch_put] at k
  exact k
theorem fl_X0_wrong {h : xH} {o : Nat} {st : Ar} : hset (putArch h o st) (o + 5) (.inl (0, 10, .inl (fun k => if k < 10 then nI 0 else nI (st.2.2 3 k)))) = putArch h o (aF st 3 (fun k => if k < 10 then 0 else st.2.2 3 k)) := by
  have e : (fun k => if k < 10 then nI 0 else nI (st.2.2 3 k)) = fun k => nI (if k < 10 then 0 else st.2.2 3 k) := by
    funext k
    split <;> rfl
  rw [e]
  have k := hset_arch (h := putArch h o st) (o := o) (st := st) (st' := aF st 3 (fun k => if k < 10 then 0 else st.2.2 3 k)) 5 (by decide) putArch_at rfl (lt12 ⟨fun _ => rfl, fun _ => rfl, fun _ => rfl, fun _ => rfl, fun _ => rfl, fun q => absurd rfl q, fun _ => rfl, fun _ => rfl, fun _ => rfl, fun _ => rfl, fun _ => rfl, fun _ => rfl⟩)
  rw [putArch_put] at k
  exact k
theorem fl_X0_copies {h : xH} {o : Nat} {st : Ar} : hset (putArch h o st) (o + 6) (.inl (0, 10, .inl (fun k => if k < 10 then nI 0 else nI (st.2.2 4 k)))) = putArch h o (aF st 4 (fun k => if k < 10 then 0 else st.2.2 4 k)) := by
  have e : (fun k => if k < 10 then nI 0 else nI (st.2.2 4 k)) = fun k => nI (if k < 10 then 0 else st.2.2 4 k) := by
    funext k
    split <;> rfl
  rw [e]
  have k := hset_arch (h := putArch h o st) (o := o) (st := st) (st' := aF st 4 (fun k => if k < 10 then 0 else st.2.2 4 k)) 6 (by decide) putArch_at rfl (lt12 ⟨fun _ => rfl, fun _ => rfl, fun _ => rfl, fun _ => rfl, fun _ => rfl, fun _ => rfl, fun q => absurd rfl q, fun _ => rfl, fun _ => rfl, fun _ => rfl, fun _ => rfl, fun _ => rfl⟩)
  rw [putArch_put] at k
  exact k
theorem fl_X0_pictureNames {h : xH} {o : Nat} {st : Ar} : hset (putArch h o st) (o + 7) (.inl (2, 12, .inr (.inl (fun k => if k < 12 then lN 0 else st.2.1 1 k)))) = putArch h o (aL st 1 (fun k => if k < 12 then 0 else st.2.1 1 k)) := by
  have k := hset_arch (h := putArch h o st) (o := o) (st := st) (st' := aL st 1 (fun k => if k < 12 then 0 else st.2.1 1 k)) 7 (by decide) putArch_at rfl (lt12 ⟨fun _ => rfl, fun _ => rfl, fun _ => rfl, fun _ => rfl, fun _ => rfl, fun _ => rfl, fun _ => rfl, fun q => absurd rfl q, fun _ => rfl, fun _ => rfl, fun _ => rfl, fun _ => rfl⟩)
  rw [putArch_put] at k
  exact k
theorem fl_X0_pledges {h : xH} {o : Nat} {st : Ar} : hset (putArch h o st) (o + 8) (.inl (0, 12, .inl (fun k => if k < 12 then nI 0 else nI (st.2.2 5 k)))) = putArch h o (aF st 5 (fun k => if k < 12 then 0 else st.2.2 5 k)) := by
  have e : (fun k => if k < 12 then nI 0 else nI (st.2.2 5 k)) = fun k => nI (if k < 12 then 0 else st.2.2 5 k) := by
    funext k
    split <;> rfl
  rw [e]
  have k := hset_arch (h := putArch h o st) (o := o) (st := st) (st' := aF st 5 (fun k => if k < 12 then 0 else st.2.2 5 k)) 8 (by decide) putArch_at rfl (lt12 ⟨fun _ => rfl, fun _ => rfl, fun _ => rfl, fun _ => rfl, fun _ => rfl, fun _ => rfl, fun _ => rfl, fun _ => rfl, fun q => absurd rfl q, fun _ => rfl, fun _ => rfl, fun _ => rfl⟩)
  rw [putArch_put] at k
  exact k
theorem fl_X0_held {h : xH} {o : Nat} {st : Ar} : hset (putArch h o st) (o + 9) (.inl (0, 12, .inl (fun k => if k < 12 then nI 0 else nI (st.2.2 6 k)))) = putArch h o (aF st 6 (fun k => if k < 12 then 0 else st.2.2 6 k)) := by
  have e : (fun k => if k < 12 then nI 0 else nI (st.2.2 6 k)) = fun k => nI (if k < 12 then 0 else st.2.2 6 k) := by
    funext k
    split <;> rfl
  rw [e]
  have k := hset_arch (h := putArch h o st) (o := o) (st := st) (st' := aF st 6 (fun k => if k < 12 then 0 else st.2.2 6 k)) 9 (by decide) putArch_at rfl (lt12 ⟨fun _ => rfl, fun _ => rfl, fun _ => rfl, fun _ => rfl, fun _ => rfl, fun _ => rfl, fun _ => rfl, fun _ => rfl, fun _ => rfl, fun q => absurd rfl q, fun _ => rfl, fun _ => rfl⟩)
  rw [putArch_put] at k
  exact k
theorem fl_X0_broken {h : xH} {o : Nat} {st : Ar} : hset (putArch h o st) (o + 10) (.inl (0, 12, .inl (fun k => if k < 12 then nI 0 else nI (st.2.2 7 k)))) = putArch h o (aF st 7 (fun k => if k < 12 then 0 else st.2.2 7 k)) := by
  have e : (fun k => if k < 12 then nI 0 else nI (st.2.2 7 k)) = fun k => nI (if k < 12 then 0 else st.2.2 7 k) := by
    funext k
    split <;> rfl
  rw [e]
  have k := hset_arch (h := putArch h o st) (o := o) (st := st) (st' := aF st 7 (fun k => if k < 12 then 0 else st.2.2 7 k)) 10 (by decide) putArch_at rfl (lt12 ⟨fun _ => rfl, fun _ => rfl, fun _ => rfl, fun _ => rfl, fun _ => rfl, fun _ => rfl, fun _ => rfl, fun _ => rfl, fun _ => rfl, fun _ => rfl, fun q => absurd rfl q, fun _ => rfl⟩)
  rw [putArch_put] at k
  exact k
theorem fl_X0_spoiled {h : xH} {o : Nat} {st : Ar} : hset (putArch h o st) (o + 11) (.inl (0, 120, .inl (fun k => if k < 120 then nI 0 else nI (st.2.2 8 k)))) = putArch h o (aF st 8 (fun k => if k < 120 then 0 else st.2.2 8 k)) := by
  have e : (fun k => if k < 120 then nI 0 else nI (st.2.2 8 k)) = fun k => nI (if k < 120 then 0 else st.2.2 8 k) := by
    funext k
    split <;> rfl
  rw [e]
  have k := hset_arch (h := putArch h o st) (o := o) (st := st) (st' := aF st 8 (fun k => if k < 120 then 0 else st.2.2 8 k)) 11 (by decide) putArch_at rfl (lt12 ⟨fun _ => rfl, fun _ => rfl, fun _ => rfl, fun _ => rfl, fun _ => rfl, fun _ => rfl, fun _ => rfl, fun _ => rfl, fun _ => rfl, fun _ => rfl, fun _ => rfl, fun q => absurd rfl q⟩)
  rw [putArch_put] at k
  exact k
theorem cpy_all {α : Type} {f f1 : Nat → α} {n k : Nat} (hk : k < n) : va_cpy f f1 0 0 n k = f k := by
  rw [pk_cpy_in (Nat.zero_le k) (by omega)]
  congr 1
  omega
def emptyS (t : Nat) : Ar := (fun i => if i = 0 then t else 0, fun _ _ => 0, fun _ _ => 0)
theorem lt9 {P : Nat → Prop} (h : P 0 ∧ P 1 ∧ P 2 ∧ P 3 ∧ P 4 ∧ P 5 ∧ P 6 ∧ P 7 ∧ P 8) : ∀ j, j < 9 → P j := by
  intro j hj
  obtain ⟨h0, h1, h2, h3, h4, h5, h6, h7, h8⟩ := h
  match j, hj with
  | 0, _ => exact h0
  | 1, _ => exact h1
  | 2, _ => exact h2
  | 3, _ => exact h3
  | 4, _ => exact h4
  | 5, _ => exact h5
  | 6, _ => exact h6
  | 7, _ => exact h7
  | 8, _ => exact h8
theorem lt5 {P : Nat → Prop} (h : P 0 ∧ P 1 ∧ P 2 ∧ P 3 ∧ P 4) : ∀ j, j < 5 → P j := by
  intro j hj
  obtain ⟨h0, h1, h2, h3, h4⟩ := h
  match j, hj with
  | 0, _ => exact h0
  | 1, _ => exact h1
  | 2, _ => exact h2
  | 3, _ => exact h3
  | 4, _ => exact h4
theorem lt2 {P : Nat → Prop} (h : P 0 ∧ P 1) : ∀ j, j < 2 → P j := by
  intro j hj
  obtain ⟨h0, h1⟩ := h
  match j, hj with
  | 0, _ => exact h0
  | 1, _ => exact h1
/-- a set without the place f: the places above move down -/
def wbV (b f : Nat) : Nat := (b &&& (2 ^ f - 1)) ||| (b / 2 ^ (f + 1) * 2 ^ f)
def dropF (f : Nat → Nat) (r b : Nat) : Nat → Nat := va_up (va_cpy f f (r + 1) r b) (r + b) 0
def rmP (st : Ar) (f : Nat) : Nat → Ar
  | 0 => st
  | n + 1 =>
    let s := rmP st f n
    let s1 := aF s 6 (va_up (s.2.2 6) n (wbV (s.2.2 6 n) f))
    let s2 := aF s1 7 (va_up (s1.2.2 7) n (wbV (s1.2.2 7 n) f))
    let s3 := aF s2 8 (va_cpy (s2.2.2 8) (s2.2.2 8) (10 * n + (f + 1)) (10 * n + f) (st.1 1 - f - 1))
    aF s3 8 (va_up (s3.2.2 8) (10 * n + (st.1 1 - 1)) 0)
def rmQ (st : Ar) (f : Nat) : Ar :=
  let s := rmP st f (st.1 2)
  let b := st.1 1 - f - 1
  let s1 := aL s 0 (va_cpy (s.2.1 0) (s.2.1 0) (f + 1) f b)
  let s2 := aL s1 0 (vp_updL (s1.2.1 0) (st.1 1 - 1) (lN 0))
  let s3 := aF s2 0 (dropF (s2.2.2 0) f b)
  let s4 := aF s3 2 (dropF (s3.2.2 2) f b)
  let s5 := aF s4 3 (dropF (s4.2.2 3) f b)
  let s6 := aF s5 4 (dropF (s5.2.2 4) f b)
  let s7 := aF s6 1 (dropF (s6.2.2 1) f b)
  aI s7 1 (st.1 1 - 1)
def rmN (s : Ar) (f : Nat) : Nat → Ar
  | 0 => s
  | n + 1 => aF (rmN s f n) 1 (va_up ((rmN s f n).2.2 1) n (wbV ((rmN s f n).2.2 1 n) f))
def rmS (st : Ar) (f : Nat) : Ar := rmN (rmQ st f) f (st.1 1 - 1)
theorem rmP_1 {st : Ar} {f : Nat} : ∀ n, (rmP st f n).1 = st.1 := by
  intro n
  induction n with
  | zero => rfl
  | succ n ih => exact ih
theorem rmN_1 {s : Ar} {f : Nat} : ∀ n, (rmN s f n).1 = s.1 := by
  intro n
  induction n with
  | zero => rfl
  | succ n ih => exact ih
theorem wbV_lt {b f : Nat} (hb : b < 1024) (hf : f < 10) : wbV b f < 1024 := by
  unfold wbV
  refine Nat.or_lt_two_pow (n := 10) (Nat.lt_of_le_of_lt Nat.and_le_left hb) ?_
  have h1 : b / 2 ^ (f + 1) * 2 ^ f ≤ b / 2 ^ (f + 1) * 2 ^ (f + 1) := Nat.mul_le_mul_left _ (Nat.pow_le_pow_right (by decide) (by omega))
  have h2 := Nat.div_mul_le_self b (2 ^ (f + 1))
  omega
theorem rmP_hb {st : Ar} {f : Nat} (hw : aOk st) (hf : f < 10) : ∀ n, n ≤ 12 → ∀ p, p < 12 → (rmP st f n).2.2 6 p < 1024 ∧ (rmP st f n).2.2 7 p < 1024 := by
  intro n
  induction n with
  | zero => intro _ p hp; exact ⟨hw.held hp, hw.brk hp⟩
  | succ n ih =>
    intro hn p hp
    have h1 := ih (by omega) p hp
    have h2 := ih (by omega) n (by omega)
    constructor
    · show va_up ((rmP st f n).2.2 6) n (wbV ((rmP st f n).2.2 6 n) f) p < 1024
      unfold va_up
      split
      · exact wbV_lt h2.1 hf
      · exact h1.1
    · show va_up ((rmP st f n).2.2 7) n (wbV ((rmP st f n).2.2 7 n) f) p < 1024
      unfold va_up
      split
      · exact wbV_lt h2.2 hf
      · exact h1.2
theorem rmP_ne {st : Ar} {f j : Nat} (h6 : j ≠ 6) (h7 : j ≠ 7) (h8 : j ≠ 8) : ∀ n, (rmP st f n).2.2 j = st.2.2 j := by
  intro n
  induction n with
  | zero => rfl
  | succ n ih => simp [rmP, aF, va_up, h6, h7, h8, ih]
theorem rmN_lt {s : Ar} {f : Nat} (hs : ∀ k, k < 10 → s.2.2 1 k < 1024) (hf : f < 10) : ∀ n, n ≤ 10 → ∀ k, k < 10 → (rmN s f n).2.2 1 k < 1024 := by
  intro n
  induction n with
  | zero => intro _; exact hs
  | succ n ih =>
    intro hn k hk
    show va_up ((rmN s f n).2.2 1) n (wbV ((rmN s f n).2.2 1 n) f) k < 1024
    unfold va_up
    split
    · exact wbV_lt (ih (by omega) n (by omega)) hf
    · exact ih (by omega) k hk
section A5
variable {g : xG} {l : Launch} {h : xH} {o : Nat} {st : Ar}
theorem c_takeFrom {o' : Nat} {so : Ar} (hB : ArchAt h o' so) (hd : o' + 12 ≤ o ∨ o + 12 ≤ o') : xDet g l mX0_takeFrom 1 0 0 [.ref o, .ref o'] (putArch h o st) none (putArch h o so) := by
  have hB' : ∀ s, ArchAt (putArch h o s) o' so := fun s => hB.kept hd
  refine xMet.of (V := [some (.ref o), some (.ref o')]) moX0_takeFrom (Nat.le_of_ble_eq_true rfl) rfl ?_
  refine x_aload_n dX0_takeFrom_0 rfl ?_
  refine x_aload_n dX0_takeFrom_1 rfl ?_
  refine x_getf dX0_takeFrom_2 f_X0_46 (hB' _).o rfl ?_
  refine xq_X0_tiles dX0_takeFrom_5 f_X0_46 ?_
  refine x_aload_n dX0_takeFrom_8 rfl ?_
  refine x_aload_n dX0_takeFrom_9 rfl ?_
  refine x_getf dX0_takeFrom_10 f_X0_50 (hB' _).o rfl ?_
  refine xq_X0_families dX0_takeFrom_13 f_X0_50 ?_
  refine x_aload_n dX0_takeFrom_16 rfl ?_
  refine x_aload_n dX0_takeFrom_17 rfl ?_
  refine x_getf dX0_takeFrom_18 f_X0_53 (hB' _).o rfl ?_
  refine xq_X0_pictures dX0_takeFrom_21 f_X0_53 ?_
  refine x_aload_n dX0_takeFrom_24 rfl ?_
  refine x_aload_n dX0_takeFrom_25 rfl ?_
  refine x_getf dX0_takeFrom_26 f_X0_56 (hB' _).o rfl ?_
  refine xq_X0_questions dX0_takeFrom_29 f_X0_56 ?_
  refine x_aload_n dX0_takeFrom_32 rfl ?_
  refine x_aload_n dX0_takeFrom_33 rfl ?_
  refine x_getf dX0_takeFrom_34 f_X0_59 (hB' _).o rfl ?_
  refine xq_X0_repairs dX0_takeFrom_37 f_X0_59 ?_
  refine x_aload_n dX0_takeFrom_40 rfl ?_
  refine x_getf dX0_takeFrom_41 f_X0_9 (hB' _).o rfl ?_
  refine x_iconst (nI 0) dX0_takeFrom_44 (by decide) ?_
  refine x_aload_n dX0_takeFrom_45 rfl ?_
  refine x_getf dX0_takeFrom_46 f_X0_9 putArch_at.o rfl ?_
  refine x_iconst (nI 0) dX0_takeFrom_49 (by decide) ?_
  refine x_bipush (nI 10) dX0_takeFrom_50 (by decide) ?_
  refine xqc_X0_familyNames dX0_takeFrom_52 rfl (hB' _).familyNames (by omega) (by omega) (by decide) (by decide) (by decide) ?_
  refine x_aload_n dX0_takeFrom_55 rfl ?_
  refine x_getf dX0_takeFrom_56 f_X0_15 (hB' _).o rfl ?_
  refine x_iconst (nI 0) dX0_takeFrom_59 (by decide) ?_
  refine x_aload_n dX0_takeFrom_60 rfl ?_
  refine x_getf dX0_takeFrom_61 f_X0_15 putArch_at.o rfl ?_
  refine x_iconst (nI 0) dX0_takeFrom_64 (by decide) ?_
  refine x_bipush (nI 10) dX0_takeFrom_65 (by decide) ?_
  refine xqc_X0_rooms dX0_takeFrom_67 rfl (hB' _).rooms (by omega) (by omega) (by decide) (by decide) (by decide) ?_
  refine x_aload_n dX0_takeFrom_70 rfl ?_
  refine x_getf dX0_takeFrom_71 f_X0_19 (hB' _).o rfl ?_
  refine x_iconst (nI 0) dX0_takeFrom_74 (by decide) ?_
  refine x_aload_n dX0_takeFrom_75 rfl ?_
  refine x_getf dX0_takeFrom_76 f_X0_19 putArch_at.o rfl ?_
  refine x_iconst (nI 0) dX0_takeFrom_79 (by decide) ?_
  refine x_bipush (nI 10) dX0_takeFrom_80 (by decide) ?_
  refine xqc_X0_near dX0_takeFrom_82 rfl (hB' _).near (by omega) (by omega) (by decide) (by decide) (by decide) ?_
  refine x_aload_n dX0_takeFrom_85 rfl ?_
  refine x_getf dX0_takeFrom_86 f_X0_22 (hB' _).o rfl ?_
  refine x_iconst (nI 0) dX0_takeFrom_89 (by decide) ?_
  refine x_aload_n dX0_takeFrom_90 rfl ?_
  refine x_getf dX0_takeFrom_91 f_X0_22 putArch_at.o rfl ?_
  refine x_iconst (nI 0) dX0_takeFrom_94 (by decide) ?_
  refine x_bipush (nI 10) dX0_takeFrom_95 (by decide) ?_
  refine xqc_X0_right dX0_takeFrom_97 rfl (hB' _).right (by omega) (by omega) (by decide) (by decide) (by decide) ?_
  refine x_aload_n dX0_takeFrom_100 rfl ?_
  refine x_getf dX0_takeFrom_101 f_X0_25 (hB' _).o rfl ?_
  refine x_iconst (nI 0) dX0_takeFrom_104 (by decide) ?_
  refine x_aload_n dX0_takeFrom_105 rfl ?_
  refine x_getf dX0_takeFrom_106 f_X0_25 putArch_at.o rfl ?_
  refine x_iconst (nI 0) dX0_takeFrom_109 (by decide) ?_
  refine x_bipush (nI 10) dX0_takeFrom_110 (by decide) ?_
  refine xqc_X0_wrong dX0_takeFrom_112 rfl (hB' _).wrong (by omega) (by omega) (by decide) (by decide) (by decide) ?_
  refine x_aload_n dX0_takeFrom_115 rfl ?_
  refine x_getf dX0_takeFrom_116 f_X0_28 (hB' _).o rfl ?_
  refine x_iconst (nI 0) dX0_takeFrom_119 (by decide) ?_
  refine x_aload_n dX0_takeFrom_120 rfl ?_
  refine x_getf dX0_takeFrom_121 f_X0_28 putArch_at.o rfl ?_
  refine x_iconst (nI 0) dX0_takeFrom_124 (by decide) ?_
  refine x_bipush (nI 10) dX0_takeFrom_125 (by decide) ?_
  refine xqc_X0_copies dX0_takeFrom_127 rfl (hB' _).copies (by omega) (by omega) (by decide) (by decide) (by decide) ?_
  refine x_aload_n dX0_takeFrom_130 rfl ?_
  refine x_getf dX0_takeFrom_131 f_X0_31 (hB' _).o rfl ?_
  refine x_iconst (nI 0) dX0_takeFrom_134 (by decide) ?_
  refine x_aload_n dX0_takeFrom_135 rfl ?_
  refine x_getf dX0_takeFrom_136 f_X0_31 putArch_at.o rfl ?_
  refine x_iconst (nI 0) dX0_takeFrom_139 (by decide) ?_
  refine x_bipush (nI 12) dX0_takeFrom_140 (by decide) ?_
  refine xqc_X0_pictureNames dX0_takeFrom_142 rfl (hB' _).pictureNames (by omega) (by omega) (by decide) (by decide) (by decide) ?_
  refine x_aload_n dX0_takeFrom_145 rfl ?_
  refine x_getf dX0_takeFrom_146 f_X0_34 (hB' _).o rfl ?_
  refine x_iconst (nI 0) dX0_takeFrom_149 (by decide) ?_
  refine x_aload_n dX0_takeFrom_150 rfl ?_
  refine x_getf dX0_takeFrom_151 f_X0_34 putArch_at.o rfl ?_
  refine x_iconst (nI 0) dX0_takeFrom_154 (by decide) ?_
  refine x_bipush (nI 12) dX0_takeFrom_155 (by decide) ?_
  refine xqc_X0_pledges dX0_takeFrom_157 rfl (hB' _).pledges (by omega) (by omega) (by decide) (by decide) (by decide) ?_
  refine x_aload_n dX0_takeFrom_160 rfl ?_
  refine x_getf dX0_takeFrom_161 f_X0_37 (hB' _).o rfl ?_
  refine x_iconst (nI 0) dX0_takeFrom_164 (by decide) ?_
  refine x_aload_n dX0_takeFrom_165 rfl ?_
  refine x_getf dX0_takeFrom_166 f_X0_37 putArch_at.o rfl ?_
  refine x_iconst (nI 0) dX0_takeFrom_169 (by decide) ?_
  refine x_bipush (nI 12) dX0_takeFrom_170 (by decide) ?_
  refine xqc_X0_held dX0_takeFrom_172 rfl (hB' _).held (by omega) (by omega) (by decide) (by decide) (by decide) ?_
  refine x_aload_n dX0_takeFrom_175 rfl ?_
  refine x_getf dX0_takeFrom_176 f_X0_40 (hB' _).o rfl ?_
  refine x_iconst (nI 0) dX0_takeFrom_179 (by decide) ?_
  refine x_aload_n dX0_takeFrom_180 rfl ?_
  refine x_getf dX0_takeFrom_181 f_X0_40 putArch_at.o rfl ?_
  refine x_iconst (nI 0) dX0_takeFrom_184 (by decide) ?_
  refine x_bipush (nI 12) dX0_takeFrom_185 (by decide) ?_
  refine xqc_X0_broken dX0_takeFrom_187 rfl (hB' _).broken (by omega) (by omega) (by decide) (by decide) (by decide) ?_
  refine x_aload_n dX0_takeFrom_190 rfl ?_
  refine x_getf dX0_takeFrom_191 f_X0_43 (hB' _).o rfl ?_
  refine x_iconst (nI 0) dX0_takeFrom_194 (by decide) ?_
  refine x_aload_n dX0_takeFrom_195 rfl ?_
  refine x_getf dX0_takeFrom_196 f_X0_43 putArch_at.o rfl ?_
  refine x_iconst (nI 0) dX0_takeFrom_199 (by decide) ?_
  refine x_bipush (nI 120) dX0_takeFrom_200 (by decide) ?_
  refine xqc_X0_spoiled dX0_takeFrom_202 rfl (hB' _).spoiled (by omega) (by omega) (by decide) (by decide) (by decide) ?_
  refine xP.heq (putArch h o so) (putArch_heq ⟨lt5 ⟨rfl, rfl, rfl, rfl, rfl⟩, fun j k hj hk => ?_, fun j k hj hk => ?_⟩) ?_
  · revert k
    revert j
    exact lt2 ⟨fun k hk => cpy_all hk, fun k hk => cpy_all hk⟩
  · revert k
    revert j
    exact lt9 ⟨fun k hk => cpy_all hk, fun k hk => cpy_all hk, fun k hk => cpy_all hk, fun k hk => cpy_all hk, fun k hk => cpy_all hk, fun k hk => cpy_all hk, fun k hk => cpy_all hk, fun k hk => cpy_all hk, fun k hk => cpy_all hk⟩
  exact x_vret dX0_takeFrom_205 rfl (by decide) (by decide) rfl (rfl)
theorem c_startEmpty {t : Nat} : xDet g l mX0_startEmpty 1 0 0 [.ref o, .int (nI t)] (putArch h o st) none (putArch h o (emptyS t)) := by
  refine xMet.of (V := [some (.ref o), some (.int (nI t))]) moX0_startEmpty (Nat.le_of_ble_eq_true rfl) rfl ?_
  refine x_aload_n dX0_startEmpty_0 rfl ?_
  refine x_iload_n dX0_startEmpty_1 rfl ?_
  refine xq_X0_tiles dX0_startEmpty_2 f_X0_46 ?_
  refine x_aload_n dX0_startEmpty_5 rfl ?_
  refine x_iconst (nI 0) dX0_startEmpty_6 (by decide) ?_
  refine xq_X0_families dX0_startEmpty_7 f_X0_50 ?_
  refine x_aload_n dX0_startEmpty_10 rfl ?_
  refine x_iconst (nI 0) dX0_startEmpty_11 (by decide) ?_
  refine xq_X0_pictures dX0_startEmpty_12 f_X0_53 ?_
  refine x_aload_n dX0_startEmpty_15 rfl ?_
  refine x_iconst (nI 0) dX0_startEmpty_16 (by decide) ?_
  refine xq_X0_questions dX0_startEmpty_17 f_X0_56 ?_
  refine x_aload_n dX0_startEmpty_20 rfl ?_
  refine x_iconst (nI 0) dX0_startEmpty_21 (by decide) ?_
  refine xq_X0_repairs dX0_startEmpty_22 f_X0_59 ?_
  refine x_aload_n dX0_startEmpty_25 rfl ?_
  refine x_getf dX0_startEmpty_26 f_X0_9 putArch_at.o rfl ?_
  refine x_lconst (lN 0) dX0_startEmpty_29 (by decide) ?_
  refine x_sv0 dX0_startEmpty_30 cS_X0_62 (c_fillJ (n := 10) putArch_at.familyNames (by decide)) rfl rfl ⟨⟨by decide, by decide⟩, by decide, by decide⟩ (Nat.le_of_ble_eq_true rfl) ?_
  rw [fl_X0_familyNames]
  refine x_aload_n dX0_startEmpty_33 rfl ?_
  refine x_getf dX0_startEmpty_34 f_X0_15 putArch_at.o rfl ?_
  refine x_iconst (nI 0) dX0_startEmpty_37 (by decide) ?_
  refine x_sv0 dX0_startEmpty_38 cS_X0_68 (c_fillI (n := 10) putArch_at.rooms (by decide)) rfl rfl ⟨⟨by decide, by decide⟩, by decide, by decide⟩ (Nat.le_of_ble_eq_true rfl) ?_
  rw [fl_X0_rooms]
  refine x_aload_n dX0_startEmpty_41 rfl ?_
  refine x_getf dX0_startEmpty_42 f_X0_19 putArch_at.o rfl ?_
  refine x_iconst (nI 0) dX0_startEmpty_45 (by decide) ?_
  refine x_sv0 dX0_startEmpty_46 cS_X0_68 (c_fillI (n := 10) putArch_at.near (by decide)) rfl rfl ⟨⟨by decide, by decide⟩, by decide, by decide⟩ (Nat.le_of_ble_eq_true rfl) ?_
  rw [fl_X0_near]
  refine x_aload_n dX0_startEmpty_49 rfl ?_
  refine x_getf dX0_startEmpty_50 f_X0_22 putArch_at.o rfl ?_
  refine x_iconst (nI 0) dX0_startEmpty_53 (by decide) ?_
  refine x_sv0 dX0_startEmpty_54 cS_X0_68 (c_fillI (n := 10) putArch_at.right (by decide)) rfl rfl ⟨⟨by decide, by decide⟩, by decide, by decide⟩ (Nat.le_of_ble_eq_true rfl) ?_
  rw [fl_X0_right]
  refine x_aload_n dX0_startEmpty_57 rfl ?_
  refine x_getf dX0_startEmpty_58 f_X0_25 putArch_at.o rfl ?_
  refine x_iconst (nI 0) dX0_startEmpty_61 (by decide) ?_
  refine x_sv0 dX0_startEmpty_62 cS_X0_68 (c_fillI (n := 10) putArch_at.wrong (by decide)) rfl rfl ⟨⟨by decide, by decide⟩, by decide, by decide⟩ (Nat.le_of_ble_eq_true rfl) ?_
  rw [fl_X0_wrong]
  refine x_aload_n dX0_startEmpty_65 rfl ?_
  refine x_getf dX0_startEmpty_66 f_X0_28 putArch_at.o rfl ?_
  refine x_iconst (nI 0) dX0_startEmpty_69 (by decide) ?_
  refine x_sv0 dX0_startEmpty_70 cS_X0_68 (c_fillI (n := 10) putArch_at.copies (by decide)) rfl rfl ⟨⟨by decide, by decide⟩, by decide, by decide⟩ (Nat.le_of_ble_eq_true rfl) ?_
  rw [fl_X0_copies]
  refine x_aload_n dX0_startEmpty_73 rfl ?_
  refine x_getf dX0_startEmpty_74 f_X0_31 putArch_at.o rfl ?_
  refine x_lconst (lN 0) dX0_startEmpty_77 (by decide) ?_
  refine x_sv0 dX0_startEmpty_78 cS_X0_62 (c_fillJ (n := 12) putArch_at.pictureNames (by decide)) rfl rfl ⟨⟨by decide, by decide⟩, by decide, by decide⟩ (Nat.le_of_ble_eq_true rfl) ?_
  rw [fl_X0_pictureNames]
  refine x_aload_n dX0_startEmpty_81 rfl ?_
  refine x_getf dX0_startEmpty_82 f_X0_34 putArch_at.o rfl ?_
  refine x_iconst (nI 0) dX0_startEmpty_85 (by decide) ?_
  refine x_sv0 dX0_startEmpty_86 cS_X0_68 (c_fillI (n := 12) putArch_at.pledges (by decide)) rfl rfl ⟨⟨by decide, by decide⟩, by decide, by decide⟩ (Nat.le_of_ble_eq_true rfl) ?_
  rw [fl_X0_pledges]
  refine x_aload_n dX0_startEmpty_89 rfl ?_
  refine x_getf dX0_startEmpty_90 f_X0_37 putArch_at.o rfl ?_
  refine x_iconst (nI 0) dX0_startEmpty_93 (by decide) ?_
  refine x_sv0 dX0_startEmpty_94 cS_X0_68 (c_fillI (n := 12) putArch_at.held (by decide)) rfl rfl ⟨⟨by decide, by decide⟩, by decide, by decide⟩ (Nat.le_of_ble_eq_true rfl) ?_
  rw [fl_X0_held]
  refine x_aload_n dX0_startEmpty_97 rfl ?_
  refine x_getf dX0_startEmpty_98 f_X0_40 putArch_at.o rfl ?_
  refine x_iconst (nI 0) dX0_startEmpty_101 (by decide) ?_
  refine x_sv0 dX0_startEmpty_102 cS_X0_68 (c_fillI (n := 12) putArch_at.broken (by decide)) rfl rfl ⟨⟨by decide, by decide⟩, by decide, by decide⟩ (Nat.le_of_ble_eq_true rfl) ?_
  rw [fl_X0_broken]
  refine x_aload_n dX0_startEmpty_105 rfl ?_
  refine x_getf dX0_startEmpty_106 f_X0_43 putArch_at.o rfl ?_
  refine x_iconst (nI 0) dX0_startEmpty_109 (by decide) ?_
  refine x_sv0 dX0_startEmpty_110 cS_X0_68 (c_fillI (n := 120) putArch_at.spoiled (by decide)) rfl rfl ⟨⟨by decide, by decide⟩, by decide, by decide⟩ (Nat.le_of_ble_eq_true rfl) ?_
  rw [fl_X0_spoiled]
  refine xP.heq (putArch h o (emptyS t)) (putArch_heq ⟨lt5 ⟨rfl, rfl, rfl, rfl, rfl⟩, fun j k hj hk => ?_, fun j k hj hk => ?_⟩) ?_
  · revert k
    revert j
    exact lt2 ⟨fun k hk => if_pos hk, fun k hk => if_pos hk⟩
  · revert k
    revert j
    exact lt9 ⟨fun k hk => if_pos hk, fun k hk => if_pos hk, fun k hk => if_pos hk, fun k hk => if_pos hk, fun k hk => if_pos hk, fun k hk => if_pos hk, fun k hk => if_pos hk, fun k hk => if_pos hk, fun k hk => if_pos hk⟩
  exact x_vret dX0_startEmpty_113 rfl (by decide) (by decide) rfl (rfl)
theorem c_withoutBit {b f : Nat} (hb : b < 1024) (hf : f < 10) : xDet g l mX0_withoutBit 0 0 0 [.int (nI b), .int (nI f)] h (some (.int (nI (wbV b f)))) h := by
  have h1 : 1 ≤ 2 ^ f := Nat.one_le_two_pow
  have h2 : b / 2 ^ (f + 1) * 2 ^ f < 2 ^ 32 := by
    have h3 : 2 ^ f ≤ 2 ^ 10 := Nat.pow_le_pow_right (by decide) (by omega)
    have h4 : b / 2 ^ (f + 1) ≤ b := Nat.div_le_self _ _
    have h5 := Nat.mul_le_mul h4 h3
    omega
  refine xMet.of (V := [some (.int (nI b)), some (.int (nI f)), none, none]) moX0_withoutBit (Nat.le_of_ble_eq_true rfl) rfl ?_
  refine x_iload_n dX0_withoutBit_0 rfl ?_
  refine x_iconst (nI 1) dX0_withoutBit_1 (by decide) ?_
  refine x_iload_n dX0_withoutBit_2 rfl ?_
  refine x_ishl1_n dX0_withoutBit_3 (by omega) ?_
  refine x_iconst (nI 1) dX0_withoutBit_4 (by decide) ?_
  refine x_isub_n dX0_withoutBit_5 (by omega) ?_
  refine x_iand_n dX0_withoutBit_6 ?_
  refine x_istore_n dX0_withoutBit_7 (by decide) rfl rfl ?_
  refine x_iload_n dX0_withoutBit_8 rfl ?_
  refine x_iload_n dX0_withoutBit_9 rfl ?_
  refine x_iconst (nI 1) dX0_withoutBit_10 (by decide) ?_
  refine x_iadd_n dX0_withoutBit_11 ?_
  refine x_iushr_n dX0_withoutBit_12 (by omega) (by omega) ?_
  refine x_iload_n dX0_withoutBit_13 rfl ?_
  refine x_ishl_n dX0_withoutBit_14 (by omega) h2 ?_
  refine x_istore_n dX0_withoutBit_15 (by decide) rfl rfl ?_
  refine x_iload_n dX0_withoutBit_16 rfl ?_
  refine x_iload_n dX0_withoutBit_17 rfl ?_
  refine x_ior_n dX0_withoutBit_18 ?_
  exact x_iret .int dX0_withoutBit_19 rfl rfl (by decide) (by decide) (rfl) (rfl)
theorem c_dropRow {a r b : Nat} {f : Nat → Nat} (ha : h.1 a = some (.inl (0, 10, .inl (fun k => nI (f k))))) (hr : r + b < 10) : xDet g l mX0_dropRow 1 0 0 [.ref a, .int (nI r), .int (nI b)] h none (hset h a (.inl (0, 10, .inl (fun k => nI (dropF f r b k))))) := by
  have h2 : (hset h a (.inl (0, 10, .inl (fun k => nI (va_cpy f f (r + 1) r b k))))).1 a = some (.inl (0, 10, .inl (fun k => nI (va_cpy f f (r + 1) r b k)))) := by simp [hset]
  refine xMet.of (V := [some (.ref a), some (.int (nI r)), some (.int (nI b))]) moX0_dropRow (Nat.le_of_ble_eq_true rfl) rfl ?_
  refine x_aload_n dX0_dropRow_0 rfl ?_
  refine x_iload_n dX0_dropRow_1 rfl ?_
  refine x_iconst (nI 1) dX0_dropRow_2 (by decide) ?_
  refine x_iadd_n dX0_dropRow_3 ?_
  refine x_aload_n dX0_dropRow_4 rfl ?_
  refine x_iload_n dX0_dropRow_5 rfl ?_
  refine x_iload_n dX0_dropRow_6 rfl ?_
  refine x_copyi dX0_dropRow_7 rfl ha ha (by omega) (by omega) (by decide) (by decide) (by decide) (by decide) ?_
  rw [x_cpy_n]
  refine x_aload_n dX0_dropRow_10 rfl ?_
  refine x_iload_n dX0_dropRow_11 rfl ?_
  refine x_iload_n dX0_dropRow_12 rfl ?_
  refine x_iadd_n dX0_dropRow_13 ?_
  refine x_iconst (nI 0) dX0_dropRow_14 (by decide) ?_
  refine x_iast_n dX0_dropRow_15 h2 (by omega) (by decide) ?_
  have e : hset (hset h a (.inl (0, 10, .inl (fun k => nI (va_cpy f f (r + 1) r b k))))) a (.inl (0, 10, .inl (fun k => nI (va_up (va_cpy f f (r + 1) r b) (r + b) 0 k)))) = hset h a (.inl (0, 10, .inl (fun k => nI (dropF f r b k)))) := by
    refine xH_ext (fun q => ?_) rfl
    unfold hset
    dsimp only
    split <;> rfl
  rw [e]
  exact x_vret dX0_dropRow_16 rfl (by decide) (by decide) rfl (rfl)
end A5
