/-! ===== TextReader: the bytes that come; its making, and the writer's ===== -/
theorem sb_of (y : Nat) : (nI y).toInt8.toInt32 = sb (y % 256) := by
  have e : (nI y).toInt8.toInt32 = (nI (y % 256)).toInt8.toInt32 := by
    have : (nI y).toInt8 = (nI (y % 256)).toInt8 := by
      apply Int8.toBitVec_inj.mp
      show (BitVec.ofNat 32 y).signExtend 8 = (BitVec.ofNat 32 (y % 256)).signExtend 8
      rw [BitVec.signExtend_eq_setWidth_of_le _ (by decide), BitVec.signExtend_eq_setWidth_of_le _ (by decide)]
      apply BitVec.eq_of_toNat_eq
      simp only [BitVec.toNat_setWidth, BitVec.toNat_ofNat]
      omega
    rw [this]
  rw [e]
  have : ∀ x : Fin 256, (nI x.val).toInt8.toInt32 = sb x.val := by decide +kernel
  exact this ⟨y % 256, Nat.mod_lt _ (by decide)⟩
theorem sb_nar {x : Nat} (hx : x < 256) : vp_nar .byte (sb x) = sb x := by
  rw [vp_nar_byte]
  have : ∀ x : Fin 256, (sb x.val).toInt8.toInt32 = sb x.val := by decide +kernel
  exact this ⟨x, hx⟩
theorem sb_0 {x : Nat} (hx : x < 256) : sb x = 0 ↔ x = 0 := by
  have : ∀ x : Fin 256, sb x.val = 0 ↔ x.val = 0 := by decide +kernel
  exact this ⟨x, hx⟩
/-- the byte k of a word -/
def byW (w k : Nat) : Nat := w / 2 ^ (8 * k) % 256
def pb1 (x : Nat) (s : (Nat → Nat) × Tr) : (Nat → Nat) × Tr := if x ≠ 0 ∧ s.2.1.1 < 600 then (va_up s.1 s.2.1.1 x, sLen s.2 (s.2.1.1 + 1)) else s
def pbS (w : Nat) : Nat → (Nat → Nat) × Tr → (Nat → Nat) × Tr
  | 0, s => s
  | k + 1, s => pbS w k (pb1 (byW w k) s)
def dn3 (i : Nat) : Int32 := if i = 4 then -1 else nI (3 - i)
theorem dn3_step : ∀ i, i < 4 → dn3 i + Int32.ofInt (-1) = dn3 (i + 1) := by decide
theorem pb1_ok {x : Nat} {s : (Nat → Nat) × Tr} (hx : x < 256) (hb : ∀ k, s.1 k < 256) (hl : s.2.1.1 ≤ 600) : (∀ k, (pb1 x s).1 k < 256) ∧ (pb1 x s).2.1.1 ≤ 600 := by
  unfold pb1
  split
  · rename_i c
    refine ⟨fun k => ?_, c.2⟩
    show va_up s.1 s.2.1.1 x k < 256
    unfold va_up
    split
    · exact hx
    · exact hb k
  · exact ⟨hb, hl⟩
theorem pbS_ok {w : Nat} : ∀ k {s : (Nat → Nat) × Tr}, (∀ k, s.1 k < 256) → s.2.1.1 ≤ 600 → (∀ i, (pbS w k s).1 i < 256) ∧ (pbS w k s).2.1.1 ≤ 600 := by
  intro k
  induction k with
  | zero => intro s h1 h2; exact ⟨h1, h2⟩
  | succ k ih =>
    intro s h1 h2
    have := pb1_ok (x := byW w k) (Nat.mod_lt _ (by decide)) h1 h2
    exact ih this.1 this.2
section T10
variable {g : xG} {l : Launch} {h : xH} {r : Nat}
theorem c_putBytes {w : Nat} {b : Nat → Nat} {t : Tr} (hw : w < 2 ^ 32) (hb : ∀ k, b k < 256) (hl : t.1.1 ≤ 600) : xDet g l mX4_putBytes 0 0 0 [.ref r, .int (nI w)] (putTr h r b t) none (putTr h r (pbS w 4 (b, t)).1 (pbS w 4 (b, t)).2) := by
  refine xMet.of (V := [some (.ref r), some (.int (nI w)), none, none]) moX4_putBytes (Nat.le_of_ble_eq_true rfl) rfl ?_
  refine x_iconst (nI 3) dX4_putBytes_0 (by decide) ?_
  refine x_istore_n dX4_putBytes_1 (by decide) rfl rfl ?_
  have key : ∀ (k : Nat) (s : (Nat → Nat) × Tr) (v3 : Option Value), k ≤ 4 → (∀ i, s.1 i < 256) → s.2.1.1 ≤ 600 → xP g l mX4_putBytes [] (xR 0 0 0) (xZ g (fun r' h' => r' = none ∧ h' = putTr h r (pbS w k s).1 (pbS w k s).2) xno 0 0) 2 [some (.ref r), some (.int (nI w)), some (.int (dn3 (4 - k))), none] [] (putTr h r s.1 s.2) 0 0 := by
    intro k
    induction k with
    | zero =>
      intro s v3 _ hb hl
      rw [pbS]
      refine x_iload_n dX4_putBytes_2 rfl ?_
      refine x_if_lt 54 dX4_putBytes_3 (by decide) (fun c => ?_) (fun c => ?_)
      · exact x_vret dX4_putBytes_54 rfl (by decide) (by decide) rfl (rfl)
      · exact absurd (by decide) c
    | succ k ih =>
      intro s v3 hk hb hl
      have e1 : dn3 (4 - (k + 1)) = nI k := by unfold dn3; rw [if_neg (by omega)]; congr 1; omega
      have e2 : dn3 (4 - (k + 1)) + Int32.ofInt (-1) = dn3 (4 - k) := by rw [dn3_step _ (by omega), show 4 - (k + 1) + 1 = 4 - k by omega]
      have hx : byW w k < 256 := Nat.mod_lt _ (by decide)
      have hok := pb1_ok (x := byW w k) hx hb hl
      rw [pbS]
      rw [e1] at e2 ⊢
      have next : ∀ (v3 : Option Value) (h2 : xH), h2 = putTr h r (pb1 (byW w k) s).1 (pb1 (byW w k) s).2 → xP g l mX4_putBytes [] (xR 0 0 0) (xZ g (fun r' h' => r' = none ∧ h' = putTr h r (pbS w k (pb1 (byW w k) s)).1 (pbS w k (pb1 (byW w k) s)).2) xno 0 0) 48 [some (.ref r), some (.int (nI w)), some (.int (nI k)), v3] [] h2 0 0 := by
        intro v3 h2 hh
        subst hh
        refine x_iinc dX4_putBytes_48 rfl e2 (by decide) (by cases v3 <;> rfl) rfl ?_
        refine x_goto 2 dX4_putBytes_51 (by decide) ?_
        exact xP.weak (by cases v3 <;> simp [xle, xset1, fin3]) (ih (pb1 (byW w k) s) none (by omega) hok.1 hok.2)
      refine x_iload_n dX4_putBytes_2 rfl ?_
      refine x_if_lt_n (tgt := 54) dX4_putBytes_3 (by decide) (by omega) ?_
      refine x_iload_n dX4_putBytes_6 rfl ?_
      refine x_bipush (nI 8) dX4_putBytes_7 (by decide) ?_
      refine x_iload_n dX4_putBytes_9 rfl ?_
      refine x_imul_n dX4_putBytes_10 ?_
      refine x_iushr_n dX4_putBytes_11 (by omega) (by omega) ?_
      refine x_i2b (sb (byW w k)) dX4_putBytes_12 (sb_of _) ?_
      refine x_istore_n dX4_putBytes_13 (by decide) rfl rfl ?_
      refine x_iload_n dX4_putBytes_14 rfl ?_
      refine x_if_eq 48 dX4_putBytes_15 (by decide) (fun c1 => ?_) (fun c1 => ?_)
      · refine next _ _ ?_
        unfold pb1
        rw [if_neg (fun q => q.1 ((sb_0 hx).mp c1))]
      · refine x_aload_n dX4_putBytes_18 rfl ?_
        refine x_getf dX4_putBytes_19 f_X4_15 putTr_at.o rfl ?_
        refine x_sipush (nI 600) dX4_putBytes_22 (by decide) ?_
        refine x_icmp_ge_n 48 dX4_putBytes_25 (by decide) (by omega) (by omega) (fun c2 => ?_) (fun c2 => ?_)
        · refine next _ _ ?_
          unfold pb1
          rw [if_neg (fun q => by have := q.2; omega)]
        · refine x_aload_n dX4_putBytes_28 rfl ?_
          refine x_getf dX4_putBytes_29 f_X4_9 putTr_at.o rfl ?_
          refine x_aload_n dX4_putBytes_32 rfl ?_
          refine x_getf dX4_putBytes_33 f_X4_15 putTr_at.o rfl ?_
          refine x_iload_n dX4_putBytes_36 rfl ?_
          refine x_bast dX4_putBytes_37 putTr_at.text c2 (by decide) ?_
          rw [sb_nar hx]
          have e3 : hset (putTr h r s.1 s.2) (r + 1) (.inl (1, 600, .inl (upd (fun k => sb (s.1 k)) s.2.1.1 (sb (byW w k))))) = putTr h r (va_up s.1 s.2.1.1 (byW w k)) s.2 := by
            refine xH_ext (fun a => ?_) rfl
            unfold hset putTr
            dsimp only
            by_cases h1 : a = r + 1
            · subst h1
              rw [if_pos rfl, if_neg (by omega), if_pos rfl]
              unfold trE
              rw [if_neg (by decide)]
              congr 5
              funext k9
              unfold upd va_up
              split <;> rfl
            · rw [if_neg h1]
              split
              · rfl
              · rfl
          refine xP.eq rfl rfl rfl e3.symm ?_
          refine x_aload_n dX4_putBytes_38 rfl ?_
          refine x_dup dX4_putBytes_39 rfl ?_
          refine x_getf dX4_putBytes_40 f_X4_15 putTr_at.o rfl ?_
          refine x_iconst (nI 1) dX4_putBytes_43 (by decide) ?_
          refine x_iadd_n dX4_putBytes_44 ?_
          refine xq_X4_length dX4_putBytes_45 f_X4_15 ?_
          refine next _ _ ?_
          unfold pb1
          rw [if_pos ⟨fun q => c1 ((sb_0 hx).mpr q), c2⟩]
  exact xP.weak (by simp [xle, xset1, fin3]; rfl) (key 4 (b, t) none (Nat.le_refl _) hb hl)
theorem c_trInit {hf : Nat → Option xE} (ho : hf r = some (.inr (3, [.null, .int 0, .int 0, .int 0, .int 0, .int 0, .int 0, .long 0]))) : xDet g l mX4_init 1 1 600 [.ref r] (hf, r + 1) none (putTr (hf, r + 2) r (fun _ => 0) ((0, -1, -1), 0, 0, 0, 0)) := by
  refine xMet.of (V := [some (.ref r)]) moX4_init (Nat.le_of_ble_eq_true rfl) rfl ?_
  refine x_aload_n dX4_init_0 rfl ?_
  refine x_objInit dX4_init_1 oi_X4_3 (by decide) (by decide) ?_
  refine x_aload_n dX4_init_4 rfl ?_
  refine x_sipush (nI 600) dX4_init_5 (by decide) ?_
  refine x_newarray (t := 1) (N := 600) (a0 := (600, .inl (fun _ => nI 0))) dX4_init_8 aw_byte rfl (by decide) (fun _ => rfl) (by decide) (by decide) (by decide) (by decide) ?_
  refine x_putF dX4_init_10 f_X4_9 (fs := [.null, .int 0, .int 0, .int 0, .int 0, .int 0, .int 0, .long 0]) (by show (if r = r + 1 then _ else _) = _; rw [if_neg (by omega)]; exact ho) rfl rfl rfl rfl rfl (by decide) ?_
  have e : hset (hnew (hf, r + 1) (.inl (1, 600, .inl (fun _ => nI 0)))) r (.inr (3, [.ref (r + 1), .int 0, .int 0, .int 0, .int 0, .int 0, .int 0, .long 0])) = putTr (hf, r + 2) r (fun _ => 0) ((0, 0, 0), 0, 0, 0, 0) := by
    refine xH_ext (fun a => ?_) rfl
    unfold hset hnew putTr
    dsimp only
    split
    · rfl
    · split
      · rfl
      · rfl
  refine xP.eq rfl rfl rfl e.symm ?_
  refine x_aload_n dX4_init_13 rfl ?_
  refine x_iconst (nI 0) dX4_init_14 (by decide) ?_
  refine xq_X4_length dX4_init_15 f_X4_15 ?_
  refine x_aload_n dX4_init_18 rfl ?_
  refine x_iconst (-1) dX4_init_19 (by decide) ?_
  refine xq_X4_errorCode dX4_init_20 f_X4_19 ?_
  refine x_aload_n dX4_init_23 rfl ?_
  refine x_iconst (-1) dX4_init_24 (by decide) ?_
  refine xq_X4_errorAt dX4_init_25 f_X4_22 ?_
  refine x_aload_n dX4_init_28 rfl ?_
  refine x_iconst (nI 0) dX4_init_29 (by decide) ?_
  refine xq_X4_position dX4_init_30 f_X4_25 ?_
  refine x_aload_n dX4_init_33 rfl ?_
  refine x_iconst (nI 0) dX4_init_34 (by decide) ?_
  refine xq_X4_tokenAt dX4_init_35 f_X4_28 ?_
  refine x_aload_n dX4_init_38 rfl ?_
  refine x_iconst (nI 0) dX4_init_39 (by decide) ?_
  refine xq_X4_number dX4_init_40 f_X4_31 ?_
  refine x_aload_n dX4_init_43 rfl ?_
  refine x_lconst (lN 0) dX4_init_44 (by decide) ?_
  refine xq_X4_name dX4_init_45 f_X4_34 ?_
  exact x_vret dX4_init_48 rfl (by decide) (by decide) rfl (rfl)
theorem c_wrInit {hf : Nat → Option xE} (ho : hf r = some (.inr (2, [.null, .int 0]))) : xDet g l mX3_init 1 1 1332 [.ref r] (hf, r + 1) none (putWr (hf, r + 2) r (fun _ => 0) []) := by
  refine xMet.of (V := [some (.ref r)]) moX3_init (Nat.le_of_ble_eq_true rfl) rfl ?_
  refine x_aload_n dX3_init_0 rfl ?_
  refine x_objInit dX3_init_1 oi_X3_5 (by decide) (by decide) ?_
  refine x_aload_n dX3_init_4 rfl ?_
  refine x_sipush (nI 1332) dX3_init_5 (by decide) ?_
  refine x_newarray (t := 1) (N := 1332) (a0 := (1332, .inl (fun _ => nI 0))) dX3_init_8 aw_byte rfl (by decide) (fun _ => rfl) (by decide) (by decide) (by decide) (by decide) ?_
  refine x_putF dX3_init_10 f_X3_13 (fs := [.null, .int 0]) (by show (if r = r + 1 then _ else _) = _; rw [if_neg (by omega)]; exact ho) rfl rfl rfl rfl rfl (by decide) ?_
  have e : hset (hnew (hf, r + 1) (.inl (1, 1332, .inl (fun _ => nI 0)))) r (.inr (2, [.ref (r + 1), .int 0])) = putWr (hf, r + 2) r (fun _ => 0) [] := by
    refine xH_ext (fun a => ?_) rfl
    unfold hset hnew putWr
    dsimp only
    split
    · rfl
    · split
      · simp [wrE, wrF]; rfl
      · rfl
  refine xP.eq rfl rfl rfl e.symm ?_
  have e2 : hset (putWr (hf, r + 2) r (fun _ => 0) []) r (.inr (2, [.ref (r + 1), .int (nI 0)])) = putWr (hf, r + 2) r (fun _ => 0) [] := by
    refine xH_ext (fun a => ?_) rfl
    unfold hset putWr
    dsimp only
    split
    · rfl
    · rfl
  refine x_aload_n dX3_init_13 rfl ?_
  refine x_iconst (nI 0) dX3_init_14 (by decide) ?_
  refine x_putf dX3_init_15 f_X3_17 putWr_at.o rfl rfl rfl (Nat.le_of_ble_eq_true rfl) ?_
  exact x_vret dX3_init_18 rfl (by decide) (by decide) rfl (e2)
end T10
