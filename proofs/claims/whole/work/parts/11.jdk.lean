/-! ===== small facts, and the smallest methods of an Archive ===== -/
theorem bool0 {b : Bool} (h : b = false) : some (Value.int (nI 0)) = some (Value.int (xb b)) := by rw [h]; rfl
theorem bool1 {b : Bool} (h : b = true) : some (Value.int (nI 1)) = some (Value.int (xb b)) := by rw [h]; rfl
theorem bit_n (x f : Nat) : x / 2 ^ f &&& 1 = (x.testBit f).toNat := by
  rw [Nat.and_one_is_mod, Nat.toNat_testBit]
theorem bit0 {x f : Nat} (h : x / 2 ^ f &&& 1 = 0) : x.testBit f = false := by
  rw [bit_n] at h
  cases hb : x.testBit f
  · rfl
  · rw [hb] at h; cases h
theorem bit1 {x f : Nat} (h : 0 < x / 2 ^ f &&& 1) : x.testBit f = true := by
  rw [bit_n] at h
  cases hb : x.testBit f
  · rw [hb] at h; cases h
  · rfl
theorem bit_lt (x f : Nat) : x / 2 ^ f &&& 1 < 2 := by
  rw [bit_n]
  cases x.testBit f <;> decide
section A1
variable {g : xG} {l : Launch} {h : xH} {o : Nat} {st : Ar}
theorem c_cell (p f : Nat) : xDet g l mX0_cell 0 0 0 [.int (nI p), .int (nI f)] h (some (.int (nI (10 * p + f)))) h := by
  refine xMet.of (V := [some (.int (nI p)), some (.int (nI f))]) moX0_cell (Nat.le_of_ble_eq_true rfl) rfl ?_
  refine x_iload_n dX0_cell_0 rfl ?_
  refine x_bipush (nI 10) dX0_cell_1 (by decide) ?_
  refine x_imul_n dX0_cell_3 ?_
  refine x_iload_n dX0_cell_4 rfl ?_
  refine x_iadd_n dX0_cell_5 ?_
  exact x_iret .int dX0_cell_6 rfl rfl (by decide) (by decide) (by rw [Nat.mul_comm]) (rfl)
theorem c_spoiledTiles (hA : ArchAt h o st) (p f : Nat) (hp : p < 12) (hf : f < 10) : xDet g l mX0_spoiledTiles 1 0 0 [.ref o, .int (nI p), .int (nI f)] h (some (.int (nI (st.2.2 8 (10 * p + f))))) h := by
  refine xMet.of (V := [some (.ref o), some (.int (nI p)), some (.int (nI f))]) moX0_spoiledTiles (Nat.le_of_ble_eq_true rfl) rfl ?_
  refine x_aload_n dX0_spoiledTiles_0 rfl ?_
  refine x_getf dX0_spoiledTiles_1 f_X0_43 hA.o rfl ?_
  refine x_iload_n dX0_spoiledTiles_4 rfl ?_
  refine x_iload_n dX0_spoiledTiles_5 rfl ?_
  refine x_si0 dX0_spoiledTiles_6 cS_X0_77 (c_cell p f) rfl rfl ⟨⟨by decide, by decide⟩, by decide, by decide⟩ (Nat.le_of_ble_eq_true rfl) ?_
  refine x_iald_n dX0_spoiledTiles_9 hA.spoiled (by omega) (by decide) ?_
  exact x_iret .int dX0_spoiledTiles_10 rfl rfl (by decide) (by decide) (rfl) (rfl)
theorem c_isHeld (hA : ArchAt h o st) (p f : Nat) (hp : p < 12) (hf : f < 32) (hw : st.2.2 6 p < 1024) : xDet g l mX0_isHeld 0 0 0 [.ref o, .int (nI p), .int (nI f)] h (some (.int (xb ((st.2.2 6 p).testBit f)))) h := by
  refine xMet.of (V := [some (.ref o), some (.int (nI p)), some (.int (nI f))]) moX0_isHeld (Nat.le_of_ble_eq_true rfl) rfl ?_
  have hb := bit_lt (st.2.2 6 p) f
  refine x_aload_n dX0_isHeld_0 rfl ?_
  refine x_getf dX0_isHeld_1 f_X0_37 hA.o rfl ?_
  refine x_iload_n dX0_isHeld_4 rfl ?_
  refine x_iald_n dX0_isHeld_5 hA.held (by omega) (by decide) ?_
  refine x_iload_n dX0_isHeld_6 rfl ?_
  refine x_iushr_n dX0_isHeld_7 (by omega) (by omega) ?_
  refine x_iconst (nI 1) dX0_isHeld_8 (by decide) ?_
  refine x_iand_n dX0_isHeld_9 ?_
  refine x_if_eq_n 17 dX0_isHeld_10 (by decide) (by omega) (fun c1 => ?_) (fun c1 => ?_)
  · refine x_iconst (nI 0) dX0_isHeld_17 (by decide) ?_
    exact x_iret .boolean dX0_isHeld_18 rfl rfl (by decide) (by decide) (bool0 (bit0 c1)) (rfl)
  · refine x_iconst (nI 1) dX0_isHeld_13 (by decide) ?_
    refine x_goto 18 dX0_isHeld_14 (by decide) ?_
    exact x_iret .boolean dX0_isHeld_18 rfl rfl (by decide) (by decide) (bool1 (bit1 c1)) (rfl)
end A1
