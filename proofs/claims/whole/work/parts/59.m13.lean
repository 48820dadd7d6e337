/-! ===== the model: undo, save, restore ===== -/
def unM (s : Mo) : Mo := if s.2.1 0 = 0 then mN s 1 1 else mR (mN (mN s 1 0) 0 (s.2.1 0 - 1)) 0 (cpT (s.1 0) (s.1 3) 0 (353 * (s.2.1 0 - 1)) 353)
def unV (s : Mo) : Nat := s.2.1 0 - 1
section M13
variable {g : xG} {l : Launch} {h : xH} {m : Nat} {s : Mo}
theorem hset_a {f : Nat → Nat} : hset (putMod h m s) (m + 1) (.inl (0, 353, .inl (fun q => nI (f q)))) = putMod h m (mR s 0 f) := hset_mod 1 (by decide) rfl (lt10 ⟨fun _ => rfl, fun q => absurd rfl q, fun _ => rfl, fun _ => rfl, fun _ => rfl, fun _ => rfl, fun _ => rfl, fun _ => rfl, fun _ => rfl, fun _ => rfl⟩)
theorem c_mUndo (hk : s.2.1 0 ≤ 8) : xDet g l mX6_undo 1 0 0 [.ref m] (putMod h m s) (some (.int (nI (unV s)))) (putMod h m (unM s)) := by
  unfold unM unV
  refine xMet.of (V := [some (.ref m)]) moX6_undo (Nat.le_of_ble_eq_true rfl) rfl ?_
  refine x_aload_n dX6_undo_0 rfl ?_
  refine x_aload_n dX6_undo_1 rfl ?_
  refine x_getf dX6_undo_2 f_X6_52 putMod_at.o rfl ?_
  refine x_if_ne_n 12 dX6_undo_5 (by decide) (by omega) (fun c1 => ?_) (fun c1 => ?_)
  · rw [if_neg (by omega)]
    refine x_iconst (nI 0) dX6_undo_12 (by decide) ?_
    refine xq_X6_thrown dX6_undo_13 f_X6_49 ?_
    refine x_aload_n dX6_undo_16 rfl ?_
    refine x_getf dX6_undo_17 f_X6_49 putMod_at.o rfl ?_
    refine xP.eq (S' := [.int (nI 0)]) rfl rfl rfl rfl ?_
    refine x_if_le_n 25 dX6_undo_20 (by decide) (by omega) (fun c2 => ?_) (fun c2 => ?_)
    · refine x_aload_n dX6_undo_25 rfl ?_
      refine x_dup dX6_undo_26 rfl ?_
      refine x_getf dX6_undo_27 f_X6_52 putMod_at.o rfl ?_
      refine x_iconst (nI 1) dX6_undo_30 (by decide) ?_
      refine x_isub_n dX6_undo_31 (show 1 ≤ s.2.1 0 by omega) ?_
      refine xP.eq (S' := [.int (nI (s.2.1 0 - 1)), .ref m]) rfl rfl rfl rfl ?_
      refine xq_X6_keptMany dX6_undo_32 f_X6_52 ?_
      have cc := c_mCopies (g := g) (l := l) (h := putMod h m (mN (mN s 1 0) 0 (s.2.1 0 - 1))) (t := m + 1) (a := m + 4) (nt := 353) (na := 2824) (ta := 0) (fa := 353 * (s.2.1 0 - 1)) putMod_at.a putMod_at.kept (by omega) (by decide) (by omega) (by decide) (by decide)
      rw [hset_a] at cc
      refine x_aload_n dX6_undo_35 rfl ?_
      refine x_getf dX6_undo_36 f_X6_7 putMod_at.o rfl ?_
      refine x_iconst (nI 0) dX6_undo_39 (by decide) ?_
      refine x_aload_n dX6_undo_40 rfl ?_
      refine x_getf dX6_undo_41 f_X6_19 putMod_at.o rfl ?_
      refine x_sipush (nI 353) dX6_undo_44 (by decide) ?_
      refine x_aload_n dX6_undo_47 rfl ?_
      refine x_getf dX6_undo_48 f_X6_52 putMod_at.o rfl ?_
      refine x_imul_n dX6_undo_51 ?_
      refine xP.eq (S' := [.int (nI (353 * (s.2.1 0 - 1))), .ref (m + 4), .int (nI 0), .ref (m + 1)]) rfl rfl rfl rfl ?_
      refine x_sv0 dX6_undo_52 cS_X6_55 (cc) rfl rfl ⟨⟨by decide, by decide⟩, by decide, by decide⟩ (Nat.le_of_ble_eq_true rfl) ?_
      refine x_aload_n dX6_undo_55 rfl ?_
      refine x_getf dX6_undo_56 f_X6_52 putMod_at.o rfl ?_
      exact x_iret .int dX6_undo_59 rfl rfl (by decide) (by decide) (rfl) (rfl)
    · omega
  · rw [if_pos c1]
    refine x_iconst (nI 1) dX6_undo_8 (by decide) ?_
    refine x_goto 13 dX6_undo_9 (by decide) ?_
    refine xq_X6_thrown dX6_undo_13 f_X6_49 ?_
    refine x_aload_n dX6_undo_16 rfl ?_
    refine x_getf dX6_undo_17 f_X6_49 putMod_at.o rfl ?_
    refine xP.eq (S' := [.int (nI 1)]) rfl rfl rfl rfl ?_
    refine x_if_le_n 25 dX6_undo_20 (by decide) (by omega) (fun c2 => ?_) (fun c2 => ?_)
    · omega
    · refine x_iconst (nI 0) dX6_undo_23 (by decide) ?_
      exact x_iret .int dX6_undo_24 rfl rfl (by decide) (by decide) (by rw [c1]) (rfl)
end M13
