/-! ===== the model: what was is kept ===== -/
def shF (f : Nat → Nat) (n : Nat) : Nat → Nat := fun q => if q < n then f (q + 353) else f q
def kp1 (s : Mo) : Mo := if s.2.1 0 = 8 then mN (mR s 3 (shF (s.1 3) 2471)) 0 7 else s
def kp2 (s : Mo) (j : Nat) : Mo := mN (mR s 3 (cpT (s.1 3) (s.1 j) (353 * s.2.1 0) 0 353)) 0 (s.2.1 0 + 1)
def kpM (s : Mo) (j : Nat) : Mo := kp2 (kp1 s) j
theorem shF_up (f : Nat → Nat) (n : Nat) : va_up (shF f n) n (f (n + 353)) = shF f (n + 1) := by
  funext q
  unfold va_up shF
  by_cases e : q = n
  · subst e; rw [if_pos rfl, if_pos (by omega)]
  · rw [if_neg e]
    by_cases c : q < n
    · rw [if_pos c, if_pos (by omega)]
    · rw [if_neg c, if_neg (by omega)]
theorem shF_at (f : Nat → Nat) (n : Nat) : shF f n (n + 353) = f (n + 353) := by
  unfold shF
  rw [if_neg (by omega)]
section M12
variable {g : xG} {l : Launch} {h : xH} {m : Nat} {s : Mo}
theorem hset_kept {f : Nat → Nat} : hset (putMod h m s) (m + 4) (.inl (0, 2824, .inl (fun q => nI (f q)))) = putMod h m (mR s 3 f) := hset_mod 4 (by decide) rfl (lt10 ⟨fun _ => rfl, fun _ => rfl, fun _ => rfl, fun _ => rfl, fun q => absurd rfl q, fun _ => rfl, fun _ => rfl, fun _ => rfl, fun _ => rfl, fun _ => rfl⟩)
theorem c_mKeeps {j : Nat} (hj : j < 2) (hk : s.2.1 0 ≤ 8) : xDet g l mX6_keeps 1 0 0 [.ref m, .ref (m + (j + 1))] (putMod h m s) none (putMod h m (kpM s j)) := by
  have rw_ : ∀ s' : Mo, (putMod h m s').1 (m + (j + 1)) = some (.inl (0, 353, .inl (fun q => nI (s'.1 j q)))) := fun s' => by
    have : j = 0 ∨ j = 1 := by omega
    rcases this with rfl | rfl
    · exact putMod_at.a
    · exact putMod_at.aside
  have tail : ∀ (s1 : Mo) (v2 : Option Value), s1.2.1 0 < 8 → xP g l mX6_keeps [] (xR 1 0 0) (xZ g (fun r' h' => r' = none ∧ h' = putMod h m (kp2 s1 j)) xno 0 0) 50 [some (.ref m), some (.ref (m + (j + 1))), v2] [] (putMod h m s1) 0 0 := by
    intro s1 v2 h1
    have cc := c_mCopies (g := g) (l := l) (h := putMod h m s1) (t := m + 4) (a := m + (j + 1)) (nt := 2824) (na := 353) (ta := 353 * s1.2.1 0) (fa := 0) putMod_at.kept (rw_ s1) (by omega) (by omega) (by omega) (by decide) (by decide)
    rw [hset_kept] at cc
    unfold kp2
    refine x_aload_n dX6_keeps_50 rfl ?_
    refine x_getf dX6_keeps_51 f_X6_19 putMod_at.o rfl ?_
    refine x_sipush (nI 353) dX6_keeps_54 (by decide) ?_
    refine x_aload_n dX6_keeps_57 rfl ?_
    refine x_getf dX6_keeps_58 f_X6_52 putMod_at.o rfl ?_
    refine x_imul_n dX6_keeps_61 ?_
    refine x_aload_n dX6_keeps_62 rfl ?_
    refine x_iconst (nI 0) dX6_keeps_63 (by decide) ?_
    refine x_sv0 dX6_keeps_64 cS_X6_55 (cc) rfl rfl ⟨⟨by decide, by decide⟩, by decide, by decide⟩ (Nat.le_of_ble_eq_true rfl) ?_
    refine x_aload_n dX6_keeps_67 rfl ?_
    refine x_dup dX6_keeps_68 rfl ?_
    refine x_getf dX6_keeps_69 f_X6_52 putMod_at.o rfl ?_
    refine x_iconst (nI 1) dX6_keeps_72 (by decide) ?_
    refine x_iadd_n dX6_keeps_73 ?_
    refine xq_X6_keptMany dX6_keeps_74 f_X6_52 ?_
    exact x_vret dX6_keeps_77 rfl (by decide) (by decide) rfl (rfl)
  unfold kpM kp1
  refine xMet.of (V := [some (.ref m), some (.ref (m + (j + 1))), none]) moX6_keeps (Nat.le_of_ble_eq_true rfl) rfl ?_
  refine x_aload_n dX6_keeps_0 rfl ?_
  refine x_getf dX6_keeps_1 f_X6_52 putMod_at.o rfl ?_
  refine x_bipush (nI 8) dX6_keeps_4 (by decide) ?_
  refine x_icmp_ne_n 50 dX6_keeps_6 (by decide) (by omega) (by omega) (fun c1 => ?_) (fun c1 => ?_)
  · rw [if_neg c1]
    exact tail s none (by omega)
  · rw [if_pos c1]
    refine x_iconst (nI 0) dX6_keeps_9 (by decide) ?_
    refine x_istore_n dX6_keeps_10 (by decide) rfl rfl ?_
    refine xP.eq (h' := putMod h m (mR s 3 (shF (s.1 3) 0))) rfl rfl rfl (by rw [show shF (s.1 3) 0 = s.1 3 from funext fun q => by unfold shF; rw [if_neg (Nat.not_lt_zero q)], mR_self]) ?_
    refine xP.weak (V' := [some (.ref m), some (.ref (m + (j + 1))), some (.int (nI 0))]) (by simp [xle, xset1, fin3]) ?_
    refine xP.loop (fun i => [some (.ref m), some (.ref (m + (j + 1))), some (.int (nI i))]) (fun i => putMod h m (mR s 3 (shF (s.1 3) i))) 2471 ?_ ?_
    · intro i hi ih
      refine x_iload_n dX6_keeps_11 rfl ?_
      refine x_sipush (nI 2471) dX6_keeps_12 (by decide) ?_
      refine x_icmp_ge_n 40 dX6_keeps_15 (by decide) (by omega) (by omega) (fun c0 => ?_) (fun c0 => ?_)
      · omega
      · refine x_aload_n dX6_keeps_18 rfl ?_
        refine x_getf dX6_keeps_19 f_X6_19 putMod_at.o rfl ?_
        refine x_iload_n dX6_keeps_22 rfl ?_
        refine x_aload_n dX6_keeps_23 rfl ?_
        refine x_getf dX6_keeps_24 f_X6_19 putMod_at.o rfl ?_
        refine x_iload_n dX6_keeps_27 rfl ?_
        refine x_sipush (nI 353) dX6_keeps_28 (by decide) ?_
        refine x_iadd_n dX6_keeps_31 ?_
        refine x_iald_n dX6_keeps_32 putMod_at.kept (by omega) (by decide) ?_
        refine xP.eq (S' := [.int (nI (s.1 3 (i + 353))), .int (nI i), .ref (m + 4)]) rfl rfl (by show _ = [Value.int (nI (shF (s.1 3) i (i + 353))), _, _]; rw [shF_at]) rfl ?_
        refine xq_X6_kept dX6_keeps_33 (by omega) ?_
        refine xP.eq (h' := putMod h m (mR s 3 (shF (s.1 3) (i + 1)))) rfl rfl rfl (by rw [← shF_up (s.1 3) i, ← mR_R (s := s) (j := 3) (f := shF (s.1 3) i)]; rfl) ?_
        refine x_iinc_n (k := 1) dX6_keeps_34 rfl (by decide) (by decide) rfl rfl ?_
        refine x_goto 11 dX6_keeps_37 (by decide) ?_
        exact xP.weak (by simp [xle, xset1, fin3]) ih
    · refine x_iload_n dX6_keeps_11 rfl ?_
      refine x_sipush (nI 2471) dX6_keeps_12 (by decide) ?_
      refine x_icmp_ge_n 40 dX6_keeps_15 (by decide) (by omega) (by omega) (fun c0 => ?_) (fun c0 => ?_)
      · refine x_aload_n dX6_keeps_40 rfl ?_
        refine x_dup dX6_keeps_41 rfl ?_
        refine x_getf dX6_keeps_42 f_X6_52 putMod_at.o rfl ?_
        refine xP.eq (S' := [.int (nI 8), .ref m]) rfl rfl (by show _ = [Value.int (nI (s.2.1 0)), _]; rw [c1]) rfl ?_
        refine x_iconst (nI 1) dX6_keeps_45 (by decide) ?_
        refine x_isub_n dX6_keeps_46 (by omega) ?_
        refine xq_X6_keptMany dX6_keeps_47 f_X6_52 ?_
        exact tail _ _ (by show 8 - 1 < 8; decide)
      · omega
end M12
