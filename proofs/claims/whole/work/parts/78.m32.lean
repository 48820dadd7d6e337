/-! ===== the model: a text is read ===== -/
def tk (s : Mo) : Prop := bOk s ∧ lxOk s ∧ (s.2.1 5 ≠ 3 → s.2.1 3 < s.2.1 4)
theorem t_fl {s : Mo} {c : Int32} (h : tk s) : tk (flS s c) := by
  obtain ⟨h1, h2, h3⟩ := h
  have k := flS_ok (c := c) h1 h2
  obtain ⟨e1, e2, e3, e4, e5, e6⟩ := flS_same (s := s) (c := c)
  exact ⟨k.1, k.2, by rw [e3, e4, e5]; exact h3⟩
theorem t_lex {s : Mo} (hb : bOk s) (h4 : s.2.1 4 ≤ 600) : tk (lexS s (s.2.1 4)) := by
  obtain ⟨a, b, k, n, e, -, hh⟩ := lexS_form s (s.2.1 4)
  obtain ⟨k1, k2, k3, k4, k5, k6⟩ := hh hb.2 h4
  rw [e]
  exact ⟨hb, ⟨k2, k3, k4, k5⟩, k6⟩
theorem t_nx {s : Mo} (h : tk s) : tk (nxS s) := by
  unfold nxS
  split
  · exact t_lex h.1 h.2.1.2.1
  · exact h
theorem t_mu {s : Mo} (h : tk s) (r : Bool) : tk (muS r s) := by
  unfold muS
  cases r with
  | true => rw [if_pos rfl]; exact t_nx h
  | false => rw [if_neg (by decide)]; exact t_nx (t_fl h)
theorem t_st {s : Mo} (h : tk s) (lo hi : Nat) : tk (stS lo hi s) := by
  have k1 : tk (st1 s) := by
    unfold st1
    split
    · exact t_fl h
    · exact h
  show tk (st2 lo hi (st1 s))
  unfold st2
  split
  · exact t_fl k1
  · exact k1
theorem fl_LF' (s : Mo) (c : Int32) : LF s (flS s c) := flS_LF s c
theorem nx_LF (s : Mo) : LF s (nxS s) := by
  unfold nxS
  split
  · exact lex_LF s _
  · exact LF.rf s
theorem mu_LF (r : Bool) (s : Mo) : LF s (muS r s) := by
  unfold muS
  refine LF.tr ?_ (nx_LF _)
  split
  · exact LF.rf s
  · exact flS_LF s _
theorem st_LF (lo hi : Nat) (s : Mo) : LF s (stS lo hi s) := by
  have k1 : LF s (st1 s) := by
    unfold st1
    split
    · exact flS_LF s _
    · exact LF.rf s
  refine k1.tr ?_
  show LF (st1 s) (st2 lo hi (st1 s))
  unfold st2
  split
  · exact flS_LF _ _
  · exact LF.rf _
def ldB (s : Mo) : Mo := mR (mZ (mN (mN s 1 0) 4 0) 0 0) 1 (cpT (s.1 1) (s.1 0) 0 0 353)
def ld0 (s : Mo) : Mo := beS (ldB s)
def ld1 (s : Mo) : Mo := lexS (ld0 s) ((ld0 s).2.1 4)
def ld2 (s : Mo) : Mo := muS (isWB (ld1 s) W0) (ld1 s)
def ld3 (s : Mo) : Mo := mR (nxS (stS 4 16 s)) 0 (va_up ((nxS (stS 4 16 s)).1 0) 0 (stV (stS 4 16 s)))
def ld5 (s : Mo) : Mo := rfS (rfS (rf7 (ld3 (ld2 s))))
def lwF : Nat → Mo → Mo
  | 0, s => s
  | n + 1, s => if isWB s W1 = true then lwF n (rfS s) else s
def lwN : Nat → Mo → Mo
  | 0, s => s
  | n + 1, s => if isWB s W2 = true then lwN n (rnS s) else s
def lwP (m : Nat) : Nat → Mo → Mo
  | 0, s => s
  | n + 1, s => if isWB s W3 = true then lwP m n (rqS m s) else s
def ld8 (s : Mo) : Mo := if s.2.2.1 0 = 0 ∧ s.2.1 5 ≠ 3 then flS s (-2) else s
def ldX (m : Nat) (s : Mo) : Mo := ld8 (lwP m m (lwN m (lwF m (ld5 s))))
def ldY (X : Mo) : Mo := mN (mZ X 1 (if X.2.2.1 0 = 0 then -1 else nI (X.2.1 7))) 2 0
theorem ld0_row (s : Mo) : ∀ k, k < 353 → (ld0 s).1 0 k = 0 := fun k hk => if_pos hk
theorem lt_353 {p f : Nat} (hp : p < 12) (hf : f < 10) : 125 + 19 * p + 9 + f < 353 := by omega
theorem ld0_rB (s : Mo) : rB ((ld0 s).1 0) := by
  have e := ld0_row s
  refine ⟨fun k hk => by rw [e k hk]; exact Nat.zero_le _, fun f hf => ?_, fun p f hp hf _ => e _ (lt_353 hp hf)⟩
  rw [e 1 (by decide)] at hf
  omega
theorem ld0_tk {s : Mo} (hb : bOk s) : tk (ld1 s) ∧ (ld1 s).1 = (ld0 s).1 ∧ (ld1 s).2.2 = (ld0 s).2.2 := by
  have hb0 : bOk (ld0 s) := hb
  have h4 : (ld0 s).2.1 4 = 0 := rfl
  unfold ld1
  exact ⟨t_lex hb0 (by rw [h4]; omega), (lex_row _ _).1, (lex_row _ _).2⟩
theorem ld2_tk {s : Mo} (hb : bOk s) : tk (ld2 s) ∧ (ld2 s).1 = (ld0 s).1 := by
  have h := ld0_tk hb
  unfold ld2
  exact ⟨t_mu h.1 _, by rw [mu_1]; exact h.2.1⟩
theorem ld3_LI {s : Mo} (h : tk s) (hr : rB (s.1 0)) (h1 : s.1 0 1 = 0) : LI (ld3 s) ∧ LF s (ld3 s) := by
  have k1 := t_st h 4 16
  have k2 := t_nx k1
  have e2 : (nxS (stS 4 16 s)).1 = s.1 := by rw [nx_1, st_1]
  have hv := st_val (s := s) (lo := 4) (hi := 16) (by decide) (by decide) h.2.1.2.2.2
  have hww : (nxS (stS 4 16 s)).2.2.1 0 = 0 → (stS 4 16 s).2.2.1 0 = 0 := by
    unfold nxS
    split
    · intro q; rw [(lex_row _ _).2] at q; exact q
    · intro q; exact q
  have lf : LF s (nxS (stS 4 16 s)) := (st_LF 4 16 s).tr (nx_LF _)
  unfold ld3
  rw [e2]
  generalize stV (stS 4 16 s) = v at *
  generalize (stS 4 16 s).2.2.1 0 = w at *
  generalize nxS (stS 4 16 s) = T at *
  refine ⟨⟨k2.1, k2.2.1, k2.2.2, ?_, ?_⟩, ?_⟩
  · exact hr.up (by decide) (by show v ≤ 16; exact hv.1) (by decide) (fun f hf => by omega) (fun p f _ _ => by omega)
  · intro q
    show 4 ≤ va_up (s.1 0) 0 v 0
    rw [va_upE]
    exact hv.2 (hww q)
  · exact ⟨fun j hj => (va_up_ne _ _ hj).trans (lf.1 j hj), lf.2.1, lf.2.2.1, lf.2.2.2⟩
theorem ld5_LI {s : Mo} (hb : bOk s) : LI (ld3 (ld2 s)) ∧ LI (ld5 s) ∧ LF (ld0 s) (ld5 s) ∧ GG (ld3 (ld2 s)) (ld5 s) := by
  have h2 := ld2_tk hb
  have e1 : (ld2 s).1 0 1 = 0 := by rw [h2.2]; exact ld0_row s 1 (by decide)
  have h3 := ld3_LI h2.1 (by rw [h2.2]; exact ld0_rB s) e1
  have g4 := g_rf7 h3.1
  have g5 := g_rf g4.1
  have g6 := g_rf g5.1
  have lf2 : LF (ld0 s) (ld2 s) := by
    unfold ld2
    refine LF.tr ?_ (mu_LF _ _)
    unfold ld1
    exact lex_LF _ _
  have lf3 := lf2.tr h3.2
  unfold ld5
  generalize ld3 (ld2 s) = T at *
  exact ⟨h3.1, g6.1, lf3.tr (g4.2.1.tr (g5.2.1.tr g6.2.1)), g4.tr (g5.tr g6)⟩
theorem g_lwF : ∀ (n : Nat) (s : Mo), LI s → GG s (lwF n s) := by
  intro n
  induction n with
  | zero => intro s h; exact GG.rf h
  | succ n ih =>
    intro s h
    rw [lwF]
    split
    · have g1 := g_rf h
      exact g1.tr (ih _ g1.1)
    · exact GG.rf h
theorem g_lwN : ∀ (n : Nat) (s : Mo), LI s → GG s (lwN n s) := by
  intro n
  induction n with
  | zero => intro s h; exact GG.rf h
  | succ n ih =>
    intro s h
    rw [lwN]
    split
    · have g1 := g_rn h
      exact g1.tr (ih _ g1.1)
    · exact GG.rf h
theorem g_lwP {m : Nat} : ∀ (n : Nat) (s : Mo), LI s → GG s (lwP m n s) := by
  intro n
  induction n with
  | zero => intro s h; exact GG.rf h
  | succ n ih =>
    intro s h
    rw [lwP]
    split
    · have g1 := (g_rq h m).1
      exact g1.tr (ih _ g1.1)
    · exact GG.rf h
theorem g_ld8 {s : Mo} (h : LI s) : GG s (ld8 s) := by
  unfold ld8
  split
  · exact g_fl h (by decide)
  · exact GG.rf h
theorem g_ldX {s : Mo} (hb : bOk s) (m : Nat) : LI (ldX m s) ∧ LF (ld0 s) (ldX m s) := by
  obtain ⟨-, h5, lf, -⟩ := ld5_LI hb
  unfold ldX
  generalize ld5 s = S at *
  have g1 := g_lwF m S h5
  generalize lwF m S = S1 at *
  have g2 := g_lwN m S1 g1.1
  generalize lwN m S1 = S2 at *
  have g3 := g_lwP (m := m) m S2 g2.1
  generalize lwP m m S2 = S3 at *
  have g4 := g_ld8 g3.1
  exact ⟨g4.1, lf.tr (g1.2.1.tr (g2.2.1.tr (g3.2.1.tr g4.2.1)))⟩
/-- how a text ends -/
def ldQ (h : xH) (m : Nat) (X : Mo) (r : Option Value) (h' : xH) : Prop := if X.2.2.1 0 = 0 then r = some (.int (nI (X.1 0 2))) ∧ h' = putMod h m (kpM (ldY X) 1) else r = some (.int (X.2.2.1 0)) ∧ h' = putMod h m (mR (ldY X) 0 (cpT (X.1 0) (X.1 1) 0 0 353))
section M32
variable {g : xG} {l : Launch} {h : xH} {m : Nat} {s : Mo}
theorem hset_aside {f : Nat → Nat} : hset (putMod h m s) (m + 2) (.inl (0, 353, .inl (fun q => nI (f q)))) = putMod h m (mR s 1 f) := hset_mod 2 (by decide) rfl (lt10 ⟨fun _ => rfl, fun _ => rfl, fun q => absurd rfl q, fun _ => rfl, fun _ => rfl, fun _ => rfl, fun _ => rfl, fun _ => rfl, fun _ => rfl, fun _ => rfl⟩)
theorem c_mLoad (hb : bOk s) (hk : s.2.1 0 ≤ 8) : xMet g l mX6_load 7 0 0 [.ref m] (putMod h m s) (ldQ h m (ldX 601 s)) xno := by
  obtain ⟨N, hN⟩ : ∃ N, N = 601 := ⟨_, rfl⟩
  have cP : ∀ t : Mo, LI t → xDet g l mX6_readsPicture 6 0 0 [.ref m] (putMod h m t) none (putMod h m (rqS N t)) := fun t ht => by rw [hN]; exact c_mReadsPicture ht
  rw [← hN]
  obtain ⟨hX, lX⟩ := g_ldX hb N
  have e0 : ∀ X, LI X → LF (ld0 s) X → xP g l mX6_load [] (xR 7 0 0) (xZ g (ldQ h m X) xno 0 0) 140 [some (.ref m)] [] (putMod h m X) 0 0 := by
    intro X hX lX
    have k0 : X.2.1 0 ≤ 8 := by rw [lX.2.1 0 (by decide)]; exact hk
    have fin : ∀ (v : Int32), v = (if X.2.2.1 0 = 0 then -1 else nI (X.2.1 7)) → xP g l mX6_load [] (xR 7 0 0) (xZ g (ldQ h m X) xno 0 0) 156 [some (.ref m)] [.int v, .ref m] (putMod h m X) 0 0 := by
      intro v hv
      refine xq_X6_errorAt dX6_load_156 f_X6_32 ?_
      refine x_aload_n dX6_load_159 rfl ?_
      refine x_iconst (nI 0) dX6_load_160 (by decide) ?_
      refine xq_X6_buffered dX6_load_161 f_X6_75 ?_
      refine xP.eq (h' := putMod h m (ldY X)) rfl rfl rfl (by rw [hv]; rfl) ?_
      have w0 : (ldY X).2.2.1 0 = X.2.2.1 0 := rfl
      have r0 : (ldY X).1 = X.1 := rfl
      refine x_aload_n dX6_load_164 rfl ?_
      refine x_getf dX6_load_165 f_X6_107 putMod_at.o rfl ?_
      rw [w0]
      by_cases c : X.2.2.1 0 = 0
      · refine xP.eq (S' := [.int 0]) rfl rfl (by rw [c]) rfl ?_
        have ck := c_mKeeps (g := g) (l := l) (h := h) (m := m) (s := ldY X) (j := 1) (by decide) k0
        have r2 : (kpM (ldY X) 1).1 0 = X.1 0 := (kpM_row (by decide)).trans (by rw [r0])
        obtain ⟨K, hK⟩ : ∃ K, K = kpM (ldY X) 1 := ⟨_, rfl⟩
        rw [← hK] at ck r2
        refine x_if_eq 184 dX6_load_168 (by decide) (fun c1 => ?_) (fun c1 => ?_)
        rotate_left
        · exact absurd rfl c1
        refine x_aload_n dX6_load_184 rfl ?_
        refine x_getf dX6_load_185 f_X6_107 putMod_at.o rfl ?_
        refine xP.eq (S' := [.int 0]) rfl rfl (by rw [w0, c]) rfl ?_
        refine x_if_eq 196 dX6_load_188 (by decide) (fun c2 => ?_) (fun c2 => ?_)
        rotate_left
        · exact absurd rfl c2
        refine x_aload_n dX6_load_196 rfl ?_
        refine x_aload_n dX6_load_197 rfl ?_
        refine x_getf dX6_load_198 f_X6_13 putMod_at.o rfl ?_
        refine x_vv0 dX6_load_201 cV_X6_63 (ck) rfl rfl ⟨⟨by decide, by decide⟩, by decide, by decide⟩ (Nat.le_of_ble_eq_true rfl) (xrecv putMod_at.o rfl xcl5) ?_
        refine x_aload_n dX6_load_204 rfl ?_
        refine x_vi0 dX6_load_205 cV_X6_169 (c_mPictures putMod_at) rfl rfl ⟨⟨by decide, by decide⟩, by decide, by decide⟩ (Nat.le_of_ble_eq_true rfl) (xrecv putMod_at.o rfl xcl5) ?_
        exact x_ireturn dX6_load_208 rfl rfl (by decide) (by decide) (by unfold ldQ; rw [if_pos c]; exact ⟨by rw [r2], by rw [hK]⟩)
      · have cc := c_mCopies (g := g) (l := l) (h := putMod h m (ldY X)) (t := m + 1) (a := m + 2) (nt := 353) (na := 353) (ta := 0) (fa := 0) putMod_at.a putMod_at.aside (by omega) (by decide) (by decide) (by decide) (by decide)
        rw [hset_a] at cc
        refine x_if_eq 184 dX6_load_168 (by decide) (fun c1 => ?_) (fun c1 => ?_)
        · exact absurd c1 c
        refine x_aload_n dX6_load_171 rfl ?_
        refine x_getf dX6_load_172 f_X6_7 putMod_at.o rfl ?_
        refine x_iconst (nI 0) dX6_load_175 (by decide) ?_
        refine x_aload_n dX6_load_176 rfl ?_
        refine x_getf dX6_load_177 f_X6_13 putMod_at.o rfl ?_
        refine x_iconst (nI 0) dX6_load_180 (by decide) ?_
        refine x_sv0 dX6_load_181 cS_X6_55 (cc) rfl rfl ⟨⟨by decide, by decide⟩, by decide, by decide⟩ (Nat.le_of_ble_eq_true rfl) ?_
        refine x_aload_n dX6_load_184 rfl ?_
        refine x_getf dX6_load_185 f_X6_107 putMod_at.o rfl ?_
        refine xP.eq (S' := [.int (X.2.2.1 0)]) rfl rfl rfl rfl ?_
        refine x_if_eq 196 dX6_load_188 (by decide) (fun c2 => ?_) (fun c2 => ?_)
        · exact absurd c2 c
        refine x_aload_n dX6_load_191 rfl ?_
        refine x_getf dX6_load_192 f_X6_107 putMod_at.o rfl ?_
        exact x_ireturn dX6_load_195 rfl rfl (by decide) (by decide) (by unfold ldQ; rw [if_neg c]; exact ⟨rfl, rfl⟩)
    refine x_aload_n dX6_load_140 rfl ?_
    refine x_aload_n dX6_load_141 rfl ?_
    refine x_getf dX6_load_142 f_X6_107 putMod_at.o rfl ?_
    refine x_if_ne 152 dX6_load_145 (by decide) (fun c1 => ?_) (fun c1 => ?_)
    · refine x_aload_n dX6_load_152 rfl ?_
      refine x_getf dX6_load_153 f_X6_119 putMod_at.o rfl ?_
      exact fin _ (by rw [if_neg c1])
    · refine x_iconst (-1) dX6_load_148 (by decide) ?_
      refine x_goto 156 dX6_load_149 (by decide) ?_
      exact fin _ (by rw [if_pos (c1)])
  have e1 : ∀ t : Mo, LI t → LF (ld0 s) t → xP g l mX6_load [] (xR 7 0 0) (xZ g (ldQ h m (ld8 t)) xno 0 0) 119 [some (.ref m)] [] (putMod h m t) 0 0 := by
    intro t ht lt
    have g8 := g_ld8 ht
    have k := e0 (ld8 t) g8.1 (lt.tr g8.2.1)
    have hk5 := ht.2.1.2.2.1
    refine x_aload_n dX6_load_119 rfl ?_
    refine x_getf dX6_load_120 f_X6_107 putMod_at.o rfl ?_
    refine x_if_ne 140 dX6_load_123 (by decide) (fun c1 => ?_) (fun c1 => ?_)
    · rw [show ld8 t = t by unfold ld8; rw [if_neg (fun q => c1 q.1)]] at k ⊢
      exact k
    · refine x_aload_n dX6_load_126 rfl ?_
      refine x_getf dX6_load_127 f_X6_91 putMod_at.o rfl ?_
      refine x_iconst (nI 3) dX6_load_130 (by decide) ?_
      refine x_icmp_eq_n 140 dX6_load_131 (by decide) (by omega) (by omega) (fun c2 => ?_) (fun c2 => ?_)
      · rw [show ld8 t = t by unfold ld8; rw [if_neg (fun q => q.2 c2)]] at k ⊢
        exact k
      · rw [show ld8 t = flS t (-2) by unfold ld8; rw [if_pos ⟨c1, c2⟩]] at k ⊢
        refine x_aload_n dX6_load_134 rfl ?_
        refine x_bipush (-2) dX6_load_135 (by decide) ?_
        refine x_vv0 dX6_load_137 cV_X6_122 (c_mFails) rfl rfl ⟨⟨by decide, by decide⟩, by decide, by decide⟩ (Nat.le_of_ble_eq_true rfl) (xrecv putMod_at.o rfl xcl5) ?_
        exact k
  have wd : ∀ {W : List Nat} {t : Mo}, LI t → isWB t W = true → 0 < W.length → t.2.1 3 < 600 := fun {W t} ht c1 hW => by
    have h9 := isWB_tok c1
    have := ht.2.1.2.1
    omega
  have l3 : ∀ (n : Nat) (t : Mo), LI t → LF (ld0 s) t → (isWB t W3 = true → 601 ≤ t.2.1 3 + n) → xP g l mX6_load [] (xR 7 0 0) (xZ g (ldQ h m (ld8 (lwP N n t))) xno 0 0) 103 [some (.ref m)] [] (putMod h m t) 0 0 := by
    intro n
    induction n with
    | zero =>
      intro t ht lt hw
      refine x_aload_n dX6_load_103 rfl ?_
      refine x_ldcS (j := 10) rfl rfl rfl dX6_load_104 ?_
      refine x_vi0 dX6_load_106 cV_X6_145 (c_mIsWord xv3 putMod_at ht.1 ht.2.1) rfl rfl ⟨⟨by decide, by decide⟩, by decide, by decide⟩ (Nat.le_of_ble_eq_true rfl) (xrecv putMod_at.o rfl xcl5) ?_
      refine x_if_eq_b 119 dX6_load_109 (by decide) (fun c1 => ?_) (fun c1 => ?_)
      · exact e1 t ht lt
      · exact absurd (wd ht c1 (by decide)) (by have := hw c1; omega)
    | succ n ih =>
      intro t ht lt hw
      rw [lwP]
      refine x_aload_n dX6_load_103 rfl ?_
      refine x_ldcS (j := 10) rfl rfl rfl dX6_load_104 ?_
      refine x_vi0 dX6_load_106 cV_X6_145 (c_mIsWord xv3 putMod_at ht.1 ht.2.1) rfl rfl ⟨⟨by decide, by decide⟩, by decide, by decide⟩ (Nat.le_of_ble_eq_true rfl) (xrecv putMod_at.o rfl xcl5) ?_
      refine x_if_eq_b 119 dX6_load_109 (by decide) (fun c1 => ?_) (fun c1 => ?_)
      · rw [if_neg (by rw [c1]; decide)]
        exact e1 t ht lt
      · rw [if_pos c1]
        have g9 := (g_rq ht N).1
        have h9 := isWB_tok c1
        refine x_aload_n dX6_load_112 rfl ?_
        refine x_vv0 dX6_load_113 cV_X6_203 (cP t ht) rfl rfl ⟨⟨by decide, by decide⟩, by decide, by decide⟩ (Nat.le_of_ble_eq_true rfl) (xrecv putMod_at.o rfl xcl5) ?_
        refine x_goto 103 dX6_load_116 (by decide) ?_
        refine ih _ g9.1 (lt.tr g9.2.1) (fun q => ?_)
        have := p_rq (m := N) ht (by omega) (isWB_tok q).1
        have := hw c1
        omega
  have l2 : ∀ (n : Nat) (t : Mo), LI t → LF (ld0 s) t → (isWB t W2 = true → 601 ≤ t.2.1 3 + n) → xP g l mX6_load [] (xR 7 0 0) (xZ g (ldQ h m (ld8 (lwP N N (lwN n t)))) xno 0 0) 87 [some (.ref m)] [] (putMod h m t) 0 0 := by
    intro n
    induction n with
    | zero =>
      intro t ht lt hw
      refine x_aload_n dX6_load_87 rfl ?_
      refine x_ldcS (j := 9) rfl rfl rfl dX6_load_88 ?_
      refine x_vi0 dX6_load_90 cV_X6_145 (c_mIsWord xv2 putMod_at ht.1 ht.2.1) rfl rfl ⟨⟨by decide, by decide⟩, by decide, by decide⟩ (Nat.le_of_ble_eq_true rfl) (xrecv putMod_at.o rfl xcl5) ?_
      refine x_if_eq_b 103 dX6_load_93 (by decide) (fun c1 => ?_) (fun c1 => ?_)
      · exact l3 N t ht lt (fun _ => by omega)
      · exact absurd (wd ht c1 (by decide)) (by have := hw c1; omega)
    | succ n ih =>
      intro t ht lt hw
      rw [lwN]
      refine x_aload_n dX6_load_87 rfl ?_
      refine x_ldcS (j := 9) rfl rfl rfl dX6_load_88 ?_
      refine x_vi0 dX6_load_90 cV_X6_145 (c_mIsWord xv2 putMod_at ht.1 ht.2.1) rfl rfl ⟨⟨by decide, by decide⟩, by decide, by decide⟩ (Nat.le_of_ble_eq_true rfl) (xrecv putMod_at.o rfl xcl5) ?_
      refine x_if_eq_b 103 dX6_load_93 (by decide) (fun c1 => ?_) (fun c1 => ?_)
      · rw [if_neg (by rw [c1]; decide)]
        exact l3 N t ht lt (fun _ => by omega)
      · rw [if_pos c1]
        have g9 := g_rn ht
        have h9 := isWB_tok c1
        refine x_aload_n dX6_load_96 rfl ?_
        refine x_vv0 dX6_load_97 cV_X6_198 (c_mReadsNear ht) rfl rfl ⟨⟨by decide, by decide⟩, by decide, by decide⟩ (Nat.le_of_ble_eq_true rfl) (xrecv putMod_at.o rfl xcl5) ?_
        refine x_goto 87 dX6_load_100 (by decide) ?_
        refine ih _ g9.1 (lt.tr g9.2.1) (fun q => ?_)
        have := p_rn ht (by omega) (isWB_tok q).1
        have := hw c1
        omega
  have l1 : ∀ (n : Nat) (t : Mo), LI t → LF (ld0 s) t → (isWB t W1 = true → 601 ≤ t.2.1 3 + n) → xP g l mX6_load [] (xR 7 0 0) (xZ g (ldQ h m (ld8 (lwP N N (lwN N (lwF n t))))) xno 0 0) 71 [some (.ref m)] [] (putMod h m t) 0 0 := by
    intro n
    induction n with
    | zero =>
      intro t ht lt hw
      refine x_aload_n dX6_load_71 rfl ?_
      refine x_ldcS (j := 8) rfl rfl rfl dX6_load_72 ?_
      refine x_vi0 dX6_load_74 cV_X6_145 (c_mIsWord xv1 putMod_at ht.1 ht.2.1) rfl rfl ⟨⟨by decide, by decide⟩, by decide, by decide⟩ (Nat.le_of_ble_eq_true rfl) (xrecv putMod_at.o rfl xcl5) ?_
      refine x_if_eq_b 87 dX6_load_77 (by decide) (fun c1 => ?_) (fun c1 => ?_)
      · exact l2 N t ht lt (fun _ => by omega)
      · exact absurd (wd ht c1 (by decide)) (by have := hw c1; omega)
    | succ n ih =>
      intro t ht lt hw
      rw [lwF]
      refine x_aload_n dX6_load_71 rfl ?_
      refine x_ldcS (j := 8) rfl rfl rfl dX6_load_72 ?_
      refine x_vi0 dX6_load_74 cV_X6_145 (c_mIsWord xv1 putMod_at ht.1 ht.2.1) rfl rfl ⟨⟨by decide, by decide⟩, by decide, by decide⟩ (Nat.le_of_ble_eq_true rfl) (xrecv putMod_at.o rfl xcl5) ?_
      refine x_if_eq_b 87 dX6_load_77 (by decide) (fun c1 => ?_) (fun c1 => ?_)
      · rw [if_neg (by rw [c1]; decide)]
        exact l2 N t ht lt (fun _ => by omega)
      · rw [if_pos c1]
        have g9 := g_rf ht
        have h9 := isWB_tok c1
        refine x_aload_n dX6_load_80 rfl ?_
        refine x_vv0 dX6_load_81 cV_X6_193 (c_mReadsFamily ht) rfl rfl ⟨⟨by decide, by decide⟩, by decide, by decide⟩ (Nat.le_of_ble_eq_true rfl) (xrecv putMod_at.o rfl xcl5) ?_
        refine x_goto 71 dX6_load_84 (by decide) ?_
        refine ih _ g9.1 (lt.tr g9.2.1) (fun q => ?_)
        have := p_rf ht (by omega) (isWB_tok q).1
        have := hw c1
        omega
  obtain ⟨h3, h5, lf5, -⟩ := ld5_LI hb
  have k5 := l1 N (ld5 s) h5 lf5 (fun _ => by omega)
  have e5 : ld5 s = rfS (rfS (rf7 (ld3 (ld2 s)))) := rfl
  have g4 := g_rf7 h3
  have g5 := g_rf g4.1
  rw [show ldX N s = ld8 (lwP N N (lwN N (lwF N (ld5 s)))) from rfl]
  rw [e5] at k5 ⊢
  have ht0 := ld0_tk hb
  have ht2 := ld2_tk hb
  have cc := c_mCopies (g := g) (l := l) (h := putMod h m (mZ (mN (mN s 1 0) 4 0) 0 0)) (t := m + 2) (a := m + 1) (nt := 353) (na := 353) (ta := 0) (fa := 0) putMod_at.aside putMod_at.a (by omega) (by decide) (by decide) (by decide) (by decide)
  rw [hset_aside] at cc
  have cbg : xDet g l mX6_begins 0 0 0 [.ref m] (putMod h m (ldB s)) none (putMod h m (ld0 s)) := c_mBegins
  have cnx : xDet g l mX6_next 2 0 0 [.ref m] (putMod h m (ld0 s)) none (putMod h m (ld1 s)) := by
    unfold ld1
    exact c_mNext hb (by show 0 < 1000; decide)
  have cmu : xDet g l mX6_must 3 0 0 [.ref m, .int (xb (isWB (ld1 s) W0))] (putMod h m (ld1 s)) none (putMod h m (ld2 s)) := by
    unfold ld2
    exact c_mMust ht0.1.1 (by have := ht0.1.2.1.2.1; omega)
  have ctk := c_mTakes (g := g) (l := l) (h := h) (m := m) (s := ld2 s) (lo := 4) (hi := 16) ht2.1.1 ht2.1.2.1
  have ce : xDet g l mX6_mustEnd 4 0 0 [.ref m] (putMod h m (ld3 (ld2 s))) none (putMod h m (rf7 (ld3 (ld2 s)))) := by
    unfold rf7
    exact c_mMustEnd h3.1 h3.2.1
  have e3 : mR (nxS (stS 4 16 (ld2 s))) 0 (va_up ((nxS (stS 4 16 (ld2 s))).1 0) 0 (stV (stS 4 16 (ld2 s)))) = ld3 (ld2 s) := rfl
  have c1 := c_mReadsFamily (g := g) (l := l) (h := h) (m := m) g4.1
  have c2 := c_mReadsFamily (g := g) (l := l) (h := h) (m := m) g5.1
  refine xMet.of (V := [some (.ref m)]) moX6_load (Nat.le_of_ble_eq_true rfl) rfl ?_
  refine x_aload_n dX6_load_0 rfl ?_
  refine x_iconst (nI 0) dX6_load_1 (by decide) ?_
  refine xq_X6_thrown dX6_load_2 f_X6_49 ?_
  refine x_aload_n dX6_load_5 rfl ?_
  refine x_iconst (nI 0) dX6_load_6 (by decide) ?_
  refine xq_X6_behind dX6_load_7 f_X6_82 ?_
  refine xP.eq (h' := putMod h m (mN (mN s 1 0) 4 0)) rfl rfl rfl rfl ?_
  refine x_aload_n dX6_load_10 rfl ?_
  refine x_iconst 0 dX6_load_11 (by decide) ?_
  refine xq_X6_wrong dX6_load_12 f_X6_107 ?_
  refine x_aload_n dX6_load_15 rfl ?_
  refine x_getf dX6_load_16 f_X6_13 putMod_at.o rfl ?_
  refine x_iconst (nI 0) dX6_load_19 (by decide) ?_
  refine x_aload_n dX6_load_20 rfl ?_
  refine x_getf dX6_load_21 f_X6_7 putMod_at.o rfl ?_
  refine x_iconst (nI 0) dX6_load_24 (by decide) ?_
  refine x_sv0 dX6_load_25 cS_X6_55 (cc) rfl rfl ⟨⟨by decide, by decide⟩, by decide, by decide⟩ (Nat.le_of_ble_eq_true rfl) ?_
  refine x_aload_n dX6_load_28 rfl ?_
  refine x_vv0 dX6_load_29 cV_X6_42 (cbg) rfl rfl ⟨⟨by decide, by decide⟩, by decide, by decide⟩ (Nat.le_of_ble_eq_true rfl) (xrecv putMod_at.o rfl xcl5) ?_
  refine x_aload_n dX6_load_32 rfl ?_
  refine x_vv0 dX6_load_33 cV_X6_126 (cnx) rfl rfl ⟨⟨by decide, by decide⟩, by decide, by decide⟩ (Nat.le_of_ble_eq_true rfl) (xrecv putMod_at.o rfl xcl5) ?_
  refine x_aload_n dX6_load_36 rfl ?_
  refine x_aload_n dX6_load_37 rfl ?_
  refine x_ldcS (j := 7) rfl rfl rfl dX6_load_38 ?_
  refine x_vi0 dX6_load_40 cV_X6_145 (c_mIsWord xv0 putMod_at ht0.1.1 ht0.1.2.1) rfl rfl ⟨⟨by decide, by decide⟩, by decide, by decide⟩ (Nat.le_of_ble_eq_true rfl) (xrecv putMod_at.o rfl xcl5) ?_
  refine x_vv0 dX6_load_43 cV_X6_129 (cmu) rfl rfl ⟨⟨by decide, by decide⟩, by decide, by decide⟩ (Nat.le_of_ble_eq_true rfl) (xrecv putMod_at.o rfl xcl5) ?_
  refine x_aload_n dX6_load_46 rfl ?_
  refine x_getf dX6_load_47 f_X6_7 putMod_at.o rfl ?_
  refine x_iconst (nI 0) dX6_load_50 (by decide) ?_
  refine x_aload_n dX6_load_51 rfl ?_
  refine x_iconst (nI 4) dX6_load_52 (by decide) ?_
  refine x_bipush (nI 16) dX6_load_53 (by decide) ?_
  refine x_vi0 dX6_load_55 cV_X6_152 (ctk) rfl rfl ⟨⟨by decide, by decide⟩, by decide, by decide⟩ (Nat.le_of_ble_eq_true rfl) (xrecv putMod_at.o rfl xcl5) ?_
  refine xq_X6_a dX6_load_58 (by decide) ?_
  rw [e3]
  refine x_aload_n dX6_load_59 rfl ?_
  refine x_vv0 dX6_load_60 cV_X6_155 (ce) rfl rfl ⟨⟨by decide, by decide⟩, by decide, by decide⟩ (Nat.le_of_ble_eq_true rfl) (xrecv putMod_at.o rfl xcl5) ?_
  refine x_aload_n dX6_load_63 rfl ?_
  refine x_vv0 dX6_load_64 cV_X6_193 (c1) rfl rfl ⟨⟨by decide, by decide⟩, by decide, by decide⟩ (Nat.le_of_ble_eq_true rfl) (xrecv putMod_at.o rfl xcl5) ?_
  refine x_aload_n dX6_load_67 rfl ?_
  refine x_vv0 dX6_load_68 cV_X6_193 (c2) rfl rfl ⟨⟨by decide, by decide⟩, by decide, by decide⟩ (Nat.le_of_ble_eq_true rfl) (xrecv putMod_at.o rfl xcl5) ?_
  exact k5
end M32
