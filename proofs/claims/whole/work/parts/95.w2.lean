/-! ===== the world and the model: two families at least; texts ===== -/
section W2
variable {w w' w1 : Wd} {s s' K : Mo} {st P : Ar} {A B : Nat → Nat} {n m : Nat}
theorem f_ask (h2 : 2 ≤ st.1 1) {p f q : Int32} : ∀ Q, (askR st p f q).2.2 = some Q → 2 ≤ Q.1 1 := fun Q e => by
  unfold askR at e
  split at e
  · split at e
    · split at e
      · split at e
        · cases e
          rw [ansS_const (by decide)]
          exact h2
        · cases e
      · cases e
    · cases e
  · cases e
theorem f_wave (h2 : 2 ≤ st.1 1) : ∀ Q, (waveR st).2.2 = some Q → 2 ≤ Q.1 1 := fun Q e => by
  cases e
  rw [repO_const (by decide)]
  exact h2
theorem f_spread (hw : aOk st) (h2 : 2 ≤ st.1 1) : ∀ Q, (spreadR st).2.2 = some Q → 2 ≤ Q.1 1 := fun Q e => by
  cases e
  rw [(mcO_inv hw _ hw.2.2.1).2.1]
  exact h2
theorem f_round (h2 : 2 ≤ st.1 1) {x : Int32} : ∀ Q, (roundR st x).2.2 = some Q → 2 ≤ Q.1 1 := fun Q e => by
  unfold roundR at e
  split at e
  · cases e
    rw [rndO_const (by decide)]
    exact h2
  · cases e
theorem f_repair (h2 : 2 ≤ st.1 1) {p f : Int32} : ∀ Q, (repairR st p f).2.2 = some Q → 2 ≤ Q.1 1 := fun Q e => by
  unfold repairR at e
  split at e
  · split at e
    · split at e
      · cases e
      · split at e
        · cases e
        · cases e
          rw [mendS_const (by decide)]
          exact h2
    · cases e
  · cases e
theorem f_harm (h2 : 2 ≤ st.1 1) {f t : Int32} : ∀ Q, (harmR st f t).2.2 = some Q → 2 ≤ Q.1 1 := fun Q e => by
  unfold harmR at e
  split at e
  · split at e
    · cases e
      rw [spoilS_1]
      exact h2
    · cases e
  · cases e
theorem f_join (h2 : 2 ≤ st.1 1) {a : Int32} : ∀ Q, (joinR st a).2.2 = some Q → 2 ≤ Q.1 1 := fun Q e => by
  unfold joinR at e
  split at e
  · split at e
    · cases e
      show 2 ≤ st.1 1 + 1
      omega
    · cases e
  · cases e
theorem f_meet (h2 : 2 ≤ st.1 1) {a b : Int32} : ∀ Q, (meetR st a b).2.2 = some Q → 2 ≤ Q.1 1 := fun Q e => by
  unfold meetR at e
  split at e
  · split at e
    · split at e
      · cases e
      · split at e
        · cases e
        · cases e
          exact h2
    · cases e
  · cases e
theorem rmS_N {f : Nat} : (rmS st f).1 1 = st.1 1 - 1 := by
  unfold rmS
  rw [rmN_1]
  show (aI (rmP st f (st.1 2)) 1 (st.1 1 - 1)).1 1 = _
  show va_up (rmP st f (st.1 2)).1 1 (st.1 1 - 1) 1 = _
  exact va_upE _ _ _
theorem f_leave {f : Int32} : ∀ Q, (leaveR st f).2.2 = some Q → 2 ≤ Q.1 1 := fun Q e => by
  unfold leaveR at e
  split at e
  · split at e
    · cases e
      rw [rmS_N]
      omega
    · cases e
  · cases e
theorem f_pledge (h2 : 2 ≤ st.1 1) {p a : Int32} : ∀ Q, (pledgeR st p a).2.2 = some Q → 2 ≤ Q.1 1 := fun Q e => by
  unfold pledgeR at e
  split at e
  · split at e
    · cases e
      exact h2
    · cases e
  · cases e
/-! a text is taken in -/
theorem pbS_4 (x : Nat) (q : (Nat → Nat) × Tr) : pbS x 4 q = pb1 (byW x 0) (pb1 (byW x 1) (pb1 (byW x 2) (pb1 (byW x 3) q))) := rfl
def cl20 (b : Nat → Nat) (q : (Nat → Nat) × Tr) : Nat → (Nat → Nat) × Tr
  | 0 => q
  | n + 1 => pb1 (b n) (cl20 b q n)
theorem apS_20 (a b c d e : Int32) (q : (Nat → Nat) × Tr) : apS a b c d e q = cl20 (by5 a b c d e) q 20 := rfl
theorem cl20_mp {b : Nat → Nat} {B : Nat → Nat} {t : Tr} (ht : t.1.1 + fb_ct (nz5 b) 20 ≤ 600) : ∀ n, n ≤ 20 → cl20 b (B, t) n = ((mpS b (B, t.1.1) n).1, sLen t (mpS b (B, t.1.1) n).2) := by
  intro n
  induction n with
  | zero => intro _; rfl
  | succ n ih =>
    intro hn
    have hc := mpS_n (b := b) (q := (B, t.1.1)) n
    have hm := fb_ct_mono (p := nz5 b) (show n + 1 ≤ 20 by omega)
    rw [fb_ct_succ] at hm
    rw [cl20, mpS, ih (by omega)]
    unfold pb1 mp1
    by_cases c : b n = 0
    · rw [if_pos c, if_neg (fun q => q.1 c)]
    · have hz : nz5 b n = true := decide_eq_true c
      rw [if_pos hz] at hm
      have hc : (mpS b (B, t.1.1) n).2 = t.1.1 + fb_ct (nz5 b) n := hc
      rw [if_neg c, if_pos ⟨c, by show (mpS b (B, t.1.1) n).2 < 600; omega⟩]
theorem apN_20 (a b c d e : Int32) : apN a b c d e = fb_ct (nz5 (by5 a b c d e)) 20 := by
  have h1 : fb_ct (nz5 (by5 a b c d e)) 20 = 0 + (if nzB (ix a) 3 = true then 1 else 0) + (if nzB (ix a) 2 = true then 1 else 0) + (if nzB (ix a) 1 = true then 1 else 0) + (if nzB (ix a) 0 = true then 1 else 0) + (if nzB (ix b) 3 = true then 1 else 0) + (if nzB (ix b) 2 = true then 1 else 0) + (if nzB (ix b) 1 = true then 1 else 0) + (if nzB (ix b) 0 = true then 1 else 0) + (if nzB (ix c) 3 = true then 1 else 0) + (if nzB (ix c) 2 = true then 1 else 0) + (if nzB (ix c) 1 = true then 1 else 0) + (if nzB (ix c) 0 = true then 1 else 0) + (if nzB (ix d) 3 = true then 1 else 0) + (if nzB (ix d) 2 = true then 1 else 0) + (if nzB (ix d) 1 = true then 1 else 0) + (if nzB (ix d) 0 = true then 1 else 0) + (if nzB (ix e) 3 = true then 1 else 0) + (if nzB (ix e) 2 = true then 1 else 0) + (if nzB (ix e) 1 = true then 1 else 0) + (if nzB (ix e) 0 = true then 1 else 0) := rfl
  have h2 : apN a b c d e = (0 + (if nzB (ix a) 0 = true then 1 else 0) + (if nzB (ix a) 1 = true then 1 else 0) + (if nzB (ix a) 2 = true then 1 else 0) + (if nzB (ix a) 3 = true then 1 else 0)) + (0 + (if nzB (ix b) 0 = true then 1 else 0) + (if nzB (ix b) 1 = true then 1 else 0) + (if nzB (ix b) 2 = true then 1 else 0) + (if nzB (ix b) 3 = true then 1 else 0)) + (0 + (if nzB (ix c) 0 = true then 1 else 0) + (if nzB (ix c) 1 = true then 1 else 0) + (if nzB (ix c) 2 = true then 1 else 0) + (if nzB (ix c) 3 = true then 1 else 0)) + (0 + (if nzB (ix d) 0 = true then 1 else 0) + (if nzB (ix d) 1 = true then 1 else 0) + (if nzB (ix d) 2 = true then 1 else 0) + (if nzB (ix d) 3 = true then 1 else 0)) + (0 + (if nzB (ix e) 0 = true then 1 else 0) + (if nzB (ix e) 1 = true then 1 else 0) + (if nzB (ix e) 2 = true then 1 else 0) + (if nzB (ix e) 3 = true then 1 else 0)) := rfl
  rw [h1, h2]
  generalize (if nzB (ix a) 0 = true then 1 else 0 : Nat) = a09
  generalize (if nzB (ix a) 1 = true then 1 else 0 : Nat) = a19
  generalize (if nzB (ix a) 2 = true then 1 else 0 : Nat) = a29
  generalize (if nzB (ix a) 3 = true then 1 else 0 : Nat) = a39
  generalize (if nzB (ix b) 0 = true then 1 else 0 : Nat) = b09
  generalize (if nzB (ix b) 1 = true then 1 else 0 : Nat) = b19
  generalize (if nzB (ix b) 2 = true then 1 else 0 : Nat) = b29
  generalize (if nzB (ix b) 3 = true then 1 else 0 : Nat) = b39
  generalize (if nzB (ix c) 0 = true then 1 else 0 : Nat) = c09
  generalize (if nzB (ix c) 1 = true then 1 else 0 : Nat) = c19
  generalize (if nzB (ix c) 2 = true then 1 else 0 : Nat) = c29
  generalize (if nzB (ix c) 3 = true then 1 else 0 : Nat) = c39
  generalize (if nzB (ix d) 0 = true then 1 else 0 : Nat) = d09
  generalize (if nzB (ix d) 1 = true then 1 else 0 : Nat) = d19
  generalize (if nzB (ix d) 2 = true then 1 else 0 : Nat) = d29
  generalize (if nzB (ix d) 3 = true then 1 else 0 : Nat) = d39
  generalize (if nzB (ix e) 0 = true then 1 else 0 : Nat) = e09
  generalize (if nzB (ix e) 1 = true then 1 else 0 : Nat) = e19
  generalize (if nzB (ix e) 2 = true then 1 else 0 : Nat) = e29
  generalize (if nzB (ix e) 3 = true then 1 else 0 : Nat) = e39
  omega
theorem rRD.app (h : rRD w s) (a b c d e : Int32) (hc : w.2.2.2.1.2.1.1 + apN a b c d e ≤ 600) : rRD (sRd w (apS a b c d e w.2.2.2.1).1 (apS a b c d e w.2.2.2.1).2) (appM s (by5 a b c d e)) ∧ (mpS (by5 a b c d e) (s.1 5, s.2.1 2) 20).2 = (apS a b c d e w.2.2.2.1).2.1.1 := by
  obtain ⟨h1, h2, h3, h4⟩ := h
  have hn := apN_20 a b c d e
  rw [hn] at hc
  have e1 := cl20_mp (B := w.2.2.2.1.1) (t := w.2.2.2.1.2) hc 20 (Nat.le_refl _)
  rw [← h2, ← h3] at e1
  have e2 : apS a b c d e w.2.2.2.1 = cl20 (by5 a b c d e) (s.1 5, w.2.2.2.1.2) 20 := by rw [apS_20, h2]
  have q1 := apF_ok (x := ix a) (s := w.2.2.2.1) h1
  have q2 := apF_ok (x := ix b) q1
  have q3 := apF_ok (x := ix c) q2
  have q4 := apF_ok (x := ix d) q3
  have q5 := apF_ok (x := ix e) q4
  have q6 : (∀ k, (apS a b c d e w.2.2.2.1).1 k < 256) ∧ (apS a b c d e w.2.2.2.1).2.1.1 ≤ 600 := q5
  have eA : appM s (by5 a b c d e) = apM (mN s 1 0) (mpS (by5 a b c d e) (s.1 5, s.2.1 2) 20) := by
    unfold appM
    rw [if_pos (by rw [h3]; exact hc)]
  rw [e1] at e2
  generalize mpS (by5 a b c d e) (s.1 5, s.2.1 2) 20 = q at *
  rw [eA]
  refine ⟨⟨q6, ?_, ?_, ?_⟩, by rw [e2]⟩
  · rw [e2]
    show va_up s.1 5 q.1 5 = q.1
    rw [va_upE]
  · rw [e2]
    show va_up (va_up s.2.1 1 0) 2 q.2 2 = q.2
    rw [va_upE]
  · rw [e2]
    exact h4
theorem rWM.app (h : rWM w s n) (a b c d e : Int32) (hc : w.2.2.2.1.2.1.1 + apN a b c d e ≤ 600) : rWM (sRd w (apS a b c d e w.2.2.2.1).1 (apS a b c d e w.2.2.2.1).2) (appM s (by5 a b c d e)) n := by
  obtain ⟨b1, b2, b3, b4, b5⟩ := h
  have k := (b4.app a b c d e hc).1
  obtain ⟨h1, h2, h3, h4⟩ := b4
  have hn := apN_20 a b c d e
  have eA : appM s (by5 a b c d e) = apM (mN s 1 0) (mpS (by5 a b c d e) (s.1 5, s.2.1 2) 20) := by
    unfold appM
    rw [if_pos (by rw [h3, ← hn]; exact hc)]
  rw [eA] at k ⊢
  generalize mpS (by5 a b c d e) (s.1 5, s.2.1 2) 20 = q at *
  have r0 : ∀ j, j ≠ 5 → (apM (mN s 1 0) q).1 j = s.1 j := fun j hj => va_up_ne _ _ hj
  have n0 : ∀ j, j ≠ 1 → j ≠ 2 → (apM (mN s 1 0) q).2.1 j = s.2.1 j := fun j h1 h2 => (va_up_ne _ _ h2).trans (va_up_ne _ _ h1)
  exact ⟨by rw [r0 0 (by decide)]; exact b1, b2.cong rfl rfl (n0 0 (by decide) (by decide)) (r0 3 (by decide)), b3.cong rfl rfl (r0 4 (by decide)), k, b5.cong rfl (r0 7 (by decide)) (n0 11 (by decide) (by decide))⟩
theorem kpM_1 {j i : Nat} (S : Mo) (hi : i ≠ 3) : (kpM S j).1 i = S.1 i := by
  have e2 : ∀ T : Mo, (kp2 T j).1 i = T.1 i := fun T => va_up_ne _ _ hi
  have e1 : (kp1 S).1 i = S.1 i := by
    unfold kp1
    split
    · exact va_up_ne _ _ hi
    · rfl
  exact (e2 _).trans e1
theorem kpM_n {j i : Nat} (S : Mo) (hi : i ≠ 0) : (kpM S j).2.1 i = S.2.1 i := by
  have e2 : ∀ T : Mo, (kp2 T j).2.1 i = T.2.1 i := fun T => va_up_ne _ _ hi
  have e1 : (kp1 S).2.1 i = S.2.1 i := by
    unfold kp1
    split
    · exact va_up_ne _ _ hi
    · rfl
  exact (e2 _).trans e1
theorem kpM_2 {j : Nat} (S : Mo) : (kpM S j).2.2 = S.2.2 := by
  have e2 : ∀ T : Mo, (kp2 T j).2.2 = T.2.2 := fun T => rfl
  have e1 : (kp1 S).2.2 = S.2.2 := by
    unfold kp1
    split <;> rfl
  exact (e2 _).trans e1
theorem rRD.b (h : rRD w s) : bOk s := ⟨fun k => by rw [h.2.1]; exact h.1.1 k, by rw [h.2.2.1]; exact h.1.2⟩
/-! a text is loaded -/
theorem ldX_frm {N : Nat} {X : Mo} (hb : bOk s) (hX : X = ldX N s) : X.1 1 = cpT (s.1 1) (s.1 0) 0 0 353 ∧ X.1 3 = s.1 3 ∧ X.1 4 = s.1 4 ∧ X.1 5 = s.1 5 ∧ X.1 7 = s.1 7 ∧ X.2.1 0 = s.2.1 0 ∧ X.2.1 11 = s.2.1 11 ∧ X.2.2.2.1 = s.2.2.2.1 := by
  obtain ⟨-, l1, l2, l3, l4⟩ := g_ldX hb N
  rw [← hX] at l1 l2 l3 l4
  have r1 : (ld0 s).1 1 = cpT (s.1 1) (s.1 0) 0 0 353 := by
    have e : ∀ (S : Mo) (F : Nat → Nat), (beS (mR S 1 F)).1 1 = F := fun S F => rfl
    exact e _ _
  exact ⟨(l1 1 (by decide)).trans r1, (l1 3 (by decide)).trans rfl, (l1 4 (by decide)).trans rfl, (l1 5 (by decide)).trans rfl, (l1 7 (by decide)).trans rfl, (l2 0 (by decide)).trans rfl, (l2 11 (by decide)).trans rfl, by rw [l4]; rfl⟩
theorem rWM.load {m9 m8 : Nat} {X : Mo} {R : Bool × Tr × Ar} (h : rWM w s n) (h9 : m9 = 11) (hm : m8 = 600) (hX : X = ldX 601 s) (hR : R = rdTx w.2.2.2.1.1 m9 m8 w.2.2.2.1.2 w.1.2) (hc : R.1 = true) (hk : kpP (sRd (sT w R.2.2) w.2.2.2.1.1 R.2.1) R.2.2 w') :
    X.2.2.1 0 = 0 ∧ R.2.2.1 2 = X.1 0 2 ∧ rWM w' (kpM (ldY X) 1) n := by
  obtain ⟨b1, b2, b3, b4, b5⟩ := h
  have hb := b4.b
  have hn := b1.1.k.1
  have k := p_rdTx (s := s) (t := w.2.2.2.1.2) (st := w.1.2) (N := 601) hb b4.2.2.1.symm h9 hm (by decide)
  obtain ⟨x1, x3, x4, x5, x7, n0, n11, xb⟩ := ldX_frm hb hX
  rw [b4.2.1, ← hR, if_pos hc, ← hX] at k
  obtain ⟨k1, k2, k3, k4⟩ := k
  refine ⟨k1, k2.r0.2.2.1.symm, ?_⟩
  obtain ⟨w1, hk, rfl⟩ := hk
  have eq : w1.2.2.2 = (sRd (sT w R.2.2) w.2.2.2.1.1 R.2.1).2.2.2 := hk.2.2.2.2
  have y1 : ∀ j, (ldY X).1 j = X.1 j := fun _ => rfl
  have yn : ∀ j, j ≠ 2 → (ldY X).2.1 j = X.2.1 j := fun j hj => va_up_ne _ _ hj
  have yb : (ldY X).2.2.2 = X.2.2.2 := rfl
  have y2 : (ldY X).2.1 2 = 0 := rfl
  have yz : (ldY X).2.2.1 1 = -1 := by
    have : (ldY X).2.2.1 1 = (if X.2.2.1 0 = 0 then -1 else nI (X.2.1 7)) := rfl
    rw [this, if_pos k1]
  generalize ldY X = Y at *
  have c2 : rHS (sRd (sT w R.2.2) w.2.2.2.1.1 R.2.1) Y n := b2.cong rfl rfl (by rw [yn 0 (by decide), n0]) (by rw [y1, x3])
  have c3 : rSV (sRd (sT w R.2.2) w.2.2.2.1.1 R.2.1) Y n := b3.cong rfl (by rw [yb, xb]) (by rw [y1, x4])
  have cl : rLV w.1.1 (Y.1 1) n := b1.cong fun q hq => by
    rw [y1, x1]
    unfold cpT
    rw [if_pos (by omega)]
    exact congrArg _ (by omega)
  refine ⟨⟨?_, k3⟩, (c2.kp cl (by decide) hk rfl rfl).cong rfl rfl rfl rfl, (c3.kp c2.1.1.1 hk (kpM_1 _ (by decide)) (by rw [kpM_2])).cong rfl rfl rfl, ⟨?_, ?_, ?_, ?_⟩, ?_⟩
  · rw [kpM_1 _ (by decide), y1]
    exact k2.mono (Nat.zero_le _) hn
  · unfold rdOk
    rw [show (sP w1 R.2.2).2.2.2 = w1.2.2.2 from rfl, eq]
    show (∀ q, w.2.2.2.1.1 q < 256) ∧ R.2.1.1.1 ≤ 600
    rw [k4]
    exact ⟨b4.1.1, by decide⟩
  · rw [kpM_1 _ (by decide), y1, x5, b4.2.1, show (sP w1 R.2.2).2.2.2 = w1.2.2.2 from rfl, eq]
  · rw [kpM_n _ (by decide), y2, show (sP w1 R.2.2).2.2.2 = w1.2.2.2 from rfl, eq]
    show 0 = R.2.1.1.1
    rw [k4]
  · rw [kpM_2, yz, show (sP w1 R.2.2).2.2.2 = w1.2.2.2 from rfl, eq]
    show -1 = R.2.1.1.2.2
    rw [k4]
  · exact b5.cong (by rw [show (sP w1 R.2.2).2.2.2 = w1.2.2.2 from rfl, eq]) (by rw [kpM_1 _ (by decide), y1, x7]) (by rw [kpM_n _ (by decide), yn 11 (by decide), n11])
theorem rWM.loadX {m9 m8 : Nat} {X : Mo} {R : Bool × Tr × Ar} (h : rWM w s n) (h9 : m9 = 11) (hm : m8 = 600) (hX : X = ldX 601 s) (hR : R = rdTx w.2.2.2.1.1 m9 m8 w.2.2.2.1.2 w.1.2) (hc : R.1 = false) :
    X.2.2.1 0 ≠ 0 ∧ R.2.1.1.2.1 = X.2.2.1 0 ∧ rWM (sRd (sT w R.2.2) w.2.2.2.1.1 R.2.1) (mR (ldY X) 0 (cpT (X.1 0) (X.1 1) 0 0 353)) n := by
  obtain ⟨b1, b2, b3, b4, b5⟩ := h
  have hb := b4.b
  have k := p_rdTx (s := s) (t := w.2.2.2.1.2) (st := w.1.2) (N := 601) hb b4.2.2.1.symm h9 hm (by decide)
  obtain ⟨x1, x3, x4, x5, x7, n0, n11, xb⟩ := ldX_frm hb hX
  rw [b4.2.1, ← hR, if_neg (by rw [hc]; decide), ← hX] at k
  obtain ⟨k1, k4⟩ := k
  refine ⟨k1, by rw [k4], ?_⟩
  have y1 : ∀ F j, j ≠ 0 → (mR (ldY X) 0 F).1 j = X.1 j := fun F j hj => va_up_ne _ _ hj
  have y0 : ∀ F, (mR (ldY X) 0 F).1 0 = F := fun F => by show va_up X.1 0 F 0 = F; rw [va_upE]
  have yn : ∀ F j, j ≠ 2 → (mR (ldY X) 0 F).2.1 j = X.2.1 j := fun F j hj => va_up_ne _ _ hj
  have yb : ∀ F, (mR (ldY X) 0 F).2.2.2 = X.2.2.2 := fun F => rfl
  have y2 : ∀ F, (mR (ldY X) 0 F).2.1 2 = 0 := fun F => rfl
  have yz : ∀ F, (mR (ldY X) 0 F).2.2.1 1 = nI (X.2.1 7) := fun F => by
    have : (mR (ldY X) 0 F).2.2.1 1 = (if X.2.2.1 0 = 0 then -1 else nI (X.2.1 7)) := rfl
    rw [this, if_neg k1]
  generalize hF : cpT (X.1 0) (X.1 1) 0 0 353 = F
  refine ⟨b1.cong fun q hq => ?_, b2.cong rfl rfl (by rw [yn F 0 (by decide), n0]) (by rw [y1 F 3 (by decide), x3]), b3.cong rfl (by rw [yb, xb]) (by rw [y1 F 4 (by decide), x4]), ⟨?_, ?_, ?_, ?_⟩, b5.cong rfl (by rw [y1 F 7 (by decide), x7]) (by rw [yn F 11 (by decide), n11])⟩
  · rw [y0, ← hF, x1]
    unfold cpT
    rw [if_pos (by omega), if_pos (by omega)]
    exact congrArg _ (by omega)
  · show (∀ q, w.2.2.2.1.1 q < 256) ∧ R.2.1.1.1 ≤ 600
    rw [k4]
    exact ⟨b4.1.1, by show 0 ≤ 600; decide⟩
  · rw [y1 F 5 (by decide), x5]
    exact b4.2.1
  · rw [y2]
    show 0 = R.2.1.1.1
    rw [k4]
  · rw [yz]
    show _ = R.2.1.1.2.2
    rw [k4]
end W2
