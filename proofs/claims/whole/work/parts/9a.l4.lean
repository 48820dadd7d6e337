/-! ===== the law's walk: what holds between two calls ===== -/
abbrev mL_law (nm : String) : xM := (⟨RL, nm, "([I)Z"⟩, cL_law, 10, some .boolean)
def xLW (v m o od : Nat) (w : Wd) (s : Mo) (h : xH) : Prop := WAt h v w ∧ ModAt h m s ∧ ((∃ f, h.1 o = some (.inl (2, 1, .inr (.inl f)))) ∧ ∃ f, h.1 od = some (.inl (4, 1, .inr (.inr (.inr (.inl f)))))) ∧ (m + 10 ≤ o ∧ o < od ∧ od < h.2) ∧ ∀ a, m ≤ a → a ≤ od → ¬ inW v w a
section L4
variable {nm : String} {tb : List (Nat × Nat × Nat × Nat)} {g : xG} {l : Launch} {v m o od : Nat} {w w' : Wd} {s s' : Mo} {h h' : xH}
theorem xLW.self (H : xLW v m o od w s h) : putMod h m s = h := putMod_self H.2.1
theorem xLW.x (H : xLW v m o od w s h) (hto : wTo v w h w' h') : xLW v m o od w' s h' := by
  obtain ⟨h1, h2, ⟨⟨f, h3⟩, fd, h4⟩, h5, h6⟩ := H
  have kp : ∀ a, m ≤ a → a ≤ od → h'.1 a = h.1 a ∧ ¬ inW v w' a := fun a q1 q2 => hto.2.2 a (by omega) (h6 a q1 q2)
  exact ⟨hto.1, fun k hk => by rw [(kp (m + k) (by omega) (by omega)).1]; exact h2 k hk, ⟨⟨f, by rw [(kp o (by omega) (by omega)).1]; exact h3⟩, fd, by rw [(kp od (by omega) (by omega)).1]; exact h4⟩, ⟨h5.1, h5.2.1, Nat.lt_of_lt_of_le h5.2.2 hto.2.1⟩, fun a q1 q2 => (kp a q1 q2).2⟩
theorem xLW.mod (H : xLW v m o od w s h) (s' : Mo) : xLW v m o od w s' (putMod h m s') := by
  obtain ⟨h1, h2, ⟨⟨f, h3⟩, fd, h4⟩, h5, h6⟩ := H
  refine ⟨h1.same (Nat.le_refl _) fun a ha => putMod_out ?_, putMod_at, ⟨⟨f, by rw [putMod_out (by omega)]; exact h3⟩, fd, by rw [putMod_out (by omega)]; exact h4⟩, h5, h6⟩
  by_cases q : m ≤ a ∧ a < m + 10
  · exact absurd ha (h6 a q.1 (by omega))
  · omega
theorem xLW.out (H : xLW v m o od w s h) (f' : Nat → Int64) : xLW v m o od w s (hset h o (.inl (2, 1, .inr (.inl f')))) := by
  obtain ⟨h1, h2, ⟨⟨f, h3⟩, fd, h4⟩, h5, h6⟩ := H
  have ne : ∀ a, a ≠ o → (hset h o (.inl (2, 1, .inr (.inl f')))).1 a = h.1 a := fun a q => if_neg q
  refine ⟨h1.same (Nat.le_refl _) fun a ha => ne a (fun e => h6 a (by omega) (by omega) ha), fun k hk => by rw [ne _ (by omega)]; exact h2 k hk, ⟨⟨f', if_pos rfl⟩, fd, by rw [ne _ (by omega)]; exact h4⟩, h5, h6⟩
theorem xLW.outD (H : xLW v m o od w s h) (f' : Nat → UInt64) : xLW v m o od w s (hset h od (.inl (4, 1, .inr (.inr (.inr (.inl f')))))) := by
  obtain ⟨h1, h2, ⟨⟨f, h3⟩, fd, h4⟩, h5, h6⟩ := H
  have ne : ∀ a, a ≠ od → (hset h od (.inl (4, 1, .inr (.inr (.inr (.inl f')))))).1 a = h.1 a := fun a q => if_neg q
  refine ⟨h1.same (Nat.le_refl _) fun a ha => ne a (fun e => h6 a (by omega) (by omega) ha), fun k hk => by rw [ne _ (by omega)]; exact h2 k hk, ⟨⟨f, by rw [ne _ (by omega)]; exact h3⟩, f', if_pos rfl⟩, h5, h6⟩
theorem xLW.o0 (H : xLW v m o od w s h) : (∃ f, h.1 o = some (.inl (2, 1, .inr (.inl f)))) ∧ o < h.2 ∧ ¬ inW v w o := ⟨H.2.2.1.1, by have := H.2.2.2.1; omega, H.2.2.2.2 o (by have := H.2.2.2.1; omega) (by have := H.2.2.2.1; omega)⟩
/-- where the class's own call has left things -/
def xLx (v m o od : Nat) (w : Wd) (s : Mo) (k : Nat) (x : Int32) (w' : Wd) (h' : xH) : Prop := xLW v m o od w' s h' ∧ (k = 0 → ∃ f, h'.1 o = some (.inl (2, 1, .inr (.inl f))) ∧ f 0 = x.toInt64)
theorem wrQ.law {f : Nat → Int64} {R : Rs} {r : Option Value} (H : xLW v m o od w s h) (q : wrQ v w h o f R r h') : r = some (.int (nI R.1)) ∧ ∃ w', xLx v m o od w s R.1 R.2.1 w' h' ∧ (R.1 = 0 → wBy w R.2.2 w') ∧ (0 < R.1 → w' = w) := by
  obtain ⟨q1, w', h1, hto, q2⟩ := q
  refine ⟨q1, w', ?_⟩
  rcases q2 with ⟨k1, k2, rfl⟩ | ⟨k1, k2, rfl⟩
  · exact ⟨⟨(H.x hto).out _, fun _ => ⟨_, if_pos rfl, rfl⟩⟩, fun _ => k2, fun q => by omega⟩
  · exact ⟨⟨H.x hto, fun q => by omega⟩, fun q => by omega, fun _ => k2⟩
theorem xLx.mod {k : Nat} {x : Int32} (H : xLx v m o od w s k x w' h') (s1 : Mo) : xLx v m o od w s1 k x w' (putMod h' m s1) := by
  refine ⟨H.1.mod s1, fun q => ?_⟩
  obtain ⟨f, f1, f2⟩ := H.2 q
  have := H.1.2.2.2.1
  exact ⟨f, by rw [putMod_out (by omega)]; exact f1, f2⟩
/-- both have done it alike -/
theorem rWM.op2 {R : Rs} {M : Ms} {n N : Nat} (h : rWM w s n) (hR : sOk R M N) (hf : ∀ Q, R.2.2 = some Q → 2 ≤ Q.1 1) (hx : 0 < R.1 → R.2.2 = none) (hm : n ≤ N) (h2 : N < 2 ^ 23) (hw : R.1 = 0 → wBy w R.2.2 w') (hw2 : 0 < R.1 → w' = w) (hs : mBy s s' M.2.2) : rWM w' s' N := by
  refine h.op hR hf hm h2 ?_ hs
  rcases Nat.eq_zero_or_pos R.1 with q | q
  · exact hw q
  · rw [hx q, hw2 q]
    exact wSame.rf w
/-- how it threw, and the answers, are compared -/
theorem law_tail {R9 : Room} {Z : List Frame → Array Value → State → State → Prop} {p0 b k : Nat} {i5 x y : Int32} {kc ks : Nat} (H : xLx v m o od w s k x w h) (he : s.2.1 1 = k) (hk : k < 100) (hxy : k = 0 → x = y) (hR1 : 1 ≤ R9.frames) (hR2 : 100 ≤ R9.locals) (hR3 : kc ≤ R9.cells) (hR4 : ks ≤ R9.slots)
    (d0 : decode cL_law p0 = .ok (.aload_n 2, 1)) (d1 : decode cL_law (p0 + 1) = .ok (.invokevirtual 107, 3)) (d4 : decode cL_law (p0 + 4) = .ok (.iload 6, 2)) (d6 : decode cL_law (p0 + 6) = .ok (.if_icmp .eq 5, 3)) (d11 : decode cL_law (p0 + 11) = .ok (.iload 6, 2)) (d13 : decode cL_law (p0 + 13) = .ok (.ifCond .ne 15, 3))
    (d16 : decode cL_law (p0 + 16) = .ok (.aload_n 3, 1)) (d17 : decode cL_law (p0 + 17) = .ok (.iconst 0, 1)) (d18 : decode cL_law (p0 + 18) = .ok (.laload, 1)) (d19 : decode cL_law (p0 + 19) = .ok (.iload 7, 2)) (d21 : decode cL_law (p0 + 21) = .ok (.i2l, 1)) (d22 : decode cL_law (p0 + 22) = .ok (.lcmp, 1)) (d23 : decode cL_law (p0 + 23) = .ok (.ifCond .eq 5, 3))
    {off : Int} (d28 : decode cL_law (p0 + 28) = .ok (.goto off, 3)) (hoff : ((p0 + 28 : Nat) : Int) + off = (1999 : Nat))
    (K : xP g l (mL_law nm) tb R9 Z 1999 [some (.ref b), some (.ref v), some (.ref m), some (.ref o), some (.ref od), some (.int i5), none, none, none, none] [] h kc ks) :
    xP g l (mL_law nm) tb R9 Z p0 [some (.ref b), some (.ref v), some (.ref m), some (.ref o), some (.ref od), some (.int i5), some (.int (nI k)), some (.int y), none, none] [] h kc ks := by
  have hM := H.1.2.1
  have fin : xP g l (mL_law nm) tb R9 Z (p0 + 28) [some (.ref b), some (.ref v), some (.ref m), some (.ref o), some (.ref od), some (.int i5), some (.int (nI k)), some (.int y), none, none] [] h kc ks := by
    refine x_goto 1999 d28 hoff ?_
    exact xP.weak (by simp [xle]) K
  refine x_aload_n d0 rfl ?_
  refine x_vi0 d1 cV_L_107 (c_mThrown hM) rfl rfl ⟨⟨by omega, by show 8 + (1 + 11) + 36 * 0 ≤ _; omega⟩, by omega, by omega⟩ (Nat.le_of_ble_eq_true rfl) (xrecv hM.o rfl xcl5) ?_
  rw [he]
  refine x_iload d4 rfl ?_
  refine x_icmp_eq (p0 + 11) d6 (by omega) (fun _ => ?_) (fun c => absurd rfl c)
  refine x_iload d11 rfl ?_
  refine x_if_ne_n (p0 + 28) d13 (by omega) (by omega) (fun _ => fin) (fun c => ?_)
  obtain ⟨f, f1, f2⟩ := H.2 c
  refine x_aload_n d16 rfl ?_
  refine x_iconst (nI 0) d17 (by decide) ?_
  refine x_lald d18 f1 (by decide) (by decide) ?_
  refine x_iload d19 rfl ?_
  refine x_i2l d21 ?_
  refine x_lcmp d22 ?_
  rw [f2, hxy c]
  refine x_if_eq (p0 + 28) d23 (by omega) (fun _ => fin) (fun c => absurd ?_ c)
  unfold lg_cmp
  simp
end L4
