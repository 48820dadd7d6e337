/-! ===== the law's cases: append, undo, save, chance, soundness ===== -/
section LE
variable {nm : String} {tb : List (Nat × Nat × Nat × Nat)} {g : xG} {l : Launch} {R9 : Room} {Z : List Frame → Array Value → State → State → Prop} {b L t v m o od n kc ks : Nat} {xs : Nat → Int32} {w : Wd} {s : Mo} {h : xH}
theorem k_append (hs : xSc Z g b L xs) (hL : L ≤ 3072) (H : xLW v m o od w s h) (W9 : rWM w s n) (hi : 6 * t + 6 ≤ L) (hr : xRm R9 n kc ks) (K : xGo nm tb g l R9 Z b t v m o od n kc ks) : xP g l (mL_law nm) tb R9 Z 208 [some (.ref b), some (.ref v), some (.ref m), some (.ref o), some (.ref od), some (.int (nI (6 * t))), none, none, none, none] [] h kc ks := by
  obtain ⟨⟨r1, r2⟩, ⟨r3, r4⟩, r5⟩ := hr
  obtain ⟨⟨f, hf⟩, hz, hno⟩ := H.o0
  refine x_aload_n dL_law_208 rfl ?_
  refine x_aload_n dL_law_209 rfl ?_
  refine x_iload dL_law_210 rfl ?_
  refine x_iconst (nI 1) dL_law_212 (by decide) ?_
  refine x_iadd_n dL_law_213 ?_
  refine x_ialdB hs dL_law_214 (by omega) (by omega) ?_
  refine x_aload_n dL_law_215 rfl ?_
  refine x_iload dL_law_216 rfl ?_
  refine x_iconst (nI 2) dL_law_218 (by decide) ?_
  refine x_iadd_n dL_law_219 ?_
  refine x_ialdB hs dL_law_220 (by omega) (by omega) ?_
  refine x_aload_n dL_law_221 rfl ?_
  refine x_iload dL_law_222 rfl ?_
  refine x_iconst (nI 3) dL_law_224 (by decide) ?_
  refine x_iadd_n dL_law_225 ?_
  refine x_ialdB hs dL_law_226 (by omega) (by omega) ?_
  refine x_aload_n dL_law_227 rfl ?_
  refine x_iload dL_law_228 rfl ?_
  refine x_iconst (nI 4) dL_law_230 (by decide) ?_
  refine x_iadd_n dL_law_231 ?_
  refine x_ialdB hs dL_law_232 (by omega) (by omega) ?_
  refine x_aload_n dL_law_233 rfl ?_
  refine x_iload dL_law_234 rfl ?_
  refine x_iconst (nI 5) dL_law_236 (by decide) ?_
  refine x_iadd_n dL_law_237 ?_
  refine x_ialdB hs dL_law_238 (by omega) (by omega) ?_
  refine x_aload_n dL_law_239 rfl ?_
  refine x_callH dL_law_240 cH_L_101 (w_append H.1 W9.2.2.2.1.1 hf hz hno (xs (6 * t + 1)) (xs (6 * t + 2)) (xs (6 * t + 3)) (xs (6 * t + 4)) (xs (6 * t + 5))) rfl rfl ⟨⟨by omega, by show 8 + (8 + 11) + 36 * 7 ≤ _; omega⟩, by omega, by omega⟩ (Nat.le_of_ble_eq_true rfl) (fun _ _ q => q.elim) (fun v9 h9 q9 => ?_)
  have go : ∀ (k : Nat) (x : Int32) (w1 : Wd), v9 = some (.int (nI k)) → xLx v m o od w s k x w1 h9 → (appM s (by5 (xs (6 * t + 1)) (xs (6 * t + 2)) (xs (6 * t + 3)) (xs (6 * t + 4)) (xs (6 * t + 5)))).2.1 1 = k → (k = 0 → x = nI (if s.2.1 2 + fb_ct (nz5 (by5 (xs (6 * t + 1)) (xs (6 * t + 2)) (xs (6 * t + 3)) (xs (6 * t + 4)) (xs (6 * t + 5)))) 20 ≤ 600 then (mpS (by5 (xs (6 * t + 1)) (xs (6 * t + 2)) (xs (6 * t + 3)) (xs (6 * t + 4)) (xs (6 * t + 5))) (s.1 5, s.2.1 2) 20).2 else 0)) → k < 100 → rWM w1 (appM s (by5 (xs (6 * t + 1)) (xs (6 * t + 2)) (xs (6 * t + 3)) (xs (6 * t + 4)) (xs (6 * t + 5)))) n → xP g l (mL_law nm) tb R9 Z 243 [some (.ref b), some (.ref v), some (.ref m), some (.ref o), some (.ref od), some (.int (nI (6 * t))), none, none, none, none] (v9.toList ++ []) h9 (kc + 1) (ks + 6) := by
    rintro k x w1 rfl hx hs1 hv hk hw
    refine x_istore dL_law_243 (Nat.le_of_ble_eq_true rfl) rfl rfl ?_
    refine x_aload_n dL_law_245 rfl ?_
    refine x_aload_n dL_law_246 rfl ?_
    refine x_iload dL_law_247 rfl ?_
    refine x_iconst (nI 1) dL_law_249 (by decide) ?_
    refine x_iadd_n dL_law_250 ?_
    refine x_ialdB hs dL_law_251 (by omega) (by omega) ?_
    refine x_aload_n dL_law_252 rfl ?_
    refine x_iload dL_law_253 rfl ?_
    refine x_iconst (nI 2) dL_law_255 (by decide) ?_
    refine x_iadd_n dL_law_256 ?_
    refine x_ialdB hs dL_law_257 (by omega) (by omega) ?_
    refine x_aload_n dL_law_258 rfl ?_
    refine x_iload dL_law_259 rfl ?_
    refine x_iconst (nI 3) dL_law_261 (by decide) ?_
    refine x_iadd_n dL_law_262 ?_
    refine x_ialdB hs dL_law_263 (by omega) (by omega) ?_
    refine x_aload_n dL_law_264 rfl ?_
    refine x_iload dL_law_265 rfl ?_
    refine x_iconst (nI 4) dL_law_267 (by decide) ?_
    refine x_iadd_n dL_law_268 ?_
    refine x_ialdB hs dL_law_269 (by omega) (by omega) ?_
    refine x_aload_n dL_law_270 rfl ?_
    refine x_iload dL_law_271 rfl ?_
    refine x_iconst (nI 5) dL_law_273 (by decide) ?_
    refine x_iadd_n dL_law_274 ?_
    refine x_ialdB hs dL_law_275 (by omega) (by omega) ?_
    refine xP.eq (h' := putMod h9 m s) rfl rfl rfl hx.1.self ?_
    refine x_callV dL_law_276 cV_L_106 (c_mAppend (h := h9) W9.2.2.2.1.b.2 (xs (6 * t + 1)) (xs (6 * t + 2)) (xs (6 * t + 3)) (xs (6 * t + 4)) (xs (6 * t + 5))) rfl rfl ⟨⟨by omega, by show 8 + (9 + 11) + 36 * 1 ≤ _; omega⟩, by omega, by omega⟩ (Nat.le_of_ble_eq_true rfl) (xrecv putMod_at.o rfl xcl5) (fun _ _ q => q.elim) (fun v8 h8 q8 => ?_)
    obtain ⟨rfl, rfl⟩ := q8
    refine x_istore dL_law_279 (Nat.le_of_ble_eq_true rfl) rfl rfl ?_
    refine law_tail (hx.mod _) hs1 hk hv (by omega) (by omega) (by omega) (by omega) dL_law_281 dL_law_282 dL_law_285 dL_law_287 dL_law_292 dL_law_294 dL_law_297 dL_law_298 dL_law_299 dL_law_300 dL_law_302 dL_law_303 dL_law_304 dL_law_309 (by decide) ?_
    exact xP.widen (by omega) (by omega) (K _ _ _ (hx.mod _).1 (hw.mono (by omega) (by omega)))
  have hN := apN_20 (xs (6 * t + 1)) (xs (6 * t + 2)) (xs (6 * t + 3)) (xs (6 * t + 4)) (xs (6 * t + 5))
  have h3 := W9.2.2.2.1.2.2.1
  rcases q9 with ⟨c1, hv, h1, hto, rfl⟩ | ⟨c1, hv, hto⟩
  · have c2 : s.2.1 2 + fb_ct (nz5 (by5 (xs (6 * t + 1)) (xs (6 * t + 2)) (xs (6 * t + 3)) (xs (6 * t + 4)) (xs (6 * t + 5)))) 20 ≤ 600 := by rw [h3, ← hN]; exact c1
    refine go 0 _ _ hv ⟨(H.x hto).out _, fun _ => ⟨_, if_pos rfl, rfl⟩⟩ ?_ (fun _ => ?_) (by decide) (W9.app (xs (6 * t + 1)) (xs (6 * t + 2)) (xs (6 * t + 3)) (xs (6 * t + 4)) (xs (6 * t + 5)) c1)
    · unfold appM
      rw [if_pos c2]
      rfl
    · rw [if_pos c2, (W9.2.2.2.1.app (xs (6 * t + 1)) (xs (6 * t + 2)) (xs (6 * t + 3)) (xs (6 * t + 4)) (xs (6 * t + 5)) c1).2]
  · have c2 : ¬ s.2.1 2 + fb_ct (nz5 (by5 (xs (6 * t + 1)) (xs (6 * t + 2)) (xs (6 * t + 3)) (xs (6 * t + 4)) (xs (6 * t + 5)))) 20 ≤ 600 := by rw [h3, ← hN]; exact c1
    have e : appM s (by5 (xs (6 * t + 1)) (xs (6 * t + 2)) (xs (6 * t + 3)) (xs (6 * t + 4)) (xs (6 * t + 5))) = mN s 1 1 := by unfold appM; rw [if_neg c2]
    refine go 1 0 _ hv ⟨H.x hto, fun q => absurd q (by decide)⟩ (by rw [e]; rfl) (fun q => absurd q (by decide)) (by decide) (by rw [e]; exact W9.thr 1)
theorem k_undo (hs : xSc Z g b L xs) (hL : L ≤ 3072) (H : xLW v m o od w s h) (W9 : rWM w s n) (hi : 6 * t + 6 ≤ L) (hr : xRm R9 n kc ks) (K : xGo nm tb g l R9 Z b t v m o od n kc ks) : xP g l (mL_law nm) tb R9 Z 1794 [some (.ref b), some (.ref v), some (.ref m), some (.ref o), some (.ref od), some (.int (nI (6 * t))), none, none, none, none] [] h kc ks := by
  obtain ⟨⟨r1, r2⟩, ⟨r3, r4⟩, r5⟩ := hr
  obtain ⟨⟨f, hf⟩, hz, hno⟩ := H.o0
  refine x_aload_n dL_law_1794 rfl ?_
  refine x_aload_n dL_law_1795 rfl ?_
  refine x_callH dL_law_1796 cH_L_219 (w_undo H.1 W9.2.1.1.1 W9.hisAt hf hz hno) rfl rfl ⟨⟨by omega, by show 8 + (3 + 11) + 36 * 7 ≤ _; omega⟩, by omega, by omega⟩ (Nat.le_of_ble_eq_true rfl) (fun _ _ q => q.elim) (fun v9 h9 q9 => ?_)
  have go : ∀ (k : Nat) (x : Int32) (w1 : Wd), v9 = some (.int (nI k)) → xLx v m o od w s k x w1 h9 → (unM s).2.1 1 = k → (k = 0 → x = nI (unV s)) → k < 100 → rWM w1 (unM s) n → xP g l (mL_law nm) tb R9 Z 1799 [some (.ref b), some (.ref v), some (.ref m), some (.ref o), some (.ref od), some (.int (nI (6 * t))), none, none, none, none] (v9.toList ++ []) h9 (kc + 1) (ks + 6) := by
    rintro k x w1 rfl hx hs1 hv hk hw
    refine x_istore dL_law_1799 (Nat.le_of_ble_eq_true rfl) rfl rfl ?_
    refine x_aload_n dL_law_1801 rfl ?_
    refine xP.eq (h' := putMod h9 m s) rfl rfl rfl hx.1.self ?_
    refine x_callV dL_law_1802 cV_L_222 (c_mUndo (h := h9) (by rw [W9.2.1.1.2]; exact W9.2.1.1.1.2)) rfl rfl ⟨⟨by omega, by show 8 + (1 + 11) + 36 * 1 ≤ _; omega⟩, by omega, by omega⟩ (Nat.le_of_ble_eq_true rfl) (xrecv putMod_at.o rfl xcl5) (fun _ _ q => q.elim) (fun v8 h8 q8 => ?_)
    obtain ⟨rfl, rfl⟩ := q8
    refine x_istore dL_law_1805 (Nat.le_of_ble_eq_true rfl) rfl rfl ?_
    refine law_tail (hx.mod _) hs1 hk hv (by omega) (by omega) (by omega) (by omega) dL_law_1807 dL_law_1808 dL_law_1811 dL_law_1813 dL_law_1818 dL_law_1820 dL_law_1823 dL_law_1824 dL_law_1825 dL_law_1826 dL_law_1828 dL_law_1829 dL_law_1830 dL_law_1835 (by decide) ?_
    exact xP.widen (by omega) (by omega) (K _ _ _ (hx.mod _).1 (hw.mono (by omega) (by omega)))
  have h3 := W9.2.1.1.2
  rcases q9 with ⟨c1, hv, h1, hto, rfl⟩ | ⟨c1, hv, hto⟩
  · refine go 0 _ _ hv ⟨(H.x hto).out _, fun _ => ⟨_, if_pos rfl, rfl⟩⟩ ?_ (fun _ => ?_) (by decide) (W9.undo c1)
    · unfold unM
      rw [if_neg (by omega)]
      rfl
    · unfold unV
      rw [h3]
  · have e : unM s = mN s 1 1 := by unfold unM; rw [if_pos (by omega)]
    refine go 1 0 _ hv ⟨H.x hto, fun q => absurd q (by decide)⟩ (by rw [e]; rfl) (fun q => absurd q (by decide)) (by decide) (by rw [e]; exact W9.thr 1)
theorem k_save (hs : xSc Z g b L xs) (hL : L ≤ 3072) (H : xLW v m o od w s h) (W9 : rWM w s n) (hi : 6 * t + 6 ≤ L) (hr : xRm R9 n kc ks) (K : xGo nm tb g l R9 Z b t v m o od n kc ks) : xP g l (mL_law nm) tb R9 Z 1838 [some (.ref b), some (.ref v), some (.ref m), some (.ref o), some (.ref od), some (.int (nI (6 * t))), none, none, none, none] [] h kc ks := by
  obtain ⟨⟨r1, r2⟩, ⟨r3, r4⟩, r5⟩ := hr
  refine x_aload_n dL_law_1838 rfl ?_
  refine x_aload_n dL_law_1839 rfl ?_
  refine x_iload dL_law_1840 rfl ?_
  refine x_iconst (nI 1) dL_law_1842 (by decide) ?_
  refine x_iadd_n dL_law_1843 ?_
  refine x_ialdB hs dL_law_1844 (by omega) (by omega) ?_
  refine x_callH dL_law_1845 cH_L_223 (w_save H.1 (xs (6 * t + 1))) rfl rfl ⟨⟨by omega, by show 8 + (3 + 11) + 36 * 8 ≤ _; omega⟩, by omega, by omega⟩ (Nat.le_of_ble_eq_true rfl) (fun _ _ q => q.elim) (fun v9 h9 q9 => ?_)
  have go : ∀ (k : Nat) (w1 : Wd) (s1 : Mo), v9 = some (.int (nI k)) → xLW v m o od w1 s h9 → (if okB (xs (6 * t + 1)) 2 = true then svM (mN s 1 0) (ix (xs (6 * t + 1))) else mN s 1 1) = s1 → s1.2.1 1 = k → rWM w1 s1 n → xP g l (mL_law nm) tb R9 Z 1848 [some (.ref b), some (.ref v), some (.ref m), some (.ref o), some (.ref od), some (.int (nI (6 * t))), none, none, none, none] (v9.toList ++ []) h9 (kc + 13) (ks + 250) := by
    rintro k w1 s1 rfl hx hs9 hs1 hw
    refine x_istore dL_law_1848 (Nat.le_of_ble_eq_true rfl) rfl rfl ?_
    refine x_aload_n dL_law_1850 rfl ?_
    refine x_aload_n dL_law_1851 rfl ?_
    refine x_iload dL_law_1852 rfl ?_
    refine x_iconst (nI 1) dL_law_1854 (by decide) ?_
    refine x_iadd_n dL_law_1855 ?_
    refine x_ialdB hs dL_law_1856 (by omega) (by omega) ?_
    refine xP.eq (h' := putMod h9 m s) rfl rfl rfl hx.self ?_
    refine x_callV dL_law_1857 cV_L_226 (c_mSave (h := h9) (xs (6 * t + 1))) rfl rfl ⟨⟨by omega, by show 8 + (2 + 11) + 36 * 1 ≤ _; omega⟩, by omega, by omega⟩ (Nat.le_of_ble_eq_true rfl) (xrecv putMod_at.o rfl xcl5) (fun _ _ q => q.elim) (fun v8 h8 q8 => ?_)
    obtain ⟨rfl, rfl⟩ := q8
    rw [hs9]
    refine x_aload_n dL_law_1860 rfl ?_
    refine x_vi0 dL_law_1861 cV_L_107 (c_mThrown (hx.mod s1).2.1) rfl rfl ⟨⟨by omega, by show 8 + (1 + 11) + 36 * 0 ≤ _; omega⟩, by omega, by omega⟩ (Nat.le_of_ble_eq_true rfl) (xrecv (hx.mod s1).2.1.o rfl xcl5) ?_
    rw [hs1]
    refine x_iload dL_law_1864 rfl ?_
    refine x_icmp_eq 1871 dL_law_1866 (by decide) (fun _ => ?_) (fun c => absurd rfl c)
    refine x_goto 1999 dL_law_1871 (by decide) ?_
    refine xP.weak (V' := [some (.ref b), some (.ref v), some (.ref m), some (.ref o), some (.ref od), some (.int (nI (6 * t))), none, none, none, none]) (by simp [xle, xset1, fin3]) ?_
    exact xP.widen (by omega) (by omega) (K _ _ _ (hx.mod s1) (hw.mono (by omega) (by omega)))
  rcases q9 with ⟨c1, hv, w1, hto, hk⟩ | ⟨c1, hv, hto⟩
  · exact go 0 w1 _ hv (H.x hto) (if_pos c1) rfl (W9.save (okB_lt c1) hk)
  · exact go 1 w _ hv (H.x hto) (if_neg (by rw [c1]; decide)) rfl (W9.thr 1)
theorem NV.okpf {st : Ar} {A : Nat → Nat} {n : Nat} (h : NV st A n) {p f : Int32} (q : mOkPF A p f = true) : ix p < st.1 2 ∧ ix f < st.1 1 := by
  unfold mOkPF at q
  rw [Bool.and_eq_true, h.r0.2.1, h.r0.2.2.1] at q
  exact ⟨okB_lt q.1, okB_lt q.2⟩
theorem k_chance (hs : xSc Z g b L xs) (hL : L ≤ 3072) (H : xLW v m o od w s h) (W9 : rWM w s n) (hi : 6 * t + 6 ≤ L) (hr : xRm R9 n kc ks) (K : xGo nm tb g l R9 Z b t v m o od n kc ks) : xP g l (mL_law nm) tb R9 Z 666 [some (.ref b), some (.ref v), some (.ref m), some (.ref o), some (.ref od), some (.int (nI (6 * t))), none, none, none, none] [] h kc ks := by
  obtain ⟨⟨r1, r2⟩, ⟨r3, r4⟩, r5⟩ := hr
  obtain ⟨fd, hf⟩ := H.2.2.1.2
  refine x_aload_n dL_law_666 rfl ?_
  refine x_aload_n dL_law_667 rfl ?_
  refine x_iload dL_law_668 rfl ?_
  refine x_iconst (nI 1) dL_law_670 (by decide) ?_
  refine x_iadd_n dL_law_671 ?_
  refine x_ialdB hs dL_law_672 (by omega) (by omega) ?_
  refine x_aload_n dL_law_673 rfl ?_
  refine x_iload dL_law_674 rfl ?_
  refine x_iconst (nI 2) dL_law_676 (by decide) ?_
  refine x_iadd_n dL_law_677 ?_
  refine x_ialdB hs dL_law_678 (by omega) (by omega) ?_
  refine x_aload_n dL_law_679 rfl ?_
  refine x_iload dL_law_680 rfl ?_
  refine x_iconst (nI 3) dL_law_682 (by decide) ?_
  refine x_iadd_n dL_law_683 ?_
  refine x_ialdB hs dL_law_684 (by omega) (by omega) ?_
  refine x_aload dL_law_685 rfl ?_
  refine x_callH dL_law_687 cH_L_135 (w_chance H.1 W9.1.1.aw hf (xs (6 * t + 1)) (xs (6 * t + 2)) (xs (6 * t + 3))) rfl rfl ⟨⟨by omega, by show 8 + (6 + 11) + 36 * 9 ≤ _; omega⟩, by omega, by omega⟩ (Nat.le_of_ble_eq_true rfl) (fun _ _ q => q.elim) (fun v9 h9 q9 => ?_)
  obtain ⟨rfl, q9⟩ := q9
  have eK := W9.1.1.chK (xs (6 * t + 1)) (xs (6 * t + 2)) (xs (6 * t + 3))
  have hk3 : chanceK w.1.1 (xs (6 * t + 1)) (xs (6 * t + 2)) (xs (6 * t + 3)) < 100 := by
    unfold chanceK
    (repeat' split) <;> decide
  have eV : chanceK w.1.1 (xs (6 * t + 1)) (xs (6 * t + 2)) (xs (6 * t + 3)) = 0 → mChV (s.1 0) (ix (xs (6 * t + 1))) (ix (xs (6 * t + 2))) (ix (xs (6 * t + 3))) = chanceV w.1.1 (ix (xs (6 * t + 1))) (ix (xs (6 * t + 2))) (ix (xs (6 * t + 3))) := fun q => by
    unfold chanceK at q
    split at q
    · split at q
      · rename_i c1 c2
        unfold okPF at c1
        rw [Bool.and_eq_true] at c1
        exact W9.1.1.chV (okB_lt c1.1) (okB_lt c1.2) c2 _
      · cases q
    · cases q
  have hx : xLW v m o od w s h9 ∧ (chanceK w.1.1 (xs (6 * t + 1)) (xs (6 * t + 2)) (xs (6 * t + 3)) = 0 → ∃ f, h9.1 od = some (.inl (4, 1, .inr (.inr (.inr (.inl f))))) ∧ f 0 = chanceV w.1.1 (ix (xs (6 * t + 1))) (ix (xs (6 * t + 2))) (ix (xs (6 * t + 3)))) := by
    rcases q9 with ⟨c1, rfl⟩ | ⟨c1, hto⟩
    · exact ⟨H.outD _, fun _ => ⟨_, if_pos rfl, rfl⟩⟩
    · exact ⟨H.x hto, fun q => by omega⟩
  obtain ⟨hx, hf9⟩ := hx
  generalize chanceV w.1.1 (ix (xs (6 * t + 1))) (ix (xs (6 * t + 2))) (ix (xs (6 * t + 3))) = V9 at *
  generalize hk9 : chanceK w.1.1 (xs (6 * t + 1)) (xs (6 * t + 2)) (xs (6 * t + 3)) = k at *
  refine x_istore dL_law_690 (Nat.le_of_ble_eq_true rfl) rfl rfl ?_
  refine x_aload_n dL_law_692 rfl ?_
  refine x_aload_n dL_law_693 rfl ?_
  refine x_iload dL_law_694 rfl ?_
  refine x_iconst (nI 1) dL_law_696 (by decide) ?_
  refine x_iadd_n dL_law_697 ?_
  refine x_ialdB hs dL_law_698 (by omega) (by omega) ?_
  refine x_aload_n dL_law_699 rfl ?_
  refine x_iload dL_law_700 rfl ?_
  refine x_iconst (nI 2) dL_law_702 (by decide) ?_
  refine x_iadd_n dL_law_703 ?_
  refine x_ialdB hs dL_law_704 (by omega) (by omega) ?_
  refine x_aload_n dL_law_705 rfl ?_
  refine x_iload dL_law_706 rfl ?_
  refine x_iconst (nI 3) dL_law_708 (by decide) ?_
  refine x_iadd_n dL_law_709 ?_
  refine x_ialdB hs dL_law_710 (by omega) (by omega) ?_
  refine xP.eq (h' := putMod h9 m s) rfl rfl rfl hx.self ?_
  refine x_callV dL_law_711 cV_L_138 (c_mChance (h := h9) W9.1.1.k (xs (6 * t + 1)) (xs (6 * t + 2)) (xs (6 * t + 3)) (fun q => W9.1.1.chB (W9.1.1.okpf q).1 (W9.1.1.okpf q).2)) rfl rfl ⟨⟨by omega, by show 8 + (9 + 11) + 36 * 3 ≤ _; omega⟩, by omega, by omega⟩ (Nat.le_of_ble_eq_true rfl) (xrecv putMod_at.o rfl xcl5) (fun _ _ q => q.elim) (fun v8 h8 q8 => ?_)
  obtain ⟨y, rfl, hy, rfl⟩ := q8
  rw [eK] at hy ⊢
  have hM := (hx.mod (mN s 1 k)).2.1
  have e1 : (mN s 1 k).2.1 1 = k := rfl
  have hO := (hx.mod (mN s 1 k)).2.2.2.1
  have fin : ∀ V, xle [some (.ref b), some (.ref v), some (.ref m), some (.ref o), some (.ref od), some (.int (nI (6 * t))), none, none, none, none] V true → xP g l (mL_law nm) tb R9 Z 764 V [] (putMod h9 m (mN s 1 k)) (kc + 3) (ks + 18) := fun V hV => by
    refine x_goto 1999 dL_law_764 (by decide) ?_
    refine xP.weak hV ?_
    exact xP.widen (by omega) (by omega) (K _ _ _ (hx.mod _) ((W9.thr k).mono (by omega) (by omega)))
  refine x_dstore dL_law_714 (Nat.le_of_ble_eq_true rfl) rfl rfl ?_
  refine x_aload_n dL_law_716 rfl ?_
  refine x_vi0 dL_law_717 cV_L_107 (c_mThrown hM) rfl rfl ⟨⟨by omega, by show 8 + (1 + 11) + 36 * 0 ≤ _; omega⟩, by omega, by omega⟩ (Nat.le_of_ble_eq_true rfl) (xrecv hM.o rfl xcl5) ?_
  rw [e1]
  refine x_iload dL_law_720 rfl ?_
  refine x_icmp_eq 727 dL_law_722 (by decide) (fun _ => ?_) (fun c => absurd rfl c)
  refine x_iload dL_law_727 rfl ?_
  refine x_if_ne_n 764 dL_law_729 (by decide) (by omega) (fun _ => fin _ (by simp [xle, xset1, xset2, fin3])) (fun c => ?_)
  obtain ⟨f, f1, f2⟩ := hf9 c
  have f1' : (putMod h9 m (mN s 1 k)).1 od = some (.inl (4, 1, .inr (.inr (.inr (.inl f))))) := by rw [putMod_out (by omega)]; exact f1
  refine x_aload dL_law_732 rfl ?_
  refine x_iconst (nI 0) dL_law_734 (by decide) ?_
  refine x_dald dL_law_735 f1' (by decide) (by decide) ?_
  refine x_dload dL_law_736 rfl ?_
  refine x_dcmp dL_law_738 ?_
  rw [f2, hy c, eV c]
  refine x_if_eq 764 dL_law_739 (by decide) (fun _ => fin _ (by simp [xle, xset1, xset2, fin3])) (fun c9 => ?_)
  refine x_aload dL_law_742 rfl ?_
  refine x_iconst (nI 0) dL_law_744 (by decide) ?_
  refine x_dald dL_law_745 f1' (by decide) (by decide) ?_
  refine x_aload dL_law_746 rfl ?_
  refine x_iconst (nI 0) dL_law_748 (by decide) ?_
  refine x_dald dL_law_749 f1' (by decide) (by decide) ?_
  refine x_dcmp dL_law_750 ?_
  rw [f2]
  refine x_if_eq 762 dL_law_751 (by decide) (fun c8 => absurd c8 c9) (fun _ => ?_)
  refine x_dload dL_law_754 rfl ?_
  refine x_dload dL_law_756 rfl ?_
  refine x_dcmp dL_law_758 ?_
  exact x_if_ne 764 dL_law_759 (by decide) (fun _ => fin _ (by simp [xle, xset1, xset2, fin3])) (fun c8 => absurd c8 c9)
theorem k_soundness (hs : xSc Z g b L xs) (hL : L ≤ 3072) (H : xLW v m o od w s h) (W9 : rWM w s n) (hi : 6 * t + 6 ≤ L) (hr : xRm R9 n kc ks) (K : xGo nm tb g l R9 Z b t v m o od n kc ks) : xP g l (mL_law nm) tb R9 Z 1205 [some (.ref b), some (.ref v), some (.ref m), some (.ref o), some (.ref od), some (.int (nI (6 * t))), none, none, none, none] [] h kc ks := by
  obtain ⟨⟨r1, r2⟩, ⟨r3, r4⟩, r5⟩ := hr
  refine x_aload_n dL_law_1205 rfl ?_
  refine x_callV dL_law_1206 cV_L_181 (c_soundness H.1 W9.1.1.aw) rfl rfl ⟨⟨by omega, by show 8 + (2 + 11) + 36 * 4 ≤ _; omega⟩, by omega, by omega⟩ (Nat.le_of_ble_eq_true rfl) (xrecv H.1.o rfl xcl4) (fun _ _ q => q.elim) (fun v9 h9 q9 => ?_)
  obtain ⟨rfl, rfl⟩ := q9
  have hn9 := sdF_n w.1.1 W9.1.1.ok
  refine x_f2d dL_law_1209 hn9 ?_
  refine x_dstore dL_law_1210 (Nat.le_of_ble_eq_true rfl) rfl rfl ?_
  refine x_aload_n dL_law_1212 rfl ?_
  refine xP.eq (h' := putMod h9 m s) rfl rfl rfl H.self ?_
  refine x_callV dL_law_1213 cV_L_185 (c_mSoundness (h := h9) W9.1.1.k) rfl rfl ⟨⟨by omega, by show 8 + (2 + 11) + 36 * 4 ≤ _; omega⟩, by omega, by omega⟩ (Nat.le_of_ble_eq_true rfl) (xrecv putMod_at.o rfl xcl5) (fun _ _ q => q.elim) (fun v8 h8 q8 => ?_)
  obtain ⟨rfl, rfl⟩ := q8
  rw [W9.1.1.sdn]
  refine x_f2d dL_law_1216 hn9 ?_
  refine x_dstore dL_law_1217 (Nat.le_of_ble_eq_true rfl) rfl rfl ?_
  generalize FP.f2d (sdF w.1.1) = d at *
  have fin : ∀ V, xle [some (.ref b), some (.ref v), some (.ref m), some (.ref o), some (.ref od), some (.int (nI (6 * t))), none, none, none, none] V true → xP g l (mL_law nm) tb R9 Z 1245 V [] (putMod h9 m (mN s 1 0)) (kc + 0 + 0) (ks + 0 + 0) := fun V hV => by
    refine x_goto 1999 dL_law_1245 (by decide) ?_
    refine xP.weak hV ?_
    exact xP.widen (by omega) (by omega) (K _ _ _ (H.mod _) ((W9.thr 0).mono (by omega) (by omega)))
  refine x_dload dL_law_1219 rfl ?_
  refine x_dload dL_law_1221 rfl ?_
  refine x_dcmp dL_law_1223 ?_
  refine x_if_eq 1245 dL_law_1224 (by decide) (fun _ => fin _ (by simp [xle, xset1, xset2, fin3])) (fun c9 => ?_)
  refine x_dload dL_law_1227 rfl ?_
  refine x_dload dL_law_1229 rfl ?_
  refine x_dcmp dL_law_1231 ?_
  refine x_if_eq 1243 dL_law_1232 (by decide) (fun c8 => absurd c8 c9) (fun _ => ?_)
  refine x_dload dL_law_1235 rfl ?_
  refine x_dload dL_law_1237 rfl ?_
  refine x_dcmp dL_law_1239 ?_
  exact x_if_ne 1245 dL_law_1240 (by decide) (fun _ => fin _ (by simp [xle, xset1, xset2, fin3])) (fun c8 => absurd c8 c9)

end LE
