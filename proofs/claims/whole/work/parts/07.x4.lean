/-! ===== the small machine: arraycopy, throws ===== -/
section X4
variable {g : xG} {l : Launch} {M : xM} {tb : List (Nat × Nat × Nat × Nat)} {R : Room} {Z : List Frame → Array Value → State → State → Prop} {pc : Nat} {V : List (Option Value)} {S : List Value} {h : xH} {kc ks : Nat}
theorem x_copyi {a0 a n0 n1 sp dp n : Nat} {f f1 : Nat → Int32} (hd : decode M.2.1 pc = .ok (.invokestatic 71, 3)) (hm : M.1.cls = RX0) (ha0 : h.1 a0 = some (.inl (0, n0, .inl f))) (ha1 : h.1 a = some (.inl (0, n1, .inl f1))) (h4 : sp + n ≤ n0) (h5 : dp + n ≤ n1) (hz0 : n0 < 2 ^ 31) (hz1 : n1 < 2 ^ 31) (hR : 1 ≤ R.frames) (hR2 : (S.map fun v => v.category).sum + (nativeFrameWords "java/lang/System" "arraycopy" 5 + 11) ≤ R.locals)
    (K : xP g l M tb R Z (pc + 3) V S (hset h a (.inl (0, n1, .inl (va_cpy f f1 sp dp n)))) kc ks) : xP g l M tb R Z pc V (.int (nI n) :: .int (nI dp) :: .ref a :: .int (nI sp) :: .ref a0 :: S) h kc ks := by
  intro p e s m args below meth c H locs ls B hC hS hl
  obtain ⟨hx, hb, hr, hml, hown, hts, hlk, hnm, htb, hI, hz, hst⟩ := id B
  rw [hm] at hown
  have hK : va_K (gD g) vwCl (xtys g) s := hI.1.1
  have c1 : (nI n).toNatClampNeg = n := nI_clamp (by omega)
  have c2 : (nI sp).toNatClampNeg = sp := nI_clamp (by omega)
  have c3 : (nI dp).toNatClampNeg = dp := nI_clamp (by omega)
  have i1 : (nI n).toInt = (n : Int) := nI_toInt (by omega)
  have i2 : (nI sp).toInt = (sp : Int) := nI_toInt (by omega)
  have i3 : (nI dp).toInt = (dp : Int) := nI_toInt (by omega)
  intro T hT X
  have hc0 : H[a0]? = some (vp_cell (gA g 0) (n0, .inl f)) := (hC.2.2.2 a0 _ ha0).2
  have hc1 : H[a]? = some (vp_cell (gA g 0) (n1, .inl f1)) := (hC.2.2.2 a _ ha1).2
  obtain ⟨-, k0, hk0, cm0, hkk0⟩ := (hK.2 0 _ rfl).1 n0 (fun j => .int (f j))
  obtain ⟨-, k1, hk1, cm1, hkk1⟩ := (hK.2 0 _ rfl).1 n1 (fun j => .int (f1 j))
  obtain ⟨vm', X', step⟩ := X.arraycopy hx hown (hts _ ac_link) (hts _ ac_native) (hts _ ac_static) (hts _ ac_init) (src := a0) (dst := a) (cs := vp_cell (gA g 0) (n0, .inl f)) (cd := vp_cell (gA g 0) (n1, .inl f1)) (srcPos := nI sp) (destPos := nI dp) (n := nI n) (by rw [hT]; exact hc0) (by rw [hT]; exact hc1)
    (fun _ h => by cases h) (fun _ h => by cases h) (fun h => by cases h) (fun h => by cases h) hk0 hk1 hkk0 hkk1 (by simp [refKind, xT]) (nI_pos (by omega)) (nI_pos (by omega)) (nI_pos (by omega))
    (by rw [i2, i1]; show ¬ _ > ((arrV _ n0 (fun j => .int (f j))).slots.size : Int); rw [arrV_size]; omega)
    (by rw [i3, i1]; show ¬ _ > ((arrV _ n1 (fun j => .int (f1 j))).slots.size : Int); rw [arrV_size]; omega)
    (fun vm₁ _ i hi => by
      rw [c1] at hi
      have e : (vp_cell (gA g 0) (n0, .inl f)).slots.getD ((nI sp).toNatClampNeg + i) .null = .int (f (sp + i)) := by
        show (arrV _ n0 (fun j => .int (f j))).slots.getD _ _ = _
        rw [c2, Array.getD_eq_getD_getElem?, arrV_read _ _ (by omega)]
        rfl
      refine ⟨?_, ?_⟩
      · rw [e]
        rfl
      · rw [e]
        exact trivial)
    (g := F0 m pc ls (.int (nI n) :: .int (nI dp) :: .ref a :: .int (nI sp) :: .ref a0 :: S)) rfl (by rw [hml]; exact hl.1) (rest := S) rfl (by rw [hb]; exact hd) hR (by show 2 * 0 + _ + _ ≤ _; omega)
  have e1 : copied (vp_cell (gA g 0) (n0, .inl f)) (vp_cell (gA g 0) (n1, .inl f1)) (nI sp) (nI dp) (nI n) = vp_cell (gA g 0) (n1, .inl (va_cpy f f1 sp dp n)) := by
    have this : copied (vp_cell (gA g 0) (n0, .inl f)) (vp_cell (gA g 0) (n1, .inl f1)) (nI sp) (nI dp) (nI n) = vp_cell (gA g 0) (n1, .inl (va_cpy f f1 (nI sp).toNatClampNeg (nI dp).toNatClampNeg (nI n).toNatClampNeg)) := va_copied (fun z => .int z) (gA g 0) (gA g 0) f f1 (by rw [c1, c2]; exact h4)
    rw [c1, c2, c3] at this
    exact this
  rw [e1] at X' step
  have hlt : a < H.size := (Array.getElem?_eq_some_iff.mp hc1).1
  have hheap : ((T.setVm vm').setCell a (vp_cell (gA g 0) (n1, .inl (va_cpy f f1 sp dp n)))).heap = H.setIfInBounds a (vp_cell (gA g 0) (n1, .inl (va_cpy f f1 sp dp n))) := by rw [← hT]; rfl
  have oq : ∀ q : Nat, q ≠ a → (H.setIfInBounds a (vp_cell (gA g 0) (n1, .inl (va_cpy f f1 sp dp n))))[q]? = H[q]? := fun q hq => by simp [Array.getElem?_setIfInBounds, Ne.symm hq]
  have hA := (hC.2.2.2 a _ ha1).1
  obtain ⟨t, a1, b1⟩ := K p e s m args below meth c _ _ ls B (hC.set ha1 (show (H.setIfInBounds a _)[a]? = some _ by simp [Array.getElem?_setIfInBounds, hlt]) (by simp) oq) ⟨by simp; exact hS.1, fun q g1 g2 => by
      rw [oq q (fun e => g2 (by rw [e]; exact hA))]
      exact hS.2.1 q g1 g2, fun q hq => by
      rcases List.mem_append.mp hq with h | h
      · exact hS.2.2 q h
      · obtain ⟨z, -, hz⟩ := List.mem_map.mp h
        rw [← hz]
        exact hA⟩ hl _ hheap X'
  exact ⟨t, step t a1, b1⟩
theorem x_copyl {a0 a n0 n1 sp dp n : Nat} {f f1 : Nat → Int64} (hd : decode M.2.1 pc = .ok (.invokestatic 71, 3)) (hm : M.1.cls = RX0) (ha0 : h.1 a0 = some (.inl (2, n0, .inr (.inl f)))) (ha1 : h.1 a = some (.inl (2, n1, .inr (.inl f1)))) (h4 : sp + n ≤ n0) (h5 : dp + n ≤ n1) (hz0 : n0 < 2 ^ 31) (hz1 : n1 < 2 ^ 31) (hR : 1 ≤ R.frames) (hR2 : (S.map fun v => v.category).sum + (nativeFrameWords "java/lang/System" "arraycopy" 5 + 11) ≤ R.locals)
    (K : xP g l M tb R Z (pc + 3) V S (hset h a (.inl (2, n1, .inr (.inl (va_cpy f f1 sp dp n))))) kc ks) : xP g l M tb R Z pc V (.int (nI n) :: .int (nI dp) :: .ref a :: .int (nI sp) :: .ref a0 :: S) h kc ks := by
  intro p e s m args below meth c H locs ls B hC hS hl
  obtain ⟨hx, hb, hr, hml, hown, hts, hlk, hnm, htb, hI, hz, hst⟩ := id B
  rw [hm] at hown
  have hK : va_K (gD g) vwCl (xtys g) s := hI.1.1
  have c1 : (nI n).toNatClampNeg = n := nI_clamp (by omega)
  have c2 : (nI sp).toNatClampNeg = sp := nI_clamp (by omega)
  have c3 : (nI dp).toNatClampNeg = dp := nI_clamp (by omega)
  have i1 : (nI n).toInt = (n : Int) := nI_toInt (by omega)
  have i2 : (nI sp).toInt = (sp : Int) := nI_toInt (by omega)
  have i3 : (nI dp).toInt = (dp : Int) := nI_toInt (by omega)
  intro T hT X
  have hc0 : H[a0]? = some (vp_cell (gA g 2) (n0, .inr (.inl f))) := (hC.2.2.2 a0 _ ha0).2
  have hc1 : H[a]? = some (vp_cell (gA g 2) (n1, .inr (.inl f1))) := (hC.2.2.2 a _ ha1).2
  obtain ⟨-, k0, hk0, cm0, hkk0⟩ := (hK.2 2 _ rfl).1 n0 (fun j => .long (f j))
  obtain ⟨-, k1, hk1, cm1, hkk1⟩ := (hK.2 2 _ rfl).1 n1 (fun j => .long (f1 j))
  obtain ⟨vm', X', step⟩ := X.arraycopy hx hown (hts _ ac_link) (hts _ ac_native) (hts _ ac_static) (hts _ ac_init) (src := a0) (dst := a) (cs := vp_cell (gA g 2) (n0, .inr (.inl f))) (cd := vp_cell (gA g 2) (n1, .inr (.inl f1))) (srcPos := nI sp) (destPos := nI dp) (n := nI n) (by rw [hT]; exact hc0) (by rw [hT]; exact hc1)
    (fun _ h => by cases h) (fun _ h => by cases h) (fun h => by cases h) (fun h => by cases h) hk0 hk1 hkk0 hkk1 (by simp [refKind, xT]) (nI_pos (by omega)) (nI_pos (by omega)) (nI_pos (by omega))
    (by rw [i2, i1]; show ¬ _ > ((arrV _ n0 (fun j => .long (f j))).slots.size : Int); rw [arrV_size]; omega)
    (by rw [i3, i1]; show ¬ _ > ((arrV _ n1 (fun j => .long (f1 j))).slots.size : Int); rw [arrV_size]; omega)
    (fun vm₁ _ i hi => by
      rw [c1] at hi
      have e : (vp_cell (gA g 2) (n0, .inr (.inl f))).slots.getD ((nI sp).toNatClampNeg + i) .null = .long (f (sp + i)) := by
        show (arrV _ n0 (fun j => .long (f j))).slots.getD _ _ = _
        rw [c2, Array.getD_eq_getD_getElem?, arrV_read _ _ (by omega)]
        rfl
      refine ⟨?_, ?_⟩
      · rw [e]
        rfl
      · rw [e]
        exact trivial)
    (g := F0 m pc ls (.int (nI n) :: .int (nI dp) :: .ref a :: .int (nI sp) :: .ref a0 :: S)) rfl (by rw [hml]; exact hl.1) (rest := S) rfl (by rw [hb]; exact hd) hR (by show 2 * 0 + _ + _ ≤ _; omega)
  have e1 : copied (vp_cell (gA g 2) (n0, .inr (.inl f))) (vp_cell (gA g 2) (n1, .inr (.inl f1))) (nI sp) (nI dp) (nI n) = vp_cell (gA g 2) (n1, .inr (.inl (va_cpy f f1 sp dp n))) := by
    have this : copied (vp_cell (gA g 2) (n0, .inr (.inl f))) (vp_cell (gA g 2) (n1, .inr (.inl f1))) (nI sp) (nI dp) (nI n) = vp_cell (gA g 2) (n1, .inr (.inl (va_cpy f f1 (nI sp).toNatClampNeg (nI dp).toNatClampNeg (nI n).toNatClampNeg))) := va_copied (fun z => .long z) (gA g 2) (gA g 2) f f1 (by rw [c1, c2]; exact h4)
    rw [c1, c2, c3] at this
    exact this
  rw [e1] at X' step
  have hlt : a < H.size := (Array.getElem?_eq_some_iff.mp hc1).1
  have hheap : ((T.setVm vm').setCell a (vp_cell (gA g 2) (n1, .inr (.inl (va_cpy f f1 sp dp n))))).heap = H.setIfInBounds a (vp_cell (gA g 2) (n1, .inr (.inl (va_cpy f f1 sp dp n)))) := by rw [← hT]; rfl
  have oq : ∀ q : Nat, q ≠ a → (H.setIfInBounds a (vp_cell (gA g 2) (n1, .inr (.inl (va_cpy f f1 sp dp n)))))[q]? = H[q]? := fun q hq => by simp [Array.getElem?_setIfInBounds, Ne.symm hq]
  have hA := (hC.2.2.2 a _ ha1).1
  obtain ⟨t, a1, b1⟩ := K p e s m args below meth c _ _ ls B (hC.set ha1 (show (H.setIfInBounds a _)[a]? = some _ by simp [Array.getElem?_setIfInBounds, hlt]) (by simp) oq) ⟨by simp; exact hS.1, fun q g1 g2 => by
      rw [oq q (fun e => g2 (by rw [e]; exact hA))]
      exact hS.2.1 q g1 g2, fun q hq => by
      rcases List.mem_append.mp hq with h | h
      · exact hS.2.2 q h
      · obtain ⟨z, -, hz⟩ := List.mem_map.mp h
        rw [← hz]
        exact hA⟩ hl _ hheap X'
  exact ⟨t, step t a1, b1⟩
end X4

/-! throws -/
def xCh : List String := ["java/lang/RuntimeException", "java/lang/Exception"]
theorem mn_X4_178 : Cond.methodLink RX4 178 Lib.Math.min.name ∈ xW := x_in 388 (by decide +kernel) rfl
theorem mn_X1_29 : Cond.methodLink RX1 29 Lib.Math.min.name ∈ xW := x_in 483 (by decide +kernel) rfl
theorem mn_X6_101 : Cond.methodLink RX6 101 Lib.Math.min.name ∈ xW := x_in 1196 (by decide +kernel) rfl
theorem mn_static : Cond.static Lib.Math.min.name ∈ xW := x_in 389 (by decide +kernel) rfl
theorem mn_code : Cond.code Lib.Math.min.name Lib.Math.min.code 2 (some .int) ∈ xW := x_in 390 (by decide +kernel) rfl
theorem mn_init : Cond.initialized "java/lang/Math" ∈ xW := x_in 102 (by decide +kernel) rfl
section X5
variable {g : xG} {l : Launch} {M : xM} {tb : List (Nat × Nat × Nat × Nat)} {R : Room} {pc : Nat} {V : List (Option Value)} {S : List Value} {h : xH} {kc ks : Nat} {Q : Option Value → xH → Prop} {X : String → xH → Prop} {mc ms : Nat}
/-- the words of 'throw new cls(..)' in the class own -/
def xTh (own cls : String) (ik ic : Nat) : Prop := Cond.classLink own ik cls ∈ xW ∧ Cond.initialized cls ∈ xW ∧ (cls, cls) ∈ xKl ∧ Bundle.fit cls = true ∧ (∀ w ∈ vx_atS own ic cls xCh, w ∈ xW ∨ w = .castable cls cls ∨ w ∈ xDl.map Cond.declares) ∧ ∀ w ∈ Cond.classLink own ik cls :: Cond.initialized cls :: vx_atS own ic cls xCh, vx_ot w = true
theorem th_ISE : xTh RX5 "java/lang/IllegalStateException" 66 70 := ⟨l_X5_66, x_in 97 (by decide +kernel) rfl, by decide +kernel, by decide +kernel, fun w hw => (show ∀ w ∈ vx_atS RX5 70 "java/lang/IllegalStateException" xCh, (w ∈ lw_tbl ∧ goodWord w = true) ∨ w = .castable "java/lang/IllegalStateException" "java/lang/IllegalStateException" ∨ w ∈ xDl.map Cond.declares by decide +kernel) w hw |>.imp_left (fun q => List.mem_filter.mpr q), by decide +kernel⟩
theorem th_IAE : xTh RX5 "java/lang/IllegalArgumentException" 127 131 := ⟨l_X5_127, x_in 105 (by decide +kernel) rfl, by decide +kernel, by decide +kernel, fun w hw => (show ∀ w ∈ vx_atS RX5 131 "java/lang/IllegalArgumentException" xCh, (w ∈ lw_tbl ∧ goodWord w = true) ∨ w = .castable "java/lang/IllegalArgumentException" "java/lang/IllegalArgumentException" ∨ w ∈ xDl.map Cond.declares by decide +kernel) w hw |>.imp_left (fun q => List.mem_filter.mpr q), by decide +kernel⟩
theorem th_OOB : xTh RX5 "java/lang/IndexOutOfBoundsException" 253 257 := ⟨l_X5_253, x_in 106 (by decide +kernel) rfl, by decide +kernel, by decide +kernel, fun w hw => (show ∀ w ∈ vx_atS RX5 257 "java/lang/IndexOutOfBoundsException" xCh, (w ∈ lw_tbl ∧ goodWord w = true) ∨ w = .castable "java/lang/IndexOutOfBoundsException" "java/lang/IndexOutOfBoundsException" ∨ w ∈ xDl.map Cond.declares by decide +kernel) w hw |>.imp_left (fun q => List.mem_filter.mpr q), by decide +kernel⟩
theorem x_throw {ik ic is j : Nat} {cls text : String} {bs : List Int32} (hT : xTh M.1.cls cls ik ic) (hj : xStr[j]? = some (M.1.cls, is, text, bs)) (htb9 : tb = [])
    (d0 : decode M.2.1 pc = .ok (.new ik, 3)) (d3 : decode M.2.1 (pc + 3) = .ok (.dup, 1)) (d4 : decode M.2.1 (pc + 4) = .ok (.ldc is, 2)) (d6 : decode M.2.1 (pc + 6) = .ok (.invokespecial ic, 3)) (d9 : decode M.2.1 (pc + 9) = .ok (.athrow, 1))
    (hR : 5 < R.frames) (hRl : (S.map fun v => v.category).sum + 82 ≤ R.locals) (hRc : kc + 1 ≤ R.cells) (hRs : ks + 6 ≤ R.slots) (hc : kc + 1 ≤ mc) (hs : ks + 6 ≤ ms) (hX : ∀ n, h.2 ≤ n → X cls (h.1, n)) : xP g l M tb R (xZ g Q X mc ms) pc V S h kc ks := by
  intro p e s m args below meth c H locs ls B hC hS hl
  obtain ⟨hx, hb, hr, hml, hown, hts, hlk, hnm, htb, hI, hz, hst⟩ := id B
  obtain ⟨t1, t2, t3, t4, t5, t6⟩ := hT
  subst htb9
  exact vx_throwS (sa := gS g j) (names := xCh) hx hb hst hown t4 (by decide +kernel) (hts _ t1) (hts _ t2) (hI.2.2.2.2.2 j _ hj).1 (fun w hw => (t5 w hw).elim (hts w) (fun q => q.elim (fun e => by rw [e]; exact va_Nw.use rfl (hI.1.2.2.2.1 _ t3)) (fun e => by obtain ⟨y, hy, rfl⟩ := List.mem_map.mp e; exact va_Nw.use rfl (hI.1.2.2.2.2.2 y hy)))) t6 hI.2.1 hI.2.2.1 hS (by rw [hml]; exact hl.1) d0 d3 d4 d6 d9 (fun x hx9 => by rw [htb] at hx9; cases hx9) hR hRl hRc hRs hlk
    (fun t hA hz1 hk1 => ⟨(h.1, t.heap.size), hX _ (by rw [← hC.1]; exact hz1), ⟨rfl, Nat.le_trans hC.2.1 (by rw [← hC.1]; exact hz1), fun q hq => (hk1 q (by have := hC.1; have := hC.2.1; omega)).trans (hC.2.2.1 q hq), fun a e9 ha => ⟨(hC.2.2.2 a e9 ha).1, (hC.2.2.2 a e9 ha).2.kept (hk1 a (hC.2.2.2 a e9 ha).2.lt)⟩⟩, Nat.le_trans hS.1 hz1⟩) hS.2.2 hc hs
theorem x_throwW {ik ic is j : Nat} {cls text : String} {bs : List Int32} (hT : xTh M.1.cls cls ik ic) (hj : xStr[j]? = some (M.1.cls, is, text, bs)) (htb9 : tb = [])
    (d0 : decode M.2.1 pc = .ok (.new ik, 3)) (d3 : decode M.2.1 (pc + 3) = .ok (.dup, 1)) (d4 : decode M.2.1 (pc + 4) = .ok (.ldc_w is, 3)) (d6 : decode M.2.1 (pc + 7) = .ok (.invokespecial ic, 3)) (d9 : decode M.2.1 (pc + 10) = .ok (.athrow, 1))
    (hR : 5 < R.frames) (hRl : (S.map fun v => v.category).sum + 82 ≤ R.locals) (hRc : kc + 1 ≤ R.cells) (hRs : ks + 6 ≤ R.slots) (hc : kc + 1 ≤ mc) (hs : ks + 6 ≤ ms) (hX : ∀ n, h.2 ≤ n → X cls (h.1, n)) : xP g l M tb R (xZ g Q X mc ms) pc V S h kc ks := by
  intro p e s m args below meth c H locs ls B hC hS hl
  obtain ⟨hx, hb, hr, hml, hown, hts, hlk, hnm, htb, hI, hz, hst⟩ := id B
  obtain ⟨t1, t2, t3, t4, t5, t6⟩ := hT
  subst htb9
  exact vx_throwSW (sa := gS g j) (names := xCh) hx hb hst hown t4 (by decide +kernel) (hts _ t1) (hts _ t2) (hI.2.2.2.2.2 j _ hj).1 (fun w hw => (t5 w hw).elim (hts w) (fun q => q.elim (fun e => by rw [e]; exact va_Nw.use rfl (hI.1.2.2.2.1 _ t3)) (fun e => by obtain ⟨y, hy, rfl⟩ := List.mem_map.mp e; exact va_Nw.use rfl (hI.1.2.2.2.2.2 y hy)))) t6 hI.2.1 hI.2.2.1 hS (by rw [hml]; exact hl.1) d0 d3 d4 d6 d9 (fun x hx9 => by rw [htb] at hx9; cases hx9) hR hRl hRc hRs hlk
    (fun t hA hz1 hk1 => ⟨(h.1, t.heap.size), hX _ (by rw [← hC.1]; exact hz1), ⟨rfl, Nat.le_trans hC.2.1 (by rw [← hC.1]; exact hz1), fun q hq => (hk1 q (by have := hC.1; have := hC.2.1; omega)).trans (hC.2.2.1 q hq), fun a e9 ha => ⟨(hC.2.2.2 a e9 ha).1, (hC.2.2.2 a e9 ha).2.kept (hk1 a (hC.2.2.2 a e9 ha).2.lt)⟩⟩, Nat.le_trans hS.1 hz1⟩) hS.2.2 hc hs
/-- Math.min -/
theorem x_mmin {i : Nat} {x y : Int32} {Z : List Frame → Array Value → State → State → Prop} (hd : decode M.2.1 pc = .ok (.invokestatic i, 3)) (hw : Cond.methodLink M.1.cls i Lib.Math.min.name ∈ xW) (hR : 1 ≤ R.frames) (hRl : (S.map fun v => v.category).sum + 13 ≤ R.locals) (hRc : kc ≤ R.cells) (hRs : ks ≤ R.slots) (K : xP g l M tb R Z (pc + 3) V (.int (if y < x then y else x) :: S) h kc ks) : xP g l M tb R Z pc V (.int y :: .int x :: S) h kc ks := by
  intro p e s m args below meth c H locs ls B hC hS hl
  obtain ⟨hx, hb, hr, hml, hown, hts, hlk, hnm, htb, hI, hz, hst⟩ := id B
  exact va_mmin hx hb (by rw [hml]; exact hl.1.symm) hown (hts _ hw) (hts _ mn_static) (hts _ mn_init) (hts _ mn_code) hR hRl hRc hRs hd (K p e s m args below meth c H locs ls B hC hS hl)
end X5
