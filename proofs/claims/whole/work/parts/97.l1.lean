/-! ===== the law: methods with handlers ===== -/
def xHok (M : xM) (tb : List (Nat × Nat × Nat × Nat)) (n : Nat) : Prop := Cond.codeWith M.1 M.2.1 M.2.2.1 M.2.2.2 tb ∈ xW ∧ Cond.initialized M.1.cls ∈ xW ∧ plainName M.1.cls = true ∧ (M.1.cls ≠ "java/lang/invoke/MethodHandle" ∧ M.1.cls ≠ "java/lang/invoke/VarHandle") ∧ (parseMethodDescriptor M.1.desc).map (fun d => d.parameters.length) = some n
def xCH (own : String) (i : Nat) (M : xM) (tb : List (Nat × Nat × Nat × Nat)) (n : Nat) : Prop := (xHok M tb n ∧ Cond.static M.1 ∈ xW) ∧ Cond.methodLink own i M.1 ∈ xW
/-- the contract of a method that has handlers -/
def xMetH (g : xG) (l : Launch) (M : xM) (tb : List (Nat × Nat × Nat × Nat)) (fr mc ms : Nat) (As : List Value) (h : xH) (Q : Option Value → xH → Prop) (X : String → xH → Prop) : Prop := l.stackTraces = false → vx_Met l M.1 (Cond.codeWith M.1 M.2.1 M.2.2.1 M.2.2.2 tb :: xW) (xR fr mc ms) (xPc g As h) (xQ g Q) (xX g X) mc ms (gO g)
theorem xMetH.of {g : xG} {l : Launch} {M : xM} {tb : List (Nat × Nat × Nat × Nat)} {n fr mc ms : Nat} {As : List Value} {h : xH} {Q : Option Value → xH → Prop} {X : String → xH → Prop} {V : List (Option Value)} (hM : xHok M tb n) (hlen : (lg_sl As).length ≤ M.2.2.1) (hV : xV As ++ List.replicate (M.2.2.1 - (lg_sl As).length) none = V)
    (body : xP g l M tb (xR fr mc ms) (xZ g Q X mc ms) 0 V [] h 0 0) : xMetH g l M tb fr mc ms As h Q X := by
  intro hst
  refine vx_ofWH (cc := M.2.1) (maxL := M.2.2.1) (ret := M.2.2.2) (hh := tb) hM.2.2.1 rfl ?_
  intro p e s m args below meth c s₁ B hml hP
  obtain ⟨rfl, hC, hI⟩ := hP
  have hts := atoms_spec (ws := Cond.codeWith M.1 M.2.1 M.2.2.1 M.2.2.2 tb :: xW) B.pre
  rw [lg_entry_eq]
  have hl0 := lv_entry As hlen
  refine body p e s m _ below meth c s.heap [] _ ⟨B.exec, B.bytes, B.returns, hml, findClass_of_methodNamed B.named, fun w hw => hts w (List.mem_cons_of_mem _ hw), B.notSynchronized, (name_of_methodNamed B.named B.method).1, vx_table (x := M.1) B (hts _ List.mem_cons_self), hI, ?_, hst⟩ hC va_S.rf (xL.sub hl0 fun k v hk => ?_)
  · rw [hC.1]; exact hC.2.1
  · rw [← hV] at hk
    have := xV_args As _ 0 k hk
    rwa [Nat.zero_add] at this
section L1
variable {g : xG} {l : Launch} {M : xM} {tb : List (Nat × Nat × Nat × Nat)} {R : Room} {Z : List Frame → Array Value → State → State → Prop} {pc : Nat} {V : List (Option Value)} {S : List Value} {h : xH} {kc ks : Nat}
theorem x_callH {i n : Nat} {M' : xM} {tb' : List (Nat × Nat × Nat × Nat)} {As : List Value} {fr mc ms : Nat} {Q : Option Value → xH → Prop} {X : String → xH → Prop} {St : List Value} (hd : decode M.2.1 pc = .ok (.invokestatic i, 3)) (hc : xCH M.1.cls i M' tb' n) (hM : xMetH g l M' tb' fr mc ms As h Q X) (hSt : As.reverse ++ S = St) (hn : As.length = n)
    (hR : (fr + 1 ≤ R.frames ∧ 8 + (M'.2.2.1 + 11) + 36 * fr ≤ R.locals) ∧ kc + mc ≤ R.cells ∧ ks + ms ≤ R.slots) (hW : (S.map fun v => v.category).sum ≤ 8)
    (kx : ∀ E h', X E h' → xPx g l M tb R Z pc V S h' (kc + mc) (ks + ms) E) (k : ∀ v h', Q v h' → xP g l M tb R Z (pc + 3) V (v.toList ++ S) h' (kc + mc) (ks + ms)) : xP g l M tb R Z pc V St h kc ks := by
  intro p e s m args below meth c H locs ls B hC hS hl
  obtain ⟨hx, hb, hr, hml, hown, hts, hlk, hnm, htb, hI, hz, hst⟩ := id B
  obtain ⟨⟨hok, hstt⟩, hln⟩ := hc
  obtain ⟨h1, h2, h3, h4, h5⟩ := hok
  subst hSt
  have cw : vx_CSW R s args M.1.cls i M'.1 M'.2.1 M'.2.2.1 M'.2.2.2 tb' (Cond.codeWith M'.1 M'.2.1 M'.2.2.1 M'.2.2.2 tb' :: xW) (xR fr mc ms) mc ms n := by
    refine ⟨⟨rfl, rfl, hR.1.1, hR.1.2, pay_in hts (fun w hw => ?_), List.mem_cons_self⟩, hts _ h1, hts _ h2, h4, fun sig h => ?_, hts _ hln, hts _ hstt⟩
    · rcases List.mem_cons.mp hw with rfl | hw
      · exact x_good _ h1
      · exact x_good _ hw
    · rw [h] at h5
      exact (Option.some.inj h5).symm
  exact x_fromRun B hC hS hl (vx_runSX (As := As) (rest := S) ⟨hx, hb, hml, hown, hts⟩ (hM hst) cw (x_preS B hC hS) rfl hn hl.1 rfl (lv_room hW) hd hR.2) kx k
/-- thrown by a callee, and caught here -/
theorem x_catch {E : String} {pre suf : List (Nat × Nat × Nat × Nat)} {x1 x2 x3 x4 : Nat} (htb : tb = pre ++ (x1, x2, x3, x4) :: suf) (hpass : ∀ z ∈ pre, z.2.2.2 ≠ 0 ∧ ∃ nm, Cond.classLink M.1.cls z.2.2.2 nm ∈ xW ∧ (E, nm) ∈ xNcl) (hx : covers ⟨x1, x2, x3, x4⟩ pc = true) (h0 : x4 ≠ 0) (hlink : Cond.classLink M.1.cls x4 E ∈ xW) (hk : (E, E) ∈ xKl)
    (K : ∀ q, xP g l M tb R Z x3 V [.ref q] h kc ks) : xPx g l M tb R Z pc V S h kc ks E := by
  intro p e s m args below meth c H locs ls q ce B hC hS hl hce hcv hcl
  obtain ⟨hx9, hb, hr, hml, hown, hts, hlk, hnm, htb9, hI, hz, hst⟩ := id B
  refine vx_catch (name := E) hown (tableOf pre) ⟨x1, x2, x3, x4⟩ (tableOf suf) (by rw [htb9, htb]; unfold tableOf; rw [List.map_append, List.map_cons]) (fun z hz9 => ?_) hx h0 (hts _ hlink) (va_Nw.use rfl (hI.1.2.2.2.1 _ hk)) hce hcv hcl (K q p e s m args below meth c H locs ls B hC hS hl)
  obtain ⟨y, hy, rfl⟩ := List.mem_map.mp hz9
  obtain ⟨y1, nm, y2, y3⟩ := hpass y hy
  exact Or.inr ⟨y1, nm, hts _ y2, hI.1.2.2.2.2.1 _ y3⟩
/-- the script: an array of ints that was there before; where it isn't, nothing is asked -/
def xSc (Z : List Frame → Array Value → State → State → Prop) (g : xG) (b n : Nat) (f : Nat → Int32) : Prop := b < g.1 ∧ ∀ (below : List Frame) (args : Array Value) (s t : State), ¬ va_X b n f s s.heap → Z below args s t
theorem x_alenB {b n : Nat} {f : Nat → Int32} (hs : xSc Z g b n f) (hd : decode M.2.1 pc = .ok (.arraylength, 1)) (K : xP g l M tb R Z (pc + 1) V (.int (nI n) :: S) h kc ks) : xP g l M tb R Z pc V (.ref b :: S) h kc ks := by
  intro p e s m args below meth c H locs ls B hC hS hl
  obtain ⟨hx, hb, hr, hml, hown, hts, hlk, hnm, htb, hI, hz, hst⟩ := id B
  by_cases k3 : va_X b n f s s.heap
  · exact va_slen B.1 B.2.1 k3 (Nat.lt_of_lt_of_le hs.1 hz) (Nat.not_le.mpr hs.1) hS hd (K p e s m args below meth c H locs ls B hC hS hl)
  · intro T hT X
    exact ⟨_, Steps.refl _, hs.2 _ _ _ _ k3⟩
theorem x_ialdB {b i n : Nat} {f : Nat → Int32} (hs : xSc Z g b n f) (hd : decode M.2.1 pc = .ok (.iaload, 1)) (hi : i < n) (hn : n < 2 ^ 31) (K : xP g l M tb R Z (pc + 1) V (.int (f i) :: S) h kc ks) : xP g l M tb R Z pc V (.int (nI i) :: .ref b :: S) h kc ks := by
  intro p e s m args below meth c H locs ls B hC hS hl
  obtain ⟨hx, hb, hr, hml, hown, hts, hlk, hnm, htb, hI, hz, hst⟩ := id B
  by_cases k3 : va_X b n f s s.heap
  · refine va_sld B.1 B.2.1 k3 (Nat.lt_of_lt_of_le hs.1 hz) (Nat.not_le.mpr hs.1) hS (vp_in_nI hi hn) hd ?_
    rw [nI_clamp (show i < 2 ^ 31 by omega)]
    exact K p e s m args below meth c H locs ls B hC hS hl
  · intro T hT X
    exact ⟨_, Steps.refl _, hs.2 _ _ _ _ k3⟩
end L1
