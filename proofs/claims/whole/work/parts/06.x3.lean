/-! ===== BEGIN a constructor that throws (launches without stack traces) ===== -/
section VXIA
variable {p : Program} {l : Launch} {e : Env} {R : Room} {s : State} {m : MethodId} {args : Array Value} {below : List Frame} {meth : Method} {c : Code} {T : State} {locs : List Loc} {cells slots : Nat}
theorem vx_callI (X : Stand p l e R s m args below meth c T locs cells slots) (hexec : p.tables.exec = Jvm.exec) {own : String} {index : Nat} {y : MethodName} {bytes : ByteArray} {maxL : Nat}
    (hown : s.vm.findClass own = some m.cls) (hy1 : y.name = "<init>") (hlink : (Cond.methodLink own index y).before args s = true) (hinst : (Cond.instanceMethod y).before args s = true)
    (hcode : (Cond.code y bytes maxL none).before args s = true) (hy : y.cls ≠ "java/lang/invoke/MethodHandle" ∧ y.cls ≠ "java/lang/invoke/VarHandle")
    {W9 : Nat} {Pre : Pt → Array Value → Prop} {Post : Pt → Array Value → Option Value → Pt → Prop} {PostX : Pt → Array Value → Addr → Pt → Prop} (hK : vx_Back l R p e below s args y 3 W9 Pre Post PostX)
    {g : JFrame} (hg : g.method = m) (hsize : g.locals.size = c.maxLocals) {a : Addr} {argsL rest : List Value} (hlen : ∀ sig, parseMethodDescriptor y.desc = some sig → argsL.length = sig.parameters.length)
    (hstack : g.stack = argsL.reverse ++ .ref a :: rest) (hW : 2 * g.monitorRoom + (rest.map fun v => v.category).sum ≤ W9) (hdg : decode c.code g.pc = .ok (.invokespecial index, 3))
    (hpre : ∀ vm₁, s.WarmedH vm₁ → Pre ⟨T.setVm vm₁, locs, cells, slots⟩ (Value.ref a :: argsL).toArray) :
    (∃ (v : Option Value) (vm₁ : Vm) (B : Pt), s.WarmedH vm₁ ∧ Stand p l e R s m args below meth c B.U B.locs B.cells B.slots ∧ Post ⟨T.setVm vm₁, locs, cells, slots⟩ (Value.ref a :: argsL).toArray v B ∧
      ∀ target, Steps p.tables e below (B.U.setTop { g with pc := g.pc + 3, stack := v.toList ++ rest }) target → Steps p.tables e below (T.setTop g) target) ∨
    (∃ (q : Addr) (vm₁ : Vm) (B : Pt), s.WarmedH vm₁ ∧ Stand p l e R s m args below meth c B.U B.locs B.cells B.slots ∧ PostX ⟨T.setVm vm₁, locs, cells, slots⟩ (Value.ref a :: argsL).toArray q B ∧
      Steps p.tables e below (T.setTop g) ((B.U.setTop { g with stack := rest }).pushFrame (.throwing q))) := by
  subst hg
  have hpl : e.platform.magicAccessors = ({} : Platform).magicAccessors := by rw [X.admits.platform]
  obtain ⟨mk, methM, cM, kP, vm₁, hnamed, hmethM, hcodeM, -, hlocalsM, -, hkP, -, hW₁, hstep₁⟩ := Steps.initColdArgs (e := e) X.here hexec X.warmed hpl hown hy1 hy hlink hinst hcode (f := g) rfl hlen hstack hdg
  have X₁ := X.noted hW₁
  rcases hK g.method meth c ⟨T.setVm vm₁, locs, cells, slots⟩ { g with stack := rest } (.invokespecial index) mk (Value.ref a :: argsL).toArray X₁ rfl hsize hdg hW (X₁.named hnamed) (hpre vm₁ X₁.warmed) with ⟨v, B, X', hpost, hsteps⟩ | ⟨q, B, X', hpost, hsteps⟩
  · exact Or.inl ⟨v, vm₁, B, X₁.warmed, X', hpost, fun target h => hstep₁ _ fun acts => by rw [doInvoke_state]; exact hsteps.trans h⟩
  · exact Or.inr ⟨q, vm₁, B, X₁.warmed, X', hpost, hstep₁ _ fun acts => by rw [doInvoke_state]; exact hsteps⟩
end VXIA
section VXIB
variable {p : Program} {l : Launch} {e : Env} {R : Room} {s : State} {m : MethodId} {args : Array Value} {below : List Frame} {meth : Method} {c : Code} {H : Heap} {locs : List Loc} {cells slots : Nat}
variable {y : MethodName} {bytes cc : ByteArray} {maxL nL mc ms n index : Nat} {ret : Option FieldType} {ws : List Cond} {rm : Room} {Pc : Array Value → State → Prop} {Qc : Array Value → State → Outcome → State → Prop} {XC : String → State → State → Prop} {free : Addr → Prop} {Ts : List Cond} {own C : String} {b : Addr} {As rest : List Value} {g : JFrame}
theorem vx_runI (S : CallFix p m c cc nL s args Ts own) (hM : vx_Met l y ws rm Pc Qc XC mc ms free) (cw : CallB R s args own index y bytes maxL none ws rm mc ms n ∧ y.name = "<init>" ∧ (Cond.instanceMethod y).before args s = true) (hp : PreS s H Pc (.ref b :: As))
    (hg : g.method = m) (hn : As.length = n) (hsize : g.locals.size = nL) (hstack : g.stack = As.reverse ++ .ref b :: rest) (hW : 2 * g.monitorRoom + (rest.map fun v => v.category).sum ≤ 8) (hdg : decode cc g.pc = .ok (.invokespecial index, 3)) (hf : cells + mc ≤ R.cells ∧ slots + ms ≤ R.slots) :
    vx_Run p l e R s m args below meth c H locs cells slots mc ms g rest (Qc (Value.ref b :: As).toArray) XC free := by
  have hK : vx_Back l R p e below s args y 3 8 (PreOf R mc ms Pc) (PostOf Qc mc ms free) (vx_Post XC mc ms free) := vx_callBack cw.1 hM hp.1
  obtain ⟨⟨-, -, -, -, -, -, hcode, -, hy, hlen, hl⟩, hy1, hin⟩ := cw
  obtain ⟨hx, hb, hml, ho, -⟩ := S
  have hPc := hp.2
  intro T hT X
  rcases vx_callI X hx (bytes := bytes) (maxL := maxL) ho hy1 hl hin hcode hy hK hg (hsize.trans hml.symm) (a := b) (argsL := As) (rest := rest) (fun sig h => hn.trans (hlen sig h)) hstack hW (by rw [hb]; exact hdg)
    (fun vm₁ hW₁ => ⟨hf.1, hf.2, hPc (T.setVm vm₁) hT hW₁⟩) with ⟨v, vm₁, ⟨U', l2, c2, s2⟩, hW₁, X', ⟨g', mk, t, L, e1, e2, hq, h1, hL, h2, h3⟩, st⟩ | ⟨q, vm₁, ⟨U', l2, c2, s2⟩, hW₁, X', ⟨g', mk, t, L, E, ce, e1, e2, hq, hce, hcv, hcl, h1, hL, h2, h3⟩, st⟩
  · dsimp only [Pt.U, Pt.locs, Pt.cells, Pt.slots] at X' e1 e2 h1 h2 h3 st
    subst h1; subst h2; subst h3
    exact Or.inl ⟨v, (T.setVm vm₁).calling g' mk (Value.ref b :: As).toArray, t, U', L, hT, X', hL, e1, e2, hq, st⟩
  · dsimp only [Pt.U, Pt.locs, Pt.cells, Pt.slots] at X' e1 e2 h1 h2 h3 st hcl
    subst h1; subst h2; subst h3
    exact Or.inr ⟨q, (T.setVm vm₁).calling g' mk (Value.ref b :: As).toArray, t, U', L, E, ce, hT, X', hL, e1, e2, hq, hce, hcv, vx_cls hW₁ hcl, st⟩
end VXIB
/-! ===== END ===== -/
/-! ===== BEGIN a private constructor of a nest mate that throws ===== -/
section VXIC
variable {p : Program} {l : Launch} {e : Env} {R : Room} {s : State} {m : MethodId} {args : Array Value} {below : List Frame} {meth : Method} {c : Code} {T : State} {locs : List Loc} {cells slots : Nat}
theorem vx_callIN (X : Stand p l e R s m args below meth c T locs cells slots) (hexec : p.tables.exec = Jvm.exec) {own : String} {index : Nat} {host : String} {y : MethodName} {bytes : ByteArray} {maxL : Nat}
    (hown : s.vm.findClass own = some m.cls) (hy1 : y.name = "<init>") (hlink : (Cond.methodLinkNest own index y host).before args s = true) (hinst : (Cond.instanceMethod y).before args s = true)
    (hcode : (Cond.code y bytes maxL none).before args s = true) (hy : y.cls ≠ "java/lang/invoke/MethodHandle" ∧ y.cls ≠ "java/lang/invoke/VarHandle")
    {W9 : Nat} {Pre : Pt → Array Value → Prop} {Post : Pt → Array Value → Option Value → Pt → Prop} {PostX : Pt → Array Value → Addr → Pt → Prop} (hK : vx_Back l R p e below s args y 3 W9 Pre Post PostX)
    {g : JFrame} (hg : g.method = m) (hsize : g.locals.size = c.maxLocals) {a : Addr} {argsL rest : List Value} (hlen : ∀ sig, parseMethodDescriptor y.desc = some sig → argsL.length = sig.parameters.length)
    (hstack : g.stack = argsL.reverse ++ .ref a :: rest) (hW : 2 * g.monitorRoom + (rest.map fun v => v.category).sum ≤ W9) (hdg : decode c.code g.pc = .ok (.invokespecial index, 3))
    (hpre : ∀ vm₁, s.WarmedH vm₁ → Pre ⟨T.setVm vm₁, locs, cells, slots⟩ (Value.ref a :: argsL).toArray) :
    (∃ (v : Option Value) (vm₁ : Vm) (B : Pt), s.WarmedH vm₁ ∧ Stand p l e R s m args below meth c B.U B.locs B.cells B.slots ∧ Post ⟨T.setVm vm₁, locs, cells, slots⟩ (Value.ref a :: argsL).toArray v B ∧
      ∀ target, Steps p.tables e below (B.U.setTop { g with pc := g.pc + 3, stack := v.toList ++ rest }) target → Steps p.tables e below (T.setTop g) target) ∨
    (∃ (q : Addr) (vm₁ : Vm) (B : Pt), s.WarmedH vm₁ ∧ Stand p l e R s m args below meth c B.U B.locs B.cells B.slots ∧ PostX ⟨T.setVm vm₁, locs, cells, slots⟩ (Value.ref a :: argsL).toArray q B ∧
      Steps p.tables e below (T.setTop g) ((B.U.setTop { g with stack := rest }).pushFrame (.throwing q))) := by
  subst hg
  have hpl : e.platform.magicAccessors = ({} : Platform).magicAccessors := by rw [X.admits.platform]
  obtain ⟨mk, methM, cM, kP, vm₁, hnamed, hmethM, hcodeM, -, hlocalsM, -, hkP, -, hW₁, hstep₁⟩ := Steps.initColdArgsNest (e := e) X.here hexec X.warmed hpl hown hy1 hy hlink hinst hcode (f := g) rfl hlen hstack hdg
  have X₁ := X.noted hW₁
  rcases hK g.method meth c ⟨T.setVm vm₁, locs, cells, slots⟩ { g with stack := rest } (.invokespecial index) mk (Value.ref a :: argsL).toArray X₁ rfl hsize hdg hW (X₁.named hnamed) (hpre vm₁ X₁.warmed) with ⟨v, B, X', hpost, hsteps⟩ | ⟨q, B, X', hpost, hsteps⟩
  · exact Or.inl ⟨v, vm₁, B, X₁.warmed, X', hpost, fun target h => hstep₁ _ fun acts => by rw [doInvoke_state]; exact hsteps.trans h⟩
  · exact Or.inr ⟨q, vm₁, B, X₁.warmed, X', hpost, hstep₁ _ fun acts => by rw [doInvoke_state]; exact hsteps⟩
end VXIC
section VXID
variable {p : Program} {l : Launch} {e : Env} {R : Room} {s : State} {m : MethodId} {args : Array Value} {below : List Frame} {meth : Method} {c : Code} {H : Heap} {locs : List Loc} {cells slots : Nat}
theorem vx_runIN {y : MethodName} {bytes cc : ByteArray} {maxL nL mc ms n index : Nat} {ws : List Cond} {rm : Room} {Pc : Array Value → State → Prop} {Qc : Array Value → State → Outcome → State → Prop} {XC : String → State → State → Prop} {free : Addr → Prop} {Ts : List Cond} {own host : String} {b : Addr} {As rest : List Value} {g : JFrame}
    (S : CallFix p m c cc nL s args Ts own) (hM : vx_Met l y ws rm Pc Qc XC mc ms free) (cw : va_CN R s args own index y host bytes maxL none ws rm mc ms n ∧ y.name = "<init>" ∧ (Cond.instanceMethod y).before args s = true) (hp : PreS s H Pc (.ref b :: As))
    (hg : g.method = m) (hn : As.length = n) (hsize : g.locals.size = nL) (hstack : g.stack = As.reverse ++ .ref b :: rest) (hW : 2 * g.monitorRoom + (rest.map fun v => v.category).sum ≤ 8) (hdg : decode cc g.pc = .ok (.invokespecial index, 3)) (hf : cells + mc ≤ R.cells ∧ slots + ms ≤ R.slots) :
    vx_Run p l e R s m args below meth c H locs cells slots mc ms g rest (Qc (Value.ref b :: As).toArray) XC free := by
  obtain ⟨⟨⟨hrc, hrs, hfr, hlo, hws, hcw⟩, hcode, hini, hy, hlen, hl⟩, hx1, hx2⟩ := cw
  have hK : vx_Back l R p e below s args y 3 8 (PreOf R mc ms Pc) (PostOf Qc mc ms free) (vx_Post XC mc ms free) := vx_back (bytes := bytes) (maxL := maxL) (ret := none) hM hp.1 hrc hrs hfr hlo hws hcw (fun a' U hW => word_at hW (Or.inl (by first | rfl | simp [Cond.onTables, Cond.keeps, Cond.steady])) hini)
  obtain ⟨hx, hb, hml, ho, -⟩ := S
  have hPc := hp.2
  intro T hT X
  rcases vx_callIN X hx (bytes := bytes) (maxL := maxL) ho hx1 hl hx2 hcode hy hK hg (hsize.trans hml.symm) (a := b) (argsL := As) (rest := rest) (fun sig h => hn.trans (hlen sig h)) hstack hW (by rw [hb]; exact hdg)
    (fun vm₁ hW₁ => ⟨hf.1, hf.2, hPc (T.setVm vm₁) hT hW₁⟩) with ⟨v, vm₁, ⟨U', l2, c2, s2⟩, hW₁, X', ⟨g', mk, t, L, e1, e2, hq, h1, hL, h2, h3⟩, st⟩ | ⟨q, vm₁, ⟨U', l2, c2, s2⟩, hW₁, X', ⟨g', mk, t, L, E, ce, e1, e2, hq, hce, hcv, hcl, h1, hL, h2, h3⟩, st⟩
  · dsimp only [Pt.U, Pt.locs, Pt.cells, Pt.slots] at X' e1 e2 h1 h2 h3 st
    subst h1; subst h2; subst h3
    exact Or.inl ⟨v, (T.setVm vm₁).calling g' mk (Value.ref b :: As).toArray, t, U', L, hT, X', hL, e1, e2, hq, st⟩
  · dsimp only [Pt.U, Pt.locs, Pt.cells, Pt.slots] at X' e1 e2 h1 h2 h3 st hcl
    subst h1; subst h2; subst h3
    exact Or.inr ⟨q, (T.setVm vm₁).calling g' mk (Value.ref b :: As).toArray, t, U', L, E, ce, hT, X', hL, e1, e2, hq, hce, hcv, vx_cls hW₁ hcl, st⟩
end VXID
/-! ===== END ===== -/
/-! ===== the small machine: contracts, calls, ends ===== -/
def xQ (g : xG) (Q : Option Value → xH → Prop) : Array Value → State → Outcome → State → Prop := fun _ st o t => ∃ (v : Option Value) (h' : xH), o = .returned v ∧ Q v h' ∧ xC g h' t.heap ∧ st.heap.size ≤ t.heap.size
def xX (g : xG) (X : String → xH → Prop) : String → State → State → Prop := fun E st t => ∃ h' : xH, X E h' ∧ xC g h' t.heap ∧ st.heap.size ≤ t.heap.size
def xno : String → xH → Prop := fun _ _ => False
abbrev xR (fr mc ms : Nat) : Room := { frames := fr, cells := mc, slots := ms, locals := 36 * fr }
def xZ (g : xG) (Q : Option Value → xH → Prop) (X : String → xH → Prop) (mc ms : Nat) : List Frame → Array Value → State → State → Prop := fun below args s => vx_MQ below (xQ g Q) (xX g X) args s mc ms (gO g)
def xPc (g : xG) (As : List Value) (h : xH) : Array Value → State → Prop := fun a U => a = As.toArray ∧ xC g h U.heap ∧ xI g U U.heap
/-- a method's contract: called with As over the cells h it returns with Q, or throws with X; fr frames above it, mc new cells of ms slots at most -/
def xMet (g : xG) (l : Launch) (M : xM) (fr mc ms : Nat) (As : List Value) (h : xH) (Q : Option Value → xH → Prop) (X : String → xH → Prop) : Prop := l.stackTraces = false → vx_Met l M.1 (Cond.code M.1 M.2.1 M.2.2.1 M.2.2.2 :: xW) (xR fr mc ms) (xPc g As h) (xQ g Q) (xX g X) mc ms (gO g)
theorem xPc_blind {g : xG} {As : List Value} {h : xH} : FrameBlind (xPc g As h) := fun _ _ _ _ q => ⟨q.1, q.2.1, xI.calling q.2.2⟩
theorem xMet.of {g : xG} {l : Launch} {M : xM} {n fr mc ms : Nat} {As : List Value} {h : xH} {Q : Option Value → xH → Prop} {X : String → xH → Prop} {V : List (Option Value)} (hM : xMok M n) (hlen : (lg_sl As).length ≤ M.2.2.1) (hV : xV As ++ List.replicate (M.2.2.1 - (lg_sl As).length) none = V)
    (body : xP g l M [] (xR fr mc ms) (xZ g Q X mc ms) 0 V [] h 0 0) : xMet g l M fr mc ms As h Q X := by
  intro hst
  refine vx_ofW (cc := M.2.1) (maxL := M.2.2.1) (ret := M.2.2.2) hM.2.2.1 rfl ?_
  intro p e s m args below meth c s₁ B hml htb hP
  obtain ⟨rfl, hC, hI⟩ := hP
  have hts := atoms_spec (ws := Cond.code M.1 M.2.1 M.2.2.1 M.2.2.2 :: xW) B.pre
  rw [lg_entry_eq]
  have hl0 := lv_entry As hlen
  refine body p e s m _ below meth c s.heap [] _ ⟨B.exec, B.bytes, B.returns, hml, findClass_of_methodNamed B.named, fun w hw => hts w (List.mem_cons_of_mem _ hw), B.notSynchronized, (name_of_methodNamed B.named B.method).1, List.eq_nil_iff_forall_not_mem.mpr htb, hI, ?_, hst⟩ hC va_S.rf (xL.sub hl0 fun k v hk => ?_)
  · rw [hC.1]; exact hC.2.1
  · rw [← hV] at hk
    have := xV_args As _ 0 k hk
    rwa [Nat.zero_add] at this
section X3
variable {g : xG} {l : Launch} {M : xM} {tb : List (Nat × Nat × Nat × Nat)} {R : Room} {Z : List Frame → Array Value → State → State → Prop} {pc : Nat} {V : List (Option Value)} {S : List Value} {h : xH} {kc ks : Nat}
theorem x_fromRun {p : Program} {e : Env} {s : State} {m : MethodId} {args : Array Value} {below : List Frame} {meth : Method} {c : Code} {H : Heap} {locs : List Loc} {ls : Array Slot} {mc ms : Nat} {St : List Value} {a : Array Value} {Q : Option Value → xH → Prop} {X : String → xH → Prop}
    (B : xB g l M tb p s m args meth c) (hC : xC g h H) (hS : va_S (gO g) s.heap H locs) (hl : xL ls M.2.2.1 V)
    (run : vx_Run p l e R s m args below meth c H locs kc ks mc ms (F0 m pc ls St) S (xQ g Q a) (xX g X) (gO g))
    (kx : ∀ E h', X E h' → xPx g l M tb R Z pc V S h' (kc + mc) (ks + ms) E) (k : ∀ v h', Q v h' → xP g l M tb R Z (pc + 3) V (v.toList ++ S) h' (kc + mc) (ks + ms)) : W p l e R s m args below meth c H locs kc ks (Z below args s) (F0 m pc ls St) := by
  intro T hT X9
  have stay : ∀ {h' : xH} {H1 : Heap} {L : List Loc}, xC g h' H1 → H.size ≤ H1.size → (∀ q ∈ L, gO g q.base) → va_S (gO g) s.heap H1 (locs ++ L) := by
    intro h' H1 L hc1 hz hL
    refine ⟨Nat.le_trans hS.1 hz, fun q h1 h2 => ?_, fun q hq => ?_⟩
    · have hlt : q < g.1 := Nat.not_le.mp h2
      rw [hc1.2.2.1 q hlt, ← hC.2.2.1 q hlt]
      exact hS.2.1 q h1 h2
    · rcases List.mem_append.mp hq with h | h
      · exact hS.2.2 q h
      · exact hL q h
  rcases run T hT X9 with ⟨v, st₀, t, T', L, h0, X', hL, e1, e2, ⟨v', h', hv, hq, hc1, hsz⟩, st⟩ | ⟨q, st₀, t, T', L, E, ce, h0, X', hL, e1, e2, ⟨h', hq, hc1, hsz⟩, hce, hcv, hcl, st⟩
  · cases hv
    rw [h0, ← e1] at hsz
    rw [← e1] at hc1
    obtain ⟨t2, a1, b1⟩ := k v h' hq p e s m args below meth c T'.heap (locs ++ L) ls B hc1 (stay hc1 hsz hL) hl T' rfl X'
    exact ⟨t2, st t2 a1, b1⟩
  · rw [h0, ← e1] at hsz
    rw [← e1] at hc1 hce
    obtain ⟨t2, a1, b1⟩ := kx E h' hq p e s m args below meth c T'.heap (locs ++ L) ls q ce B hc1 (stay hc1 hsz hL) hl hce hcv hcl T' rfl X'
    exact ⟨t2, st.trans a1, b1⟩
theorem x_callB {p : Program} {s : State} {m : MethodId} {args : Array Value} {meth : Method} {c : Code} {M' : xM} {i n fr mc ms : Nat} (B : xB g l M tb p s m args meth c) (hok : xMok M' n) (hln : Cond.methodLink M.1.cls i M'.1 ∈ xW) (hR : fr + 1 ≤ R.frames ∧ 8 + (M'.2.2.1 + 11) + 36 * fr ≤ R.locals) :
    CallB R s args M.1.cls i M'.1 M'.2.1 M'.2.2.1 M'.2.2.2 (Cond.code M'.1 M'.2.1 M'.2.2.1 M'.2.2.2 :: xW) (xR fr mc ms) mc ms n := by
  have hts := B.2.2.2.2.2.1
  obtain ⟨h1, h2, h3, h4, h5⟩ := hok
  refine ⟨rfl, rfl, hR.1, hR.2, pay_in hts (fun w hw => ?_), List.mem_cons_self, hts _ h1, hts _ h2, h4, fun sig h => ?_, hts _ hln⟩
  · rcases List.mem_cons.mp hw with rfl | hw
    · exact x_good _ h1
    · exact x_good _ hw
  · rw [h] at h5
    exact (Option.some.inj h5).symm
theorem x_preS {p : Program} {s : State} {m : MethodId} {args : Array Value} {meth : Method} {c : Code} {H : Heap} {locs : List Loc} {As : List Value} (B : xB g l M tb p s m args meth c) (hC : xC g h H) (hS : va_S (gO g) s.heap H locs) : PreS s H (xPc g As h) As :=
  ⟨xPc_blind, fun U hU hW => ⟨rfl, by rw [hU]; exact hC, by rw [hU]; exact xI.moved hW (xI.kept (fun q h1 h2 => hS.2.1 q h1 h2) B.2.2.2.2.2.2.2.2.2.1)⟩⟩
/-- the receiver is an object of ours -/
def xRecv (h : xH) (b : Nat) (C : String) : Prop := ∃ (ci : Nat) (fs : List Value), h.1 b = some (.inr (ci, fs)) ∧ (xcl ci).1 = C ∧ xCl ci
theorem x_callV {i n b : Nat} {M' : xM} {As : List Value} {fr mc ms : Nat} {Q : Option Value → xH → Prop} {X : String → xH → Prop} {St : List Value} (hd : decode M.2.1 pc = .ok (.invokevirtual i, 3)) (hc : xCV M.1.cls i M' n) (hM : xMet g l M' fr mc ms (.ref b :: As) h Q X) (hSt : As.reverse ++ .ref b :: S = St) (hn : As.length = n)
    (hR : (fr + 1 ≤ R.frames ∧ 8 + (M'.2.2.1 + 11) + 36 * fr ≤ R.locals) ∧ kc + mc ≤ R.cells ∧ ks + ms ≤ R.slots) (hW : (S.map fun v => v.category).sum ≤ 8) (hrc : xRecv h b M'.1.cls)
    (kx : ∀ E h', X E h' → xPx g l M tb R Z pc V S h' (kc + mc) (ks + ms) E) (k : ∀ v h', Q v h' → xP g l M tb R Z (pc + 3) V (v.toList ++ S) h' (kc + mc) (ks + ms)) : xP g l M tb R Z pc V St h kc ks := by
  intro p e s m args below meth c H locs ls B hC hS hl
  obtain ⟨hx, hb, hr, hml, hown, hts, hlk, hnm, htb, hI, hz, hst⟩ := id B
  obtain ⟨⟨hok, hin, hsel⟩, hln⟩ := hc
  obtain ⟨ci, fs, h1, h2, h3⟩ := hrc
  subst hSt
  have hrecv : ∃ cellB : Cell, H[b]? = some cellB ∧ cellB.vm.isStatics = false ∧ s.vm.findClass M'.1.cls = some cellB.cls := by
    obtain ⟨r, k1, cell, q1, q2, q3, -⟩ := (hC.2.2.2 b _ h1).2
    have hfc := (hI.1.1.1 ci _ h3.1).2.1
    exact ⟨cell, q1, by rw [q3]; rfl, by rw [q2, ← h2]; exact hfc⟩
  exact x_fromRun B hC hS hl (vx_runV (As := As) (rest := S) ⟨hx, hb, hml, hown, hts⟩ (hM hst) ⟨x_callB B hok hln hR.1, hts _ hin, hts _ hsel⟩ ⟨xPc_blind, hrecv, (x_preS B hC hS).2⟩ rfl hn hl.1 rfl (lv_room hW) hd hR.2) kx k
theorem x_callS {i n : Nat} {M' : xM} {As : List Value} {fr mc ms : Nat} {Q : Option Value → xH → Prop} {X : String → xH → Prop} {St : List Value} (hd : decode M.2.1 pc = .ok (.invokestatic i, 3)) (hc : xCS M.1.cls i M' n) (hM : xMet g l M' fr mc ms As h Q X) (hSt : As.reverse ++ S = St) (hn : As.length = n)
    (hR : (fr + 1 ≤ R.frames ∧ 8 + (M'.2.2.1 + 11) + 36 * fr ≤ R.locals) ∧ kc + mc ≤ R.cells ∧ ks + ms ≤ R.slots) (hW : (S.map fun v => v.category).sum ≤ 8)
    (kx : ∀ E h', X E h' → xPx g l M tb R Z pc V S h' (kc + mc) (ks + ms) E) (k : ∀ v h', Q v h' → xP g l M tb R Z (pc + 3) V (v.toList ++ S) h' (kc + mc) (ks + ms)) : xP g l M tb R Z pc V St h kc ks := by
  intro p e s m args below meth c H locs ls B hC hS hl
  obtain ⟨hx, hb, hr, hml, hown, hts, hlk, hnm, htb, hI, hz, hst⟩ := id B
  obtain ⟨⟨hok, hstt⟩, hln⟩ := hc
  subst hSt
  exact x_fromRun B hC hS hl (vx_runS (As := As) (rest := S) ⟨hx, hb, hml, hown, hts⟩ (hM hst) ⟨x_callB B hok hln hR.1, hts _ hstt⟩ (x_preS B hC hS) rfl hn hl.1 rfl (lv_room hW) hd hR.2) kx k
theorem x_callI {i n b : Nat} {M' : xM} {As : List Value} {fr mc ms : Nat} {Q : Option Value → xH → Prop} {X : String → xH → Prop} {St : List Value} (hd : decode M.2.1 pc = .ok (.invokespecial i, 3)) (hc : xCI M.1.cls i M' n) (hv : M'.2.2.2 = none) (hM : xMet g l M' fr mc ms (.ref b :: As) h Q X) (hSt : As.reverse ++ .ref b :: S = St) (hn : As.length = n)
    (hR : (fr + 1 ≤ R.frames ∧ 8 + (M'.2.2.1 + 11) + 36 * fr ≤ R.locals) ∧ kc + mc ≤ R.cells ∧ ks + ms ≤ R.slots) (hW : (S.map fun v => v.category).sum ≤ 8)
    (kx : ∀ E h', X E h' → xPx g l M tb R Z pc V S h' (kc + mc) (ks + ms) E) (k : ∀ v h', Q v h' → xP g l M tb R Z (pc + 3) V (v.toList ++ S) h' (kc + mc) (ks + ms)) : xP g l M tb R Z pc V St h kc ks := by
  intro p e s m args below meth c H locs ls B hC hS hl
  obtain ⟨hx, hb, hr, hml, hown, hts, hlk, hnm, htb, hI, hz, hst⟩ := id B
  obtain ⟨⟨hok, hni, hin⟩, hln⟩ := hc
  subst hSt
  have cb := x_callB (R := R) (fr := fr) (mc := mc) (ms := ms) B hok hln hR.1
  have hM := hM hst
  rw [hv] at cb hM
  exact x_fromRun B hC hS hl (vx_runI (As := As) (rest := S) ⟨hx, hb, hml, hown, hts⟩ hM ⟨cb, hni, hts _ hin⟩ (x_preS B hC hS) rfl hn hl.1 rfl (lv_room hW) hd hR.2) kx k
theorem x_callN {i n b : Nat} {host : String} {M' : xM} {As : List Value} {fr mc ms : Nat} {Q : Option Value → xH → Prop} {X : String → xH → Prop} {St : List Value} (hd : decode M.2.1 pc = .ok (.invokespecial i, 3)) (hc : xCN M.1.cls i M' n host) (hv : M'.2.2.2 = none) (hM : xMet g l M' fr mc ms (.ref b :: As) h Q X) (hSt : As.reverse ++ .ref b :: S = St) (hn : As.length = n)
    (hR : (fr + 1 ≤ R.frames ∧ 8 + (M'.2.2.1 + 11) + 36 * fr ≤ R.locals) ∧ kc + mc ≤ R.cells ∧ ks + ms ≤ R.slots) (hW : (S.map fun v => v.category).sum ≤ 8)
    (kx : ∀ E h', X E h' → xPx g l M tb R Z pc V S h' (kc + mc) (ks + ms) E) (k : ∀ v h', Q v h' → xP g l M tb R Z (pc + 3) V (v.toList ++ S) h' (kc + mc) (ks + ms)) : xP g l M tb R Z pc V St h kc ks := by
  intro p e s m args below meth c H locs ls B hC hS hl
  obtain ⟨hx, hb, hr, hml, hown, hts, hlk, hnm, htb, hI, hz, hst⟩ := id B
  obtain ⟨⟨hok, hni, hin⟩, hln⟩ := hc
  subst hSt
  have cw : va_CN R s args M.1.cls i M'.1 host M'.2.1 M'.2.2.1 M'.2.2.2 (Cond.code M'.1 M'.2.1 M'.2.2.1 M'.2.2.2 :: xW) (xR fr mc ms) mc ms n := by
    obtain ⟨h1, h2, h3, h4, h5⟩ := hok
    refine ⟨⟨rfl, rfl, hR.1.1, hR.1.2, pay_in hts (fun w hw => ?_), List.mem_cons_self⟩, hts _ h1, hts _ h2, h4, fun sig h => ?_, va_Nw.use rfl (hI.1.2.2.1 _ hln)⟩
    · rcases List.mem_cons.mp hw with rfl | hw
      · exact x_good _ h1
      · exact x_good _ hw
    · rw [h] at h5
      exact (Option.some.inj h5).symm
  have hM := hM hst
  rw [hv] at cw hM
  exact x_fromRun B hC hS hl (vx_runIN (As := As) (rest := S) ⟨hx, hb, hml, hown, hts⟩ hM ⟨cw, hni, hts _ hin⟩ (x_preS B hC hS) rfl hn hl.1 rfl (lv_room hW) hd hR.2) kx k
/-! ends -/
section Ends9
variable {Q : Option Value → xH → Prop} {X : String → xH → Prop} {mc ms : Nat}
theorem x_ireturn {x : Int32} {ty : FieldType} (hd : decode M.2.1 pc = .ok (.ireturn, 1)) (hr9 : M.2.2.2 = some ty) (hn : narrow ty (.int x) = .int x) (hc : kc ≤ mc) (hs : ks ≤ ms) (hq : Q (some (.int x)) h) : xP g l M tb R (xZ g Q X mc ms) pc V [.int x] h kc ks := by
  intro p e s m args below meth c H locs ls B hC hS hl
  obtain ⟨hx, hb, hr, hml, hown, hts, hlk, hnm, htb, hI, hz, hst⟩ := id B
  refine W.widen hc hs (vx_ret ?_)
  exact W.zret hx hb (hr.trans hr9) hn (fun t ht hW => ⟨_, h, rfl, hq, by rw [ht]; exact hC, by rw [ht]; exact hS.1⟩) hS.2.2 hd
theorem x_lreturn {x : Int64} (hd : decode M.2.1 pc = .ok (.lreturn, 1)) (hr9 : M.2.2.2 = some .long) (hc : kc ≤ mc) (hs : ks ≤ ms) (hq : Q (some (.long x)) h) : xP g l M tb R (xZ g Q X mc ms) pc V [.long x] h kc ks := by
  intro p e s m args below meth c H locs ls B hC hS hl
  obtain ⟨hx, hb, hr, hml, hown, hts, hlk, hnm, htb, hI, hz, hst⟩ := id B
  refine W.widen hc hs (vx_ret ?_)
  exact W.lret hx hb (hr.trans hr9) (fun t ht hW => ⟨_, h, rfl, hq, by rw [ht]; exact hC, by rw [ht]; exact hS.1⟩) hS.2.2 hd
theorem x_freturn {x : UInt32} (hd : decode M.2.1 pc = .ok (.freturn, 1)) (hr9 : M.2.2.2 = some .float) (hc : kc ≤ mc) (hs : ks ≤ ms) (hq : Q (some (.float x)) h) : xP g l M tb R (xZ g Q X mc ms) pc V [.float x] h kc ks := by
  intro p e s m args below meth c H locs ls B hC hS hl
  obtain ⟨hx, hb, hr, hml, hown, hts, hlk, hnm, htb, hI, hz, hst⟩ := id B
  refine W.widen hc hs (vx_ret ?_)
  exact W.fret hx hb (hr.trans hr9) (fun t ht hW => ⟨_, h, rfl, hq, by rw [ht]; exact hC, by rw [ht]; exact hS.1⟩) hS.2.2 hd
theorem x_dreturn {x : UInt64} (hd : decode M.2.1 pc = .ok (.dreturn, 1)) (hr9 : M.2.2.2 = some .double) (hc : kc ≤ mc) (hs : ks ≤ ms) (hq : Q (some (.double x)) h) : xP g l M tb R (xZ g Q X mc ms) pc V [.double x] h kc ks := by
  intro p e s m args below meth c H locs ls B hC hS hl
  obtain ⟨hx, hb, hr, hml, hown, hts, hlk, hnm, htb, hI, hz, hst⟩ := id B
  refine W.widen hc hs (vx_ret ?_)
  exact W.dret hx hb (hr.trans hr9) (fun t ht hW => ⟨_, h, rfl, hq, by rw [ht]; exact hC, by rw [ht]; exact hS.1⟩) hS.2.2 hd
theorem x_return (hd : decode M.2.1 pc = .ok (.return_, 1)) (hr9 : M.2.2.2 = none) (hc : kc ≤ mc) (hs : ks ≤ ms) (hq : Q none h) : xP g l M tb R (xZ g Q X mc ms) pc V [] h kc ks := by
  intro p e s m args below meth c H locs ls B hC hS hl
  obtain ⟨hx, hb, hr, hml, hown, hts, hlk, hnm, htb, hI, hz, hst⟩ := id B
  refine W.widen hc hs (vx_ret ?_)
  exact W.vret hx hb (hr.trans hr9) (fun t ht hW => ⟨_, h, rfl, hq, by rw [ht]; exact hC, by rw [ht]; exact hS.1⟩) hS.2.2 hd
/-- thrown by a callee, and not caught here -/
theorem x_out {E : String} (htb : tb = []) (hc : kc ≤ mc) (hs : ks ≤ ms) (hx9 : X E h) : xPx g l M tb R (xZ g Q X mc ms) pc V S h kc ks E := by
  intro p e s m args below meth c H locs ls q ce B hC hS hl hce hcv hcl
  obtain ⟨hx, hb, hr, hml, hown, hts, hlk, hnm, htb9, hI, hz, hst⟩ := id B
  subst htb
  exact vx_out (fun x hx9 => by rw [htb9] at hx9; cases hx9) hlk hce hcv hcl (fun t ht hA => ⟨h, hx9, by rw [ht]; exact hC, by rw [ht]; exact hS.1⟩) hS.2.2 hc hs
end Ends9
end X3
