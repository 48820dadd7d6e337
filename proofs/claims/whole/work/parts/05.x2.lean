/-! ===== the small machine: the heap, calls, ends ===== -/
def hset (h : xH) (a : Nat) (e : xE) : xH := (fun b => if b = a then some e else h.1 b, h.2)
def hnew (h : xH) (e : xE) : xH := (fun b => if b = h.2 then some e else h.1 b, h.2 + 1)
theorem xC.va {g : xG} {h : xH} {H : Heap} (hC : xC g h H) {a : Nat} {e : xE} (ha : h.1 a = some e) : va_P (gD g) vwCl [(a, xe g e)] H := by
  intro k q hk
  cases k with
  | zero => cases hk; exact (hC.2.2.2 a e ha).2
  | succ k => simp at hk
theorem xC.lt {g : xG} {h : xH} {H : Heap} (hC : xC g h H) {a : Nat} {e : xE} (ha : h.1 a = some e) : a < h.2 := by
  rw [← hC.1]
  exact (hC.2.2.2 a e ha).2.lt
theorem xC.set {g : xG} {h : xH} {H H1 : Heap} (hC : xC g h H) {a : Nat} {e0 e : xE} (ha : h.1 a = some e0) (he : va_at (gD g) vwCl (a, xe g e) H1) (z : H1.size = H.size) (oq : ∀ q : Nat, q ≠ a → H1[q]? = H[q]?) : xC g (hset h a e) H1 := by
  have hz := (hC.2.2.2 a e0 ha).1
  refine ⟨z.trans hC.1, hC.2.1, fun q hq => (oq q (by omega)).trans (hC.2.2.1 q hq), fun b e' hb => ?_⟩
  unfold hset at hb
  dsimp only at hb
  by_cases hba : b = a
  · subst hba
    rw [if_pos rfl] at hb
    cases hb
    exact ⟨hz, he⟩
  · rw [if_neg hba] at hb
    obtain ⟨h1, h2⟩ := hC.2.2.2 b e' hb
    exact ⟨h1, h2.kept (oq b hba)⟩
theorem xC.new {g : xG} {h : xH} {H H1 : Heap} (hC : xC g h H) {e : xE} (he : va_at (gD g) vwCl (H.size, xe g e) H1) (z : H1.size = H.size + 1) (oq : ∀ q : Nat, q < H.size → H1[q]? = H[q]?) : xC g (hnew h e) H1 := by
  obtain ⟨k1, k2, k3, k4⟩ := hC
  refine ⟨by rw [z, k1]; rfl, Nat.le_succ_of_le k2, fun q hq => (oq q (by omega)).trans (k3 q hq), fun b e' hb => ?_⟩
  unfold hnew at hb
  dsimp only at hb
  by_cases hba : b = h.2
  · subst hba
    rw [if_pos rfl] at hb
    cases hb
    rw [← k1]
    exact ⟨by rw [k1]; exact k2, he⟩
  · rw [if_neg hba] at hb
    obtain ⟨h1, h2⟩ := k4 b e' hb
    exact ⟨h1, h2.kept (oq b h2.lt)⟩
theorem va_S.new {A : Nat → Prop} {H0 H H1 : Heap} {locs : List Loc} (hS : va_S A H0 H locs) (z : H1.size = H.size + 1) (oq : ∀ q : Nat, q < H.size → H1[q]? = H[q]?) : va_S A H0 H1 locs :=
  ⟨Nat.le_trans hS.1 (by omega), fun x h1 h2 => (oq x (Nat.lt_of_lt_of_le h1 hS.1)).trans (hS.2.1 x h1 h2), hS.2.2⟩
theorem xT_name {g : xG} {U : State} {t : Nat} (h : va_K (gD g) vwCl (xtys g) U) (ht : t < 5) : U.vm.findClass ("[" ++ (xT t).toString) = some (gA g t) := by
  have hra := (h.2 t _ (xtys_at (by omega))).2
  rcases (show t = 0 ∨ t = 1 ∨ t = 2 ∨ t = 3 ∨ t = 4 by omega) with rfl | rfl | rfl | rfl | rfl
  · exact hra
  · exact hra
  · exact hra
  · exact hra
  · exact hra
section X2
variable {g : xG} {l : Launch} {M : xM} {tb : List (Nat × Nat × Nat × Nat)} {R : Room} {Z : List Frame → Array Value → State → State → Prop} {pc : Nat} {V : List (Option Value)} {S : List Value} {h : xH} {kc ks : Nat}
theorem x_getf {a ci k i : Nat} {fs : List Value} {v : Value} (hd : decode M.2.1 pc = .ok (.getfield i, 3)) (hF : xF M.1.cls i ci k) (ha : h.1 a = some (.inr (ci, fs))) (hv : fs[k]? = some v) (K : xP g l M tb R Z (pc + 3) V (v :: S) h kc ks) : xP g l M tb R Z pc V (.ref a :: S) h kc ks := by
  intro p e s m args below meth c H locs ls B hC hS hl
  obtain ⟨hx, hb, hr, hml, hown, hts, hlk, hnm, htb, hI, hz, hst⟩ := id B
  obtain ⟨hk, hT, hln, hc, hin, hty, hnd⟩ := hF
  exact va_get (D := gD g) (ci := ci) (Ts := xW) hx hb hts hin hown hI.1.1 (hC.va ha) 0 (fs := fs) rfl hc k hk (hts _ hln) (fun x hx9 => by rw [hT] at hx9; exact hx9) hv hd (K p e s m args below meth c H locs ls B hC hS hl)
theorem x_putf {a ci k i : Nat} {fs : List Value} {v : Value} (hd : decode M.2.1 pc = .ok (.putfield i, 3)) (hF : xF M.1.cls i ci k) (ha : h.1 a = some (.inr (ci, fs))) (hfin : ((xcl ci).2.1 k).2.2.2 = false) (hn : narrow ((xcl ci).2.2.2 k) v = v) (hfit : fits ((xcl ci).2.2.2 k) v = true) (hlen : k < fs.length) (K : xP g l M tb R Z (pc + 3) V S (hset h a (.inr (ci, fs.set k v))) kc ks) : xP g l M tb R Z pc V (v :: .ref a :: S) h kc ks := by
  intro p e s m args below meth c H locs ls B hC hS hl
  obtain ⟨hx, hb, hr, hml, hown, hts, hlk, hnm, htb, hI, hz, hst⟩ := id B
  obtain ⟨hk, hT, hln, hc, hin, hty, hnd⟩ := hF
  have hap := va_apart (own := M.1.cls) hts hin _ hty hnd hI.1.1 hc
  obtain ⟨r, h1, cell, q1, q2, q3, q4⟩ := (hC.2.2.2 a _ ha).2
  have hr9 : r = ((xcl ci).1, (xcl ci).2.1, (xcl ci).2.2.1) := Option.some.inj (h1.symm.trans hc)
  subst hr9
  obtain ⟨hSl, hfc, kC, hkC, hkind⟩ := hI.1.1.1 ci _ hc
  obtain ⟨cf, kf, fi, f, hi, hsl⟩ := hSl k hk
  have hlay := hts _ (hin _ (u_in_lay hk))
  unfold u_lay at hlay
  rw [if_neg (by rw [hfin]; decide)] at hlay
  have hst9 := (u_facts hfc hkC (u_lays hts hin hk) hi).1
  have h6 := u_store hfc hkC hkind hlay hi (hty k hk) hn hfit
  refine W.putK hx hb (f := f) ⟨hown, hts _ hln, ⟨_, _, _, (by rw [hT] at hi; exact hi)⟩, hst9⟩ (by rw [q2]; exact h6) q1 q3 (by rw [hsl]; exact k2_hasslot (q4 k hk)) rfl rfl hd fun H' e1 e2 e3 => ?_
  rw [hsl] at e1 ⊢
  exact K p e s m args below meth c H' _ ls B (hC.set ha ⟨_, hc, t_OB.to (V := updV (vp_V fs) k v) ⟨_, e1, q2, q3, t_set q4 hap hk v⟩ (fun j _ => vp_updV_set hlen v j)⟩ e2 e3) (hS.put e2 e3 (hC.2.2.2 a _ ha).1) hl
/-- a final field, in the constructor -/
theorem x_putF {a ci k i : Nat} {fs : List Value} {v : Value} (hd : decode M.2.1 pc = .ok (.putfield i, 3)) (hF : xF M.1.cls i ci k) (ha : h.1 a = some (.inr (ci, fs))) (hfin : ((xcl ci).2.1 k).2.2.2 = true) (hini : M.1.name = "<init>") (hdecl : (xcl ci).1 = M.1.cls) (hn : narrow ((xcl ci).2.2.2 k) v = v) (hfit : fits ((xcl ci).2.2.2 k) v = true) (hlen : k < fs.length) (K : xP g l M tb R Z (pc + 3) V S (hset h a (.inr (ci, fs.set k v))) kc ks) : xP g l M tb R Z pc V (v :: .ref a :: S) h kc ks := by
  intro p e s m args below meth c H locs ls B hC hS hl
  obtain ⟨hx, hb, hr, hml, hown, hts, hlk, hnm, htb, hI, hz, hst⟩ := id B
  obtain ⟨hk, hT, hln, hc, hin, hty, hnd⟩ := hF
  have hap := va_apart (own := M.1.cls) hts hin _ hty hnd hI.1.1 hc
  obtain ⟨r, h1, cell, q1, q2, q3, q4⟩ := (hC.2.2.2 a _ ha).2
  have hr9 : r = ((xcl ci).1, (xcl ci).2.1, (xcl ci).2.2.1) := Option.some.inj (h1.symm.trans hc)
  subst hr9
  obtain ⟨hSl, hfc, kC, hkC, hkind⟩ := hI.1.1.1 ci _ hc
  obtain ⟨cf, kf, fi, f, hi, hsl⟩ := hSl k hk
  have hlay := hts _ (hin _ (u_in_lay hk))
  unfold u_lay at hlay
  rw [if_pos hfin] at hlay
  have hst9 := (u_facts hfc hkC (u_lays hts hin hk) hi).1
  have hcf : m.cls = cf := by
    obtain ⟨_, _, c', _, _, _, -, -, hf', -, -, -, hown2, -⟩ := Cond.laysFinal_spec hlay
    have e1 : c' = cf := by have := hi.symm.trans hf'; simp at this; exact this.1.symm
    rw [hT, hdecl] at hown2
    rw [← e1]; exact Option.some.inj (hown.symm.trans hown2)
  have h6 := u_fits hfc hkC hkind (Or.inr hlay) hi (hty k hk) hn hfit
  refine W.putFinK hx hb hown (hts _ hln) (by rw [hT] at hi; exact hi) hst9 hcf (hnm.trans hini) (by rw [q2]; exact h6) q1 q3 (by rw [hsl]; exact k2_hasslot (q4 k hk)) rfl rfl hd fun H' e1 e2 e3 => ?_
  rw [hsl] at e1 ⊢
  exact K p e s m args below meth c H' _ ls B (hC.set ha ⟨_, hc, t_OB.to (V := updV (vp_V fs) k v) ⟨_, e1, q2, q3, t_set q4 hap hk v⟩ (fun j _ => vp_updV_set hlen v j)⟩ e2 e3) (hS.put e2 e3 (hC.2.2.2 a _ ha).1) hl
theorem x_new {i ci : Nat} {fs : List Value} (hd : decode M.2.1 pc = .ok (.new i, 3)) (hN : xN M.1.cls i ci) (hfs : ∀ j, j < (xcl ci).2.2.1 → defaultValue ((xcl ci).2.2.2 j) = vp_V fs j) (hc1 : kc + 1 ≤ R.cells) (hs1 : ks + (xcl ci).2.2.1 ≤ R.slots) (K : xP g l M tb R Z (pc + 3) V (.ref h.2 :: S) (hnew h (.inr (ci, fs))) (kc + 1) (ks + (xcl ci).2.2.1)) : xP g l M tb R Z pc V S h kc ks := by
  intro p e s m args below meth c H locs ls B hC hS hl
  obtain ⟨hx, hb, hr, hml, hown, hts, hlk, hnm, htb, hI, hz, hst⟩ := id B
  obtain ⟨hcl, hins, hini, hc, hin, hty, hnd⟩ := hN
  have hKn := hI.1.1.1 ci _ hc
  refine W.newcK hx hb hown (hts _ hcl) (hts _ hins) (hts _ hini) rfl hd hc1 hs1 hKn.2.1 hC.1 fun H1 kC hkC e1 z1 o1 => ?_
  exact K p e s m args below meth c H1 locs ls B (hC.new (by rw [hC.1]; exact ⟨_, hc, (u_born _ hts hin hKn hkC e1 hty).to hfs⟩) (by rw [hC.1]; exact z1) (by rw [hC.1]; exact o1)) (hS.new (by rw [hC.1]; exact z1) (by rw [hC.1]; exact o1)) hl
theorem x_newarray {atype : ArrayType} {t N : Nat} {a0 : vp_A} (hd : decode M.2.1 pc = .ok (.newarray atype, 2)) (hw : Cond.arrayClass (newarray.typeOf atype) ∈ xW) (ht : newarray.typeOf atype = xT t) (ht5 : t < 5) (ha : ∀ cA : ClassId, vp_cell cA a0 = arrV cA N (fun _ => defaultValue (xT t))) (hN : N < 2 ^ 31) (hbytes : N * componentBytes (xT t) ≤ 536870912) (hc1 : kc + 1 ≤ R.cells) (hs1 : ks + N ≤ R.slots) (K : xP g l M tb R Z (pc + 2) V (.ref h.2 :: S) (hnew h (.inl (t, a0))) (kc + 1) (ks + N)) : xP g l M tb R Z pc V (.int (nI N) :: S) h kc ks := by
  intro p e s m args below meth c H locs ls B hC hS hl
  obtain ⟨hx, hb, hr, hml, hown, hts, hlk, hnm, htb, hI, hz, hst⟩ := id B
  have hcl : (nI N).toNatClampNeg = N := nI_clamp hN
  refine va_newaK hx hb (hts _ hw) rfl hd rfl (nI_pos hN) hcl (by rw [ht]; exact hbytes) hc1 hs1 hC.1 fun H1 cA e1 z1 o1 hAr hNm => ?_
  have hcA : cA = gA g t := by
    rw [ht] at hNm
    exact Option.some.inj (hNm.symm.trans (xT_name hI.1.1 ht5))
  subst hcA
  exact K p e s m args below meth c H1 locs ls B (hC.new (by rw [hC.1]; show H1[h.2]? = some (vp_cell _ _); rw [ha, e1, ht]) (by rw [hC.1]; exact z1) (by rw [hC.1]; exact o1)) (hS.new (by rw [hC.1]; exact z1) (by rw [hC.1]; exact o1)) hl
/-- new Archive[N] -/
theorem x_anewarray {i N : Nat} (hd : decode M.2.1 pc = .ok (.anewarray i, 3)) (hw : Cond.classLink M.1.cls i "VillagePhotos$Archive" ∈ xW) (hN : N < 1000) (hc1 : kc + 1 ≤ R.cells) (hs1 : ks + N ≤ R.slots) (K : xP g l M tb R Z (pc + 3) V (.ref h.2 :: S) (hnew h (.inl (5, N, .inr (.inr (.inr (.inr (fun _ => none))))))) (kc + 1) (ks + N)) : xP g l M tb R Z pc V (.int (nI N) :: S) h kc ks := by
  intro p e s m args below meth c H locs ls B hC hS hl
  obtain ⟨hx, hb, hr, hml, hown, hts, hlk, hnm, htb, hI, hz, hst⟩ := id B
  have hcl : (nI N).toNatClampNeg = N := nI_clamp (by omega)
  refine W.anew hx hb hown (hts _ hw) (va_AO.use hI.1.2.1) rfl hd rfl (nI_pos (by omega)) (by rw [hcl]; omega) hc1 (by rw [hcl]; exact hs1) fun cA kA comp f1 f2 f3 f4 => ?_
  rw [hcl]
  generalize hH1 : H.push ({ cls := cA, slots := Array.replicate N .null, vm := .none } : Cell) = H1
  have z1 : H1.size = H.size + 1 := by rw [← hH1, Array.size_push]
  have e1 : H1[H.size]? = some (arrV cA N (fun _ => .null)) := by rw [← hH1, Array.getElem?_push_size, ← arrV_new]
  have o1 : ∀ q : Nat, q < H.size → H1[q]? = H[q]? := fun q hq => by rw [← hH1, Array.getElem?_push, if_neg (Nat.ne_of_lt hq)]
  have hcA : cA = gA g 5 := by
    obtain ⟨k1, k2, -, -, -, k3⟩ := (hI.1.1.2 5 _ (xtys_at (g := g) (by omega))).2
    exact Option.some.inj (f1.symm.trans k3)
  subst hcA
  have k := K p e s m args below meth c H1 locs ls B (hC.new (by show H1[H.size]? = some (vp_cell _ _); rw [vp_cell_q]; exact e1) z1 o1) (hS.new z1 o1) hl
  rw [← hC.1] at k
  exact k
theorem x_alen {a t : Nat} {x : vp_A} (hd : decode M.2.1 pc = .ok (.arraylength, 1)) (ha : h.1 a = some (.inl (t, x))) (ht : t < 6) (K : xP g l M tb R Z (pc + 1) V (.int (nI x.1) :: S) h kc ks) : xP g l M tb R Z pc V (.ref a :: S) h kc ks := by
  intro p e s m args below meth c H locs ls B hC hS hl
  exact va_alen (D := gD g) B.1 B.2.1 B.2.2.2.2.2.2.2.2.2.1.1.1 (hC.va ha) 0 t rfl (xtys_at ht) rfl hd (K p e s m args below meth c H locs ls B hC hS hl)
theorem x_iald {a i n : Nat} {f : Nat → Int32} (hd : decode M.2.1 pc = .ok (.iaload, 1)) (ha : h.1 a = some (.inl (0, n, .inl f))) (hi : i < n) (hn : n < 2 ^ 31) (K : xP g l M tb R Z (pc + 1) V (.int (f i) :: S) h kc ks) : xP g l M tb R Z pc V (.int (nI i) :: .ref a :: S) h kc ks := by
  intro p e s m args below meth c H locs ls B hC hS hl
  refine va_iald (D := gD g) B.1 B.2.1 B.2.2.2.2.2.2.2.2.2.1.1.1 (hC.va ha) 0 0 rfl rfl (vp_in_nI hi hn) hd ?_
  rw [nI_clamp (show i < 2 ^ 31 by omega)]
  exact K p e s m args below meth c H locs ls B hC hS hl
theorem x_bald {a i n : Nat} {f : Nat → Int32} (hd : decode M.2.1 pc = .ok (.baload, 1)) (ha : h.1 a = some (.inl (1, n, .inl f))) (hi : i < n) (hn : n < 2 ^ 31) (K : xP g l M tb R Z (pc + 1) V (.int (f i) :: S) h kc ks) : xP g l M tb R Z pc V (.int (nI i) :: .ref a :: S) h kc ks := by
  intro p e s m args below meth c H locs ls B hC hS hl
  refine va_bald (D := gD g) B.1 B.2.1 B.2.2.2.2.2.2.2.2.2.1.1.1 (hC.va ha) 0 1 rfl rfl (vp_in_nI hi hn) hd ?_
  rw [nI_clamp (show i < 2 ^ 31 by omega)]
  exact K p e s m args below meth c H locs ls B hC hS hl
theorem x_lald {a i n : Nat} {f : Nat → Int64} (hd : decode M.2.1 pc = .ok (.laload, 1)) (ha : h.1 a = some (.inl (2, n, .inr (.inl f)))) (hi : i < n) (hn : n < 2 ^ 31) (K : xP g l M tb R Z (pc + 1) V (.long (f i) :: S) h kc ks) : xP g l M tb R Z pc V (.int (nI i) :: .ref a :: S) h kc ks := by
  intro p e s m args below meth c H locs ls B hC hS hl
  refine va_lald (D := gD g) B.1 B.2.1 B.2.2.2.2.2.2.2.2.2.1.1.1 (hC.va ha) 0 2 rfl rfl (vp_in_nI hi hn) hd ?_
  rw [nI_clamp (show i < 2 ^ 31 by omega)]
  exact K p e s m args below meth c H locs ls B hC hS hl
theorem x_zald {a i n : Nat} {f : Nat → Int32} (hd : decode M.2.1 pc = .ok (.baload, 1)) (ha : h.1 a = some (.inl (3, n, .inl f))) (hi : i < n) (hn : n < 2 ^ 31) (K : xP g l M tb R Z (pc + 1) V (.int (f i) :: S) h kc ks) : xP g l M tb R Z pc V (.int (nI i) :: .ref a :: S) h kc ks := by
  intro p e s m args below meth c H locs ls B hC hS hl
  refine va_zald (D := gD g) B.1 B.2.1 B.2.2.2.2.2.2.2.2.2.1.1.1 (hC.va ha) 0 3 rfl rfl (vp_in_nI hi hn) hd ?_
  rw [nI_clamp (show i < 2 ^ 31 by omega)]
  exact K p e s m args below meth c H locs ls B hC hS hl
theorem x_dald {a i n : Nat} {f : Nat → UInt64} (hd : decode M.2.1 pc = .ok (.daload, 1)) (ha : h.1 a = some (.inl (4, n, .inr (.inr (.inr (.inl f)))))) (hi : i < n) (hn : n < 2 ^ 31) (K : xP g l M tb R Z (pc + 1) V (.double (f i) :: S) h kc ks) : xP g l M tb R Z pc V (.int (nI i) :: .ref a :: S) h kc ks := by
  intro p e s m args below meth c H locs ls B hC hS hl
  refine va_dald (D := gD g) B.1 B.2.1 B.2.2.2.2.2.2.2.2.2.1.1.1 (hC.va ha) 0 4 rfl rfl (vp_in_nI hi hn) hd ?_
  rw [nI_clamp (show i < 2 ^ 31 by omega)]
  exact K p e s m args below meth c H locs ls B hC hS hl
theorem x_aald {a i n : Nat} {f : Nat → Option Nat} (hd : decode M.2.1 pc = .ok (.aaload, 1)) (ha : h.1 a = some (.inl (5, n, .inr (.inr (.inr (.inr f)))))) (hi : i < n) (hn : n < 2 ^ 31) (K : xP g l M tb R Z (pc + 1) V (va_rf (f i) :: S) h kc ks) : xP g l M tb R Z pc V (.int (nI i) :: .ref a :: S) h kc ks := by
  intro p e s m args below meth c H locs ls B hC hS hl
  refine va_aldq (D := gD g) B.1 B.2.1 B.2.2.2.2.2.2.2.2.2.1.1.1 (hC.va ha) 0 5 rfl rfl (vp_in_nI hi hn) hd ?_
  rw [nI_clamp (show i < 2 ^ 31 by omega)]
  exact K p e s m args below meth c H locs ls B hC hS hl
theorem x_iast {x : Int32} {a i n : Nat} {f : Nat → Int32} (hd : decode M.2.1 pc = .ok (.iastore, 1)) (ha : h.1 a = some (.inl (0, n, .inl f))) (hi : i < n) (hn : n < 2 ^ 31) (K : xP g l M tb R Z (pc + 1) V S (hset h a (.inl (0, n, .inl (upd f i x)))) kc ks) : xP g l M tb R Z pc V (.int x :: .int (nI i) :: .ref a :: S) h kc ks := by
  intro p e s m args below meth c H locs ls B hC hS hl
  have hcl : (nI i).toNatClampNeg = i := nI_clamp (show i < 2 ^ 31 by omega)
  refine W.iast B.1 B.2.1 (hC.2.2.2 a _ ha).2 ((B.2.2.2.2.2.2.2.2.2.1.1.1.2 0 _ rfl).1 n (fun j => .int (f j))) (fun q => by cases q) (by show ¬ (_ ∨ (arrV _ _ _).slots.size ≤ _); rw [arrV_size]; exact vp_in_nI hi hn) rfl rfl hd fun H1 e9 z oq => ?_
  rw [hcl] at e9 ⊢
  refine K p e s m args below meth c H1 _ ls B (hC.set ha ?_ z oq) (hS.put z oq (hC.2.2.2 a _ ha).1) hl
  show H1[a]? = some (vp_cell _ _)
  rw [e9]
  show some ((vp_cell _ _).setSlot _ _) = _
  rw [vp_cell_i, vp_cell_i, arrV_store]
  congr 2
  funext q
  by_cases hq : q = i
  · subst hq
    simp [updV, upd, vp_nar]
    try rfl
  · simp [updV, upd, hq]
theorem x_bast {x : Int32} {a i n : Nat} {f : Nat → Int32} (hd : decode M.2.1 pc = .ok (.bastore, 1)) (ha : h.1 a = some (.inl (1, n, .inl f))) (hi : i < n) (hn : n < 2 ^ 31) (K : xP g l M tb R Z (pc + 1) V S (hset h a (.inl (1, n, .inl (upd f i (vp_nar .byte x))))) kc ks) : xP g l M tb R Z pc V (.int x :: .int (nI i) :: .ref a :: S) h kc ks := by
  intro p e s m args below meth c H locs ls B hC hS hl
  have hcl : (nI i).toNatClampNeg = i := nI_clamp (show i < 2 ^ 31 by omega)
  refine W.bast B.1 B.2.1 (hC.2.2.2 a _ ha).2 ((B.2.2.2.2.2.2.2.2.2.1.1.1.2 1 _ rfl).1 n (fun j => .int (f j))) (fun q => by cases q) (by show ¬ (_ ∨ (arrV _ _ _).slots.size ≤ _); rw [arrV_size]; exact vp_in_nI hi hn) rfl rfl hd fun H1 e9 z oq => ?_
  rw [hcl] at e9 ⊢
  refine K p e s m args below meth c H1 _ ls B (hC.set ha ?_ z oq) (hS.put z oq (hC.2.2.2 a _ ha).1) hl
  show H1[a]? = some (vp_cell _ _)
  rw [e9]
  show some ((vp_cell _ _).setSlot _ _) = _
  rw [vp_cell_i, vp_cell_i, arrV_store]
  congr 2
  funext q
  by_cases hq : q = i
  · subst hq
    simp [updV, upd, vp_nar]
    try rfl
  · simp [updV, upd, hq]
theorem x_last {x : Int64} {a i n : Nat} {f : Nat → Int64} (hd : decode M.2.1 pc = .ok (.lastore, 1)) (ha : h.1 a = some (.inl (2, n, .inr (.inl f)))) (hi : i < n) (hn : n < 2 ^ 31) (K : xP g l M tb R Z (pc + 1) V S (hset h a (.inl (2, n, .inr (.inl (vp_updL f i x))))) kc ks) : xP g l M tb R Z pc V (.long x :: .int (nI i) :: .ref a :: S) h kc ks := by
  intro p e s m args below meth c H locs ls B hC hS hl
  have hcl : (nI i).toNatClampNeg = i := nI_clamp (show i < 2 ^ 31 by omega)
  refine W.last B.1 B.2.1 (hC.2.2.2 a _ ha).2 ((B.2.2.2.2.2.2.2.2.2.1.1.1.2 2 _ rfl).1 n (fun j => .long (f j))) (fun q => by cases q) (by show ¬ (_ ∨ (arrV _ _ _).slots.size ≤ _); rw [arrV_size]; exact vp_in_nI hi hn) rfl rfl hd fun H1 e9 z oq => ?_
  rw [hcl] at e9 ⊢
  refine K p e s m args below meth c H1 _ ls B (hC.set ha ?_ z oq) (hS.put z oq (hC.2.2.2 a _ ha).1) hl
  show H1[a]? = some (vp_cell _ _)
  rw [e9]
  show some ((vp_cell _ _).setSlot _ _) = _
  rw [vp_cell_l, vp_cell_l, arrV_store]
  congr 2
  funext q
  by_cases hq : q = i
  · subst hq
    simp [updV, vp_updL, vp_nar]
    try rfl
  · simp [updV, vp_updL, hq]
theorem x_zast {x : Int32} {a i n : Nat} {f : Nat → Int32} (hd : decode M.2.1 pc = .ok (.bastore, 1)) (ha : h.1 a = some (.inl (3, n, .inl f))) (hi : i < n) (hn : n < 2 ^ 31) (K : xP g l M tb R Z (pc + 1) V S (hset h a (.inl (3, n, .inl (upd f i (vp_nar .boolean x))))) kc ks) : xP g l M tb R Z pc V (.int x :: .int (nI i) :: .ref a :: S) h kc ks := by
  intro p e s m args below meth c H locs ls B hC hS hl
  have hcl : (nI i).toNatClampNeg = i := nI_clamp (show i < 2 ^ 31 by omega)
  refine W.zast B.1 B.2.1 (hC.2.2.2 a _ ha).2 ((B.2.2.2.2.2.2.2.2.2.1.1.1.2 3 _ rfl).1 n (fun j => .int (f j))) (fun q => by cases q) (by show ¬ (_ ∨ (arrV _ _ _).slots.size ≤ _); rw [arrV_size]; exact vp_in_nI hi hn) rfl rfl hd fun H1 e9 z oq => ?_
  rw [hcl] at e9 ⊢
  refine K p e s m args below meth c H1 _ ls B (hC.set ha ?_ z oq) (hS.put z oq (hC.2.2.2 a _ ha).1) hl
  show H1[a]? = some (vp_cell _ _)
  rw [e9]
  show some ((vp_cell _ _).setSlot _ _) = _
  rw [vp_cell_i, vp_cell_i, arrV_store]
  congr 2
  funext q
  by_cases hq : q = i
  · subst hq
    simp [updV, upd, vp_nar]
    try rfl
  · simp [updV, upd, hq]
theorem x_dast {x : UInt64} {a i n : Nat} {f : Nat → UInt64} (hd : decode M.2.1 pc = .ok (.dastore, 1)) (ha : h.1 a = some (.inl (4, n, .inr (.inr (.inr (.inl f)))))) (hi : i < n) (hn : n < 2 ^ 31) (K : xP g l M tb R Z (pc + 1) V S (hset h a (.inl (4, n, .inr (.inr (.inr (.inl (vf_upd f i x))))))) kc ks) : xP g l M tb R Z pc V (.double x :: .int (nI i) :: .ref a :: S) h kc ks := by
  intro p e s m args below meth c H locs ls B hC hS hl
  have hcl : (nI i).toNatClampNeg = i := nI_clamp (show i < 2 ^ 31 by omega)
  refine W.dast B.1 B.2.1 (hC.2.2.2 a _ ha).2 ((B.2.2.2.2.2.2.2.2.2.1.1.1.2 4 _ rfl).1 n (fun j => .double (f j))) (fun q => by cases q) (by show ¬ (_ ∨ (arrV _ _ _).slots.size ≤ _); rw [arrV_size]; exact vp_in_nI hi hn) rfl rfl hd fun H1 e9 z oq => ?_
  rw [hcl] at e9 ⊢
  refine K p e s m args below meth c H1 _ ls B (hC.set ha ?_ z oq) (hS.put z oq (hC.2.2.2 a _ ha).1) hl
  show H1[a]? = some (vp_cell _ _)
  rw [e9]
  show some ((vp_cell _ _).setSlot _ _) = _
  rw [vp_cell_d, vp_cell_d, arrV_store]
  congr 2
  funext q
  by_cases hq : q = i
  · subst hq
    simp [updV, vf_upd, vp_nar]
    try rfl
  · simp [updV, vf_upd, hq]
theorem x_aast {v ci : Nat} {vs : List Value} {a i n : Nat} {f : Nat → Option Nat} (hd : decode M.2.1 pc = .ok (.aastore, 1)) (ha : h.1 a = some (.inl (5, n, .inr (.inr (.inr (.inr f)))))) (hv : h.1 v = some (.inr (0, vs))) (hi : i < n) (hn : n < 2 ^ 31) (K : xP g l M tb R Z (pc + 1) V S (hset h a (.inl (5, n, .inr (.inr (.inr (.inr (va_up f i (some v)))))))) kc ks) : xP g l M tb R Z pc V (.ref v :: .int (nI i) :: .ref a :: S) h kc ks := by
  intro p e s m args below meth c H locs ls B hC hS hl
  have hcl : (nI i).toNatClampNeg = i := nI_clamp (show i < 2 ^ 31 by omega)
  have hK : va_K (gD g) vwCl (xtys g) s := B.2.2.2.2.2.2.2.2.2.1.1.1
  obtain ⟨r', hr', cellV, g1, g2, g3, -⟩ := (hC.2.2.2 v _ hv).2
  have hcls := (hK.1 0 _ rfl).2
  obtain ⟨kA, comp, k1, k2, k3, -⟩ := (hK.2 5 _ rfl).2
  have hcomp : comp = (gD g).1 0 := Option.some.inj (k3.symm.trans hcls.1)
  subst hcomp
  obtain ⟨kC, hkC, -⟩ := hcls.2
  refine W.aast B.1 B.2.1 (hC.2.2.2 a _ ha).2 (fun q h => by cases h) (fun h => by cases h) k1 k2 rfl hkC ⟨nI_pos (by omega), by show _ < (arrV _ _ _).slots.size; rw [arrV_size, hcl]; exact hi⟩ g1 (fun q h => by rw [g3] at h; cases h) (by rw [g2]; exact hkC) (by rw [g2]; exact va_assign hcls) rfl rfl hd fun H1 e9 z oq => ?_
  rw [hcl] at e9 ⊢
  refine K p e s m args below meth c H1 _ ls B (hC.set ha ?_ z oq) (hS.put z oq (hC.2.2.2 a _ ha).1) hl
  show H1[a]? = some (vp_cell _ _)
  rw [e9]
  show some ((vp_cell _ _).setSlot _ _) = _
  rw [vp_cell_q, vp_cell_q, arrV_store]
  congr 2
  funext q
  by_cases hq : q = i
  · subst hq
    simp [updV, va_up, va_rf]
  · simp [updV, va_up, hq]
/-- Object.<init> -/
theorem x_objInit {a i : Nat} (hd : decode M.2.1 pc = .ok (.invokespecial i, 3)) (hw : Cond.methodLink M.1.cls i Lib.objectInit ∈ xW) (hR : 1 ≤ R.frames) (hR2 : (S.map fun v => v.category).sum + 12 ≤ R.locals) (K : xP g l M tb R Z (pc + 3) V S h kc ks) : xP g l M tb R Z pc V (.ref a :: S) h kc ks := by
  intro p e s m args below meth c H locs ls B hC hS hl
  obtain ⟨hx, hb, hr, hml, hown, hts, hlk, hnm, htb, hI, hz, hst⟩ := id B
  exact W.objInit hx hb hown (hts _ hw) (hts _ oi_in) (hts _ oi_code) rfl (by rw [hml]; exact hl.1) rfl hd hR (by show 2 * 0 + _ + _ ≤ _; omega) (K p e s m args below meth c H locs ls B hC hS hl)
end X2
