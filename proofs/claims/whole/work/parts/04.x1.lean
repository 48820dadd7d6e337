/-! ===== the small machine: a method's frame over a heap that is a function from addresses ===== -/
/-- a cell: an array of kind t, or an object of the class number ci -/
abbrev xE := (Nat × vp_A) ⊕ (Nat × List Value)
/-- the cells that are ours, and the next free address -/
abbrev xH := (Nat → Option xE) × Nat
/-- the first address that is ours, the heap before, the classes, their slots, the arrays' classes, the Strings, their bytes -/
abbrev xG := Nat × Heap × (Nat → ClassId) × (Nat → Nat → Nat) × (Nat → ClassId) × (Nat → Nat) × (Nat → Nat)
abbrev gD (g : xG) : va_G := (g.2.2.1, g.2.2.2.1)
abbrev gA (g : xG) : Nat → ClassId := g.2.2.2.2.1
abbrev gS (g : xG) : Nat → Nat := g.2.2.2.2.2.1
abbrev gV (g : xG) : Nat → Nat := g.2.2.2.2.2.2
abbrev gO (g : xG) : Nat → Prop := fun q => g.1 ≤ q
def xe (g : xG) (e : xE) : va_E := match e with
  | .inl a => .inl (gA g a.1, a.2)
  | .inr o => .inr o
def xC (g : xG) (h : xH) (H : Heap) : Prop := H.size = h.2 ∧ g.1 ≤ h.2 ∧ (∀ q : Nat, q < g.1 → H[q]? = g.2.1[q]?) ∧ ∀ (a : Nat) (e : xE), h.1 a = some e → g.1 ≤ a ∧ va_at (gD g) vwCl (a, xe g e) H
def xT (t : Nat) : FieldType := match t with
  | 0 => .int
  | 1 => .byte
  | 2 => .long
  | 3 => .boolean
  | 4 => .double
  | _ => .object "VillagePhotos$Archive"
def xtys (g : xG) : List (ClassId × FieldType) := [(gA g 0, xT 0), (gA g 1, xT 1), (gA g 2, xT 2), (gA g 3, xT 3), (gA g 4, xT 4), (gA g 5, xT 5)]
theorem xtys_at {g : xG} {t : Nat} (h : t < 6) : (xtys g)[t]? = some (gA g t, xT t) := by
  match t, h with
  | 0, _ => rfl
  | 1, _ => rfl
  | 2, _ => rfl
  | 3, _ => rfl
  | 4, _ => rfl
  | 5, _ => rfl
/-- the String constants: whose, which entry, the text, its bytes -/
def xStr : List (String × Nat × String × List Int32) := [("VillagePhotos$TextReader", 58, "tiles", [116, 105, 108, 101, 115]), ("VillagePhotos$TextReader", 76, "family", [102, 97, 109, 105, 108, 121]), ("VillagePhotos$TextReader", 102, "near", [110, 101, 97, 114]), ("VillagePhotos$TextReader", 45, "picture", [112, 105, 99, 116, 117, 114, 101]), ("VillagePhotos$TextReader", 121, "pledge", [112, 108, 101, 100, 103, 101]), ("VillagePhotos$TextReader", 126, "by", [98, 121]), ("VillagePhotos$TextReader", 139, "spoiled", [115, 112, 111, 105, 108, 101, 100]), ("VillagePhotosModel", 191, "tiles", [116, 105, 108, 101, 115]), ("VillagePhotosModel", 143, "family", [102, 97, 109, 105, 108, 121]), ("VillagePhotosModel", 196, "near", [110, 101, 97, 114]), ("VillagePhotosModel", 201, "picture", [112, 105, 99, 116, 117, 114, 101]), ("VillagePhotosModel", 175, "pledge", [112, 108, 101, 100, 103, 101]), ("VillagePhotosModel", 177, "by", [98, 121]), ("VillagePhotosModel", 189, "spoiled", [115, 112, 111, 105, 108, 101, 100]), ("VillagePhotos", 68, "the text would be too long", [116, 104, 101, 32, 116, 101, 120, 116, 32, 119, 111, 117, 108, 100, 32, 98, 101, 32, 116, 111, 111, 32, 108, 111, 110, 103]), ("VillagePhotos", 129, "no such number of an archive", [110, 111, 32, 115, 117, 99, 104, 32, 110, 117, 109, 98, 101, 114, 32, 111, 102, 32, 97, 110, 32, 97, 114, 99, 104, 105, 118, 101]), ("VillagePhotos", 310, "there is no such family", [116, 104, 101, 114, 101, 32, 105, 115, 32, 110, 111, 32, 115, 117, 99, 104, 32, 102, 97, 109, 105, 108, 121]), ("VillagePhotos", 157, "no such number of a family", [110, 111, 32, 115, 117, 99, 104, 32, 110, 117, 109, 98, 101, 114, 32, 111, 102, 32, 97, 32, 102, 97, 109, 105, 108, 121]), ("VillagePhotos", 312, "there is no such picture", [116, 104, 101, 114, 101, 32, 105, 115, 32, 110, 111, 32, 115, 117, 99, 104, 32, 112, 105, 99, 116, 117, 114, 101]), ("VillagePhotos", 181, "no such number of a picture", [110, 111, 32, 115, 117, 99, 104, 32, 110, 117, 109, 98, 101, 114, 32, 111, 102, 32, 97, 32, 112, 105, 99, 116, 117, 114, 101]), ("VillagePhotos", 198, "there is no held copy", [116, 104, 101, 114, 101, 32, 105, 115, 32, 110, 111, 32, 104, 101, 108, 100, 32, 99, 111, 112, 121]), ("VillagePhotos", 200, "there are not so many tiles", [116, 104, 101, 114, 101, 32, 97, 114, 101, 32, 110, 111, 116, 32, 115, 111, 32, 109, 97, 110, 121, 32, 116, 105, 108, 101, 115]), ("VillagePhotos", 316, "x is out of range", [120, 32, 105, 115, 32, 111, 117, 116, 32, 111, 102, 32, 114, 97, 110, 103, 101]), ("VillagePhotos", 255, "there is no such tile", [116, 104, 101, 114, 101, 32, 105, 115, 32, 110, 111, 32, 115, 117, 99, 104, 32, 116, 105, 108, 101]), ("VillagePhotos", 265, "no tile, or one that does not exist", [110, 111, 32, 116, 105, 108, 101, 44, 32, 111, 114, 32, 111, 110, 101, 32, 116, 104, 97, 116, 32, 100, 111, 101, 115, 32, 110, 111, 116, 32, 101, 120, 105, 115, 116]), ("VillagePhotos", 277, "no such room", [110, 111, 32, 115, 117, 99, 104, 32, 114, 111, 111, 109]), ("VillagePhotos", 279, "a family is no neighbour of itself", [97, 32, 102, 97, 109, 105, 108, 121, 32, 105, 115, 32, 110, 111, 32, 110, 101, 105, 103, 104, 98, 111, 117, 114, 32, 111, 102, 32, 105, 116, 115, 101, 108, 102]), ("VillagePhotos", 284, "no such pledge", [110, 111, 32, 115, 117, 99, 104, 32, 112, 108, 101, 100, 103, 101]), ("VillagePhotos", 289, "there is no change to undo", [116, 104, 101, 114, 101, 32, 105, 115, 32, 110, 111, 32, 99, 104, 97, 110, 103, 101, 32, 116, 111, 32, 117, 110, 100, 111]), ("VillagePhotos", 314, "there is no such slot", [116, 104, 101, 114, 101, 32, 105, 115, 32, 110, 111, 32, 115, 117, 99, 104, 32, 115, 108, 111, 116]), ("VillagePhotos", 297, "nothing is saved there", [110, 111, 116, 104, 105, 110, 103, 32, 105, 115, 32, 115, 97, 118, 101, 100, 32, 116, 104, 101, 114, 101]), ("VillagePhotos", 304, "there is no such byte", [116, 104, 101, 114, 101, 32, 105, 115, 32, 110, 111, 32, 115, 117, 99, 104, 32, 98, 121, 116, 101])]
/-- one String constant: where it stands, and what it holds -/
def xSt1 (g : xG) (i : Nat) (q : String × Nat × String × List Int32) (U : State) (H : Heap) : Prop := vk_R q.1 q.2.1 q.2.2.1 (gS g i) U ∧ va_O "java/lang/String" (gS g i) (gO g) U H ∧ va_OF "java/lang/String" "coder" "B" (.int 0) (gS g i) (gO g) U H ∧ va_OF "java/lang/String" "value" "[B" (.ref (gV g i)) (gS g i) (gO g) U H ∧ va_T .byte (gV g i) q.2.2.2.length (fun j => .int (q.2.2.2.getD j 0)) (gO g) U H
/-- which exceptions are of which classes, and which are not -/
def xKl : List (String × String) := [("java/lang/IllegalArgumentException", "java/lang/IllegalArgumentException"), ("java/lang/IllegalStateException", "java/lang/IllegalStateException"), ("java/lang/IndexOutOfBoundsException", "java/lang/IndexOutOfBoundsException")]
def xNcl : List (String × String) := [("java/lang/IllegalArgumentException", "java/lang/IllegalStateException"), ("java/lang/IllegalArgumentException", "java/lang/IndexOutOfBoundsException"), ("java/lang/IllegalStateException", "java/lang/IllegalArgumentException"), ("java/lang/IllegalStateException", "java/lang/IndexOutOfBoundsException"), ("java/lang/IndexOutOfBoundsException", "java/lang/IllegalArgumentException"), ("java/lang/IndexOutOfBoundsException", "java/lang/IllegalStateException")]
def xDl : List MethodName := [⟨"java/lang/RuntimeException", "<init>", "(Ljava/lang/String;)V"⟩, ⟨"java/lang/Exception", "<init>", "(Ljava/lang/String;)V"⟩, ⟨"java/lang/Throwable", "<init>", "(Ljava/lang/String;)V"⟩]
/-- what stays true of the tables -/
def xI1 (g : xG) (U : State) : Prop := va_K (gD g) vwCl (xtys g) U ∧ va_AO "VillagePhotos$Archive" U ∧ (∀ q ∈ xNl, va_Nw (.methodLinkNest q.1 q.2.1 q.2.2.1 q.2.2.2) U) ∧ (∀ q ∈ xKl, va_Nw (.castable q.1 q.2) U) ∧ (∀ q ∈ xNcl, va_Nc q.1 q.2 U) ∧ ∀ y ∈ xDl, va_Nw (.declares y) U
theorem xI1.moved {g : xG} {u U : State} (hW : u.WarmedH U.vm) (h : xI1 g u) : xI1 g U := by
  obtain ⟨h1, h2, h3, h4, h5, h6⟩ := h
  have hv : u.vm.Alike U.vm := hW.alike
  refine ⟨va_K.moved hv h1, va_AO.moved hv h2, fun q hq => va_Nw.warmM hW (h3 q hq), fun q hq => ?_, fun q hq => va_Nc.moved hv (h5 q hq), fun y hy => va_Nw.warmD hW (h6 y hy)⟩
  have := Cond.castable_setVm (args := #[]) hv q.1 q.2
  exact va_tabs rfl (rfl : (u.setVm U.vm).vm = U.vm) (this.trans (h4 q hq))
theorem xI1.same {g : xG} {u U : State} (hv : u.vm = U.vm) (h : xI1 g u) : xI1 g U := by
  obtain ⟨h1, h2, h3, h4, h5, h6⟩ := h
  have ha : u.vm.Alike U.vm := by rw [hv]; exact Vm.Alike.refl U.vm
  exact ⟨va_K.moved ha h1, va_AO.moved ha h2, fun q hq => va_Nw.same rfl hv (h3 q hq), fun q hq => va_Nw.same rfl hv (h4 q hq), fun q hq => va_Nc.moved ha (h5 q hq), fun y hy => va_Nw.same rfl hv (h6 y hy)⟩
/-- what stays true of the tables and of the heap below -/
def xI (g : xG) (U : State) (H : Heap) : Prop := xI1 g U ∧ vx_Zq Bundle.tN "UNASSIGNED_STACK" Bundle.steD (gO g) U H ∧ vx_Zq Bundle.tN "SUPPRESSED_SENTINEL" Bundle.listD (gO g) U H ∧ va_Z "java/lang/String" "COMPACT_STRINGS" "Z" (.int 1) (gO g) U H ∧ va_Zq "jdk/internal/util/Preconditions" "SIOOBE_FORMATTER" "Ljava/util/function/BiFunction;" (gO g) U H ∧ ∀ (i : Nat) (q : String × Nat × String × List Int32), xStr[i]? = some q → xSt1 g i q U H
theorem xI.moved {g : xG} {u U : State} {H : Heap} (hW : u.WarmedH U.vm) (h : xI g u H) : xI g U H := by
  obtain ⟨h1, h2, h3, h4, h5, h6⟩ := h
  have hv : u.vm.Alike U.vm := hW.alike
  refine ⟨xI1.moved hW h1, vx_Zq.moved hv h2, vx_Zq.moved hv h3, va_Z.moved hv h4, va_Zq.moved hv h5, fun i q hq => ?_⟩
  obtain ⟨k1, k2, k3, k4, k5⟩ := h6 i q hq
  exact ⟨vk_R.warm hW k1, va_O.moved hv k2, va_OF.moved hv k3, va_OF.moved hv k4, va_T.moved hv k5⟩
theorem xI.kept {g : xG} {U : State} {H H1 : Heap} (hq : ∀ a : Nat, a < H.size → ¬ gO g a → H1[a]? = H[a]?) (h : xI g U H) : xI g U H1 := by
  obtain ⟨h1, h2, h3, h4, h5, h6⟩ := h
  refine ⟨h1, vx_Zq.kept h2 hq, vx_Zq.kept h3 hq, va_Z.kept h4 hq, va_Zq.kept h5 hq, fun i q h9 => ?_⟩
  obtain ⟨k1, k2, k3, k4, k5⟩ := h6 i q h9
  exact ⟨k1, va_O.kept k2 hq, va_OF.kept k3 hq, va_OF.kept k4 hq, va_T.kept k5 hq⟩
theorem xI.calling {g : xG} {U : State} {H : Heap} {f : JFrame} {mk : MethodId} {a : Array Value} (h : xI g U H) : xI g (U.calling f mk a) H := by
  obtain ⟨h1, h2, h3, h4, h5, h6⟩ := h
  have hv : U.vm.Alike (U.calling f mk a).vm := Vm.Alike.refl U.vm
  refine ⟨xI1.same rfl h1, vx_Zq.moved hv h2, vx_Zq.moved hv h3, va_Z.moved hv h4, va_Zq.moved hv h5, fun i q hq => ?_⟩
  obtain ⟨k1, k2, k3, k4, k5⟩ := h6 i q hq
  exact ⟨vk_R.same rfl k1, va_O.moved hv k2, va_OF.moved hv k3, va_OF.moved hv k4, va_T.moved hv k5⟩
/-! the locals, by their places -/
def xA : Nat → List (Option Value) → List (Nat × Value)
  | _, [] => []
  | i, none :: t => xA (i + 1) t
  | i, some v :: t => (i, v) :: xA (i + 1) t
theorem xA_mem {k : Nat} {v : Value} : ∀ (V : List (Option Value)) (i : Nat), (k, v) ∈ xA i V ↔ ∃ j, k = i + j ∧ V[j]? = some (some v) := by
  intro V
  induction V with
  | nil => intro i; simp [xA]
  | cons x t ih =>
    intro i
    cases x with
    | none =>
      rw [xA, ih]
      constructor
      · rintro ⟨j, rfl, hj⟩
        exact ⟨j + 1, by omega, by simpa using hj⟩
      · rintro ⟨j, rfl, hj⟩
        cases j with
        | zero => simp at hj
        | succ j => exact ⟨j, by omega, by simpa using hj⟩
    | some y =>
      rw [xA, List.mem_cons, ih]
      constructor
      · rintro (h | ⟨j, rfl, hj⟩)
        · cases h
          exact ⟨0, rfl, rfl⟩
        · exact ⟨j + 1, by omega, by simpa using hj⟩
      · rintro ⟨j, rfl, hj⟩
        cases j with
        | zero => left; simp at hj; rw [hj]; rfl
        | succ j => right; exact ⟨j, by omega, by simpa using hj⟩
def xL (ls : Array Slot) (n : Nat) (V : List (Option Value)) : Prop := lv_has ls n (xA 0 V)
theorem xL.at {ls : Array Slot} {n k : Nat} {V : List (Option Value)} {v : Value} (h : xL ls n V) (hk : V[k]? = some (some v)) : ls[k]? = some (.val v) := h.2.2 (k, v) ((xA_mem V 0).mpr ⟨k, by omega, hk⟩)
theorem xL.sub {ls : Array Slot} {n : Nat} {V : List (Option Value)} {l : List (Nat × Value)} (h : lv_has ls n l) (hs : ∀ k v, V[k]? = some (some v) → (k, v) ∈ l) : xL ls n V := by
  refine ⟨h.1, h.2.1, fun q hq => h.2.2 q ?_⟩
  obtain ⟨j, h1, h2⟩ := (xA_mem (k := q.1) (v := q.2) V 0).mp hq
  have h3 : q.1 = j := by omega
  rw [← h3] at h2
  exact hs q.1 q.2 h2
/-- the place before isn't the first half of a long or double -/
def xok (V : List (Option Value)) (i : Nat) : Bool := match i with
  | 0 => true
  | j + 1 => match V[j]? with
    | some (some v) => v.category == 1
    | _ => true
def xset1 (V : List (Option Value)) (i : Nat) (v : Value) : List (Option Value) := V.set i (some v)
def xset2 (V : List (Option Value)) (i : Nat) (v : Value) : List (Option Value) := (V.set i (some v)).set (i + 1) none
theorem xok_spec {V : List (Option Value)} {i k : Nat} {v : Value} (h : xok V i = true) (hk : V[k]? = some (some v)) (e : k + 1 = i) : v.category = 1 := by
  subst e
  simp only [xok, hk] at h
  exact eq_of_beq h
theorem xL.set1 {ls : Array Slot} {n i : Nat} {V : List (Option Value)} {v : Value} (hok : xok V i = true) (h : lv_has ls n ((i, v) :: (xA 0 V).filter (fun q => !(q.1 == i) && !(q.1 + 1 == i && q.2.category == 2)))) : xL ls n (xset1 V i v) := by
  refine xL.sub h fun k w hk => ?_
  unfold xset1 at hk
  rw [List.getElem?_set] at hk
  by_cases e : i = k
  · subst e
    rw [if_pos rfl] at hk
    by_cases hl : i < V.length
    · rw [if_pos hl] at hk
      cases hk
      exact List.mem_cons_self
    · rw [if_neg hl] at hk
      cases hk
  · rw [if_neg e] at hk
    refine List.mem_cons_of_mem _ (List.mem_filter.mpr ⟨(xA_mem V 0).mpr ⟨k, by omega, hk⟩, ?_⟩)
    have e1 : ¬ k = i := fun q => e q.symm
    by_cases e2 : k + 1 = i
    · have := xok_spec hok hk e2
      simp [e1, this]
    · simp [e1, e2]
theorem xL.set2 {ls : Array Slot} {n i : Nat} {V : List (Option Value)} {v : Value} (hok : xok V i = true) (h : lv_has ls n ((i, v) :: (xA 0 V).filter (fun q => !(q.1 == i) && (!(q.1 == i + 1) && !(q.1 + 1 == i && q.2.category == 2))))) : xL ls n (xset2 V i v) := by
  refine xL.sub h fun k w hk => ?_
  unfold xset2 at hk
  rw [List.getElem?_set] at hk
  by_cases e9 : i + 1 = k
  · rw [if_pos e9] at hk
    split at hk <;> cases hk
  · rw [if_neg e9, List.getElem?_set] at hk
    by_cases e : i = k
    · subst e
      rw [if_pos rfl] at hk
      by_cases hl : i < V.length
      · rw [if_pos hl] at hk
        cases hk
        exact List.mem_cons_self
      · rw [if_neg hl] at hk
        cases hk
    · rw [if_neg e] at hk
      refine List.mem_cons_of_mem _ (List.mem_filter.mpr ⟨(xA_mem V 0).mpr ⟨k, by omega, hk⟩, ?_⟩)
      have e1 : ¬ k = i := fun q => e q.symm
      have e8 : ¬ k = i + 1 := fun q => e9 q.symm
      by_cases e2 : k + 1 = i
      · have := xok_spec hok hk e2
        simp [e1, e8, this]
      · simp [e1, e8, e2]
/-- fewer of the locals are known -/
def xle : List (Option Value) → List (Option Value) → Bool → Prop
  | [], _, _ => True
  | none :: t, [], _ => xle t [] true
  | none :: t, _ :: t', _ => xle t t' true
  | some _ :: _, [], _ => False
  | some v :: t, w :: t', _ => w = some v ∧ xle t t' true
theorem xle_spec {v : Value} : ∀ (V' V : List (Option Value)) (b : Bool) (k : Nat), xle V' V b → V'[k]? = some (some v) → V[k]? = some (some v) := by
  intro V'
  induction V' with
  | nil => intro V b k _ hk; simp at hk
  | cons x t ih =>
    intro V b k h hk
    cases x with
    | none =>
      cases V with
      | nil =>
        cases k with
        | zero => simp at hk
        | succ k => simpa using ih [] true k h (by simpa using hk)
      | cons y t' =>
        cases k with
        | zero => simp at hk
        | succ k => simpa using ih t' true k h (by simpa using hk)
    | some u =>
      cases V with
      | nil => exact h.elim
      | cons y t' =>
        obtain ⟨rfl, h2⟩ := h
        cases k with
        | zero => simpa using hk
        | succ k => simpa using ih t' true k h2 (by simpa using hk)
theorem xL.le {ls : Array Slot} {n : Nat} {V V' : List (Option Value)} (hle : xle V' V true) (h : xL ls n V) : xL ls n V' := xL.sub h fun k v hk => (xA_mem V 0).mpr ⟨k, by omega, xle_spec V' V true k hle hk⟩
def xV : List Value → List (Option Value)
  | [] => []
  | v :: t => some v :: (if v.category = 2 then none :: xV t else xV t)
theorem xV_args {v : Value} : ∀ (vs : List Value) (m i k : Nat), (xV vs ++ List.replicate m none)[k]? = some (some v) → (i + k, v) ∈ lv_args i vs := by
  intro vs
  induction vs with
  | nil =>
    intro m i k hk
    simp only [xV, List.nil_append, List.getElem?_replicate] at hk
    split at hk <;> cases hk
  | cons x t ih =>
    intro m i k hk
    rw [lv_args]
    cases k with
    | zero =>
      simp [xV] at hk
      subst hk
      exact List.mem_cons_self
    | succ k =>
      refine List.mem_cons_of_mem _ ?_
      rw [xV] at hk
      by_cases h2 : x.category = 2
      · rw [if_pos h2] at hk ⊢
        cases k with
        | zero => simp at hk
        | succ k =>
          have := ih m (i + 2) k (by simpa using hk)
          rw [show i + (k + 1 + 1) = i + 2 + k by omega]
          exact this
      · rw [if_neg h2] at hk ⊢
        have := ih m (i + 1) k (by simpa using hk)
        rw [show i + (k + 1) = i + 1 + k by omega]
        exact this
/-! the frame -/
/-- what holds in a frame from its entry on -/
def xB (g : xG) (l : Launch) (M : xM) (tb : List (Nat × Nat × Nat × Nat)) (p : Program) (s : State) (m : MethodId) (args : Array Value) (meth : Method) (c : Code) : Prop :=
  p.tables.exec = Jvm.exec ∧ c.code = M.2.1 ∧ meth.sig.returnType = M.2.2.2 ∧ c.maxLocals = M.2.2.1 ∧ s.vm.findClass M.1.cls = some m.cls ∧ (∀ w ∈ xW, w.before args s = true) ∧ meth.locks = false ∧ meth.name = M.1.name ∧ c.exceptionTable.toList = tableOf tb ∧ xI g s s.heap ∧ g.1 ≤ s.heap.size ∧ l.stackTraces = false
/-- from here the machine comes to an end that Z takes: at pc, the locals V, the operands S, our cells h -/
def xP (g : xG) (l : Launch) (M : xM) (tb : List (Nat × Nat × Nat × Nat)) (R : Room) (Z : List Frame → Array Value → State → State → Prop) (pc : Nat) (V : List (Option Value)) (S : List Value) (h : xH) (kc ks : Nat) : Prop :=
  ∀ (p : Program) (e : Env) (s : State) (m : MethodId) (args : Array Value) (below : List Frame) (meth : Method) (c : Code) (H : Heap) (locs : List Loc) (ls : Array Slot),
    xB g l M tb p s m args meth c → xC g h H → va_S (gO g) s.heap H locs → xL ls M.2.2.1 V → W p l e R s m args below meth c H locs kc ks (Z below args s) (F0 m pc ls S)
/-- the same, with an exception of the class E thrown over the frame -/
def xPx (g : xG) (l : Launch) (M : xM) (tb : List (Nat × Nat × Nat × Nat)) (R : Room) (Z : List Frame → Array Value → State → State → Prop) (pc : Nat) (V : List (Option Value)) (S : List Value) (h : xH) (kc ks : Nat) (E : String) : Prop :=
  ∀ (p : Program) (e : Env) (s : State) (m : MethodId) (args : Array Value) (below : List Frame) (meth : Method) (c : Code) (H : Heap) (locs : List Loc) (ls : Array Slot) (q : Addr) (ce : Cell),
    xB g l M tb p s m args meth c → xC g h H → va_S (gO g) s.heap H locs → xL ls M.2.2.1 V → H[q]? = some ce → ce.vm = .none → s.vm.findClass E = some ce.cls → vx_W p l e R s m args below meth c H locs kc ks (Z below args s) (F0 m pc ls S) q
section X1
variable {g : xG} {l : Launch} {M : xM} {tb : List (Nat × Nat × Nat × Nat)} {R : Room} {Z : List Frame → Array Value → State → State → Prop} {pc : Nat} {V : List (Option Value)} {S : List Value} {h : xH} {kc ks : Nat}
theorem xP.weak {V' : List (Option Value)} (hle : xle V' V true) (k : xP g l M tb R Z pc V' S h kc ks) : xP g l M tb R Z pc V S h kc ks := fun p e s m args below meth c H locs ls B hC hS hl => k p e s m args below meth c H locs ls B hC hS (hl.le hle)
theorem xP.widen {kc' ks' : Nat} (h1 : kc ≤ kc') (h2 : ks ≤ ks') (k : xP g l M tb R Z pc V S h kc' ks') : xP g l M tb R Z pc V S h kc ks := fun p e s m args below meth c H locs ls B hC hS hl => W.widen h1 h2 (k p e s m args below meth c H locs ls B hC hS hl)
theorem xP.eq {pc' : Nat} {V' : List (Option Value)} {S' : List Value} {h' : xH} (e1 : pc' = pc) (e2 : V' = V) (e3 : S' = S) (e4 : h' = h) (k : xP g l M tb R Z pc' V' S' h' kc ks) : xP g l M tb R Z pc V S h kc ks := by
  subst e1; subst e2; subst e3; subst e4; exact k
theorem x_iconst {n : Int} (v : Int32) (hd : decode M.2.1 pc = .ok (.iconst n, 1)) (hv : Int32.ofInt n = v) (k : xP g l M tb R Z (pc + 1) V (.int v :: S) h kc ks) : xP g l M tb R Z pc V (S) h kc ks := by
  intro p e s m args below meth c H locs ls B hC hS hl
  exact lv_iconst (v := v) B.1 B.2.1 hd hv (k p e s m args below meth c H locs ls B hC hS hl)
theorem x_bipush {n : Int} (v : Int32) (hd : decode M.2.1 pc = .ok (.bipush n, 2)) (hv : (Int8.ofInt n).toInt32 = v) (k : xP g l M tb R Z (pc + 2) V (.int v :: S) h kc ks) : xP g l M tb R Z pc V (S) h kc ks := by
  intro p e s m args below meth c H locs ls B hC hS hl
  exact lv_bipush (v := v) B.1 B.2.1 hd hv (k p e s m args below meth c H locs ls B hC hS hl)
theorem x_sipush {n : Int} (v : Int32) (hd : decode M.2.1 pc = .ok (.sipush n, 3)) (hv : (Int16.ofInt n).toInt32 = v) (k : xP g l M tb R Z (pc + 3) V (.int v :: S) h kc ks) : xP g l M tb R Z pc V (S) h kc ks := by
  intro p e s m args below meth c H locs ls B hC hS hl
  exact lv_sipush (v := v) B.1 B.2.1 hd hv (k p e s m args below meth c H locs ls B hC hS hl)
theorem x_lconst {n : Fin 2} (v : Int64) (hd : decode M.2.1 pc = .ok (.lconst n, 1)) (hv : Int64.ofNat (n : Nat) = v) (k : xP g l M tb R Z (pc + 1) V (.long v :: S) h kc ks) : xP g l M tb R Z pc V (S) h kc ks := by
  intro p e s m args below meth c H locs ls B hC hS hl
  exact lv_lconst (v := v) B.1 B.2.1 hd hv (k p e s m args below meth c H locs ls B hC hS hl)
theorem x_dconst0 (hd : decode M.2.1 pc = .ok (.dconst 0, 1)) (k : xP g l M tb R Z (pc + 1) V (.double FP.dconst0 :: S) h kc ks) : xP g l M tb R Z pc V (S) h kc ks := by
  intro p e s m args below meth c H locs ls B hC hS hl
  exact lv_dconst0 B.1 B.2.1 hd (k p e s m args below meth c H locs ls B hC hS hl)
theorem x_dconst1 (hd : decode M.2.1 pc = .ok (.dconst 1, 1)) (k : xP g l M tb R Z (pc + 1) V (.double FP.dconst1 :: S) h kc ks) : xP g l M tb R Z pc V (S) h kc ks := by
  intro p e s m args below meth c H locs ls B hC hS hl
  exact lv_dconst1 B.1 B.2.1 hd (k p e s m args below meth c H locs ls B hC hS hl)
theorem x_fconst0 (hd : decode M.2.1 pc = .ok (.fconst 0, 1)) (k : xP g l M tb R Z (pc + 1) V (.float FP.fconst0 :: S) h kc ks) : xP g l M tb R Z pc V (S) h kc ks := by
  intro p e s m args below meth c H locs ls B hC hS hl
  exact lv_fconst0 B.1 B.2.1 hd (k p e s m args below meth c H locs ls B hC hS hl)
theorem x_ldc {i : Nat} {v : Int32} (hd : decode M.2.1 pc = .ok (.ldc i, 2)) (hc : Cond.constant M.1.cls i v ∈ xW) (k : xP g l M tb R Z (pc + 2) V (.int v :: S) h kc ks) : xP g l M tb R Z pc V (S) h kc ks := by
  intro p e s m args below meth c H locs ls B hC hS hl
  exact lv_ldc B.1 B.2.1 B.2.2.2.2.1 (B.2.2.2.2.2.1 _ hc) hd (k p e s m args below meth c H locs ls B hC hS hl)
theorem x_ldcw {i : Nat} {v : Int32} (hd : decode M.2.1 pc = .ok (.ldc_w i, 3)) (hc : Cond.constant M.1.cls i v ∈ xW) (k : xP g l M tb R Z (pc + 3) V (.int v :: S) h kc ks) : xP g l M tb R Z pc V (S) h kc ks := by
  intro p e s m args below meth c H locs ls B hC hS hl
  exact lv_ldcw B.1 B.2.1 B.2.2.2.2.1 (B.2.2.2.2.2.1 _ hc) hd (k p e s m args below meth c H locs ls B hC hS hl)
theorem x_ldc2 {i : Nat} {v : Int64} (hd : decode M.2.1 pc = .ok (.ldc2_w i, 3)) (hc : Cond.constantLong M.1.cls i v ∈ xW) (k : xP g l M tb R Z (pc + 3) V (.long v :: S) h kc ks) : xP g l M tb R Z pc V (S) h kc ks := by
  intro p e s m args below meth c H locs ls B hC hS hl
  exact lv_ldc2 B.1 B.2.1 B.2.2.2.2.1 (B.2.2.2.2.2.1 _ hc) hd (k p e s m args below meth c H locs ls B hC hS hl)
theorem x_iload_n {q : Fin 4} {x : Int32} (hd : decode M.2.1 pc = .ok (.iload_n q, 1)) (hv : V[q.val]? = some (some (.int x))) (k : xP g l M tb R Z (pc + 1) V (.int x :: S) h kc ks) : xP g l M tb R Z pc V (S) h kc ks := by
  intro p e s m args below meth c H locs ls B hC hS hl
  exact lv_iload_n B.1 B.2.1 hd rfl (hl.at hv) (k p e s m args below meth c H locs ls B hC hS hl)
theorem x_iload {i : Nat} {x : Int32} (hd : decode M.2.1 pc = .ok (.iload i, 2)) (hv : V[i]? = some (some (.int x))) (k : xP g l M tb R Z (pc + 2) V (.int x :: S) h kc ks) : xP g l M tb R Z pc V (S) h kc ks := by
  intro p e s m args below meth c H locs ls B hC hS hl
  exact lv_iload B.1 B.2.1 hd (hl.at hv) (k p e s m args below meth c H locs ls B hC hS hl)
theorem x_lload_n {q : Fin 4} {x : Int64} (hd : decode M.2.1 pc = .ok (.lload_n q, 1)) (hv : V[q.val]? = some (some (.long x))) (k : xP g l M tb R Z (pc + 1) V (.long x :: S) h kc ks) : xP g l M tb R Z pc V (S) h kc ks := by
  intro p e s m args below meth c H locs ls B hC hS hl
  exact lv_lload_n B.1 B.2.1 hd rfl (hl.at hv) (k p e s m args below meth c H locs ls B hC hS hl)
theorem x_lload {i : Nat} {x : Int64} (hd : decode M.2.1 pc = .ok (.lload i, 2)) (hv : V[i]? = some (some (.long x))) (k : xP g l M tb R Z (pc + 2) V (.long x :: S) h kc ks) : xP g l M tb R Z pc V (S) h kc ks := by
  intro p e s m args below meth c H locs ls B hC hS hl
  exact lv_lload B.1 B.2.1 hd (hl.at hv) (k p e s m args below meth c H locs ls B hC hS hl)
theorem x_dload_n {q : Fin 4} {x : UInt64} (hd : decode M.2.1 pc = .ok (.dload_n q, 1)) (hv : V[q.val]? = some (some (.double x))) (k : xP g l M tb R Z (pc + 1) V (.double x :: S) h kc ks) : xP g l M tb R Z pc V (S) h kc ks := by
  intro p e s m args below meth c H locs ls B hC hS hl
  exact lv_dload_n B.1 B.2.1 hd rfl (hl.at hv) (k p e s m args below meth c H locs ls B hC hS hl)
theorem x_dload {i : Nat} {x : UInt64} (hd : decode M.2.1 pc = .ok (.dload i, 2)) (hv : V[i]? = some (some (.double x))) (k : xP g l M tb R Z (pc + 2) V (.double x :: S) h kc ks) : xP g l M tb R Z pc V (S) h kc ks := by
  intro p e s m args below meth c H locs ls B hC hS hl
  exact lv_dload B.1 B.2.1 hd (hl.at hv) (k p e s m args below meth c H locs ls B hC hS hl)
theorem x_aload_n {q : Fin 4} {x : Nat} (hd : decode M.2.1 pc = .ok (.aload_n q, 1)) (hv : V[q.val]? = some (some (.ref x))) (k : xP g l M tb R Z (pc + 1) V (.ref x :: S) h kc ks) : xP g l M tb R Z pc V (S) h kc ks := by
  intro p e s m args below meth c H locs ls B hC hS hl
  exact lv_aload_n B.1 B.2.1 hd rfl (hl.at hv) (k p e s m args below meth c H locs ls B hC hS hl)
theorem x_aload {i : Nat} {x : Nat} (hd : decode M.2.1 pc = .ok (.aload i, 2)) (hv : V[i]? = some (some (.ref x))) (k : xP g l M tb R Z (pc + 2) V (.ref x :: S) h kc ks) : xP g l M tb R Z pc V (S) h kc ks := by
  intro p e s m args below meth c H locs ls B hC hS hl
  exact lv_aload B.1 B.2.1 hd (hl.at hv) (k p e s m args below meth c H locs ls B hC hS hl)
theorem x_istore_n {q : Fin 4} {x : Int32} {V' : List (Option Value)} (hd : decode M.2.1 pc = .ok (.istore_n q, 1)) (hn : q.val < M.2.2.1) (hok : xok V q.val = true) (hV : xset1 V q.val (.int x) = V') (k : xP g l M tb R Z (pc + 1) V' S h kc ks) : xP g l M tb R Z pc V (.int x :: S) h kc ks := by
  intro p e s m args below meth c H locs ls B hC hS hl
  refine lv_istore_n B.1 B.2.1 hd rfl hl hn rfl (fun ls' hl' => k p e s m args below meth c H locs ls' B hC hS ?_)
  rw [← hV]
  exact xL.set1 hok hl'
theorem x_istore {i : Nat} {x : Int32} {V' : List (Option Value)} (hd : decode M.2.1 pc = .ok (.istore i, 2)) (hn : i < M.2.2.1) (hok : xok V i = true) (hV : xset1 V i (.int x) = V') (k : xP g l M tb R Z (pc + 2) V' S h kc ks) : xP g l M tb R Z pc V (.int x :: S) h kc ks := by
  intro p e s m args below meth c H locs ls B hC hS hl
  refine lv_istore B.1 B.2.1 hd hl hn rfl (fun ls' hl' => k p e s m args below meth c H locs ls' B hC hS ?_)
  rw [← hV]
  exact xL.set1 hok hl'
theorem x_lstore_n {q : Fin 4} {x : Int64} {V' : List (Option Value)} (hd : decode M.2.1 pc = .ok (.lstore_n q, 1)) (hn : q.val + 1 < M.2.2.1) (hok : xok V q.val = true) (hV : xset2 V q.val (.long x) = V') (k : xP g l M tb R Z (pc + 1) V' S h kc ks) : xP g l M tb R Z pc V (.long x :: S) h kc ks := by
  intro p e s m args below meth c H locs ls B hC hS hl
  refine lv_lstore_n B.1 B.2.1 hd rfl hl hn rfl (fun ls' hl' => k p e s m args below meth c H locs ls' B hC hS ?_)
  rw [← hV]
  exact xL.set2 hok hl'
theorem x_lstore {i : Nat} {x : Int64} {V' : List (Option Value)} (hd : decode M.2.1 pc = .ok (.lstore i, 2)) (hn : i + 1 < M.2.2.1) (hok : xok V i = true) (hV : xset2 V i (.long x) = V') (k : xP g l M tb R Z (pc + 2) V' S h kc ks) : xP g l M tb R Z pc V (.long x :: S) h kc ks := by
  intro p e s m args below meth c H locs ls B hC hS hl
  refine lv_lstore B.1 B.2.1 hd hl hn rfl (fun ls' hl' => k p e s m args below meth c H locs ls' B hC hS ?_)
  rw [← hV]
  exact xL.set2 hok hl'
theorem x_dstore_n {q : Fin 4} {x : UInt64} {V' : List (Option Value)} (hd : decode M.2.1 pc = .ok (.dstore_n q, 1)) (hn : q.val + 1 < M.2.2.1) (hok : xok V q.val = true) (hV : xset2 V q.val (.double x) = V') (k : xP g l M tb R Z (pc + 1) V' S h kc ks) : xP g l M tb R Z pc V (.double x :: S) h kc ks := by
  intro p e s m args below meth c H locs ls B hC hS hl
  refine lv_dstore_n B.1 B.2.1 hd rfl hl hn rfl (fun ls' hl' => k p e s m args below meth c H locs ls' B hC hS ?_)
  rw [← hV]
  exact xL.set2 hok hl'
theorem x_dstore {i : Nat} {x : UInt64} {V' : List (Option Value)} (hd : decode M.2.1 pc = .ok (.dstore i, 2)) (hn : i + 1 < M.2.2.1) (hok : xok V i = true) (hV : xset2 V i (.double x) = V') (k : xP g l M tb R Z (pc + 2) V' S h kc ks) : xP g l M tb R Z pc V (.double x :: S) h kc ks := by
  intro p e s m args below meth c H locs ls B hC hS hl
  refine lv_dstore B.1 B.2.1 hd hl hn rfl (fun ls' hl' => k p e s m args below meth c H locs ls' B hC hS ?_)
  rw [← hV]
  exact xL.set2 hok hl'
theorem x_astore_n {q : Fin 4} {x : Nat} {V' : List (Option Value)} (hd : decode M.2.1 pc = .ok (.astore_n q, 1)) (hn : q.val < M.2.2.1) (hok : xok V q.val = true) (hV : xset1 V q.val (.ref x) = V') (k : xP g l M tb R Z (pc + 1) V' S h kc ks) : xP g l M tb R Z pc V (.ref x :: S) h kc ks := by
  intro p e s m args below meth c H locs ls B hC hS hl
  refine lv_astore_n B.1 B.2.1 hd rfl hl hn rfl (fun ls' hl' => k p e s m args below meth c H locs ls' B hC hS ?_)
  rw [← hV]
  exact xL.set1 hok hl'
theorem x_astore {i : Nat} {x : Nat} {V' : List (Option Value)} (hd : decode M.2.1 pc = .ok (.astore i, 2)) (hn : i < M.2.2.1) (hok : xok V i = true) (hV : xset1 V i (.ref x) = V') (k : xP g l M tb R Z (pc + 2) V' S h kc ks) : xP g l M tb R Z pc V (.ref x :: S) h kc ks := by
  intro p e s m args below meth c H locs ls B hC hS hl
  refine lv_astore B.1 B.2.1 hd hl hn rfl (fun ls' hl' => k p e s m args below meth c H locs ls' B hC hS ?_)
  rw [← hV]
  exact xL.set1 hok hl'
theorem x_iinc {i : Nat} {n : Int} {x v : Int32} {V' : List (Option Value)} (hd : decode M.2.1 pc = .ok (.iinc i n, 3)) (hx : V[i]? = some (some (.int x))) (hv : x + Int32.ofInt n = v) (hn : i < M.2.2.1) (hok : xok V i = true) (hV : xset1 V i (.int v) = V') (k : xP g l M tb R Z (pc + 3) V' S h kc ks) : xP g l M tb R Z pc V S h kc ks := by
  intro p e s m args below meth c H locs ls B hC hS hl
  obtain ⟨k0, hk0⟩ := List.getElem?_of_mem ((xA_mem V 0).mpr ⟨i, (Nat.zero_add i).symm, hx⟩)
  refine lv_iinc (k := k0) B.1 B.2.1 hd hl hk0 hv hn rfl (fun ls' hl' => k p e s m args below meth c H locs ls' B hC hS ?_)
  rw [← hV]
  exact xL.set1 hok hl'
theorem x_iadd {x y : Int32} (hd : decode M.2.1 pc = .ok (.iadd, 1)) (k : xP g l M tb R Z (pc + 1) V (.int (x + y) :: S) h kc ks) : xP g l M tb R Z pc V (.int y :: .int x :: S) h kc ks := by
  intro p e s m args below meth c H locs ls B hC hS hl
  exact lv_iadd B.1 B.2.1 hd (k p e s m args below meth c H locs ls B hC hS hl)
theorem x_isub {x y : Int32} (hd : decode M.2.1 pc = .ok (.isub, 1)) (k : xP g l M tb R Z (pc + 1) V (.int (x - y) :: S) h kc ks) : xP g l M tb R Z pc V (.int y :: .int x :: S) h kc ks := by
  intro p e s m args below meth c H locs ls B hC hS hl
  exact lv_isub B.1 B.2.1 hd (k p e s m args below meth c H locs ls B hC hS hl)
theorem x_imul {x y : Int32} (hd : decode M.2.1 pc = .ok (.imul, 1)) (k : xP g l M tb R Z (pc + 1) V (.int (x * y) :: S) h kc ks) : xP g l M tb R Z pc V (.int y :: .int x :: S) h kc ks := by
  intro p e s m args below meth c H locs ls B hC hS hl
  exact lv_imul B.1 B.2.1 hd (k p e s m args below meth c H locs ls B hC hS hl)
theorem x_iand {x y : Int32} (hd : decode M.2.1 pc = .ok (.iand, 1)) (k : xP g l M tb R Z (pc + 1) V (.int (x &&& y) :: S) h kc ks) : xP g l M tb R Z pc V (.int y :: .int x :: S) h kc ks := by
  intro p e s m args below meth c H locs ls B hC hS hl
  exact lv_iand B.1 B.2.1 hd (k p e s m args below meth c H locs ls B hC hS hl)
theorem x_ior {x y : Int32} (hd : decode M.2.1 pc = .ok (.ior, 1)) (k : xP g l M tb R Z (pc + 1) V (.int (x ||| y) :: S) h kc ks) : xP g l M tb R Z pc V (.int y :: .int x :: S) h kc ks := by
  intro p e s m args below meth c H locs ls B hC hS hl
  exact lv_ior B.1 B.2.1 hd (k p e s m args below meth c H locs ls B hC hS hl)
theorem x_ixor {x y : Int32} (hd : decode M.2.1 pc = .ok (.ixor, 1)) (k : xP g l M tb R Z (pc + 1) V (.int (x ^^^ y) :: S) h kc ks) : xP g l M tb R Z pc V (.int y :: .int x :: S) h kc ks := by
  intro p e s m args below meth c H locs ls B hC hS hl
  exact lv_ixor B.1 B.2.1 hd (k p e s m args below meth c H locs ls B hC hS hl)
theorem x_ishl {x y : Int32} (hd : decode M.2.1 pc = .ok (.ishl, 1)) (k : xP g l M tb R Z (pc + 1) V (.int (x <<< (y &&& 31)) :: S) h kc ks) : xP g l M tb R Z pc V (.int y :: .int x :: S) h kc ks := by
  intro p e s m args below meth c H locs ls B hC hS hl
  exact lv_ishl B.1 B.2.1 hd (k p e s m args below meth c H locs ls B hC hS hl)
theorem x_ishr {x y : Int32} (hd : decode M.2.1 pc = .ok (.ishr, 1)) (k : xP g l M tb R Z (pc + 1) V (.int (x >>> (y &&& 31)) :: S) h kc ks) : xP g l M tb R Z pc V (.int y :: .int x :: S) h kc ks := by
  intro p e s m args below meth c H locs ls B hC hS hl
  exact lv_ishr B.1 B.2.1 hd (k p e s m args below meth c H locs ls B hC hS hl)
theorem x_iushr {x y : Int32} (v : Int32) (hd : decode M.2.1 pc = .ok (.iushr, 1)) (hv : (x.toUInt32 >>> (y.toUInt32 &&& Int32.toUInt32 31)).toInt32 = v) (k : xP g l M tb R Z (pc + 1) V (.int v :: S) h kc ks) : xP g l M tb R Z pc V (.int y :: .int x :: S) h kc ks := by
  intro p e s m args below meth c H locs ls B hC hS hl
  exact lv_iushr B.1 B.2.1 hd hv (k p e s m args below meth c H locs ls B hC hS hl)
theorem x_idiv {x y : Int32} (hd : decode M.2.1 pc = .ok (.idiv, 1)) (hne : ¬ y = 0) (k : xP g l M tb R Z (pc + 1) V (.int (x / y) :: S) h kc ks) : xP g l M tb R Z pc V (.int y :: .int x :: S) h kc ks := by
  intro p e s m args below meth c H locs ls B hC hS hl
  exact lv_idiv B.1 B.2.1 hd hne (k p e s m args below meth c H locs ls B hC hS hl)
theorem x_irem {x y : Int32} (hd : decode M.2.1 pc = .ok (.irem, 1)) (hne : ¬ y = 0) (k : xP g l M tb R Z (pc + 1) V (.int (x - x / y * y) :: S) h kc ks) : xP g l M tb R Z pc V (.int y :: .int x :: S) h kc ks := by
  intro p e s m args below meth c H locs ls B hC hS hl
  exact lv_irem B.1 B.2.1 hd hne (k p e s m args below meth c H locs ls B hC hS hl)
theorem x_ladd {x y : Int64} (hd : decode M.2.1 pc = .ok (.ladd, 1)) (k : xP g l M tb R Z (pc + 1) V (.long (x + y) :: S) h kc ks) : xP g l M tb R Z pc V (.long y :: .long x :: S) h kc ks := by
  intro p e s m args below meth c H locs ls B hC hS hl
  exact lv_ladd B.1 B.2.1 hd (k p e s m args below meth c H locs ls B hC hS hl)
theorem x_lmul {x y : Int64} (hd : decode M.2.1 pc = .ok (.lmul, 1)) (k : xP g l M tb R Z (pc + 1) V (.long (x * y) :: S) h kc ks) : xP g l M tb R Z pc V (.long y :: .long x :: S) h kc ks := by
  intro p e s m args below meth c H locs ls B hC hS hl
  exact lv_lmul B.1 B.2.1 hd (k p e s m args below meth c H locs ls B hC hS hl)
theorem x_lor {x y : Int64} (hd : decode M.2.1 pc = .ok (.lor, 1)) (k : xP g l M tb R Z (pc + 1) V (.long (x ||| y) :: S) h kc ks) : xP g l M tb R Z pc V (.long y :: .long x :: S) h kc ks := by
  intro p e s m args below meth c H locs ls B hC hS hl
  exact lv_lor B.1 B.2.1 hd (k p e s m args below meth c H locs ls B hC hS hl)
theorem x_ldiv {x y : Int64} (hd : decode M.2.1 pc = .ok (.ldiv, 1)) (hne : ¬ y = 0) (k : xP g l M tb R Z (pc + 1) V (.long (x / y) :: S) h kc ks) : xP g l M tb R Z pc V (.long y :: .long x :: S) h kc ks := by
  intro p e s m args below meth c H locs ls B hC hS hl
  exact lv_ldiv B.1 B.2.1 hd hne (k p e s m args below meth c H locs ls B hC hS hl)
theorem x_lrem {x y : Int64} (hd : decode M.2.1 pc = .ok (.lrem, 1)) (hne : ¬ y = 0) (k : xP g l M tb R Z (pc + 1) V (.long (x - x / y * y) :: S) h kc ks) : xP g l M tb R Z pc V (.long y :: .long x :: S) h kc ks := by
  intro p e s m args below meth c H locs ls B hC hS hl
  exact lv_lrem B.1 B.2.1 hd hne (k p e s m args below meth c H locs ls B hC hS hl)
theorem x_lshl {x : Int64} {y : Int32} (v : Int64) (hd : decode M.2.1 pc = .ok (.lshl, 1)) (hv : x <<< (y.toInt64 &&& 63) = v) (k : xP g l M tb R Z (pc + 1) V (.long v :: S) h kc ks) : xP g l M tb R Z pc V (.int y :: .long x :: S) h kc ks := by
  intro p e s m args below meth c H locs ls B hC hS hl
  exact lv_lshl B.1 B.2.1 hd hv (k p e s m args below meth c H locs ls B hC hS hl)
theorem x_lushr {x : Int64} {y : Int32} (v : Int64) (hd : decode M.2.1 pc = .ok (.lushr, 1)) (hv : (x.toUInt64 >>> (y.toInt64.toUInt64 &&& Int64.toUInt64 63)).toInt64 = v) (k : xP g l M tb R Z (pc + 1) V (.long v :: S) h kc ks) : xP g l M tb R Z pc V (.int y :: .long x :: S) h kc ks := by
  intro p e s m args below meth c H locs ls B hC hS hl
  exact lv_lushr B.1 B.2.1 hd hv (k p e s m args below meth c H locs ls B hC hS hl)
theorem x_lcmp {x y : Int64} (hd : decode M.2.1 pc = .ok (.lcmp, 1)) (k : xP g l M tb R Z (pc + 1) V (.int (lg_cmp x y) :: S) h kc ks) : xP g l M tb R Z pc V (.long y :: .long x :: S) h kc ks := by
  intro p e s m args below meth c H locs ls B hC hS hl
  exact W.lcmp B.1 B.2.1 hd (k p e s m args below meth c H locs ls B hC hS hl)
theorem x_i2l {x : Int32} (hd : decode M.2.1 pc = .ok (.i2l, 1)) (k : xP g l M tb R Z (pc + 1) V (.long x.toInt64 :: S) h kc ks) : xP g l M tb R Z pc V (.int x :: S) h kc ks := by
  intro p e s m args below meth c H locs ls B hC hS hl
  exact lv_i2l B.1 B.2.1 hd rfl (k p e s m args below meth c H locs ls B hC hS hl)
theorem x_l2i {x : Int64} (v : Int32) (hd : decode M.2.1 pc = .ok (.l2i, 1)) (hv : x.toInt32 = v) (k : xP g l M tb R Z (pc + 1) V (.int v :: S) h kc ks) : xP g l M tb R Z pc V (.long x :: S) h kc ks := by
  intro p e s m args below meth c H locs ls B hC hS hl
  exact lv_l2i B.1 B.2.1 hd hv (k p e s m args below meth c H locs ls B hC hS hl)
theorem x_i2b {x : Int32} (v : Int32) (hd : decode M.2.1 pc = .ok (.i2b, 1)) (hv : x.toInt8.toInt32 = v) (k : xP g l M tb R Z (pc + 1) V (.int v :: S) h kc ks) : xP g l M tb R Z pc V (.int x :: S) h kc ks := by
  intro p e s m args below meth c H locs ls B hC hS hl
  exact lv_i2b B.1 B.2.1 hd hv (k p e s m args below meth c H locs ls B hC hS hl)
theorem x_i2f {x : Int32} (hd : decode M.2.1 pc = .ok (.i2f, 1)) (k : xP g l M tb R Z (pc + 1) V (.float (FP.i2f x) :: S) h kc ks) : xP g l M tb R Z pc V (.int x :: S) h kc ks := by
  intro p e s m args below meth c H locs ls B hC hS hl
  exact lv_i2f B.1 B.2.1 hd (k p e s m args below meth c H locs ls B hC hS hl)
theorem x_i2d {x : Int32} (hd : decode M.2.1 pc = .ok (.i2d, 1)) (k : xP g l M tb R Z (pc + 1) V (.double (FP.i2d x) :: S) h kc ks) : xP g l M tb R Z pc V (.int x :: S) h kc ks := by
  intro p e s m args below meth c H locs ls B hC hS hl
  exact lv_i2d B.1 B.2.1 hd (k p e s m args below meth c H locs ls B hC hS hl)
theorem x_f2d {x : UInt32} (hd : decode M.2.1 pc = .ok (.f2d, 1)) (hne : vf_n64 (FP.f2d x)) (k : xP g l M tb R Z (pc + 1) V (.double (FP.f2d x) :: S) h kc ks) : xP g l M tb R Z pc V (.float x :: S) h kc ks := by
  intro p e s m args below meth c H locs ls B hC hS hl
  exact lv_f2d B.1 B.2.1 hd hne (k p e s m args below meth c H locs ls B hC hS hl)
theorem x_fdiv {x y : UInt32} (hd : decode M.2.1 pc = .ok (.fdiv, 1)) (hne : vf_n32 (FP.fdiv x y)) (k : xP g l M tb R Z (pc + 1) V (.float (FP.fdiv x y) :: S) h kc ks) : xP g l M tb R Z pc V (.float y :: .float x :: S) h kc ks := by
  intro p e s m args below meth c H locs ls B hC hS hl
  exact lv_fdiv B.1 B.2.1 hd hne (k p e s m args below meth c H locs ls B hC hS hl)
theorem x_ddiv {x y : UInt64} (hd : decode M.2.1 pc = .ok (.ddiv, 1)) (hne : vf_n64 (FP.ddiv x y)) (k : xP g l M tb R Z (pc + 1) V (.double (FP.ddiv x y) :: S) h kc ks) : xP g l M tb R Z pc V (.double y :: .double x :: S) h kc ks := by
  intro p e s m args below meth c H locs ls B hC hS hl
  exact lv_ddiv B.1 B.2.1 hd hne (k p e s m args below meth c H locs ls B hC hS hl)
theorem x_dsub {x y : UInt64} (hd : decode M.2.1 pc = .ok (.dsub, 1)) (hne : vf_n64 (FP.dsub x y)) (k : xP g l M tb R Z (pc + 1) V (.double (FP.dsub x y) :: S) h kc ks) : xP g l M tb R Z pc V (.double y :: .double x :: S) h kc ks := by
  intro p e s m args below meth c H locs ls B hC hS hl
  exact lv_dsub B.1 B.2.1 hd hne (k p e s m args below meth c H locs ls B hC hS hl)
theorem x_dmul {x y : UInt64} (hd : decode M.2.1 pc = .ok (.dmul, 1)) (hne : vf_n64 (FP.dmul x y)) (k : xP g l M tb R Z (pc + 1) V (.double (FP.dmul x y) :: S) h kc ks) : xP g l M tb R Z pc V (.double y :: .double x :: S) h kc ks := by
  intro p e s m args below meth c H locs ls B hC hS hl
  exact lv_dmul B.1 B.2.1 hd hne (k p e s m args below meth c H locs ls B hC hS hl)
theorem x_dcmp {x y : UInt64} {op : CmpOp} (hd : decode M.2.1 pc = .ok (.dcmp op, 1)) (k : xP g l M tb R Z (pc + 1) V (.int (Op.cmpValue (FP.dcmp x y) op) :: S) h kc ks) : xP g l M tb R Z pc V (.double y :: .double x :: S) h kc ks := by
  intro p e s m args below meth c H locs ls B hC hS hl
  exact lv_dcmp B.1 B.2.1 hd (k p e s m args below meth c H locs ls B hC hS hl)
theorem x_dup {v : Value} (hd : decode M.2.1 pc = .ok (.dup, 1)) (hc : v.category = 1) (k : xP g l M tb R Z (pc + 1) V (v :: v :: S) h kc ks) : xP g l M tb R Z pc V (v :: S) h kc ks := by
  intro p e s m args below meth c H locs ls B hC hS hl
  exact lv_dup B.1 B.2.1 hd hc (k p e s m args below meth c H locs ls B hC hS hl)
theorem x_pop {v : Value} (hd : decode M.2.1 pc = .ok (.pop, 1)) (hc : v.category = 1) (k : xP g l M tb R Z (pc + 1) V (S) h kc ks) : xP g l M tb R Z pc V (v :: S) h kc ks := by
  intro p e s m args below meth c H locs ls B hC hS hl
  exact lv_pop B.1 B.2.1 hd hc (k p e s m args below meth c H locs ls B hC hS hl)
theorem x_dup2 {v u : Value} (hd : decode M.2.1 pc = .ok (.dup2, 1)) (hc : v.category = 1) (hc2 : u.category = 1) (k : xP g l M tb R Z (pc + 1) V (v :: u :: v :: u :: S) h kc ks) : xP g l M tb R Z pc V (v :: u :: S) h kc ks := by
  intro p e s m args below meth c H locs ls B hC hS hl
  exact lv_dup2_11 B.1 B.2.1 hd hc hc2 (k p e s m args below meth c H locs ls B hC hS hl)
theorem x_dup_x1 {v u : Value} (hd : decode M.2.1 pc = .ok (.dup_x1, 1)) (hc : v.category = 1) (hc2 : u.category = 1) (k : xP g l M tb R Z (pc + 1) V (v :: u :: v :: S) h kc ks) : xP g l M tb R Z pc V (v :: u :: S) h kc ks := by
  intro p e s m args below meth c H locs ls B hC hS hl
  exact lv_dup_x1 B.1 B.2.1 hd hc hc2 (k p e s m args below meth c H locs ls B hC hS hl)
theorem x_if_eq {x : Int32} {off : Int} (tgt : Nat) (hd : decode M.2.1 pc = .ok (.ifCond .eq off, 3)) (ht : (pc : Int) + off = (tgt : Int)) (kt : x = 0 → xP g l M tb R Z tgt V S h kc ks) (kf : ¬ x = 0 → xP g l M tb R Z (pc + 3) V S h kc ks) : xP g l M tb R Z pc V (.int x :: S) h kc ks := by
  intro p e s m args below meth c H locs ls B hC hS hl
  exact lv_if_eq B.1 B.2.1 hd ht (fun q => kt q p e s m args below meth c H locs ls B hC hS hl) (fun q => kf q p e s m args below meth c H locs ls B hC hS hl)
theorem x_icmp_eq {x y : Int32} {off : Int} (tgt : Nat) (hd : decode M.2.1 pc = .ok (.if_icmp .eq off, 3)) (ht : (pc : Int) + off = (tgt : Int)) (kt : x = y → xP g l M tb R Z tgt V S h kc ks) (kf : ¬ x = y → xP g l M tb R Z (pc + 3) V S h kc ks) : xP g l M tb R Z pc V (.int y :: .int x :: S) h kc ks := by
  intro p e s m args below meth c H locs ls B hC hS hl
  exact lv_icmp_eq B.1 B.2.1 hd ht (fun q => kt q p e s m args below meth c H locs ls B hC hS hl) (fun q => kf q p e s m args below meth c H locs ls B hC hS hl)
theorem x_if_ne {x : Int32} {off : Int} (tgt : Nat) (hd : decode M.2.1 pc = .ok (.ifCond .ne off, 3)) (ht : (pc : Int) + off = (tgt : Int)) (kt : ¬ x = 0 → xP g l M tb R Z tgt V S h kc ks) (kf : x = 0 → xP g l M tb R Z (pc + 3) V S h kc ks) : xP g l M tb R Z pc V (.int x :: S) h kc ks := by
  intro p e s m args below meth c H locs ls B hC hS hl
  exact lv_if_ne B.1 B.2.1 hd ht (fun q => kt q p e s m args below meth c H locs ls B hC hS hl) (fun q => kf q p e s m args below meth c H locs ls B hC hS hl)
theorem x_icmp_ne {x y : Int32} {off : Int} (tgt : Nat) (hd : decode M.2.1 pc = .ok (.if_icmp .ne off, 3)) (ht : (pc : Int) + off = (tgt : Int)) (kt : ¬ x = y → xP g l M tb R Z tgt V S h kc ks) (kf : x = y → xP g l M tb R Z (pc + 3) V S h kc ks) : xP g l M tb R Z pc V (.int y :: .int x :: S) h kc ks := by
  intro p e s m args below meth c H locs ls B hC hS hl
  exact lv_icmp_ne B.1 B.2.1 hd ht (fun q => kt q p e s m args below meth c H locs ls B hC hS hl) (fun q => kf q p e s m args below meth c H locs ls B hC hS hl)
theorem x_if_lt {x : Int32} {off : Int} (tgt : Nat) (hd : decode M.2.1 pc = .ok (.ifCond .lt off, 3)) (ht : (pc : Int) + off = (tgt : Int)) (kt : x < 0 → xP g l M tb R Z tgt V S h kc ks) (kf : ¬ x < 0 → xP g l M tb R Z (pc + 3) V S h kc ks) : xP g l M tb R Z pc V (.int x :: S) h kc ks := by
  intro p e s m args below meth c H locs ls B hC hS hl
  exact lv_if_lt B.1 B.2.1 hd ht (fun q => kt q p e s m args below meth c H locs ls B hC hS hl) (fun q => kf q p e s m args below meth c H locs ls B hC hS hl)
theorem x_icmp_lt {x y : Int32} {off : Int} (tgt : Nat) (hd : decode M.2.1 pc = .ok (.if_icmp .lt off, 3)) (ht : (pc : Int) + off = (tgt : Int)) (kt : x < y → xP g l M tb R Z tgt V S h kc ks) (kf : ¬ x < y → xP g l M tb R Z (pc + 3) V S h kc ks) : xP g l M tb R Z pc V (.int y :: .int x :: S) h kc ks := by
  intro p e s m args below meth c H locs ls B hC hS hl
  exact lv_icmp_lt B.1 B.2.1 hd ht (fun q => kt q p e s m args below meth c H locs ls B hC hS hl) (fun q => kf q p e s m args below meth c H locs ls B hC hS hl)
theorem x_if_ge {x : Int32} {off : Int} (tgt : Nat) (hd : decode M.2.1 pc = .ok (.ifCond .ge off, 3)) (ht : (pc : Int) + off = (tgt : Int)) (kt : 0 ≤ x → xP g l M tb R Z tgt V S h kc ks) (kf : ¬ 0 ≤ x → xP g l M tb R Z (pc + 3) V S h kc ks) : xP g l M tb R Z pc V (.int x :: S) h kc ks := by
  intro p e s m args below meth c H locs ls B hC hS hl
  exact lv_if_ge B.1 B.2.1 hd ht (fun q => kt q p e s m args below meth c H locs ls B hC hS hl) (fun q => kf q p e s m args below meth c H locs ls B hC hS hl)
theorem x_icmp_ge {x y : Int32} {off : Int} (tgt : Nat) (hd : decode M.2.1 pc = .ok (.if_icmp .ge off, 3)) (ht : (pc : Int) + off = (tgt : Int)) (kt : y ≤ x → xP g l M tb R Z tgt V S h kc ks) (kf : ¬ y ≤ x → xP g l M tb R Z (pc + 3) V S h kc ks) : xP g l M tb R Z pc V (.int y :: .int x :: S) h kc ks := by
  intro p e s m args below meth c H locs ls B hC hS hl
  exact lv_icmp_ge B.1 B.2.1 hd ht (fun q => kt q p e s m args below meth c H locs ls B hC hS hl) (fun q => kf q p e s m args below meth c H locs ls B hC hS hl)
theorem x_if_gt {x : Int32} {off : Int} (tgt : Nat) (hd : decode M.2.1 pc = .ok (.ifCond .gt off, 3)) (ht : (pc : Int) + off = (tgt : Int)) (kt : 0 < x → xP g l M tb R Z tgt V S h kc ks) (kf : ¬ 0 < x → xP g l M tb R Z (pc + 3) V S h kc ks) : xP g l M tb R Z pc V (.int x :: S) h kc ks := by
  intro p e s m args below meth c H locs ls B hC hS hl
  exact lv_if_gt B.1 B.2.1 hd ht (fun q => kt q p e s m args below meth c H locs ls B hC hS hl) (fun q => kf q p e s m args below meth c H locs ls B hC hS hl)
theorem x_icmp_gt {x y : Int32} {off : Int} (tgt : Nat) (hd : decode M.2.1 pc = .ok (.if_icmp .gt off, 3)) (ht : (pc : Int) + off = (tgt : Int)) (kt : y < x → xP g l M tb R Z tgt V S h kc ks) (kf : ¬ y < x → xP g l M tb R Z (pc + 3) V S h kc ks) : xP g l M tb R Z pc V (.int y :: .int x :: S) h kc ks := by
  intro p e s m args below meth c H locs ls B hC hS hl
  exact lv_icmp_gt B.1 B.2.1 hd ht (fun q => kt q p e s m args below meth c H locs ls B hC hS hl) (fun q => kf q p e s m args below meth c H locs ls B hC hS hl)
theorem x_if_le {x : Int32} {off : Int} (tgt : Nat) (hd : decode M.2.1 pc = .ok (.ifCond .le off, 3)) (ht : (pc : Int) + off = (tgt : Int)) (kt : x ≤ 0 → xP g l M tb R Z tgt V S h kc ks) (kf : ¬ x ≤ 0 → xP g l M tb R Z (pc + 3) V S h kc ks) : xP g l M tb R Z pc V (.int x :: S) h kc ks := by
  intro p e s m args below meth c H locs ls B hC hS hl
  exact lv_if_le B.1 B.2.1 hd ht (fun q => kt q p e s m args below meth c H locs ls B hC hS hl) (fun q => kf q p e s m args below meth c H locs ls B hC hS hl)
theorem x_icmp_le {x y : Int32} {off : Int} (tgt : Nat) (hd : decode M.2.1 pc = .ok (.if_icmp .le off, 3)) (ht : (pc : Int) + off = (tgt : Int)) (kt : x ≤ y → xP g l M tb R Z tgt V S h kc ks) (kf : ¬ x ≤ y → xP g l M tb R Z (pc + 3) V S h kc ks) : xP g l M tb R Z pc V (.int y :: .int x :: S) h kc ks := by
  intro p e s m args below meth c H locs ls B hC hS hl
  exact lv_icmp_le B.1 B.2.1 hd ht (fun q => kt q p e s m args below meth c H locs ls B hC hS hl) (fun q => kf q p e s m args below meth c H locs ls B hC hS hl)
theorem x_goto {off : Int} (tgt : Nat) (hd : decode M.2.1 pc = .ok (.goto off, 3)) (ht : (pc : Int) + off = (tgt : Int)) (k : xP g l M tb R Z tgt V S h kc ks) : xP g l M tb R Z pc V S h kc ks := by
  intro p e s m args below meth c H locs ls B hC hS hl
  exact lv_goto B.1 B.2.1 hd ht (k p e s m args below meth c H locs ls B hC hS hl)
theorem x_ifnonnull {x : Nat} {off : Int} (tgt : Nat) (hd : decode M.2.1 pc = .ok (.ifnonnull off, 3)) (ht : (pc : Int) + off = (tgt : Int)) (k : xP g l M tb R Z tgt V S h kc ks) : xP g l M tb R Z pc V (.ref x :: S) h kc ks := by
  intro p e s m args below meth c H locs ls B hC hS hl
  exact lv_ifnonnull B.1 B.2.1 hd ht (k p e s m args below meth c H locs ls B hC hS hl)
theorem x_ifnonnullN {off : Int} (hd : decode M.2.1 pc = .ok (.ifnonnull off, 3)) (k : xP g l M tb R Z (pc + 3) V S h kc ks) : xP g l M tb R Z pc V (.null :: S) h kc ks := by
  intro p e s m args below meth c H locs ls B hC hS hl
  exact lv_ifnonnullN B.1 B.2.1 hd (k p e s m args below meth c H locs ls B hC hS hl)
theorem x_tableIn {dflt lo hi : Int} {offs : Array Int} {len : Nat} {x : Int32} {off : Int} (tgt : Nat) (hd : decode M.2.1 pc = .ok (.tableswitch dflt lo hi offs, len)) (h1 : ¬ x.toInt < lo) (h2 : ¬ hi < x.toInt) (ho : offs[(x.toInt - lo).toNat]? = some off) (ht : (pc : Int) + off = (tgt : Int)) (k : xP g l M tb R Z tgt V S h kc ks) : xP g l M tb R Z pc V (.int x :: S) h kc ks := by
  intro p e s m args below meth c H locs ls B hC hS hl
  exact lv_tableIn B.1 B.2.1 hd h1 h2 ho ht (k p e s m args below meth c H locs ls B hC hS hl)
theorem x_tableOut {dflt lo hi : Int} {offs : Array Int} {len : Nat} {x : Int32} (tgt : Nat) (hd : decode M.2.1 pc = .ok (.tableswitch dflt lo hi offs, len)) (h1 : x.toInt < lo ∨ hi < x.toInt) (ht : (pc : Int) + dflt = (tgt : Int)) (k : xP g l M tb R Z tgt V S h kc ks) : xP g l M tb R Z pc V (.int x :: S) h kc ks := by
  intro p e s m args below meth c H locs ls B hC hS hl
  exact lv_tableOut B.1 B.2.1 hd h1 ht (k p e s m args below meth c H locs ls B hC hS hl)
theorem x_lookup {dflt : Int} {ps : Array (Int × Int)} {len : Nat} {x : Int32} {off : Int} (tgt : Nat) (hd : decode M.2.1 pc = .ok (.lookupswitch dflt ps, len)) (hp : (ps.toList.zip (ps.toList.drop 1)).all (fun (a, next) => a.1 < next.1) = true) (ho : Op.lookupswitch.offset ps.toList dflt x.toInt = off) (ht : (pc : Int) + off = (tgt : Int)) (k : xP g l M tb R Z tgt V S h kc ks) : xP g l M tb R Z pc V (.int x :: S) h kc ks := by
  intro p e s m args below meth c H locs ls B hC hS hl
  exact lv_lookup B.1 B.2.1 hd hp ho ht (k p e s m args below meth c H locs ls B hC hS hl)
end X1
