/-! ===== the layer: a small clean machine over the kit's ===== -/
/-- a cell: an array of ints; an array of references (its number, its contents); an object (its class's number, its fields) -/
abbrev MC : Type := List Int32 ⊕ ((Nat × List (Option Nat)) ⊕ (Nat × List Value))
/-- the memory: cells by their addresses, how many cells the heap has, how many slots were made -/
abbrev Mm : Type := (Nat → Option MC) × (Nat × Nat)
/-- what stays during the whole run: launch, class numbers, array classes, the first new address, addresses of constants -/
abbrev Gl : Type := Launch × (va_G × ((Nat → ClassId) × (Nat × ((Nat → Nat) × List Int32))))
/-- a method: name, bytes, locals, what it answers -/
abbrev Md : Type := MethodName × (ByteArray × (Nat × Option FieldType))
abbrev gL (g : Gl) : Launch := g.1
abbrev gD (g : Gl) : va_G := g.2.1
abbrev gA (g : Gl) : Nat → ClassId := g.2.2.1
abbrev gB (g : Gl) : Nat := g.2.2.2.1
abbrev gS (g : Gl) : Nat → Nat := g.2.2.2.2.1
/-- the script -/
abbrev gX (g : Gl) : List Int32 := g.2.2.2.2.2
def mE (g : Gl) : MC → va_E := fun e => match e with
  | .inl l => .inl (gA g 0, l.length, .inl (fun j => l.getD j 0))
  | .inr (.inl (t, l)) => .inl (gA g t, l.length, .inr (.inr (.inr (.inr (fun j => l.getD j none)))))
  | .inr (.inr o) => .inr o
def mupd (μ : Mm) (a : Nat) (e : MC) : Mm := (fun q => if q = a then some e else μ.1 q, μ.2)
def mnew (μ : Mm) (e : MC) (k : Nat) : Mm := (fun q => if q = μ.2.1 then some e else μ.1 q, (μ.2.1 + 1, μ.2.2 + k))
def Rl (g : Gl) (μ : Mm) (H : Heap) : Prop := H.size = μ.2.1 ∧ ∀ a e, μ.1 a = some e → gB g ≤ a ∧ va_at (gD g) vwCl (a, mE g e) H
abbrev Hi (g : Gl) : Nat → Prop := fun q => gB g ≤ q
def tysG (g : Gl) : List (ClassId × FieldType) := [(gA g 0, .int), (gA g 1, .object "PapersEarly$Door"), (gA g 2, .object "PapersEarly$Rule"), (gA g 3, .object "PapersEarly$Sheet"), (gA g 4, .object "PapersEarly$Walk"), (gA g 5, .array .int)]
/-- static rows of ints: class, field, contents -/
def saT : List (String × String × List Int32) := [(RX11, "FIRST_TERMS", [12, 0, 0, 4, 1, 0, 1, 2, 3, 4]), (RX11, "LEAST_TERMS", [4, 0, 0, 1, 0, 0, 1, 1, 1, 1]), (RX11, "MOST_TERMS", [60, 99, 999, 9, 9, 9, 9, 9, 9, 9]), (RX11, "MOST_FACTS", [9, 99, 1, 3]), (RX12, "LEAST_SET", [4, 0, 0, 1, 0, 0, 1, 1, 1, 1]), (RX12, "MOST_SET", [60, 99, 999, 9, 9, 9, 9, 9, 9, 9])]
/-- text constants: class, pool entry, text -/
def scT : List (String × Nat × String) := [(RX11, 100, "by 30 + house * 5 ; rings 5 < late ; tips 20 - late ;"), (RX4, 105, "by"), (RX4, 111, "rings"), (RX4, 113, "tips"), (RX4, 115, "or"), (RX4, 117, "and"), (RX4, 119, "not"), (RX4, 121, "place"), (RX4, 123, "side"), (RX4, 125, "sort"), (RX4, 127, "late"), (RX4, 129, "rain"), (RX4, 131, "house")]
def scB : List (List Int32) := [[98, 121, 32, 51, 48, 32, 43, 32, 104, 111, 117, 115, 101, 32, 42, 32, 53, 32, 59, 32, 114, 105, 110, 103, 115, 32, 53, 32, 60, 32, 108, 97, 116, 101, 32, 59, 32, 116, 105, 112, 115, 32, 50, 48, 32, 45, 32, 108, 97, 116, 101, 32, 59], [98, 121], [114, 105, 110, 103, 115], [116, 105, 112, 115], [111, 114], [97, 110, 100], [110, 111, 116], [112, 108, 97, 99, 101], [115, 105, 100, 101], [115, 111, 114, 116], [108, 97, 116, 101], [114, 97, 105, 110], [104, 111, 117, 115, 101]]
def scN : List Nat := [53, 2, 5, 4, 2, 3, 3, 5, 4, 4, 4, 4, 5]
/-- words of the tables that are no 'good' words: links to private members of nest mates, casts, a declared method -/
def mlN : List (String × Nat × MethodName × String) := [(RX11, 36, yX4_init, RX11), (RX11, 61, yX10_init, RX11), (RX6, 50, yX10_init, RX11), (RX11, 99, yX7_init, RX11), (RX10, 40, yX11_thickOf, RX11), (RX6, 123, yX11_thickOf, RX11)]
def ctN : List (String × String) := [("[I", "java/lang/Cloneable"), (RX8, RX3), (RX9, RX3), (RX0, RX1), (RX3, RX2), (RX1, RX2), (RX9, RX2), (RX0, RX2), (RX8, RX2)]
def ncN : List (String × String) := [(RX2, RX3), (RX2, RX1), (RX2, RX9), (RX2, RX0), (RX2, RX8), (RX3, RX1), (RX3, RX9), (RX3, RX0), (RX3, RX8), (RX1, RX3), (RX1, RX9), (RX1, RX0), (RX1, RX8), (RX9, RX1), (RX9, RX0), (RX9, RX8), (RX0, RX3), (RX0, RX9), (RX0, RX8), (RX8, RX1), (RX8, RX9), (RX8, RX0)]
def aoN : List String := [RX2, RX5, RX7, RX10]
def AOI (U : State) : Prop := (Cond.arrayOver (.array .int)).before #[] U = true
/-- the static rows' cells, for their clones -/
def CLr (g : Gl) (H : Heap) : Prop := ∀ (k : Nat) (q : String × String × List Int32), saT[k]? = some q → ∃ cell : Cell, H[gS g k]? = some cell ∧ cell.cls = gA g 0 ∧ cell.slots.size = q.2.2.length ∧ ¬ Hi g (gS g k)
theorem CLr.kept {g : Gl} {H H1 : Heap} (h : CLr g H) (hq : ∀ a : Nat, a < H.size → ¬ Hi g a → H1[a]? = H[a]?) : CLr g H1 := by
  intro k q hk
  obtain ⟨cell, h1, h2, h3, h4⟩ := h k q hk
  exact ⟨cell, by rw [hq _ (Array.getElem?_eq_some_iff.mp h1).1 h4]; exact h1, h2, h3, h4⟩
/-- constants of the heap below the run's own cells: static rows, texts, the script -/
def SW (g : Gl) (U : State) (H : Heap) : Prop :=
  (∀ (k : Nat) (q : String × String × List Int32), saT[k]? = some q → va_Z q.1 q.2.1 "[I" (.ref (gS g k)) (Hi g) U H ∧ va_T .int (gS g k) q.2.2.length (fun j => .int (q.2.2.getD j 0)) (Hi g) U H) ∧
  va_Z "java/lang/String" "COMPACT_STRINGS" "Z" (.int 1) (Hi g) U H ∧ vk_S 13 scN scB (fun i => gS g (10 + i)) (fun i => gS g (30 + i)) (Hi g) U H ∧
  (∀ (i : Nat) (q : String × Nat × String), scT[i]? = some q → vk_R q.1 q.2.1 q.2.2 (gS g (10 + i)) U) ∧
  va_X (gS g 9) (gX g).length (fun j => (gX g).getD j 0) U H ∧ gS g 9 < gB g ∧ va_Zq "jdk/internal/util/Preconditions" "SIOOBE_FORMATTER" "Ljava/util/function/BiFunction;" (Hi g) U H ∧ CLr g H
def GS (g : Gl) (U : State) : Prop :=
  va_K (gD g) vwCl (tysG g) U ∧ gB g ≤ U.heap.size ∧ (∀ q ∈ mlN, va_Nw (.methodLinkNest q.1 q.2.1 q.2.2.1 q.2.2.2) U) ∧ (∀ q ∈ ctN, va_Nw (.castable q.1 q.2) U) ∧
  va_Nw (.declares yX2_gives) U ∧ (∀ q ∈ ncN, va_Nc q.1 q.2 U) ∧ (∀ C ∈ aoN, va_AO C U) ∧ AOI U ∧ SW g U U.heap
theorem AOI.moved {u U : State} (hvm : u.vm.Alike U.vm) (h : AOI u) : AOI U := by
  obtain ⟨comp, c, k, h1, h2, h3, h4, h5⟩ := arrayOverA_spec h
  obtain ⟨k', hk', he⟩ := hvm.2.2 _ _ h3
  have hi : (U.vm.classes.findIdx? fun (x : Class) => match x.kind with | .array component _ => component == comp | _ => false) = some c := by
    have e1 := va_idx_bare U.vm comp
    have e2 := va_idx_bare u.vm comp
    have hb : U.vm.bare = u.vm.bare := by first | exact hvm.bare_eq | exact hvm.bare_eq.symm
    rw [hb] at e1
    exact e1.symm.trans (e2.trans h2)
  have hkind : k'.kind = .array comp (.array .int) := by rw [he]; exact h4
  have f1 : U.vm.findClass (FieldType.array .int).toString = some comp := by rw [hvm.findClass]; exact h1
  have f2 : U.vm.findClass ("[" ++ (FieldType.array .int).toString) = some c := by rw [hvm.findClass]; exact h5
  unfold AOI Cond.before Cond.holds
  simp only [Cond.value]
  rw [f1, Option.bind_some]
  refine (congrArg (fun o : Option Nat => (o.bind (fun c => (U.vm.classes[c]?).map fun (k : Class) => match k.kind with | .array _ ty => decide (ty = FieldType.array .int) && decide (U.vm.findClass ("[" ++ (FieldType.array .int).toString) = some c) | _ => false) == some true)) hi).trans ?_
  simp [hk', hkind, f2]
theorem SW.moved {g : Gl} {u U : State} {H : Heap} (hW : u.WarmedH U.vm) (h : SW g u H) : SW g U H := by
  obtain ⟨h1, h2, h3, h4, h5, h6⟩ := h
  have hA := hW.alike
  exact ⟨fun k q hk => ⟨(h1 k q hk).1.moved hA, (h1 k q hk).2.moved hA⟩, h2.moved hA, h3.moved hA, fun i q hi => (h4 i q hi).warm hW, h5.moved hA, h6.1, h6.2.1.moved hA, h6.2.2⟩
theorem SW.kept {g : Gl} {U : State} {H H1 : Heap} (h : SW g U H) (hq : ∀ a : Nat, a < H.size → ¬ Hi g a → H1[a]? = H[a]?) : SW g U H1 := by
  obtain ⟨h1, h2, h3, h4, h5, h6⟩ := h
  refine ⟨fun k q hk => ⟨(h1 k q hk).1.kept hq, (h1 k q hk).2.kept hq⟩, h2.kept hq, h3.kept hq, h4, h5.kept (hq _ ?_ (by show ¬ gB g ≤ _; have := h6.1; omega)), h6.1, h6.2.1.kept hq, h6.2.2.kept hq⟩
  obtain ⟨scr, q, -⟩ := h5
  exact (Array.getElem?_eq_some_iff.mp q).1
/-- what stays holds at a callee's start -/
theorem GS.to {g : Gl} {s U : State} {H : Heap} {locs : List Loc} (h : GS g s) (hW : s.WarmedH U.vm) (hU : U.heap = H) (hS : va_S (Hi g) s.heap H locs) : GS g U := by
  obtain ⟨h1, h2, h3, h4, h5, h6, h7, h8, h9⟩ := h
  have hA := hW.alike
  refine ⟨h1.moved hA, by rw [hU]; exact Nat.le_trans h2 hS.1, fun q hq => (h3 q hq).warmM hW, fun q hq => (h4 q hq).warmC hW, h5.warmD hW, fun q hq => (h6 q hq).moved hA, fun q hq => (h7 q hq).moved hA, h8.moved hA, ?_⟩
  rw [hU]
  exact (h9.kept (fun a x y => hS.2.1 a x y)).moved hW
theorem GS.blind {g : Gl} {U : State} (h : GS g U) (f : JFrame) (mk : MethodId) (a : Array Value) : GS g (U.calling f mk a) := by
  obtain ⟨h1, h2, h3, h4, h5, h6, h7, h8, ⟨j1, j2, j3, j4, j5, j6⟩⟩ := h
  have hA : U.vm.Alike (U.calling f mk a).vm := Vm.Alike.refl U.vm
  exact ⟨h1.moved hA, h2, fun q hq => (h3 q hq).same rfl rfl, fun q hq => (h4 q hq).same rfl rfl, h5.same rfl rfl, fun q hq => (h6 q hq).moved hA, fun q hq => (h7 q hq).moved hA, h8.moved hA, fun k q hk => ⟨(j1 k q hk).1.moved hA, (j1 k q hk).2.moved hA⟩, j2.moved hA, j3.moved hA, fun i q hi => (j4 i q hi).same rfl, j5.moved hA, j6.1, j6.2.1.moved hA, j6.2.2⟩
