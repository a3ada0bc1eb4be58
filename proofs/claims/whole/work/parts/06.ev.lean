/-! ===== the judgement: a method's run from a place on ends with an answer and a memory ===== -/
def GT : List Cond := lw_tbl.filter goodWord
theorem gt_of {w : Cond} (h : w ∈ lw_tbl) (hg : goodWord w = true) : w ∈ GT := List.mem_filter.mpr ⟨h, hg⟩
theorem GT_good : ∀ w ∈ GT, (w.onTables && w.keeps) = true ∨ ∃ ty, w = .arrayClass ty := fun w h => good_of_word (List.mem_filter.mp h).2
abbrev mY (Y : Md) : MethodName := Y.1
abbrev mC (Y : Md) : ByteArray := Y.2.1
abbrev mN (Y : Md) : Nat := Y.2.2.1
abbrev mR (Y : Md) : Option FieldType := Y.2.2.2
def lpr (ls : List (Option Value)) : List (Nat × Value) := (List.range ls.length).filterMap (fun j => (ls.getD j none).map (fun w => (j, w)))
theorem mem_lpr {ls : List (Option Value)} {j : Nat} {w : Value} : (j, w) ∈ lpr ls ↔ ls[j]? = some (some w) := by
  simp only [lpr, List.mem_filterMap, List.mem_range, Option.map_eq_some_iff, Prod.mk.injEq, List.getD_eq_getElem?_getD]
  constructor
  · rintro ⟨i, hi, x, hx, rfl, rfl⟩
    rw [List.getElem?_eq_getElem hi] at hx ⊢
    simpa using hx
  · intro h
    exact ⟨j, (List.getElem?_eq_some_iff.mp h).1, w, by rw [h]; rfl, rfl, rfl⟩
/-- the locals: those that are told are held; none is a long -/
def Lr (nL : Nat) (ls : List (Option Value)) (la : Array Slot) : Prop := (ls.length = nL ∧ ∀ (j : Nat) (w : Value), ls[j]? = some (some w) → w.category = 1) ∧ lv_has la nL (lpr ls)
theorem Lr.at {nL : Nat} {ls : List (Option Value)} {la : Array Slot} (h : Lr nL ls la) {i : Nat} {v : Value} (hi : ls[i]? = some (some v)) : la[i]? = some (.val v) := h.2.2.2 (i, v) (mem_lpr.mpr hi)
theorem Lr.set {nL : Nat} {ls : List (Option Value)} {la la' : Array Slot} (h : Lr nL ls la) {i : Nat} {v : Value} (hv : v.category = 1) (h' : lv_has la' nL ((i, v) :: (lpr ls).filter (fun q => !(q.1 == i) && !(q.1 + 1 == i && q.2.category == 2)))) : Lr nL (ls.set i (some v)) la' := by
  refine ⟨⟨by rw [List.length_set]; exact h.1.1, fun j w hj => ?_⟩, h'.1, h'.2.1, fun q hq => ?_⟩
  · rw [List.getElem?_set] at hj
    split at hj
    · split at hj
      · cases hj; exact hv
      · cases hj
    · exact h.1.2 j w hj
  · obtain ⟨j, w⟩ := q
    have hj := mem_lpr.mp hq
    rw [List.getElem?_set] at hj
    split at hj
    · rename_i hij
      split at hj
      · cases hj
        subst hij
        exact h'.2.2 _ List.mem_cons_self
      · cases hj
    · rename_i hij
      refine h'.2.2 (j, w) (List.mem_cons_of_mem _ (List.mem_filter.mpr ⟨mem_lpr.mpr hj, ?_⟩))
      have := h.1.2 j w hj
      simp [this, Ne.symm hij]
/-- a method's end -/
def Qz (g : Gl) (v : Option Value) (μ' : Mm) : Array Value → State → Outcome → State → Prop := fun _ st oc t => oc = .returned v ∧ Rl g μ' t.heap ∧ va_F (Hi g) st t
/-- what a body knows from its start on -/
def Cx (g : Gl) (d : Nat) (Y : Md) (p : Program) (s : State) (m : MethodId) (args : Array Value) (meth : Method) (c : Code) (R : Room) : Prop :=
  (p.tables.exec = Jvm.exec ∧ c.code = mC Y ∧ c.maxLocals = mN Y ∧ meth.sig.returnType = mR Y ∧ meth.locks = false ∧ meth.name = (mY Y).name ∧ s.vm.findClass (mY Y).cls = some m.cls) ∧
  (∀ w ∈ GT, w.before args s = true) ∧ GS g s ∧ d ≤ R.frames ∧ 64 * d ≤ R.locals
def Gr (μ μ' : Mm) : Prop := μ.2.1 ≤ μ'.2.1 ∧ μ.2.2 ≤ μ'.2.2
theorem Gr.rf {μ : Mm} : Gr μ μ := ⟨Nat.le_refl _, Nat.le_refl _⟩
theorem Gr.tr {a b c : Mm} (h : Gr a b) (k : Gr b c) : Gr a c := ⟨Nat.le_trans h.1 k.1, Nat.le_trans h.2 k.2⟩
def Ew (g : Gl) (d : Nat) (Y : Md) (pc : Nat) (ls : List (Option Value)) (st : List Value) (μ : Mm) (v : Option Value) (μ' : Mm) : Prop :=
  ∀ (p : Program) (e : Env) (s : State) (m : MethodId) (args : Array Value) (below : List Frame) (meth : Method) (c : Code) (R : Room) (H : Heap) (locs : List Loc) (k0 : Nat) (la : Array Slot),
    Cx g d Y p s m args meth c R → s.heap.size ≤ μ.2.1 → k0 ≤ μ.2.2 → μ'.2.1 ≤ s.heap.size + R.cells → μ'.2.2 ≤ k0 + R.slots → Rl g μ H → va_S (Hi g) s.heap H locs → Lr (mN Y) ls la →
    W p (gL g) e R s m args below meth c H locs (μ.2.1 - s.heap.size) (μ.2.2 - k0) (MQ below (Qz g v μ') args s (μ'.2.1 - s.heap.size) (μ'.2.2 - k0) (Hi g)) (F0 m pc la st)
/-- from here on the method ends, and what it answers and leaves is as Q says -/
def Ev (g : Gl) (d : Nat) (Y : Md) (pc : Nat) (ls : List (Option Value)) (st : List Value) (μ : Mm) (Q : Option Value → Mm → Prop) : Prop := ∃ v μ', Q v μ' ∧ Gr μ μ' ∧ Ew g d Y pc ls st μ v μ'
/-- a method's contract: called with these, it ends, and what it answers and leaves is as Q says -/
def roomOf (d mc ms : Nat) : Room := { frames := d, cells := mc, slots := ms, locals := 64 * d }
def Pz (g : Gl) (av : List Value) (μ : Mm) : Array Value → State → Prop := fun a U => a = av.toArray ∧ Rl g μ U.heap ∧ GS g U
def mW (Y : Md) : List Cond := .code (mY Y) (mC Y) (mN Y) (mR Y) :: GT
def Mt (g : Gl) (d : Nat) (Y : Md) (av : List Value) (μ : Mm) (Q : Option Value → Mm → Prop) : Prop := ∃ v μ', Q v μ' ∧ Gr μ μ' ∧
  ∀ d', d ≤ d' → Met (gL g) (mY Y) (mW Y) (roomOf d' (μ'.2.1 - μ.2.1) (μ'.2.2 - μ.2.2)) (Pz g av μ) (Qz g v μ') (μ'.2.1 - μ.2.1) (μ'.2.2 - μ.2.2) (Hi g)
theorem Mt.mono {g : Gl} {d d' : Nat} {Y : Md} {av : List Value} {μ : Mm} {Q : Option Value → Mm → Prop} (h : Mt g d Y av μ Q) (hd : d ≤ d') : Mt g d' Y av μ Q := by
  obtain ⟨v, μ', h1, h2, h3⟩ := h
  exact ⟨v, μ', h1, h2, fun k hk => h3 k (Nat.le_trans hd hk)⟩
theorem Mt.imp {g : Gl} {d : Nat} {Y : Md} {av : List Value} {μ : Mm} {Q Q' : Option Value → Mm → Prop} (h : Mt g d Y av μ Q) (hq : ∀ v μ', Q v μ' → Q' v μ') : Mt g d Y av μ Q' := by
  obtain ⟨v, μ', h1, h2, h3⟩ := h
  exact ⟨v, μ', hq _ _ h1, h2, h3⟩
theorem Ev.imp {g : Gl} {d : Nat} {Y : Md} {pc : Nat} {ls : List (Option Value)} {st : List Value} {μ : Mm} {Q Q' : Option Value → Mm → Prop} (h : Ev g d Y pc ls st μ Q) (hq : ∀ v μ', Q v μ' → Q' v μ') : Ev g d Y pc ls st μ Q' := by
  obtain ⟨v, μ', h1, h2⟩ := h
  exact ⟨v, μ', hq _ _ h1, h2⟩
theorem lv_args_mem : ∀ (av : List Value) (i : Nat), (∀ v ∈ av, v.category = 1) → ∀ (j : Nat) (v : Value), av[j]? = some v → (i + j, v) ∈ lv_args i av := by
  intro av
  induction av with
  | nil => intro i _ j v h; simp at h
  | cons a t ih =>
    intro i hav j v h
    have ha : ¬ a.category = 2 := by have := hav a List.mem_cons_self; omega
    rw [lv_args, if_neg ha]
    cases j with
    | zero => simp at h; subst h; exact List.mem_cons_self
    | succ j =>
      have := ih (i + 1) (fun v hv => hav v (List.mem_cons_of_mem _ hv)) j v (by simpa using h)
      rw [show i + (j + 1) = i + 1 + j by omega]
      exact List.mem_cons_of_mem _ this
theorem at_args {av : List Value} {n j : Nat} {w : Value} (h : (av.map some ++ List.replicate n none)[j]? = some (some w)) : av[j]? = some w := by
  rw [List.getElem?_append] at h
  split at h
  · simpa using h
  · rw [List.getElem?_replicate] at h
    split at h <;> simp at h
theorem lpr_args {av : List Value} (hav : ∀ v ∈ av, v.category = 1) (n : Nat) : ∀ q ∈ lpr (av.map some ++ List.replicate n none), q ∈ lv_args 0 av := by
  rintro ⟨j, w⟩ hq
  have := lv_args_mem av 0 hav j w (at_args (mem_lpr.mp hq))
  simpa using this
theorem lg_sl_len : ∀ {av : List Value}, (∀ v ∈ av, v.category = 1) → (lg_sl av).length = av.length := by
  intro av
  induction av with
  | nil => intro _; rfl
  | cons a t ih =>
    intro hav
    have ha : ¬ a.category = 2 := by have := hav a List.mem_cons_self; omega
    have := ih (fun v hv => hav v (List.mem_cons_of_mem _ hv))
    simp [lg_sl, ha] at this ⊢
    exact this
/-- a contract out of a walk from the method's first byte on -/
theorem Mt.of {g : Gl} {d : Nat} {Y : Md} {av : List Value} {μ : Mm} {Q : Option Value → Mm → Prop} (hy : plainName (mY Y).cls = true) (hav : ∀ v ∈ av, v.category = 1) (hn : av.length ≤ mN Y) (h : Ev g d Y 0 (av.map some ++ List.replicate (mN Y - av.length) none) [] μ Q) : Mt g d Y av μ Q := by
  obtain ⟨v, μ', hQ, hG, hE⟩ := h
  refine ⟨v, μ', hQ, hG, fun d' hd => ?_⟩
  refine Met.ofW (cc := mC Y) (maxL := mN Y) (ret := mR Y) hy rfl ?_
  intro p e s m args below meth c s₁ B hml hv
  obtain ⟨rfl, hR, hGS⟩ := hv
  have hts := atoms_spec (ws := mW Y) B.pre
  have hown : s.vm.findClass (mY Y).cls = some m.cls := findClass_of_methodNamed B.named
  have hCx : Cx g d Y p s m av.toArray meth c (headSpec (mW Y) (roomOf d' (μ'.2.1 - μ.2.1) (μ'.2.2 - μ.2.2))).room :=
    ⟨⟨B.exec, B.bytes, hml, B.returns, B.notSynchronized, (name_of_methodNamed B.named B.method).1, hown⟩, fun w hw => hts w (List.mem_cons_of_mem _ hw), hGS, hd, Nat.mul_le_mul_left 64 hd⟩
  have hl := lv_entry av (n := mN Y) (by rw [lg_sl_len hav]; exact hn)
  rw [lg_entry_eq]
  generalize (lg_sl av ++ List.replicate (mN Y - (lg_sl av).length) Slot.unset).toArray = la at hl ⊢
  have hsz : s.heap.size = μ.2.1 := hR.1
  have hz := hE p e s m av.toArray below meth c _ s.heap [] μ.2.2 la hCx (by omega) (Nat.le_refl _) (by show _ ≤ _ + (μ'.2.1 - μ.2.1); have := hG.1; omega) (by show _ ≤ _ + (μ'.2.2 - μ.2.2); have := hG.2; omega) hR va_S.rf ⟨⟨by simp; omega, ?_⟩, hl.1, hl.2.1, fun q hq => hl.2.2 q (lpr_args hav _ q hq)⟩
  · rw [hsz, Nat.sub_self, Nat.sub_self] at hz
    exact hz
  · exact fun j w hj => hav w (List.mem_of_getElem? (at_args hj))
