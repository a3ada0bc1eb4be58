/-! THE CLAIM OUT OF ONE WALK OF THE LAW'S BODY. Your part is whole_start (and what it stands on); all else here is the same for every law, but numbers. -/
def R_law : String := "PapersEarlyLaw"
def lw_P (b : Addr) (xs : List Int32) (args : Array Value) (s : State) : Prop := args = #[.ref b] ∧ s.IntsAt b xs ∧ xs.length ≤ 3072 ∧ (Jvm.Cond.and given_1 narrow_1).before args s = true
def lw_Q (_ : Array Value) (s : State) (o : Outcome) (t : State) : Prop := o = .returned (some (.int 1)) ∧ Framed s o t [] 600000 7302250
def lw_Z (below : List Frame) (a : Array Value) (s : State) : State → Prop := fun t => ∃ o, t.status = .running ∧ Ended t below o ∧ lw_Q a s o t
/-- what holds at the law's entry: the machine, the code, the tables' words (any of lw_tbl by 'hts w (by decide +kernel)'), the script of L ints xs at the cell b, what the Statement gives of the start (any of its parts by flat_of_before) -/
def lw_At (p : Program) (s : State) (m : MethodId) (meth : Method) (c : Code) (b L : Nat) (xs : Nat → Int32) : Prop :=
  p.tables.exec = Jvm.exec ∧ c.code = code ∧ meth.sig.returnType = ret ∧ c.maxLocals = 4 ∧ s.vm.findClass R_law = some m.cls ∧ (∀ w ∈ lw_tbl, w.before #[Value.ref b] s = true) ∧ va_X b L xs s s.heap ∧ b < s.heap.size ∧ meth.locks = false ∧ (Jvm.Cond.and given_1 narrow_1).before #[Value.ref b] s = true ∧ meth.name = "law"
theorem end_z {g : Gl} {v : Option Value} {μ' : Mm} {below : List Frame} {a : Array Value} {s : State} {mc ms : Nat} (hg : gB g = s.heap.size) (hv : v = some (.int 1)) (h1 : mc ≤ 600000) (h2 : ms ≤ 7302250) {t : State} (h : MQ below (Qz g v μ') a s mc ms (Hi g) t) : lw_Z below a s t := by
  obtain ⟨o, r1, r2, ⟨q1, -, -⟩, Ls, ⟨f1, f2, f3⟩, hfree⟩ := h
  refine ⟨o, r1, r2, by rw [q1, hv], f1, f2, State.sameButNew.weaken f3 (fun x hx hlt => absurd (hfree x hx) ?_) h1 h2⟩
  show ¬ gB g ≤ x.base
  rw [hg]
  exact Nat.not_le.mpr hlt
/-- from the entry, for every script of at most 3072 ints, the law comes to its end with true -/
theorem whole_start {p : Program} {e : Env} {s : State} {m : MethodId} {below : List Frame} {meth : Method} {c : Code} (l : Launch) {b L : Nat} {xs : Nat → Int32} (hL : L ≤ 3072) (C0 : lw_At p s m meth c b L xs) : W p l e room_1 s m #[Value.ref b] below meth c s.heap [] 0 0 (lw_Z below #[Value.ref b] s) (entryFrame m ([Value.ref b] : List Value).toArray 4) := by
  obtain ⟨hx, hcode, hret, hml, hown, hts, hX, hb, hlk, hgv, hname⟩ := C0
  obtain ⟨g, e1, e2, e3, e4, hGS⟩ := st_GS l hts (flat_of_before _ hgv) hX hb
  obtain ⟨v, μ', ⟨hv, b1, b2⟩, hG, hE⟩ := l_law0 (g := g) (μ0 := (fun _ => none, s.heap.size, 0)) (by rw [e4]; exact hL)
  have b1' : μ'.2.1 ≤ s.heap.size + 40000 := b1
  have b2' : μ'.2.2 ≤ 0 + 800000 := b2
  have hl := lv_entry ([Value.ref b] : List Value) (n := 4) (Nat.le_of_ble_eq_true rfl)
  have hCx : Cx g 70 mL_law p s m #[Value.ref b] meth c room_1 := ⟨⟨hx, hcode, hml, hret, hlk, hname, hown⟩, st_gt hts, hGS, by decide, by decide⟩
  rw [lg_entry_eq]
  generalize (lg_sl ([Value.ref b] : List Value) ++ List.replicate (4 - (lg_sl ([Value.ref b] : List Value)).length) Slot.unset).toArray = la at hl ⊢
  have hz := hE p e s m #[Value.ref b] below meth c room_1 s.heap [] 0 la hCx (Nat.le_refl _) (Nat.le_refl _) (by show μ'.2.1 ≤ s.heap.size + 600000; omega) (by show μ'.2.2 ≤ 0 + 7302250; omega) ⟨rfl, fun a e h => by cases h⟩ va_S.rf ⟨⟨rfl, ?_⟩, hl.1, hl.2.1, fun q hq => hl.2.2 q ?_⟩
  · rw [e1] at hz
    intro T hT X
    obtain ⟨t, hsteps, hq⟩ := hz T hT (by simpa using X)
    exact ⟨t, hsteps, end_z e2 hv (by omega) (by omega) hq⟩
  · intro j w hj
    exact (show w.category = 1 from by
      match j, hj with
      | 0, hj => simp [e3] at hj; subst hj; rfl
      | 1, hj => simp at hj
      | 2, hj => simp at hj
      | 3, hj => simp at hj
      | j + 4, hj => simp at hj)
  · obtain ⟨j, w⟩ := q
    have hj := mem_lpr.mp hq
    match j, hj with
    | 0, hj => simp [e3] at hj; subst hj; exact List.mem_cons_self
    | 1, hj => simp at hj
    | 2, hj => simp at hj
    | 3, hj => simp at hj
    | j + 4, hj => simp at hj
