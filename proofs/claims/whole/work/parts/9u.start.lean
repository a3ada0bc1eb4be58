/-! ===== the start: what the Statement gives ===== -/
theorem mw1 (i : Nat) {w : Cond} (hi : tables_1_1[i]? = some w) : w ∈ lw_tbl := List.mem_append_right _ (List.mem_append_left _ (List.mem_of_getElem? hi))
theorem mw2 (i : Nat) {w : Cond} (hi : tables_1_2[i]? = some w) : w ∈ lw_tbl := List.mem_append_right _ (List.mem_append_right _ (List.mem_append_left _ (List.mem_of_getElem? hi)))
theorem mw3 (i : Nat) {w : Cond} (hi : tables_1_3[i]? = some w) : w ∈ lw_tbl := List.mem_append_right _ (List.mem_append_right _ (List.mem_append_right _ (List.mem_append_left _ (List.mem_of_getElem? hi))))
theorem mw4 (i : Nat) {w : Cond} (hi : tables_1_4[i]? = some w) : w ∈ lw_tbl := List.mem_append_right _ (List.mem_append_right _ (List.mem_append_right _ (List.mem_append_right _ (List.mem_append_left _ (List.mem_of_getElem? hi)))))
theorem mw5 (i : Nat) {w : Cond} (hi : tables_1_5[i]? = some w) : w ∈ lw_tbl := List.mem_append_right _ (List.mem_append_right _ (List.mem_append_right _ (List.mem_append_right _ (List.mem_append_right _ (List.mem_append_left _ (List.mem_of_getElem? hi))))))
theorem mw6 (i : Nat) {w : Cond} (hi : tables_1_6[i]? = some w) : w ∈ lw_tbl := List.mem_append_right _ (List.mem_append_right _ (List.mem_append_right _ (List.mem_append_right _ (List.mem_append_right _ (List.mem_append_right _ (List.mem_of_getElem? hi))))))
theorem len_sz {args : Array Value} {s : State} {t : Term} {v : Value} (h : (Term.length t).eval args s none [] s = some v) : ∃ a cell, t.eval args s none [] s = some (.ref a) ∧ s.arrayAt? a = some cell ∧ cell.slots.size < 2 ^ 31 ∧ v = .int cell.slots.size.toInt32 := by
  simp only [Term.eval, Option.bind_eq_bind] at h
  cases ht : t.eval args s none [] s with
  | none => simp [ht] at h
  | some x =>
    cases x <;> simp [ht] at h
    case ref a =>
      obtain ⟨cell, hcell, h⟩ := Option.bind_eq_some_iff.mp h
      split at h
      · rename_i hlt
        exact ⟨a, cell, rfl, hcell, hlt, (Option.some.inj h).symm⟩
      · cases h
/-- a static row at the start -/
theorem st_row {args : Array Value} {s : State} {C n : String} {l : List Int32} (hl : (Cond.laysStatic C n "[I").before args s = true) (hini : (Cond.initialized C).before args s = true) (hN : l.length < 2 ^ 31) (harr : (Cond.arrayOf (.static C n "[I") .int).before args s = true) (hex : (Cond.exactly (.static C n "[I") "[I").before args s = true) (hlen : (Cond.eq (.length (.static C n "[I")) (.int (Int32.ofNat l.length))).before args s = true) (hel : ∀ j : Nat, j < l.length → (Cond.eq (.elem (.static C n "[I") (.int (Int32.ofNat j))) (.int (l.getD j 0))).before args s = true) : ∃ t, va_Z C n "[I" (.ref t) (fun q => s.heap.size ≤ q) s s.heap ∧ va_T .int t l.length (fun j => .int (l.getD j 0)) (fun q => s.heap.size ≤ q) s s.heap ∧ ∃ cell : Cell, s.heap[t]? = some cell ∧ s.vm.findClass "[I" = some cell.cls ∧ cell.slots.size = l.length := by
  have hA : ∀ a : Nat, a < s.heap.size → ¬ s.heap.size ≤ a := fun a h => by omega
  obtain ⟨t, ht, hT⟩ := va_Tof (f := fun j => .int (l.getD j 0)) (A := fun q => s.heap.size ≤ q) hN harr (va_eqt hlen) (fun j hj => va_eqt (hel j hj)) hA
  obtain ⟨t2, cell, h1, h2, h3, h4⟩ := len_sz (va_eqt hlen)
  cases ht.symm.trans h1
  obtain ⟨g1, g2, -, -⟩ := State.arrayAt?_spec h2
  obtain ⟨a, c, cA, kA, q1, q2, q3, q4, q5, q6, -⟩ := Cond.exactly_spec (args := args) (first := s) (o := none) (s := s) (idx := []) (t := .static C n "[I") (cls := "[I") hex
  cases ht.symm.trans q1
  cases g1.symm.trans q3
  refine ⟨t, va_Zref hl hini ht hA, hT, cell, g1, by rw [q6]; exact q2, ?_⟩
  have e := Value.int.inj h4
  have e2 : (nI l.length).toInt = (nI cell.slots.size).toInt := congrArg Int32.toInt e
  rw [nI_i hN, nI_i h3] at e2
  omega
def flT : List Cond := flatC (Jvm.Cond.and given_1 narrow_1)
theorem fl_T1 : Cond.arrayOf (.static "PapersEarly" "FIRST_TERMS" "[I") .int ∈ flT := by decide +kernel
