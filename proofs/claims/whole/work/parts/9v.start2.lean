/-! ===== the start: classes, arrays, constants ===== -/
section START
variable {s : State} {b : Nat}
theorem st_gt (hts : ∀ w ∈ lw_tbl, w.before #[Value.ref b] s = true) : ∀ w ∈ GT, w.before #[Value.ref b] s = true := fun w hw => hts w (List.mem_filter.mp hw).1
theorem st_Kn (hts : ∀ w ∈ lw_tbl, w.before #[Value.ref b] s = true) : ∃ (dC : Nat → ClassId) (dI : Nat → Nat → Nat), ∀ (k : Nat) (q : vw_C), vwCl[k]? = some q → u_Kn s q.1 q.2.1 q.2.2 (dC k) (dI k) := by
  have hg := st_gt hts
  obtain ⟨c0, i0, k0⟩ := u_known (C := RX0) (T := TX0) (N := 5) (n := 5) hg uwX0 (hts _ (mw3 12 rfl))
  obtain ⟨c1, i1, k1⟩ := u_known (C := RX1) (T := TX1) (N := 5) (n := 5) hg uwX1 (hts _ (mw2 228 rfl))
  obtain ⟨c2, i2, k2⟩ := u_known (C := RX2) (T := TX2) (N := 5) (n := 5) hg uwX2 (hts _ (mw3 35 rfl))
  obtain ⟨c3, i3, k3⟩ := u_known (C := RX3) (T := TX3) (N := 5) (n := 5) hg uwX3 (hts _ (mw2 184 rfl))
  obtain ⟨c4, i4, k4⟩ := u_known (C := RX4) (T := TX4) (N := 8) (n := 8) hg uwX4 (hts _ (mw1 41 rfl))
  obtain ⟨c5, i5, k5⟩ := u_known (C := RX5) (T := TX5) (N := 4) (n := 4) hg uwX5 (hts _ (mw2 79 rfl))
  obtain ⟨c6, i6, k6⟩ := u_known (C := RX6) (T := TX6) (N := 12) (n := 12) hg uwX6 (hts _ (mw1 107 rfl))
  obtain ⟨c7, i7, k7⟩ := u_known (C := RX7) (T := TX7) (N := 3) (n := 3) hg uwX7 (hts _ (mw1 156 rfl))
  obtain ⟨c8, i8, k8⟩ := u_known (C := RX8) (T := TX8) (N := 5) (n := 5) hg uwX8 (hts _ (mw3 24 rfl))
  obtain ⟨c9, i9, k9⟩ := u_known (C := RX9) (T := TX9) (N := 5) (n := 5) hg uwX9 (hts _ (mw3 0 rfl))
  obtain ⟨c10, i10, k10⟩ := u_known (C := RX10) (T := TX10) (N := 6) (n := 6) hg uwX10 (hts _ (mw1 79 rfl))
  obtain ⟨c11, i11, k11⟩ := u_known (C := RX11) (T := TX11) (N := 19) (n := 19) hg uwX11 (hts _ (mw1 22 rfl))
  obtain ⟨c12, i12, k12⟩ := u_known (C := RX12) (T := TX12) (N := 37) (n := 37) hg uwX12 (hts _ (mw4 232 rfl))
  refine ⟨fun k => [c0, c1, c2, c3, c4, c5, c6, c7, c8, c9, c10, c11, c12].getD k c0, fun k => [i0, i1, i2, i3, i4, i5, i6, i7, i8, i9, i10, i11, i12].getD k i0, fun k q hq => ?_⟩
  match k, hq with
  | 0, hq => cases hq; exact k0
  | 1, hq => cases hq; exact k1
  | 2, hq => cases hq; exact k2
  | 3, hq => cases hq; exact k3
  | 4, hq => cases hq; exact k4
  | 5, hq => cases hq; exact k5
  | 6, hq => cases hq; exact k6
  | 7, hq => cases hq; exact k7
  | 8, hq => cases hq; exact k8
  | 9, hq => cases hq; exact k9
  | 10, hq => cases hq; exact k10
  | 11, hq => cases hq; exact k11
  | 12, hq => cases hq; exact k12
  | k + 13, hq => simp at hq
theorem st_ao {args : Array Value} {C : String} (h : (Cond.arrayOver (.object C)).before args s = true) : ∃ c, ArrOfT s c (.object C) ∧ va_RA s c (.object C) := by
  obtain ⟨comp, c, k, h1, h2, h3, h4, h5⟩ := Cond.arrayOver_spec h
  exact ⟨c, fun n z => ⟨fun k h => (by cases h), k, h3, comp, h4⟩, k, comp, h3, h4, h1, h5⟩
theorem st_arr (hts : ∀ w ∈ lw_tbl, w.before #[Value.ref b] s = true) : ∃ gA : Nat → ClassId, ∀ (k : Nat) (q : ClassId × FieldType), ([(gA 0, .int), (gA 1, .object "PapersEarly$Door"), (gA 2, .object "PapersEarly$Rule"), (gA 3, .object "PapersEarly$Sheet"), (gA 4, .object "PapersEarly$Walk"), (gA 5, .array .int)] : List (ClassId × FieldType))[k]? = some q → ArrOfT s q.1 q.2 ∧ va_RA s q.1 q.2 := by
  obtain ⟨a0, x0, y0, p0, p1, p2⟩ := Cond.arrayClass_spec (args := #[Value.ref b]) (first := s) (o := none) (s := s) (idx := []) (hts (Cond.arrayClass .int) (mw1 73 rfl))
  obtain ⟨a1, r1⟩ := st_ao (hts _ (mw1 30 rfl))
  obtain ⟨a2, r2⟩ := st_ao (hts _ (mw1 75 rfl))
  obtain ⟨a3, r3⟩ := st_ao (hts _ (mw1 77 rfl))
  obtain ⟨a4, r4⟩ := st_ao (hts _ (mw1 113 rfl))
  obtain ⟨comp, a5, k5, h1, h2, h3, h4, h5⟩ := arrayOverA_spec (args := #[Value.ref b]) (first := s) (o := none) (s := s) (idx := []) (t := .int) (hts (Cond.arrayOver (.array .int)) (mw4 238 rfl))
  refine ⟨fun k => [a0, a1, a2, a3, a4, a5].getD k a0, fun k q hq => ?_⟩
  match k, hq with
  | 0, hq => cases hq; exact ⟨fun n z => ⟨fun k h => (by cases h), x0, p1, y0, p2⟩, p0⟩
  | 1, hq => cases hq; exact r1
  | 2, hq => cases hq; exact r2
  | 3, hq => cases hq; exact r3
  | 4, hq => cases hq; exact r4
  | 5, hq => cases hq; exact ⟨fun n z => ⟨fun k h => (by cases h), k5, h3, comp, h4⟩, h5⟩
  | k + 6, hq => simp at hq
theorem st_words (hts : ∀ w ∈ lw_tbl, w.before #[Value.ref b] s = true) : (∀ q ∈ mlN, va_Nw (.methodLinkNest q.1 q.2.1 q.2.2.1 q.2.2.2) s) ∧ (∀ q ∈ ctN, va_Nw (.castable q.1 q.2) s) ∧ va_Nw (.declares yX2_gives) s ∧ (∀ C ∈ aoN, va_AO C s) ∧ AOI s := by
  refine ⟨fun q hq => ?_, fun q hq => ?_, va_Nw.of rfl (hts _ (mw4 11 rfl)), fun C hC => ?_, hts (Cond.arrayOver (.array .int)) (mw4 238 rfl)⟩
  · simp only [mlN, List.mem_cons, List.not_mem_nil, or_false] at hq
    rcases hq with rfl | rfl | rfl | rfl | rfl | rfl
    · exact va_Nw.of rfl (hts _ (mw1 42 rfl))
    · exact va_Nw.of rfl (hts _ (mw1 80 rfl))
    · exact va_Nw.of rfl (hts _ (mw1 115 rfl))
    · exact va_Nw.of rfl (hts _ (mw1 157 rfl))
    · exact va_Nw.of rfl (hts _ (mw3 210 rfl))
    · exact va_Nw.of rfl (hts _ (mw4 103 rfl))
  · simp only [ctN, List.mem_cons, List.not_mem_nil, or_false] at hq
    rcases hq with rfl | rfl | rfl | rfl | rfl | rfl | rfl | rfl | rfl
    · exact va_Nw.of rfl (hts _ (mw1 38 rfl))
    · exact va_Nw.of rfl (hts _ (mw6 203 rfl))
    · exact va_Nw.of rfl (hts _ (mw6 204 rfl))
    · exact va_Nw.of rfl (hts _ (mw6 205 rfl))
    · exact va_Nw.of rfl (hts _ (mw6 206 rfl))
    · exact va_Nw.of rfl (hts _ (mw6 207 rfl))
    · exact va_Nw.of rfl (hts _ (mw6 208 rfl))
    · exact va_Nw.of rfl (hts _ (mw6 209 rfl))
    · exact va_Nw.of rfl (hts _ (mw6 210 rfl))
  · simp only [aoN, List.mem_cons, List.not_mem_nil, or_false] at hC
    rcases hC with rfl | rfl | rfl | rfl
    · exact va_AO.of (hts _ (mw1 30 rfl))
    · exact va_AO.of (hts _ (mw1 75 rfl))
    · exact va_AO.of (hts _ (mw1 77 rfl))
    · exact va_AO.of (hts _ (mw1 113 rfl))
theorem fl_nc : ∀ q ∈ ncN, Cond.not (.castable q.1 q.2) ∈ flT := by decide +kernel
theorem fl_rows : ∀ q ∈ saT, Cond.arrayOf (.static q.1 q.2.1 "[I") .int ∈ flT ∧ Cond.exactly (.static q.1 q.2.1 "[I") "[I" ∈ flT ∧ Cond.eq (.length (.static q.1 q.2.1 "[I")) (.int (Int32.ofNat q.2.2.length)) ∈ flT ∧ ∀ j, j < q.2.2.length → Cond.eq (.elem (.static q.1 q.2.1 "[I") (.int (Int32.ofNat j))) (.int (q.2.2.getD j 0)) ∈ flT := by decide +kernel
def tmS (i : Nat) : Term := .string (scT.getD i ("", 0, "")).1 (scT.getD i ("", 0, "")).2.1
theorem fl_s1 : ∀ i, i < 13 → Cond.exactly (tmS i) "java/lang/String" ∈ flT ∧ Cond.eq (.field (tmS i) "java/lang/String" "coder" "B") (.int 0) ∈ flT ∧ Cond.arrayOf (.field (tmS i) "java/lang/String" "value" "[B") .byte ∈ flT ∧ Cond.eq (.length (.field (tmS i) "java/lang/String" "value" "[B")) (.int (Int32.ofNat (scN.getD i 0))) ∈ flT := by decide +kernel
theorem fl_s2 : ∀ i, i < 13 → ∀ j, j < scN.getD i 0 → Cond.eq (.elem (.field (tmS i) "java/lang/String" "value" "[B") (.int (Int32.ofNat j))) (.int ((scB.getD i []).getD j 0)) ∈ flT := by decide +kernel
def isNE (c : Cond) : Bool := match c with
  | .not (.eq (.string _ _) (.string _ _)) => true
  | _ => false
def neL : List (Nat × Nat) := [(0, 1), (0, 2), (1, 2), (0, 3), (1, 3), (2, 3), (0, 4), (1, 4), (2, 4), (3, 4), (0, 5), (1, 5), (2, 5), (3, 5), (4, 5), (0, 6), (1, 6), (2, 6), (3, 6), (4, 6), (5, 6), (0, 7), (1, 7), (2, 7), (3, 7), (4, 7), (5, 7), (6, 7), (0, 8), (1, 8), (2, 8), (3, 8), (4, 8), (5, 8), (6, 8), (7, 8), (0, 9), (1, 9), (2, 9), (3, 9), (4, 9), (5, 9), (6, 9), (7, 9), (8, 9), (0, 10), (1, 10), (2, 10), (3, 10), (4, 10), (5, 10), (6, 10), (7, 10), (8, 10), (9, 10), (0, 11), (1, 11), (2, 11), (3, 11), (4, 11), (5, 11), (6, 11), (7, 11), (8, 11), (9, 11), (10, 11), (0, 12), (1, 12), (2, 12), (3, 12), (4, 12), (5, 12), (6, 12), (7, 12), (8, 12), (9, 12), (10, 12), (11, 12)]
theorem fl_ne : flT.filter isNE = neL.map (fun p => Cond.not (.eq (tmS p.1) (tmS p.2))) := by decide +kernel
theorem neL_all : ∀ i, i < 13 → ∀ j, j < 13 → (i = j ∨ (i, j) ∈ neL ∨ (j, i) ∈ neL) := by decide +kernel
theorem fl_s3 : ∀ i, i < 13 → ∀ j, j < 13 → i ≠ j → Cond.not (.eq (tmS i) (tmS j)) ∈ flT ∨ Cond.not (.eq (tmS j) (tmS i)) ∈ flT := by
  have key : ∀ i j, (i, j) ∈ neL → Cond.not (.eq (tmS i) (tmS j)) ∈ flT := fun i j h => (List.mem_filter.mp (fl_ne ▸ List.mem_map.mpr ⟨(i, j), h, rfl⟩ : Cond.not (.eq (tmS i) (tmS j)) ∈ flT.filter isNE)).1
  exact fun i hi j hj h => ((neL_all i hi j hj).resolve_left h).imp (key i j) (key j i)
theorem fl_x : Cond.eq (.static "java/lang/String" "COMPACT_STRINGS" "Z") (.int 1) ∈ flT ∧ Cond.isRef (.static "jdk/internal/util/Preconditions" "SIOOBE_FORMATTER" "Ljava/util/function/BiFunction;") ∈ flT := by decide +kernel
theorem wd_rows : ∀ q ∈ saT, Cond.laysStatic q.1 q.2.1 "[I" ∈ lw_tbl ∧ Cond.initialized q.1 ∈ lw_tbl := by
  intro q hq
  simp only [saT, List.mem_cons, List.not_mem_nil, or_false] at hq
  rcases hq with rfl | rfl | rfl | rfl | rfl | rfl
  · exact ⟨(mw1 32 rfl), (mw1 1 rfl)⟩
  · exact ⟨(mw3 84 rfl), (mw1 1 rfl)⟩
  · exact ⟨(mw3 86 rfl), (mw1 1 rfl)⟩
  · exact ⟨(mw2 179 rfl), (mw1 1 rfl)⟩
  · exact ⟨(mw5 208 rfl), (mw1 14 rfl)⟩
  · exact ⟨(mw5 210 rfl), (mw1 14 rfl)⟩
theorem wd_strs : ∀ (i : Nat) (q : String × Nat × String), scT[i]? = some q → Cond.stringRef q.1 q.2.1 q.2.2 ∈ lw_tbl := by
  intro i q hq
  match i, hq with
  | 0, hq => cases hq; exact (mw1 174 rfl)
  | 1, hq => cases hq; exact (mw2 2 rfl)
  | 2, hq => cases hq; exact (mw2 9 rfl)
  | 3, hq => cases hq; exact (mw2 10 rfl)
  | 4, hq => cases hq; exact (mw2 11 rfl)
  | 5, hq => cases hq; exact (mw2 12 rfl)
  | 6, hq => cases hq; exact (mw2 13 rfl)
  | 7, hq => cases hq; exact (mw2 14 rfl)
  | 8, hq => cases hq; exact (mw2 15 rfl)
  | 9, hq => cases hq; exact (mw2 16 rfl)
  | 10, hq => cases hq; exact (mw2 17 rfl)
  | 11, hq => cases hq; exact (mw2 18 rfl)
  | 12, hq => cases hq; exact (mw2 19 rfl)
  | i + 13, hq => simp [scT] at hq
end START
