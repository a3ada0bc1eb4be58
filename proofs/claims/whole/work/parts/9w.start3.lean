/-! ===== the start: what stays holds ===== -/
theorem vk_S.cg {N : Nat} {len : List Nat} {byt : List (List Int32)} {K V K' V' : Nat → Nat} {A : Nat → Prop} {U : State} {H : Heap} (h : vk_S N len byt K V A U H) (h1 : ∀ i : Nat, i < N → K' i = K i) (h2 : ∀ i : Nat, i < N → V' i = V i) : vk_S N len byt K' V' A U H :=
  ⟨fun i hi => by rw [h1 i hi, h2 i hi]; exact h.1 i hi, fun i j hi hj e => h.2 i j hi hj (by rw [← h1 i hi, ← h1 j hj]; exact e)⟩
theorem sa_len : ∀ q ∈ saT, q.2.2.length < 2 ^ 31 := by decide +kernel
theorem sc_len : ∀ i : Nat, i < 13 → scN.getD i 0 < 2 ^ 31 := by decide +kernel
section START3
variable {s : State} {b : Nat}
theorem st_rows (hts : ∀ w ∈ lw_tbl, w.before #[Value.ref b] s = true) (hs : ∀ w ∈ flT, w.before #[Value.ref b] s = true) : ∃ ad : Nat → Nat, ∀ (k : Nat) (q : String × String × List Int32), saT[k]? = some q → va_Z q.1 q.2.1 "[I" (.ref (ad k)) (fun q => s.heap.size ≤ q) s s.heap ∧ va_T .int (ad k) q.2.2.length (fun j => .int (q.2.2.getD j 0)) (fun q => s.heap.size ≤ q) s s.heap ∧ ∃ cell : Cell, s.heap[ad k]? = some cell ∧ s.vm.findClass "[I" = some cell.cls ∧ cell.slots.size = q.2.2.length := by
  have key : ∀ k : Nat, ∃ t : Nat, ∀ q : String × String × List Int32, saT[k]? = some q → va_Z q.1 q.2.1 "[I" (.ref t) (fun q => s.heap.size ≤ q) s s.heap ∧ va_T .int t q.2.2.length (fun j => .int (q.2.2.getD j 0)) (fun q => s.heap.size ≤ q) s s.heap ∧ ∃ cell : Cell, s.heap[t]? = some cell ∧ s.vm.findClass "[I" = some cell.cls ∧ cell.slots.size = q.2.2.length := by
    intro k
    cases hk : saT[k]? with
    | none => exact ⟨0, fun q h => by cases h⟩
    | some q =>
      have hq := List.mem_of_getElem? hk
      obtain ⟨w1, w2⟩ := wd_rows q hq
      obtain ⟨f1, f2, f3, f4⟩ := fl_rows q hq
      obtain ⟨t, r⟩ := st_row (hts _ w1) (hts _ w2) (sa_len q hq) (hs _ f1) (hs _ f2) (hs _ f3) (fun j hj => hs _ (f4 j hj))
      exact ⟨t, fun q' h => by cases h; exact r⟩
  exact ⟨fun k => (key k).choose, fun k q hk => (key k).choose_spec q hk⟩
theorem st_GS (l : Launch) {L : Nat} {xs : Nat → Int32} (hts : ∀ w ∈ lw_tbl, w.before #[Value.ref b] s = true) (hs : ∀ w ∈ flT, w.before #[Value.ref b] s = true) (hX : va_X b L xs s s.heap) (hb : b < s.heap.size) : ∃ g : Gl, gL g = l ∧ gB g = s.heap.size ∧ gS g 9 = b ∧ (gX g).length = L ∧ GS g s := by
  obtain ⟨dC, dI, hK⟩ := st_Kn hts
  obtain ⟨gA', hA⟩ := st_arr hts
  obtain ⟨ad, hR⟩ := st_rows hts hs
  have hlow : ∀ a : Nat, a < s.heap.size → ¬ s.heap.size ≤ a := fun a h => by omega
  obtain ⟨K, V, hS, hE⟩ := vk_Sof (args := #[Value.ref b]) (s := s) (N := 13) (tm := tmS) (len := scN) (byt := scB) (A := fun q => s.heap.size ≤ q) sc_len (fun i hi => hs _ (fl_s1 i hi).1) (fun i hi => hs _ (fl_s1 i hi).2.1) (fun i hi => hs _ (fl_s1 i hi).2.2.1) (fun i hi => hs _ (fl_s1 i hi).2.2.2) (fun i hi j hj => hs _ (fl_s2 i hi j hj)) (fun i j hi hj hij => (fl_s3 i hi j hj hij).imp (hs _) (hs _)) hlow
  obtain ⟨a1, a2, a3, a4, a5⟩ := st_words hts
  have hlen : ((List.range L).map xs).length = L := by simp
  have hget : ∀ j : Nat, j < L → ((List.range L).map xs).getD j 0 = xs j := fun j hj => by simp [List.getD_eq_getElem?_getD, hj]
  refine ⟨(l, (dC, dI), gA', s.heap.size, (fun k => if k < 6 then ad k else if k < 10 then b else if k < 30 then K (k - 10) else V (k - 30)), (List.range L).map xs), rfl, rfl, rfl, hlen, ⟨hK, hA⟩, Nat.le_refl _, a1, a2, a3, fun q hq => va_Nc.of (hs _ (fl_nc q hq)), a4, a5, ?_⟩
  have hsa : ∀ (k : Nat) (q : String × String × List Int32), saT[k]? = some q → k < 6 := fun k q h => (List.getElem?_eq_some_iff.mp h).1
  have hsc : ∀ (k : Nat) (q : String × Nat × String), scT[k]? = some q → k < 13 := fun k q h => (List.getElem?_eq_some_iff.mp h).1
  have h0 : s.vm.findClass "[I" = some (gA' 0) := (hA 0 _ rfl).2
  refine ⟨fun k q hk => ?_, va_Zof (hts _ (mw1 184 rfl)) (hts _ (mw1 6 rfl)) (va_eqt (hs _ fl_x.1)) hlow, hS.cg (fun i hi => ?_) (fun i hi => ?_), fun i q hi => ?_, ?_, hb, va_Zqof (hts _ (mw1 200 rfl)) (hts _ (mw1 8 rfl)) (hs _ fl_x.2) hlow, fun k q hk => ?_⟩
  · simp only [gS, if_pos (hsa k q hk)]
    exact ⟨(hR k q hk).1, (hR k q hk).2.1⟩
  · simp only [gS]
    rw [if_neg (by omega), if_neg (by omega), if_pos (by omega), show 10 + i - 10 = i by omega]
  · simp only [gS]
    rw [if_neg (by omega), if_neg (by omega), if_neg (by omega), show 30 + i - 30 = i by omega]
  · have h13 := hsc i q hi
    simp only [gS]
    rw [if_neg (by omega), if_neg (by omega), if_pos (by omega), show 10 + i - 10 = i by omega]
    refine vk_R.of (A := #[Value.ref b]) (hts _ (wd_strs i q hi)) ?_
    have e := hE i h13
    have e2 : tmS i = .string q.1 q.2.1 := by
      simp only [tmS, List.getD_eq_getElem?_getD, hi, Option.getD_some]
    rw [← e2]
    exact e
  · obtain ⟨scr, x1, x2, x3, x4, x5⟩ := hX
    exact ⟨scr, x1, x2, x3, x4.trans hlen.symm, fun j hj => (x5 j (by rw [← hlen]; exact hj)).trans (congrArg (fun z => some (Value.int z)) (hget j (by rw [← hlen]; exact hj)).symm)⟩
  · obtain ⟨z1, z2, cell, z3, z4, z5⟩ := hR k q hk
    simp only [gS, if_pos (hsa k q hk)]
    refine ⟨cell, z3, ?_, z5, ?_⟩
    · rw [h0] at z4
      exact (Option.some.inj z4).symm
    · show ¬ s.heap.size ≤ ad k
      exact hlow _ (Array.getElem?_eq_some_iff.mp z3).1
end START3
