/-! ===== rules: clones of static rows, rows of rows ===== -/
theorem mvs {x : List Int32} {j : Nat} (hj : j < x.length) : Value.int (x.getD j 0) = .int (x.getD j 0) := rfl
section RULES2
variable {g : Gl} {d : Nat} {Y : Md} {pc : Nat} {ls : List (Option Value)} {st : List Value} {μ : Mm} {Q : Option Value → Mm → Prop}
theorem ev_clone {idx k : Nat} {q : String × String × List Int32} (hd : decode (mC Y) pc = .ok (.invokevirtual idx, 3)) (hq : saT[k]? = some q) (hl : Cond.methodLink (mY Y).cls idx ⟨"[I", "clone", "()Ljava/lang/Object;"⟩ ∈ GT) (hc : (st.map fun v => v.category).sum ≤ 8) (kk : Ev g (d + 1) Y (pc + 3) ls (.ref μ.2.1 :: st) (mnew μ (iar q.2.2) q.2.2.length) Q) : Ev g (d + 1) Y pc ls (.ref (gS g k) :: st) μ Q := by
  obtain ⟨v', μ', hQ, hG, hE⟩ := kk
  have hG1 : μ.2.1 + 1 ≤ μ'.2.1 := hG.1
  have hG2 : μ.2.2 + q.2.2.length ≤ μ'.2.2 := hG.2
  refine ⟨v', μ', hQ, ⟨by omega, by omega⟩, fun p e s m args below meth c R H locs k0 la X0 h1 h2 h3 h4 hR hS hL => ?_⟩
  have hts := X0.2.1
  have hf := X0.2.2.2.1
  have hlo := X0.2.2.2.2
  have hK := X0.2.2.1.1
  have hB : gB g ≤ H.size := Nat.le_trans X0.2.2.1.2.1 hS.1
  have hsz := hR.1
  obtain ⟨cell, a1, a2, a3, a4⟩ := X0.2.2.1.sw.2.2.2.2.2.2.2 k q hq
  obtain ⟨cell', t1, t2, t3, t4, t5, t6, t7⟩ := (X0.2.2.1.sw.1 k q hq).2
  cases a1.symm.trans t1
  have hcH : H[gS g k]? = some cell := by rw [hS.2.1 _ (Array.getElem?_eq_some_iff.mp t1).1 a4]; exact t1
  obtain ⟨c0, t0', f1, f2, f3⟩ := Cond.castable_spec (va_Nw.use (A := args) rfl (X0.2.2.1.2.2.2.1 _ (show ("[I", "java/lang/Cloneable") ∈ ctN by decide)))
  have hnm : s.vm.findClass "[I" = some (gA g 0) := (hK.2 0 _ rfl).2
  cases hnm.symm.trans f1
  have hcell : ({ cls := cell.cls, slots := cell.slots } : Cell) = vp_cell (gA g 0) (q.2.2.length, .inl (fun j => q.2.2.getD j 0)) := by
    rw [vp_cell_i]
    have es : cell.slots = (arrV (gA g 0) q.2.2.length (fun j => .int (q.2.2.getD j 0))).slots := by
      apply Array.ext_getElem?
      intro i
      by_cases hi : i < q.2.2.length
      · rw [t6 i hi, arrV_read _ _ hi]
      · rw [Array.getElem?_eq_none (by omega), Array.getElem?_eq_none (by rw [arrV_size]; omega)]
    rw [es, a2]
    rfl
  obtain ⟨-, kA, hkA, comp, hkind⟩ := (hK.2 0 _ rfl).1 0 (fun _ => .null)
  intro T hT X
  obtain ⟨-, kB, hkB, compB, hkindB⟩ := State.isArrayOf_alike X.warmed.alike ((hK.2 0 _ rfl).1 0 (fun _ => .null))
  obtain ⟨vm', X', step⟩ := X.cloneArray X0.1.1 X0.1.2.2.2.2.2.2 (hts _ hl) (hts _ (mt1 34 rfl rfl)) (hts _ (mt1 35 rfl rfl)) (hts _ (mt1 36 rfl rfl)) (hts _ (mt1 37 rfl rfl)) (a := gS g k) (cell := cell) (by rw [hT]; exact hcH) t2.1 t3 (by rw [a2]; exact hnm) f2 (by rw [a2]; exact f3)
    (fun i v hv => by
      have hk' : T.vm.classes[gA g 0]? = some kB := hkB
      have hi : i < q.2.2.length := by rw [← a3]; exact (Array.getElem?_eq_some_iff.mp hv).1
      rw [t6 i hi] at hv
      cases hv
      rw [a2]
      simp [State.fitsSlot, State.slotType?, hk', hkindB]
      rfl)
    (g := F0 m pc la (.ref (gS g k) :: st)) rfl (hL.2.1.trans X0.1.2.2.1.symm) rfl (by rw [X0.1.2.1]; exact hd) (by omega) (by show 2 * 0 + _ + 14 ≤ _; omega) (by omega) (by rw [a3]; omega) (hloader := by rw [a2]; exact Vm.clonesLoader_of_array hkA hkind)
  rw [hcell, a3] at X'
  have hR1 : Rl g (mnew μ (iar q.2.2) q.2.2.length) (H.push (vp_cell (gA g 0) (q.2.2.length, .inl (fun j => q.2.2.getD j 0)))) := hR.new hB (by simp) (fun x hx => by rw [Array.getElem?_push, if_neg (Nat.ne_of_lt hx)]) (by show (H.push _)[H.size]? = some (vp_cell _ _); rw [Array.getElem?_push_size])
  have hz := hE p e s m args below meth c R (H.push (vp_cell (gA g 0) (q.2.2.length, .inl (fun j => q.2.2.getD j 0)))) locs k0 la X0 (by show _ ≤ μ.2.1 + 1; omega) (by show _ ≤ μ.2.2 + q.2.2.length; omega) h3 h4 hR1 (hS.new (by simp) (fun x hx => by rw [Array.getElem?_push, if_neg (Nat.ne_of_lt hx)])) hL
  rw [show (mnew μ (iar q.2.2) q.2.2.length).2.1 - s.heap.size = μ.2.1 - s.heap.size + 1 by show μ.2.1 + 1 - _ = _; omega, show (mnew μ (iar q.2.2) q.2.2.length).2.2 - k0 = μ.2.2 - k0 + q.2.2.length by show μ.2.2 + q.2.2.length - _ = _; omega] at hz
  rw [← hsz] at hz X'
  obtain ⟨t, b1, b2⟩ := hz ((T.setVm vm').pushCell (vp_cell (gA g 0) (q.2.2.length, .inl (fun j => q.2.2.getD j 0)))) (by rw [← hT]; rfl) X'
  refine ⟨t, step t ?_, b2⟩
  rw [hcell, hT]
  exact b1
theorem ev_castI {idx a : Nat} {l : List Int32} (hd : decode (mC Y) pc = .ok (.checkcast idx, 3)) (hl : Cond.classLink (mY Y).cls idx "[I" ∈ GT) (hm : μ.1 a = some (iar l)) (kk : Ev g d Y (pc + 3) ls (.ref a :: st) μ Q) : Ev g d Y pc ls (.ref a :: st) μ Q := by
  refine ev_w (fun p e s m args below meth c R H locs cells slots Q' la X hR hS hL kk => ?_) kk
  have hP : va_P (gD g) vwCl [(a, mE g (iar l))] H := fun j q hj => by
    cases j with
    | zero => cases hj; exact hR.at hm
    | succ j => simp at hj
  exact va_castA X.1.1 X.1.2.1 X.1.2.2.2.2.2.2 (X.2.1 _ hl) hP 0 rfl (X.2.2.1.1.2 0 _ rfl).2 hd kk
theorem ev_anewI {idx N : Nat} {n : Int32} (hd : decode (mC Y) pc = .ok (.anewarray idx, 3)) (hl : Cond.classLink (mY Y).cls idx "[I" ∈ GT) (hn : ix n N) (hN : N ≤ 4000000) (kk : Ev g d Y (pc + 3) ls (.ref μ.2.1 :: st) (mnew μ (rar 5 (List.replicate N none)) N) Q) : Ev g d Y pc ls (.int n :: st) μ Q := by
  obtain ⟨v', μ', hQ, hG, hE⟩ := kk
  have hG1 : μ.2.1 + 1 ≤ μ'.2.1 := hG.1
  have hG2 : μ.2.2 + N ≤ μ'.2.2 := hG.2
  refine ⟨v', μ', hQ, ⟨by omega, by omega⟩, fun p e s m args below meth c R H locs k0 la X h1 h2 h3 h4 hR hS hL => ?_⟩
  have hts := X.2.1
  have hK := X.2.2.1.1
  have hB : gB g ≤ H.size := Nat.le_trans X.2.2.1.2.1 hS.1
  have hsz := hR.1
  refine W.anewA (t := .int) X.1.1 X.1.2.1 X.1.2.2.2.2.2.2 (hts _ hl) (show (Cond.arrayOver (.array .int)).before args s = true from X.2.2.1.2.2.2.2.2.2.2.1) rfl hd rfl hn.1 (by rw [hn.2]; omega) (by omega) (by rw [hn.2]; omega) fun cA kA comp f1 f2 f3 f4 => ?_
  have hcA : gA g 5 = cA := Option.some.inj ((hK.2 5 _ rfl).2.symm.trans f1)
  have hz := hE p e s m args below meth c R (H.push { cls := cA, slots := Array.replicate n.toNatClampNeg .null, vm := .none }) locs k0 la X (by show _ ≤ μ.2.1 + 1; omega) (by show _ ≤ μ.2.2 + N; omega) h3 h4 (hR.new hB (by simp) (fun q hq => by rw [Array.getElem?_push, if_neg (Nat.ne_of_lt hq)]) (by
    show (H.push _)[H.size]? = some (vp_cell _ _)
    rw [← hcA, hn.2]
    dsimp only
    rw [vp_cell_q, List.length_replicate]
    have hv : (fun j => va_rf ((List.replicate N (none : Option Nat)).getD j none)) = fun _ => Value.null := by
      funext q
      simp only [List.getD_eq_getElem?_getD, List.getElem?_replicate]
      split <;> rfl
    rw [hv, ← arrV_new]; simp)) (hS.new (by simp) (fun q hq => by rw [Array.getElem?_push, if_neg (Nat.ne_of_lt hq)])) hL
  rw [show (mnew μ (rar 5 (List.replicate N none)) N).2.1 - s.heap.size = μ.2.1 - s.heap.size + 1 by show μ.2.1 + 1 - _ = _; omega, show (mnew μ (rar 5 (List.replicate N none)) N).2.2 - k0 = μ.2.2 - k0 + N by show μ.2.2 + N - _ = _; omega] at hz
  rw [hn.2, hsz]
  rw [hn.2] at hz
  exact hz
theorem ev_aastI {a b k : Nat} {l : List (Option Nat)} {li : List Int32} {i : Int32} (hd : decode (mC Y) pc = .ok (.aastore, 1)) (hm : μ.1 a = some (rar 5 l)) (hb : μ.1 b = some (iar li)) (hx : ix i k) (hk : k < l.length) (kk : Ev g d Y (pc + 1) ls st (mupd μ a (rar 5 (l.set k (some b)))) Q) : Ev g d Y pc ls (.ref b :: .int i :: .ref a :: st) μ Q := by
  obtain ⟨v', μ', hQ, hG, hE⟩ := kk
  refine ⟨v', μ', hQ, hG, fun p e s m args below meth c R H locs k0 la X h1 h2 h3 h4 hR hS hL => ?_⟩
  have hK := X.2.2.1.1
  have hAO : (Cond.arrayOver (.array .int)).before args s = true := X.2.2.1.2.2.2.2.2.2.2.1
  obtain ⟨comp, cA, kA, hcomp, hidx, hkA, hkindA, hnameA⟩ := arrayOverA_spec hAO
  have e1 : gA g 5 = cA := Option.some.inj ((hK.2 5 _ rfl).2.symm.trans hnameA)
  have e2 : gA g 0 = comp := Option.some.inj ((hK.2 0 _ rfl).2.symm.trans hcomp)
  obtain ⟨kC, hkC, -⟩ := Vm.findClass_spec hcomp
  refine W.aast X.1.1 X.1.2.1 (hR.at hm) (fun q h => by cases h) (fun h => by cases h) (k := kA) (by show s.vm.classes[gA g 5]? = _; rw [e1]; exact hkA) hkindA rfl hkC ⟨hx.1, by show _ < (arrV _ _ _).slots.size; rw [arrV_size, hx.2]; exact hk⟩ (hR.at hb) (fun q h => by cases h) (by show s.vm.classes[gA g 0]? = _; rw [e2]; exact hkC) (by show s.vm.assignable (gA g 0) comp = true; rw [e2]; exact va_asg _ _) rfl rfl hd fun H1 e1 z oq => ?_
  refine hE p e s m args below meth c R H1 _ k0 la X h1 h2 h3 h4 (hR.upd hm z oq ?_) (hS.put z oq (hR.hi hm)) hL
  show H1[a]? = some (vp_cell _ _)
  rw [e1]
  dsimp only
  rw [vp_cell_q, vp_cell_q, arrV_store, List.length_set, hx.2]
  congr 2
  funext q
  rw [getD_set hk]
  by_cases hq : q = k
  · subst hq; simp [updV, va_rf]
  · simp [updV, hq]
end RULES2
