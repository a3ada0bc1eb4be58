/-! ===== the class's search finds the reference's best ===== -/
theorem srK_congr {V V' : List Nat → Int32} {P : List Nat} : ∀ (L : List (List Nat)) (b : Int32 × List Nat), (∀ r ∈ L, V r = V' r) → srK V P L b = srK V' P L b := by
  intro L
  induction L with
  | nil => intro b _; rfl
  | cons r L ih =>
    intro b h
    rw [srK, srK, h r List.mem_cons_self]
    exact ih _ (fun x hx => h x (List.mem_cons_of_mem _ hx))
theorem vlK_ge {F : Nat → Nat → Int32} {S : Nat → Int32} {W Hp : Nat → Int32 → Int32} {so : Int32} (hso : ¬ so = 0) (hW : WHp W Hp) : ∀ (r : List Nat) (z : W6) (p : Int32), (∀ h ∈ r, h < 7) → 0 ≤ p.toInt → p.toInt + 1000 * r.length ≤ 90000 → p.toInt ≤ (vlK F S W so r z p).toInt := by
  intro r
  induction r with
  | nil => intro z p _ _ _; rw [vlK, if_neg hso]; exact Int.le_refl _
  | cons h r ih =>
    intro z p hr p0 p1
    simp only [List.length_cons] at p1
    obtain ⟨w0, w1, -, -⟩ := (hW h (hr h List.mem_cons_self)).1 (stW F S z h).2
    have e : (p + W h (stW F S z h).2).toInt = p.toInt + (W h (stW F S z h).2).toInt := add_i (by omega) (by omega)
    rw [vlK]
    have := ih (stW F S z h).1 (p + W h (stW F S z h).2) (fun x hx => hr x (List.mem_cons_of_mem _ hx)) (by omega) (by omega)
    omega
section KBST
variable {ρ : MS} {n t : Nat} {cd : Nat → List Int32}
theorem srK_bst (hV : VF (Fc ρ)) (hS : VS (Se ρ)) (hn : n ≤ 7) {so' : Nat} (hso : so' < 2) : srK (VlS ρ t cd so' (zS (Se ρ)) 0) [] (pm n) (-1000000, []) = ((if so' = 0 then 0 - (bst ρ n t cd 0).1 else (bst ρ n t cd 1).1), (bst ρ n t cd (nI so')).2) := by
  have hcv := srK_congr (V := VlS ρ t cd so' (zS (Se ρ)) 0) (V' := fun os => if nI so' = 0 then 0 - eB ρ n t cd (nI so') os else eB ρ n t cd (nI so') os) (P := []) (pm n) (-1000000, []) (fun os ho => eB_vl (t := t) (cd := cd) hV hS hn ho)
  rw [hcv]
  have hE0 : ∀ os ∈ pm n, nI so' = 0 → 0 ≤ (eB ρ n t cd (nI so') os).toInt ∧ (eB ρ n t cd (nI so') os).toInt ≤ 2749 := by
    intro os ho q
    obtain ⟨q1, q2⟩ := pm_mem ho
    have hr : ∀ h ∈ os, h < 7 := fun h hh => by have := (q2 h).mp hh; omega
    have := rd0_rg hV hS hr (by omega)
    unfold eB
    rw [if_pos q]
    exact ⟨this.1, this.2.1⟩
  have hE1 : ∀ os ∈ pm n, ¬ nI so' = 0 → 0 ≤ (eB ρ n t cd (nI so') os).toInt := by
    intro os ho q
    obtain ⟨q1, q2⟩ := pm_mem ho
    have hr : ∀ h ∈ os, h < 7 := fun h hh => by have := (q2 h).mp hh; omega
    have e := eB_vl (t := t) (cd := cd) hV hS hn (so := nI so') ho
    rw [if_neg q] at e
    rw [← e]
    exact vlK_ge q (WH_ok (cd := cdt t cd) hV hS (nI so')) os (zS (Se ρ)) 0 hr (Int.le_refl _) (by rw [Int32.toInt_zero]; omega)
  obtain ⟨Ps, hPs⟩ := pm_ne n
  have hpm := hPs hn
  have hb : bst ρ n t cd (nI so') = fbK (nI so') (eB ρ n t cd (nI so')) Ps (eB ρ n t cd (nI so') (List.range n)) (List.range n) := by
    unfold bst
    rw [hpm]
  have hmem : List.range n ∈ pm n := by rw [hpm]; exact List.mem_cons_self
  have hm0 : (-1000000 : Int32).toInt = -1000000 := by decide
  rw [hpm, srK]
  have hlt : ((-1000000 : Int32), ([] : List Nat)).1 < (if nI so' = 0 then 0 - eB ρ n t cd (nI so') (List.range n) else eB ρ n t cd (nI so') (List.range n)) := by
    show (-1000000 : Int32) < _
    rw [Int32.lt_iff_toInt_lt, hm0]
    split
    · rename_i q
      have := hE0 _ hmem q
      rw [neg_i this.1]; omega
    · rename_i q
      have := hE1 _ hmem q
      omega
  rw [if_pos hlt]
  have hfb := srK_fb (so := nI so') (E := eB ρ n t cd (nI so')) (V := fun os => if nI so' = 0 then 0 - eB ρ n t cd (nI so') os else eB ρ n t cd (nI so') os) (fun os => rfl) Ps (eB ρ n t cd (nI so') (List.range n)) (List.range n) (fun q => ⟨(hE0 _ hmem q).1, fun os ho => (hE0 os (by rw [hpm]; exact List.mem_cons_of_mem _ ho) q).1⟩)
  rw [List.nil_append]
  refine hfb.trans ?_
  rw [← hb]
  have e : so' = 0 ∨ so' = 1 := by omega
  rcases e with rfl | rfl <;> rfl
end KBST
