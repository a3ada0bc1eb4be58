/-! ===== the class's search: gifts and hopes by the minute ===== -/
/-- the largest of the gifts of so many last minutes -/
def hmx (g : Nat → Int32) : Nat → Int32
  | 0 => 0
  | k + 1 => if hmx g k < g (107 - k) then g (107 - k) else hmx g k
theorem hmx_0 {g : Nat → Int32} : ∀ k, 0 ≤ (hmx g k).toInt := by
  intro k
  induction k with
  | zero => exact Int.le_refl _
  | succ k ih =>
    rw [hmx]
    split
    · rename_i q; rw [Int32.lt_iff_toInt_lt] at q; omega
    · exact ih
theorem hmx_up {g : Nat → Int32} : ∀ (d k : Nat), (hmx g k).toInt ≤ (hmx g (k + d)).toInt := by
  intro d
  induction d with
  | zero => intro k; exact Int.le_refl _
  | succ d ih =>
    intro k
    refine Int.le_trans (ih k) ?_
    show _ ≤ (hmx g (k + d + 1)).toInt
    rw [hmx]
    split
    · rename_i q; rw [Int32.lt_iff_toInt_lt] at q; omega
    · exact Int.le_refl _
theorem hmx_ge {g : Nat → Int32} {l k : Nat} (hl : l ≤ 107) (hk : 108 - l ≤ k) : (g l).toInt ≤ (hmx g k).toInt := by
  have h := hmx_up (g := g) (k - (108 - l)) (108 - l)
  rw [show 108 - l + (k - (108 - l)) = k by omega] at h
  refine Int.le_trans ?_ h
  rw [show 108 - l = (107 - l) + 1 by omega, hmx, show 107 - (107 - l) = l by omega]
  split
  · exact Int.le_refl _
  · rename_i q; rw [Int32.lt_iff_toInt_lt] at q; omega
theorem hmx_le {g : Nat → Int32} {B : Int} (hB : 0 ≤ B) (h : ∀ l, l ≤ 107 → (g l).toInt ≤ B) : ∀ k, (hmx g k).toInt ≤ B := by
  intro k
  induction k with
  | zero => exact hB
  | succ k ih =>
    rw [hmx]
    split
    · exact h _ (by omega)
    · exact ih
/-- how late, when one comes at t -/
def lte (by' t : Int32) : Int32 := if t - by' < 0 then 0 else t - by'
def wrt (g : Nat → Int32) (by' t : Int32) : Int32 := if 108 ≤ lte by' t then 0 else g (lte by' t).toInt.toNat
theorem lte_i {b t : Int32} (hb : 0 ≤ b.toInt) (hb2 : b.toInt ≤ 999) (h0 : 0 ≤ t.toInt) : (lte b t).toInt = if t.toInt < b.toInt then 0 else t.toInt - b.toInt := by
  have ht := t.toInt_lt
  have e : (t - b).toInt = t.toInt - b.toInt := sub_i (by omega) (by omega)
  unfold lte
  by_cases q : t.toInt < b.toInt
  · rw [if_pos q, if_pos (by rw [Int32.lt_iff_toInt_lt, e, Int32.toInt_zero]; omega)]; rfl
  · rw [if_neg q, if_neg (by rw [Int32.lt_iff_toInt_lt, e, Int32.toInt_zero]; omega), e]
theorem wrt_bd {g : Nat → Int32} {B : Int} (hB : 0 ≤ B) (h : ∀ l, l ≤ 107 → 0 ≤ (g l).toInt ∧ (g l).toInt ≤ B) {b t : Int32} : 0 ≤ (wrt g b t).toInt ∧ (wrt g b t).toInt ≤ B := by
  unfold wrt
  split
  · exact ⟨Int.le_refl _, hB⟩
  · rename_i q
    have c : (108 : Int32).toInt = 108 := by decide
    rw [Int32.le_iff_toInt_le, c] at q
    exact h _ (by omega)
theorem wrt_mono {g g' : Nat → Int32} (h0 : ∀ l, l ≤ 107 → 0 ≤ (g' l).toInt) (h : ∀ l l', l ≤ l' → l' ≤ 107 → (g l').toInt ≤ (g' l).toInt) {b t t' : Int32} (hb : 0 ≤ b.toInt) (hb2 : b.toInt ≤ 999) (t0 : 0 ≤ t.toInt) (tt : t.toInt ≤ t'.toInt) : (wrt g b t').toInt ≤ (wrt g' b t).toInt := by
  have c : (108 : Int32).toInt = 108 := by decide
  have e1 := lte_i hb hb2 t0
  have e2 := lte_i (t := t') hb hb2 (by omega)
  have hle : (lte b t).toInt ≤ (lte b t').toInt := by
    rw [e1, e2]; split <;> split <;> omega
  have hge : 0 ≤ (lte b t).toInt := by rw [e1]; split <;> omega
  unfold wrt
  simp only [Int32.le_iff_toInt_le, c]
  by_cases q : 108 ≤ (lte b t').toInt
  · rw [if_pos q]
    by_cases q2 : 108 ≤ (lte b t).toInt
    · rw [if_pos q2]; exact Int.le_refl _
    · rw [if_neg q2]; exact h0 _ (by omega)
  · rw [if_neg q, if_neg (by omega)]
    exact h _ _ (by omega) (by omega)
section KWRT
variable (F : Nat → Nat → Int32) (S : Nat → Int32) (cd : Nat → List Int32)
/-- the gift at a door, by the minutes late -/
def gfv (h : Nat) (late : Int32) : Int32 := if vl F S h late (cd 1) = 0 then tpv F S cd h late else 0
def gfT (h l : Nat) : Int32 := gfv F S cd h (nI l)
def hpT (h l : Nat) : Int32 := hmx (gfT F S cd h) (108 - l)
def WTs (so : Int32) (h : Nat) (t : Int32) : Int32 := if so = 0 then 0 else wrt (gfT F S cd h) (byv F S cd h) t
def HTs (so : Int32) (h : Nat) (t : Int32) : Int32 := if so = 0 then 0 else wrt (hpT F S cd h) (byv F S cd h) t
end KWRT
section KWRT2
variable {F : Nat → Nat → Int32} {S : Nat → Int32} {cd : Nat → List Int32}
theorem bnd_rg {v : Int32} {M : Nat} (hM : M < 1000) : 0 ≤ (bnd v 0 (nI M)).toInt ∧ (bnd v 0 (nI M)).toInt ≤ M := by
  have e : (nI M).toInt = M := nI_i (by omega)
  unfold bnd
  split
  · exact ⟨by decide, by rw [Int32.toInt_zero]; omega⟩
  · rename_i q
    rw [Int32.lt_iff_toInt_lt, Int32.toInt_zero] at q
    split
    · rw [e]; omega
    · rename_i q2; rw [Int32.lt_iff_toInt_lt, e] at q2; omega
theorem half_i {x : Int32} : (x / 2).toInt = x.toInt.tdiv 2 := Int32.toInt_div_of_ne_right x 2 (by decide)
/-- what a tip can be at most, by the minutes late -/
theorem tpv_rg (hV : VF F) (hS : VS S) {h : Nat} (hh : h < 7) {late : Int32} (h0 : 0 ≤ late.toInt) (h1 : late.toInt ≤ 100000) : 0 ≤ (tpv F S cd h late).toInt ∧ (tpv F S cd h late).toInt ≤ 110 ∧ (108 ≤ late.toInt → tpv F S cd h late = 0) := by
  obtain ⟨n1, n2⟩ := (hV h hh).2.1
  obtain ⟨s1, s2⟩ := hS.2.2.2.2.2.1
  have hb := bnd_rg (v := vl F S h late (cd 2)) (M := 99) (by decide)
  have ed : (tpd F S cd h late).toInt = (bnd (vl F S h late (cd 2)) 0 (nI 99)).toInt - late.toInt := by
    show (bnd (vl F S h late (cd 2)) 0 (nI 99) - late).toInt = _
    exact sub_i (by omega) (by omega)
  have hd1 : (tpd F S cd h late).toInt ≤ 99 - late.toInt := by rw [ed]; omega
  have hd0 : -100000 ≤ (tpd F S cd h late).toInt := by rw [ed]; omega
  have key : (tpq F S h late (tpd F S cd h late)).toInt ≤ 110 ∧ (108 ≤ late.toInt → (tpq F S h late (tpd F S cd h late)).toInt ≤ 0) := by
    generalize tpd F S cd h late = d at *
    have ha : (d / 2).toInt = d.toInt.tdiv 2 := half_i
    have hb2 : d.toInt.tdiv 2 ≤ 50 ∧ -100000 ≤ d.toInt.tdiv 2 ∧ (108 ≤ late.toInt → d.toInt.tdiv 2 ≤ -4) := by
      by_cases q : 0 ≤ d.toInt
      · rw [Int.tdiv_eq_ediv_of_nonneg q]; omega
      · have e : d.toInt.tdiv 2 = - ((- d.toInt) / 2) := by
          rw [← Int.tdiv_eq_ediv_of_nonneg (by omega : 0 ≤ - d.toInt), Int.neg_tdiv, Int.neg_neg]
        rw [e]; omega
    have hc : (if late = 0 then (2 : Int32) else 0).toInt = if late = 0 then 2 else 0 := by split <;> decide
    have hl : late = 0 → late.toInt = 0 := fun e => by rw [e]; rfl
    have e3 : (d + F 1 h).toInt = d.toInt + (F 1 h).toInt := add_i (by omega) (by omega)
    have e5 : (d - S 5).toInt = d.toInt - (S 5).toInt := sub_i (by omega) (by omega)
    have e4 : (d / 2 + (if late = 0 then 2 else 0)).toInt = d.toInt.tdiv 2 + (if late = 0 then 2 else 0) := by
      rw [add_i (by rw [ha, hc]; split <;> omega) (by rw [ha, hc]; split <;> omega), ha, hc]
    unfold tpq
    split
    · rw [ha]; omega
    · split
      · rw [e3]; omega
      · split
        · rw [e4]
          by_cases q : late = 0
          · have := hl q; rw [if_pos q]; omega
          · rw [if_neg q]; omega
        · split
          · rw [e5]; omega
          · omega
  unfold tpv
  split
  · exact ⟨Int.le_refl _, by decide, fun _ => rfl⟩
  · rename_i q
    rw [Int32.lt_iff_toInt_lt, Int32.toInt_zero] at q
    refine ⟨by omega, key.1, fun z => ?_⟩
    have := key.2 z
    apply Int32.toInt_inj.mp
    rw [Int32.toInt_zero]; omega
theorem gfT_rg (hV : VF F) (hS : VS S) {h : Nat} (hh : h < 7) {l : Nat} (hl : l ≤ 107) : 0 ≤ (gfT F S cd h l).toInt ∧ (gfT F S cd h l).toInt ≤ 1000 := by
  have e : (nI l).toInt = l := nI_i (by omega)
  obtain ⟨t0, t1, -⟩ := tpv_rg (cd := cd) hV hS hh (late := nI l) (by rw [e]; omega) (by rw [e]; omega)
  unfold gfT gfv
  split
  · omega
  · exact ⟨by decide, by decide⟩
theorem byv_r {h : Nat} : 0 ≤ (byv F S cd h).toInt ∧ (byv F S cd h).toInt ≤ 999 := bnd_rg (M := 999) (by decide)
theorem WH_ok (hV : VF F) (hS : VS S) (so : Int32) : WHp (WTs F S cd so) (HTs F S cd so) := by
  intro h hh
  unfold WTs HTs
  by_cases q : so = 0
  · simp only [q, if_true]
    exact ⟨fun t => ⟨by decide, by decide, by decide, by decide⟩, fun t t' _ _ _ => ⟨by decide, by decide⟩⟩
  · simp only [q, if_false]
    have hg := fun l (hl : l ≤ 107) => gfT_rg (cd := cd) hV hS hh hl
    have hH : ∀ l, l ≤ 107 → 0 ≤ (hpT F S cd h l).toInt ∧ (hpT F S cd h l).toInt ≤ 1000 := fun l hl => ⟨hmx_0 _, hmx_le (by omega) (fun l hl => (hg l hl).2) _⟩
    obtain ⟨b0, b1⟩ := byv_r (F := F) (S := S) (cd := cd) (h := h)
    refine ⟨fun t => ?_, fun t t' t0 tt t1 => ⟨?_, ?_⟩⟩
    · have x := wrt_bd (B := 1000) (by omega) hg (b := byv F S cd h) (t := t)
      have y := wrt_bd (B := 1000) (by omega) hH (b := byv F S cd h) (t := t)
      exact ⟨x.1, x.2, y.1, y.2⟩
    · exact wrt_mono (fun l hl => (hH l hl).1) (fun l l' hll hl' => hmx_ge hl' (by omega)) b0 b1 t0 tt
    · refine wrt_mono (fun l hl => (hH l hl).1) (fun l l' hll hl' => ?_) b0 b1 t0 tt
      have := hmx_up (g := gfT F S cd h) (108 - l - (108 - l')) (108 - l')
      rw [show 108 - l' + (108 - l - (108 - l')) = 108 - l by omega] at this
      exact this
end KWRT2
