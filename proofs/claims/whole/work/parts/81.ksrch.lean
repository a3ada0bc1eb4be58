/-! ===== the class's search: what it finds ===== -/
/-- one house more -/
def stW (F : Nat → Nat → Int32) (S : Nat → Int32) (z : W6) (h : Nat) : W6 × Int32 := (visW S (F 2 h) (F 3 h) (thk F S h) (tks F S h) (heapW S (thk F S h) z), visA S (F 2 h) (F 3 h) (heapW S (thk F S h) z))
/-- what an order is worth, of which the first houses are gone through -/
def vlK (F : Nat → Nat → Int32) (S : Nat → Int32) (W : Nat → Int32 → Int32) (so : Int32) : List Nat → W6 → Int32 → Int32
  | [], z, p => if so = 0 then 0 - z.1 else p
  | h :: r, z, p => vlK F S W so r (stW F S z h).1 (p + W h (stW F S z h).2)
/-- the best one yet, all orders in their turn -/
def srK (V : List Nat → Int32) (P : List Nat) : List (List Nat) → Int32 × List Nat → Int32 × List Nat
  | [], b => b
  | r :: L, b => srK V P L (if b.1 < V r then (V r, P ++ r) else b)
theorem srK_app {V : List Nat → Int32} {P : List Nat} : ∀ (L1 L2 : List (List Nat)) (b : Int32 × List Nat), srK V P (L1 ++ L2) b = srK V P L2 (srK V P L1 b) := by
  intro L1
  induction L1 with
  | nil => intro L2 b; rfl
  | cons r L1 ih => intro L2 b; rw [List.cons_append, srK, srK, ih]
theorem srK_no {V : List Nat → Int32} {P : List Nat} : ∀ (L : List (List Nat)) (b : Int32 × List Nat), (∀ r ∈ L, V r ≤ b.1) → srK V P L b = b := by
  intro L
  induction L with
  | nil => intro b _; rfl
  | cons r L ih =>
    intro b h
    rw [srK, if_neg (Int32.not_lt.mpr (h r List.mem_cons_self))]
    exact ih b (fun x hx => h x (List.mem_cons_of_mem _ hx))
theorem srK_map {V V' : List Nat → Int32} {P : List Nat} {h : Nat} (e : ∀ r, V (h :: r) = V' r) : ∀ (L : List (List Nat)) (b : Int32 × List Nat), srK V P (L.map (fun r => h :: r)) b = srK V' (P ++ [h]) L b := by
  intro L
  induction L with
  | nil => intro b; rfl
  | cons r L ih =>
    intro b
    rw [List.map_cons, srK, srK, ih, e, List.append_assoc]
    rfl
/-- house after house, each with all that can follow -/
def srH (F : Nat → Nat → Int32) (S : Nat → Int32) (W : Nat → Int32 → Int32) (so : Int32) (P : List Nat) (z : W6) (p : Int32) (av : List Nat) (m : Nat) : List Nat → Int32 × List Nat → Int32 × List Nat
  | [], b => b
  | h :: r, b => srH F S W so P z p av m r (srK (fun r => vlK F S W so r (stW F S z h).1 (p + W h (stW F S z h).2)) (P ++ [h]) (pmK m (av.erase h)) b)
theorem srK_pm {F : Nat → Nat → Int32} {S : Nat → Int32} {W : Nat → Int32 → Int32} {so : Int32} {P : List Nat} {z : W6} {p : Int32} {av : List Nat} {m : Nat} : ∀ (l : List Nat) (b : Int32 × List Nat), srK (fun r => vlK F S W so r z p) P (l.flatMap (fun h => (pmK m (av.erase h)).map (fun r => h :: r))) b = srH F S W so P z p av m l b := by
  intro l
  induction l with
  | nil => intro b; rfl
  | cons h l ih =>
    intro b
    rw [List.flatMap_cons, srK_app, srH, ih, srK_map (V' := fun r => vlK F S W so r (stW F S z h).1 (p + W h (stW F S z h).2)) (fun r => rfl)]
theorem sum_erase {f : Nat → Int} {h : Nat} : ∀ (l : List Nat), h ∈ l → (l.map f).sum = f h + ((l.erase h).map f).sum := by
  intro l
  induction l with
  | nil => intro q; simp at q
  | cons x l ih =>
    intro q
    by_cases e : x = h
    · subst e; rw [List.erase_cons_head]; simp
    · rw [List.erase_cons_tail (by simpa using e)]
      have := ih ((List.mem_cons.mp q).resolve_left (Ne.symm e))
      simp only [List.map_cons, List.sum_cons]
      omega
theorem sum_le {f f' : Nat → Int} : ∀ (l : List Nat), (∀ h ∈ l, f h ≤ f' h) → (l.map f).sum ≤ (l.map f').sum := by
  intro l
  induction l with
  | nil => intro _; exact Int.le_refl _
  | cons x l ih =>
    intro q
    have h1 := q x List.mem_cons_self
    have h2 := ih (fun y hy => q y (List.mem_cons_of_mem _ hy))
    simp only [List.map_cons, List.sum_cons]
    omega
theorem sum_bd {f : Nat → Int} {B : Int} : ∀ (l : List Nat), (∀ h ∈ l, 0 ≤ f h ∧ f h ≤ B) → 0 ≤ (l.map f).sum ∧ (l.map f).sum ≤ B * l.length := by
  intro l
  induction l with
  | nil => intro _; simp
  | cons x l ih =>
    intro q
    have h1 := q x List.mem_cons_self
    have h2 := ih (fun y hy => q y (List.mem_cons_of_mem _ hy))
    simp only [List.map_cons, List.sum_cons, List.length_cons]
    have e : B * ((l.length + 1 : Nat) : Int) = B * l.length + B := by rw [Int.natCast_add, Int.mul_add]; simp
    rw [e]
    omega
/-- sums as the class makes them -/
def smK (f : Nat → Int32) : List Nat → Int32 → Int32
  | [], e => e
  | h :: r, e => smK f r (e + f h)
theorem smK_i {f : Nat → Int32} {B : Int} (hB : B ≤ 1000) : ∀ (l : List Nat) (e : Int32), (∀ h ∈ l, 0 ≤ (f h).toInt ∧ (f h).toInt ≤ B) → 0 ≤ e.toInt → e.toInt + 1000 * l.length ≤ 1000000 → (smK f l e).toInt = e.toInt + (l.map (fun h => (f h).toInt)).sum := by
  intro l
  induction l with
  | nil => intro e _ _ _; simp [smK]
  | cons x l ih =>
    intro e q h0 h1
    have hx := q x List.mem_cons_self
    simp only [List.length_cons] at h1
    have e1 : (e + f x).toInt = e.toInt + (f x).toInt := add_i (by omega) (by omega)
    rw [smK, ih _ (fun y hy => q y (List.mem_cons_of_mem _ hy)) (by omega) (by omega), e1]
    simp only [List.map_cons, List.sum_cons]
    omega
def hpK (F : Nat → Nat → Int32) (S : Nat → Int32) (Hp : Nat → Int32 → Int32) (so : Int32) (av : List Nat) (z : W6) (p : Int32) : Int32 := if so = 0 then 0 - smK (tks F S) av z.1 else smK (fun h => Hp h z.1) av p
/-- what gifts and hopes are like -/
def WHp (W Hp : Nat → Int32 → Int32) : Prop := ∀ h, h < 7 → (∀ t, 0 ≤ (W h t).toInt ∧ (W h t).toInt ≤ 1000 ∧ 0 ≤ (Hp h t).toInt ∧ (Hp h t).toInt ≤ 1000) ∧ ∀ t t' : Int32, 0 ≤ t.toInt → t.toInt ≤ t'.toInt → t'.toInt ≤ 100000 → (W h t').toInt ≤ (Hp h t).toInt ∧ (Hp h t').toInt ≤ (Hp h t).toInt
/-- a walk on its way -/
def WkO (z : W6) : Prop := 0 ≤ z.1.toInt ∧ rg z.2.2.1 0 99 ∧ (z.2.2.2.2.2 = 0 ∨ z.2.2.2.2.2 = 1)
theorem stW_ok {F : Nat → Nat → Int32} {S : Nat → Int32} (hV : VF F) (hS : VS S) {h : Nat} (hh : h < 7) {z : W6} (hz : WkO z) (h1 : z.1.toInt ≤ 90000) : WkO (stW F S z h).1 ∧ z.1.toInt ≤ (stW F S z h).2.toInt ∧ (stW F S z h).2.toInt ≤ z.1.toInt + 223 ∧ (stW F S z h).1.1.toInt = (stW F S z h).2.toInt + (tks F S h).toInt := by
  obtain ⟨z0, zp, zh⟩ := hz
  have hT := tks_rg hV hS hh
  obtain ⟨t1, t2⟩ := hT
  obtain ⟨c1, c2⟩ := hS.2.2.2.2.1
  have hs1 := hS.2.1
  have heap : z.1.toInt ≤ (heapW S (thk F S h) z).1.toInt ∧ (heapW S (thk F S h) z).1.toInt ≤ z.1.toInt + 107 ∧ rg (heapW S (thk F S h) z).2.2.1 0 99 := by
    unfold heapW
    split
    · obtain ⟨f1, f2⟩ := far_rg zp hs1 hS.2.2.2.1
      have e : (z.1 + far32 z.2.2.1 (S 1) (S 3)).toInt = z.1.toInt + (far32 z.2.2.1 (S 1) (S 3)).toInt := add_i (by omega) (by omega)
      refine ⟨?_, ?_, hs1⟩
      · show z.1.toInt ≤ (z.1 + far32 z.2.2.1 (S 1) (S 3)).toInt; omega
      · show (z.1 + far32 z.2.2.1 (S 1) (S 3)).toInt ≤ _; omega
    · exact ⟨Int.le_refl _, by omega, zp⟩
  obtain ⟨g1, g2, g3⟩ := heap
  have vis : (heapW S (thk F S h) z).1.toInt ≤ (visA S (F 2 h) (F 3 h) (heapW S (thk F S h) z)).toInt ∧ (visA S (F 2 h) (F 3 h) (heapW S (thk F S h) z)).toInt ≤ (heapW S (thk F S h) z).1.toInt + 116 := by
    generalize heapW S (thk F S h) z = y at *
    obtain ⟨f1, f2⟩ := far_rg g3 (hV h hh).2.2.1 hS.2.2.2.1
    have e : (y.1 + far32 y.2.2.1 (F 2 h) (S 3)).toInt = y.1.toInt + (far32 y.2.2.1 (F 2 h) (S 3)).toInt := add_i (by omega) (by omega)
    unfold visA
    split
    · omega
    · rw [add_i (by omega) (by omega), e]; omega
  obtain ⟨v1, v2⟩ := vis
  have ev : (stW F S z h).1.1.toInt = (stW F S z h).2.toInt + (tks F S h).toInt := by
    show (visA S (F 2 h) (F 3 h) (heapW S (thk F S h) z) + tks F S h).toInt = (visA S (F 2 h) (F 3 h) (heapW S (thk F S h) z)).toInt + _
    exact add_i (by omega) (by omega)
  refine ⟨⟨?_, (hV h hh).2.2.1, Or.inl rfl⟩, ?_, ?_, ev⟩
  · rw [ev]; show 0 ≤ (visA S (F 2 h) (F 3 h) (heapW S (thk F S h) z)).toInt + _; omega
  · show _ ≤ (visA S (F 2 h) (F 3 h) (heapW S (thk F S h) z)).toInt; omega
  · show (visA S (F 2 h) (F 3 h) (heapW S (thk F S h) z)).toInt ≤ _; omega
