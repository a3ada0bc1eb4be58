/-! ===== the class: text ===== -/
def krd (σ : KS) (f : Nat → Int32) (C : List Int32) : KS := (fun k => if k = 6 then C else σ.1 k, (fun o k => if o = 4 then f k else σ.2.1 o k), σ.2.2)
theorem krd_r {σ : KS} {f : Nat → Int32} {C : List Int32} {k : Nat} (h : k ≠ 6) : (krd σ f C).1 k = σ.1 k := if_neg h
theorem krd_i {σ : KS} {f : Nat → Int32} {C : List Int32} {o k : Nat} (h : o ≠ 4) : kI (krd σ f C) o k = kI σ o k := if_neg h
def kAddU (σ : KS) (tx w : Nat) (c s : List Int32) (i1 i2 : Int32) : KS := ((fun k => if k = 200 + 3 * tx then c else if k = 201 + 3 * tx then s else σ.1 k), (fun o k => if o = 200 + tx then (if k = 1 then i1 else i2) else σ.2.1 o k), σ.2.2.1, (fun r => if r = tx then w else σ.2.2.2.1 r), σ.2.2.2.2)
theorem aok_r {g : Gl} : AOK g 2 5 := ⟨RX5, RX5, TX5, 4, 5, TX5, 4, rfl, rfl, rfl, Or.inl rfl⟩
section KTXM
variable {a m tx : Nat} {σ : KS} {μ : Mm}
theorem KM.rd (h : KM a m tx σ μ) : RDo (a + 4) (kI σ 4) (σ.1 5) (σ.1 6) μ := ⟨h.o 4 4 (by decide), h.r 5 (by decide), h.r 6 (by decide)⟩
theorem KM.rdS (h : KM a m tx σ μ) {f : Nat → Int32} {C : List Int32} {μ' : Mm} (hO : RDo (a + 4) f (σ.1 5) C μ') (h2 : μ.2.1 ≤ μ'.2.1) (h1 : ∀ q, (q < a + 4 ∨ a + 4 + 3 ≤ q) → q < μ.2.1 → μ'.1 q = μ.1 q) : KM a m tx (krd σ f C) μ' := by
  have hA := h.ad
  obtain ⟨a1, a2, a3, a4, a5, a6, a7, a8⟩ := hA
  refine ⟨fun q hq => ?_, fun q hq => ?_, ⟨?_, ?_, ?_, ?_, ?_⟩, fun i hi => ?_, fun r hr => ?_, ⟨fun i hi => ⟨(a1 i hi).1, Nat.lt_of_lt_of_le (a1 i hi).2 h2⟩, fun r hr => ⟨(a2 r hr).1, Nat.le_trans (a2 r hr).2 h2⟩, a3, a4, a5, Nat.le_trans a6 h2, a7, a8⟩⟩
  · have q1 := kO_ok q hq
    by_cases e : q.1 = 4
    · have e2 : q.2 = 4 := by
        have k4 : ∀ q ∈ kO, q.1 = 4 → q.2 = 4 := by decide
        exact k4 q hq e
      rw [e, e2]
      exact hO.1
    · have e5 : q.1 ≠ 5 := fun z => q1.2.1 (by rw [z]; decide)
      have e6 : q.1 ≠ 6 := fun z => q1.2.1 (by rw [z]; decide)
      rw [h1 _ (by omega) (by omega), h.1 q hq, kf_ne (fun k => krd_i e) rfl]
  · have q1 := kRo_ok q hq
    have e4 : q ≠ 4 := fun z => q1.2.2 (4, 4) (by decide) z.symm
    by_cases e5 : q = 5
    · rw [e5]; exact hO.2.1
    · by_cases e6 : q = 6
      · rw [e6]; exact hO.2.2
      · rw [h1 _ (by omega) (by omega), h.2.1 q hq, krd_r e6]
  · rw [h1 _ (by omega) (by omega)]; exact h.dl
  · rw [h1 _ (by omega) (by omega)]; exact h.ul
  · rw [h1 _ (by omega) (by omega)]; exact h.sl
  · rw [h1 _ (by omega) (by omega)]; exact h.w1
  · rw [h1 _ (by omega) (by omega)]; exact h.w2
  · have := a1 i hi
    show μ'.1 (kD σ i).1 = _
    rw [h1 _ (by omega) (by omega), h.d hi]
    unfold dF
    rw [krd_i (by omega), krd_i (by omega), krd_i (by omega), krd_i (by omega), krd_i (by omega)]
    rfl
  · have := h.ua hr
    have h3 := (a2 r hr).2
    obtain ⟨x1, x2, x3⟩ := h.u hr
    show μ'.1 (kU σ r) = some (obj 5 (uF (krd σ f C) r)) ∧ μ'.1 (kU σ r + 1) = some (iar ((krd σ f C).1 _)) ∧ μ'.1 (kU σ r + 2) = some (iar ((krd σ f C).1 _))
    rw [krd_r (by omega), krd_r (by omega)]
    refine ⟨?_, by rw [h1 _ (by omega) (by omega)]; exact x2, by rw [h1 _ (by omega) (by omega)]; exact x3⟩
    rw [h1 _ (by omega) (by omega), x1]
    unfold uF
    rw [krd_i (by omega), krd_i (by omega)]
    rfl
theorem kUl_add {w : Nat} {c s : List Int32} {i1 i2 : Int32} (htx : tx < 6) : kUl (tx + 1) (kAddU σ tx w c s i1 i2) = (kUl tx σ).set tx (some w) := by
  apply List.ext_getElem?
  intro i
  by_cases hi : i < 6
  · rw [kUl, List.getElem?_map, List.getElem?_range hi, List.getElem?_set]
    by_cases e : tx = i
    · subst e
      rw [if_pos rfl, if_pos (by simp [kUl]; omega)]
      show some (if tx < tx + 1 then some (if tx = tx then w else _) else none) = _
      rw [if_pos (by omega), if_pos rfl]
    · rw [if_neg e, kUl, List.getElem?_map, List.getElem?_range hi]
      show some (if i < tx + 1 then some (if i = tx then w else kU σ i) else none) = some (if i < tx then some (kU σ i) else none)
      rw [if_neg (Ne.symm e)]
      by_cases q : i < tx
      · rw [if_pos q, if_pos (by omega)]
      · rw [if_neg q, if_neg (by omega)]
  · rw [List.getElem?_eq_none (by simp [kUl]; omega), List.getElem?_eq_none (by simp [kUl]; omega)]
theorem KM.addU (h : KM a m tx σ μ) (htx : tx < 6) {w : Nat} {c s : List Int32} {i1 i2 : Int32} (h0 : μ.1 w = some (obj 5 [.ref (w + 1), .int i1, .int i2, .ref (w + 2)])) (h1 : μ.1 (w + 1) = some (iar c)) (h2 : μ.1 (w + 2) = some (iar s)) (hw1 : a + 94 ≤ w) (hw2 : w + 3 ≤ μ.2.1) (hd : ∀ i, i < m → (kD σ i).1 < w) (hr : ∀ r, r < tx → kU σ r + 3 ≤ w) : KM a m (tx + 1) (kAddU σ tx w c s i1 i2) (mupd μ (a + 7) (rar 2 ((kUl tx σ).set tx (some w)))) := by
  have hA := h.ad
  obtain ⟨a1, a2, a3, a4, a5, a6, a7, a8⟩ := hA
  have ei : ∀ o k, o < 200 → kI (kAddU σ tx w c s i1 i2) o k = kI σ o k := fun o k ho => if_neg (by omega)
  have er : ∀ k, k < 200 → (kAddU σ tx w c s i1 i2).1 k = σ.1 k := fun k hk => by
    show (if k = 200 + 3 * tx then c else if k = 201 + 3 * tx then s else σ.1 k) = _
    rw [if_neg (by omega), if_neg (by omega)]
  have eu : ∀ r, r ≠ tx → kU (kAddU σ tx w c s i1 i2) r = kU σ r := fun r h => if_neg h
  have eun : kU (kAddU σ tx w c s i1 i2) tx = w := if_pos rfl
  refine ⟨fun q hq => ?_, fun q hq => ?_, ⟨?_, ?_, ?_, ?_, ?_⟩, fun i hi => ?_, fun r hr' => ?_, ⟨a1, fun r hr' => ?_, a3, fun r r' hr1 hr2 => ?_, fun i r hi hr' => ?_, a6, a7, by omega⟩⟩
  · have q1 := kO_ok q hq
    have q2 : q.1 ≠ 7 := fun e => q1.2.2.1 (by rw [e]; simp)
    rw [mupd_ne (by omega), h.1 q hq, kf_ne (fun k => ei _ _ (by omega)) rfl]
  · have q1 := kRo_ok q hq
    have q2 : q ≠ 7 := fun e => q1.2.1 (by rw [e]; simp)
    rw [mupd_ne (by omega), er q (by omega)]; exact h.2.1 q hq
  · rw [mupd_ne (by omega)]; exact h.dl
  · rw [mupd_eq, kUl_add htx]
  · rw [mupd_ne (by omega)]; exact h.sl
  · rw [mupd_ne (by omega)]; exact h.w1
  · rw [mupd_ne (by omega)]; exact h.w2
  · have := (a1 i hi).1
    show (mupd μ (a + 7) _).1 (kD σ i).1 = _
    rw [mupd_ne (by omega), h.d hi]
    unfold dF
    rw [ei _ _ (by omega), ei _ _ (by omega), ei _ _ (by omega), ei _ _ (by omega), ei _ _ (by omega)]
    rfl
  · by_cases e : r = tx
    · subst e
      rw [eun]
      refine ⟨?_, ?_, ?_⟩
      · rw [mupd_ne (by omega), h0]
        unfold uF
        rw [eun]
        have k1 : kI (kAddU σ r w c s i1 i2) (200 + r) 1 = i1 := by show (if 200 + r = 200 + r then _ else _) = _; rw [if_pos rfl]; rfl
        have k2 : kI (kAddU σ r w c s i1 i2) (200 + r) 2 = i2 := by show (if 200 + r = 200 + r then _ else _) = _; rw [if_pos rfl]; rfl
        rw [k1, k2]
      · rw [mupd_ne (by omega), h1]
        show _ = some (iar (if 200 + 3 * r = 200 + 3 * r then c else _))
        rw [if_pos rfl]
      · rw [mupd_ne (by omega), h2]
        show _ = some (iar (if 201 + 3 * r = 200 + 3 * r then c else if 201 + 3 * r = 201 + 3 * r then s else _))
        rw [if_neg (by omega), if_pos rfl]
    · have hr2 : r < tx := by omega
      have := h.ua hr2
      obtain ⟨x1, x2, x3⟩ := h.u hr2
      rw [eu r e]
      have k0 : (kAddU σ tx w c s i1 i2).1 (200 + 3 * r) = σ.1 (200 + 3 * r) := by
        show (if 200 + 3 * r = 200 + 3 * tx then c else if 200 + 3 * r = 201 + 3 * tx then s else σ.1 _) = _
        rw [if_neg (by omega), if_neg (by omega)]
      have k1 : (kAddU σ tx w c s i1 i2).1 (201 + 3 * r) = σ.1 (201 + 3 * r) := by
        show (if 201 + 3 * r = 200 + 3 * tx then c else if 201 + 3 * r = 201 + 3 * tx then s else σ.1 _) = _
        rw [if_neg (by omega), if_neg (by omega)]
      rw [k0, k1]
      refine ⟨?_, by rw [mupd_ne (by omega)]; exact x2, by rw [mupd_ne (by omega)]; exact x3⟩
      rw [mupd_ne (by omega), x1]
      unfold uF
      rw [eu r e]
      have e1 : ∀ k, kI (kAddU σ tx w c s i1 i2) (200 + r) k = kI σ (200 + r) k := fun k => if_neg (by omega)
      rw [e1, e1]
  · by_cases e : r = tx
    · subst e; rw [eun]; exact ⟨Or.inr hw1, hw2⟩
    · rw [eu r e]; exact a2 r (by omega)
  · by_cases e1 : r = tx
    · by_cases e2 : r' = tx
      · exact Or.inl (by omega)
      · rw [e1, eun, eu r' e2]
        have := hr r' (by omega)
        exact Or.inr (Or.inr this)
    · by_cases e2 : r' = tx
      · rw [e2, eun, eu r e1]
        have := hr r (by omega)
        exact Or.inr (Or.inl this)
      · rw [eu r e1, eu r' e2]; exact a4 r r' (by omega) (by omega)
  · by_cases e : r = tx
    · rw [e, eun]; exact Or.inl (hd i hi)
    · rw [eu r e]; exact a5 i r hi (by omega)
end KTXM
/-- rows of three texts more -/
def cdA (cd : Nat → List Int32) (tx : Nat) (c0 c1 c2 : List Int32) : Nat → List Int32 := fun w => if w = 3 * tx then c0 else if w = 3 * tx + 1 then c1 else if w = 3 * tx + 2 then c2 else cd w
theorem cdA_lt {cd : Nat → List Int32} {tx : Nat} {c0 c1 c2 : List Int32} {w : Nat} (h : w < 3 * tx) : cdA cd tx c0 c1 c2 w = cd w := by
  unfold cdA
  rw [if_neg (by omega), if_neg (by omega), if_neg (by omega)]
theorem cdA_0 {cd : Nat → List Int32} {tx : Nat} {c0 c1 c2 : List Int32} : cdA cd tx c0 c1 c2 (3 * tx) = c0 := if_pos rfl
theorem cdA_1 {cd : Nat → List Int32} {tx : Nat} {c0 c1 c2 : List Int32} : cdA cd tx c0 c1 c2 (3 * tx + 1) = c1 := by unfold cdA; rw [if_neg (by omega), if_pos rfl]
theorem cdA_2 {cd : Nat → List Int32} {tx : Nat} {c0 c1 c2 : List Int32} : cdA cd tx c0 c1 c2 (3 * tx + 2) = c2 := by unfold cdA; rw [if_neg (by omega), if_neg (by omega), if_pos rfl]
theorem prsK_cd {F : Nat → Nat → Int32} {S : Nat → Int32} {cd cd' : Nat → List Int32} {th : List Int32} (h : ∀ w, w < 3 → cd' w = cd w) {ring : Int32} : ∀ (m k : Nat) (s : Int32), prsK F S cd' th ring m k s = prsK F S cd th ring m k s := by
  intro m
  induction m with
  | zero => intro k s; rfl
  | succ m ih =>
    intro k s
    rw [prsK, prsK, ih]
    unfold tpv ltv tpd byv
    rw [h 0 (by decide), h 2 (by decide)]
theorem rngK_cd {F : Nat → Nat → Int32} {S : Nat → Int32} {cd cd' : Nat → List Int32} {th : List Int32} (h : ∀ w, w < 3 → cd' w = cd w) : ∀ (m k : Nat) (s : Int32), rngK F S cd' th m k s = rngK F S cd th m k s := by
  intro m
  induction m with
  | zero => intro k s; rfl
  | succ m ih =>
    intro k s
    rw [rngK, rngK, ih]
    unfold ltv byv
    rw [h 0 (by decide), h 1 (by decide)]
theorem bst_cd {ρ : MS} {n t : Nat} {cd cd' : Nat → List Int32} {so : Int32} (h : ∀ w, w < 3 → cd' (3 * t + w) = cd (3 * t + w)) : bst ρ n t cd' so = bst ρ n t cd so := by
  have e : eB ρ n t cd' so = eB ρ n t cd so := by
    funext os
    unfold eB
    rw [prsK_cd (cd := cdt t cd) (cd' := cdt t cd') h, rngK_cd (cd := cdt t cd) (cd' := cdt t cd') h]
  unfold bst
  rw [e]
