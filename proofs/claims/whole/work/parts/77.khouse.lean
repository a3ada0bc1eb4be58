/-! ===== the class: house ===== -/
theorem mnew_at {μ : Mm} {e : MC} {k : Nat} : (mnew μ e k).1 μ.2.1 = some e := if_pos rfl
theorem mnew_ne {μ : Mm} {e : MC} {k q : Nat} (h : q ≠ μ.2.1) : (mnew μ e k).1 q = μ.1 q := if_neg h
theorem aok_d {g : Gl} {ci : Nat} (h : ci ∈ dks) : AOK g 1 ci := by
  simp only [dks, List.mem_cons, List.not_mem_nil, or_false] at h
  rcases h with rfl | rfl | rfl | rfl | rfl | rfl
  · exact ⟨RX0, RX2, TX0, 5, 2, TX2, 5, rfl, rfl, rfl, Or.inr (by decide)⟩
  · exact ⟨RX1, RX2, TX1, 5, 2, TX2, 5, rfl, rfl, rfl, Or.inr (by decide)⟩
  · exact ⟨RX2, RX2, TX2, 5, 2, TX2, 5, rfl, rfl, rfl, Or.inl rfl⟩
  · exact ⟨RX3, RX2, TX3, 5, 2, TX2, 5, rfl, rfl, rfl, Or.inr (by decide)⟩
  · exact ⟨RX8, RX2, TX8, 5, 2, TX2, 5, rfl, rfl, rfl, Or.inr (by decide)⟩
  · exact ⟨RX9, RX2, TX9, 5, 2, TX2, 5, rfl, rfl, rfl, Or.inr (by decide)⟩
def kAdd (σ : KS) (n w ci : Nat) (f : Nat → Int32) : KS := (σ.1, (fun o k => if o = 100 + n then f k else σ.2.1 o k), (fun h => if h = n then (w, ci) else σ.2.2.1 h), σ.2.2.2)
theorem kAdd_i {σ : KS} {n w ci o k : Nat} {f : Nat → Int32} (h : o ≠ 100 + n) : kI (kAdd σ n w ci f) o k = kI σ o k := if_neg h
theorem kAdd_f {σ : KS} {n w ci : Nat} {f : Nat → Int32} : kI (kAdd σ n w ci f) (100 + n) = f := by funext k; exact if_pos rfl
theorem kAdd_d {σ : KS} {n w ci h : Nat} {f : Nat → Int32} (q : h ≠ n) : kD (kAdd σ n w ci f) h = kD σ h := if_neg q
theorem kAdd_n {σ : KS} {n w ci : Nat} {f : Nat → Int32} : kD (kAdd σ n w ci f) n = (w, ci) := if_pos rfl
section KNEWM
variable {a m tx n : Nat} {σ : KS} {μ : Mm}
theorem KM.new (h : KM a m tx σ μ) (e : MC) (k : Nat) : KM a m tx σ (mnew μ e k) := by
  have hA := h.ad
  obtain ⟨a1, a2, a3, a4, a5, a6, a7, a8⟩ := hA
  refine ⟨fun q hq => ?_, fun q hq => ?_, ⟨?_, ?_, ?_, ?_, ?_⟩, fun i hi => ?_, fun r hr => ?_, ⟨fun i hi => ⟨(a1 i hi).1, Nat.lt_succ_of_lt (a1 i hi).2⟩, fun r hr => ⟨(a2 r hr).1, Nat.le_succ_of_le (a2 r hr).2⟩, a3, a4, a5, Nat.le_succ_of_le a6, a7, a8⟩⟩
  · have := (kO_ok q hq).1; rw [mnew_ne (by omega)]; exact h.1 q hq
  · have := (kRo_ok q hq).1; rw [mnew_ne (by omega)]; exact h.2.1 q hq
  · rw [mnew_ne (by omega)]; exact h.dl
  · rw [mnew_ne (by omega)]; exact h.ul
  · rw [mnew_ne (by omega)]; exact h.sl
  · rw [mnew_ne (by omega)]; exact h.w1
  · rw [mnew_ne (by omega)]; exact h.w2
  · have := (a1 i hi).2; rw [mnew_ne (by omega)]; exact h.d hi
  · have := (a2 r hr).2
    obtain ⟨x1, x2, x3⟩ := h.u hr
    exact ⟨by rw [mnew_ne (by omega)]; exact x1, by rw [mnew_ne (by omega)]; exact x2, by rw [mnew_ne (by omega)]; exact x3⟩
theorem kDl_add {w ci : Nat} {f : Nat → Int32} (hn : n ≤ m) (hn7 : n < 7) : kDl (max m (n + 1)) (kAdd σ n w ci f) = (kDl m σ).set n (some w) := by
  apply List.ext_getElem?
  intro i
  by_cases hi : i < 7
  · rw [kDl, List.getElem?_map, List.getElem?_range hi, List.getElem?_set]
    by_cases e : n = i
    · subst e
      rw [if_pos rfl, if_pos (by simp [kDl]; omega)]
      show some (if n < max m (n + 1) then some (kD (kAdd σ n w ci f) n).1 else none) = _
      rw [if_pos (by omega), kAdd_n]
    · rw [if_neg e, kDl, List.getElem?_map, List.getElem?_range hi]
      show some (if i < max m (n + 1) then some (kD (kAdd σ n w ci f) i).1 else none) = some (if i < m then some (kD σ i).1 else none)
      rw [kAdd_d (Ne.symm e)]
      by_cases q : i < m
      · rw [if_pos q, if_pos (by omega)]
      · rw [if_neg q, if_neg (by omega)]
  · rw [List.getElem?_eq_none (by simp [kDl]; omega), List.getElem?_eq_none (by simp [kDl]; omega)]
theorem KM.addD (h : KM a m tx σ μ) (hn : n ≤ m) (hn7 : n < 7) {w ci : Nat} {f : Nat → Int32} (hw : μ.1 w = some (obj ci (dfs (f 0) (f 1) (f 2) (f 3) (f 4)))) (hw1 : a + 94 ≤ w) (hw2 : w < μ.2.1) (hd : ∀ i, i < m → (kD σ i).1 < w) (hr : ∀ r, r < tx → kU σ r + 3 ≤ w) : KM a (max m (n + 1)) tx (kAdd σ n w ci f) (mupd μ (a + 1) (rar 1 ((kDl m σ).set n (some w)))) := by
  have hA := h.ad
  obtain ⟨a1, a2, a3, a4, a5, a6, a7, a8⟩ := hA
  have ei : ∀ o k, o < 100 → kI (kAdd σ n w ci f) o k = kI σ o k := fun o k ho => kAdd_i (by omega)
  refine ⟨fun q hq => ?_, fun q hq => ?_, ⟨?_, ?_, ?_, ?_, ?_⟩, fun i hi => ?_, fun r hr' => ?_, ⟨fun i hi => ?_, a2, fun i j hi hj e => ?_, a4, fun i r hi hr' => ?_, a6, by omega, a8⟩⟩
  · have q1 := kO_ok q hq
    have q2 : q.1 ≠ 1 := fun e => q1.2.2.1 (by rw [e]; simp)
    rw [mupd_ne (by omega), h.1 q hq, kf_ne (fun k => ei _ _ (by omega)) rfl]
  · have q1 := kRo_ok q hq
    have q2 : q ≠ 1 := fun e => q1.2.1 (by rw [e]; simp)
    rw [mupd_ne (by omega)]; exact h.2.1 q hq
  · rw [mupd_eq, kDl_add hn hn7]
  · rw [mupd_ne (by omega)]; exact h.ul
  · rw [mupd_ne (by omega)]; exact h.sl
  · rw [mupd_ne (by omega)]; exact h.w1
  · rw [mupd_ne (by omega)]; exact h.w2
  · by_cases e : i = n
    · subst e
      rw [kAdd_n, mupd_ne (by show w ≠ a + 1; omega)]
      show μ.1 w = some (obj ci _)
      rw [hw]
      unfold dF
      rw [kAdd_f]
    · have him : i < m := by omega
      have := (a1 i him).1
      rw [kAdd_d e, mupd_ne (by omega), h.d him]
      unfold dF
      rw [kAdd_i (by omega), kAdd_i (by omega), kAdd_i (by omega), kAdd_i (by omega), kAdd_i (by omega)]
  · have := h.ua hr'
    obtain ⟨x1, x2, x3⟩ := h.u hr'
    show (mupd μ (a + 1) _).1 (kU σ r) = some (obj 5 (uF (kAdd σ n w ci f) r)) ∧ (mupd μ (a + 1) _).1 (kU σ r + 1) = _ ∧ (mupd μ (a + 1) _).1 (kU σ r + 2) = _
    refine ⟨?_, by rw [mupd_ne (by omega)]; exact x2, by rw [mupd_ne (by omega)]; exact x3⟩
    rw [mupd_ne (by omega), x1]
    unfold uF
    rw [kAdd_i (by omega), kAdd_i (by omega)]
    rfl
  · by_cases e : i = n
    · subst e; rw [kAdd_n]; exact ⟨hw1, hw2⟩
    · rw [kAdd_d e]; exact a1 i (by omega)
  · by_cases e1 : i = n
    · by_cases e2 : j = n
      · rw [e1, e2]
      · rw [e1, kAdd_n, kAdd_d e2] at e
        have := hd j (by omega)
        have e' : w = (kD σ j).1 := e
        omega
    · by_cases e2 : j = n
      · rw [e2, kAdd_n, kAdd_d e1] at e
        have := hd i (by omega)
        have e' : (kD σ i).1 = w := e
        omega
      · rw [kAdd_d e1, kAdd_d e2] at e
        exact a3 i j (by omega) (by omega) e
  · by_cases e1 : i = n
    · rw [e1, kAdd_n]; exact Or.inr (hr r hr')
    · rw [kAdd_d e1]; exact a5 i r (by omega) hr'
end KNEWM
