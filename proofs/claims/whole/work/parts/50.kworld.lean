/-! ===== the class's world: its object and what hangs on it ===== -/
/-- rows by their places; ints by place and field; doors (place, class); rules' places; a search's two references -/
abbrev KS : Type := (Nat → List Int32) × ((Nat → Nat → Int32) × ((Nat → Nat × Nat) × ((Nat → Nat) × (Nat → Nat × Nat))))
abbrev kI (σ : KS) : Nat → Nat → Int32 := σ.2.1
abbrev kD (σ : KS) : Nat → Nat × Nat := σ.2.2.1
abbrev kU (σ : KS) : Nat → Nat := σ.2.2.2.1
abbrev kT (σ : KS) : Nat → Nat × Nat := σ.2.2.2.2
def ksR (σ : KS) (k : Nat) (l : List Int32) : KS := (fun j => if j = k then l else σ.1 j, σ.2)
def ksI (σ : KS) (o k : Nat) (v : Int32) : KS := (σ.1, (fun p j => if p = o ∧ j = k then v else σ.2.1 p j), σ.2.2)
def ksO (σ : KS) (o : Nat) (f : Nat → Int32) : KS := (σ.1, (fun p => if p = o then f else σ.2.1 p), σ.2.2)
def ksT (σ : KS) (o : Nat) (x : Nat × Nat) : KS := (σ.1, σ.2.1, σ.2.2.1, σ.2.2.2.1, fun p => if p = o then x else σ.2.2.2.2 p)
/-- the fields of the object at place o, of class ci -/
def kf (ci a : Nat) (σ : KS) (o : Nat) : List Value := match ci with
  | 11 => [.ref (a + 1), .int (kI σ o 1), .ref (a + 2), .ref (a + 3), .ref (a + 4), .ref (a + 7), .int (kI σ o 6), .int (kI σ o 7), .ref (a + 8), .ref (a + 9), .ref (a + 10), .ref (a + 11), .ref (a + 12), .ref (a + 29), .int (kI σ o 14), .int (kI σ o 15), .ref (a + 46), .ref (a + 47), .ref (a + 48)]
  | 4 => [.int (kI σ o 0), .int (kI σ o 1), .ref (a + 5), .ref (a + 6), .int (kI σ o 4), .int (kI σ o 5), .int (kI σ o 6), .int (kI σ o 7)]
  | 10 => [.int (kI σ o 0), .int (kI σ o 1), .int (kI σ o 2), .int (kI σ o 3), .int (kI σ o 4), .int (kI σ o 5)]
  | 6 => [.ref (a + (o + 1)), .int (kI σ o 1), .int (kI σ o 2), .int (kI σ o 3), .ref (a + (o + 2)), .ref (a + (o + 3)), .ref (a + (o + 4)), .ref (a + (o + 15)), .ref (a + (o + 16)), .ref (kT σ o).1, .int (kI σ o 10), .ref (kT σ o).2]
  | _ => [.int (kI σ o 0), .int (kI σ o 1), .ref (a + (o + 1))]
def kO : List (Nat × Nat) := [(0, 11), (4, 4), (9, 10), (12, 6), (19, 10), (20, 10), (21, 10), (22, 10), (23, 10), (24, 10), (25, 10), (26, 10), (29, 6), (36, 10), (37, 10), (38, 10), (39, 10), (40, 10), (41, 10), (42, 10), (43, 10), (49, 7), (51, 7), (53, 7), (55, 7)]
/-- int fields that are written behind the constructors -/
def kIf : List (Nat × Nat) := [(11, 1), (11, 6), (11, 7), (11, 14), (11, 15), (4, 0), (4, 1), (4, 4), (4, 5), (4, 6), (4, 7), (6, 1), (6, 2), (6, 10), (10, 0), (10, 1), (10, 2), (10, 3), (10, 4), (10, 5), (7, 0), (7, 1)]
def kRo : List Nat := [2, 3, 5, 6, 10, 11, 13, 15, 16, 18, 27, 28, 30, 32, 33, 35, 44, 45, 46, 47, 48, 50, 52, 54, 56]
def kDl (m : Nat) (σ : KS) : List (Option Nat) := (List.range 7).map (fun h => if h < m then some (kD σ h).1 else none)
def kUl (tx : Nat) (σ : KS) : List (Option Nat) := (List.range 6).map (fun r => if r < tx then some (kU σ r) else none)
def kWl (a o : Nat) : List (Option Nat) := [some (a + o), some (a + (o + 1)), some (a + (o + 2)), some (a + (o + 3)), some (a + (o + 4)), some (a + (o + 5)), some (a + (o + 6)), some (a + (o + 7))]
def kSl (a : Nat) : List (Option Nat) := [some (a + 49), some (a + 51), some (a + 53), some (a + 55)]
def dF (σ : KS) (h : Nat) : List Value := [.int (kI σ (100 + h) 0), .int (kI σ (100 + h) 1), .int (kI σ (100 + h) 2), .int (kI σ (100 + h) 3), .int (kI σ (100 + h) 4)]
def uF (σ : KS) (r : Nat) : List Value := [.ref (kU σ r + 1), .int (kI σ (200 + r) 1), .int (kI σ (200 + r) 2), .ref (kU σ r + 2)]
/-- where doors and rules lie -/
def KA (a m tx : Nat) (σ : KS) (top : Nat) : Prop := (∀ h, h < m → a + 94 ≤ (kD σ h).1 ∧ (kD σ h).1 < top) ∧ (∀ r, r < tx → ((r = 0 ∧ kU σ r = a + 57) ∨ a + 94 ≤ kU σ r) ∧ kU σ r + 3 ≤ top) ∧ (∀ h h', h < m → h' < m → (kD σ h).1 = (kD σ h').1 → h = h') ∧ (∀ r r', r < tx → r' < tx → r = r' ∨ kU σ r + 3 ≤ kU σ r' ∨ kU σ r' + 3 ≤ kU σ r) ∧ (∀ h r, h < m → r < tx → (kD σ h).1 < kU σ r ∨ kU σ r + 3 ≤ (kD σ h).1) ∧ a + 94 ≤ top ∧ m ≤ 7 ∧ tx ≤ 6
def KM (a m tx : Nat) (σ : KS) (μ : Mm) : Prop :=
  (∀ q ∈ kO, μ.1 (a + q.1) = some (obj q.2 (kf q.2 a σ q.1))) ∧ (∀ q ∈ kRo, μ.1 (a + q) = some (iar (σ.1 q))) ∧
  (μ.1 (a + 1) = some (rar 1 (kDl m σ)) ∧ μ.1 (a + 7) = some (rar 2 (kUl tx σ)) ∧ μ.1 (a + 8) = some (rar 3 (kSl a)) ∧ μ.1 (a + 14) = some (rar 4 (kWl a 19)) ∧ μ.1 (a + 31) = some (rar 4 (kWl a 36))) ∧
  (∀ h, h < m → μ.1 (kD σ h).1 = some (obj (kD σ h).2 (dF σ h))) ∧
  (∀ r, r < tx → μ.1 (kU σ r) = some (obj 5 (uF σ r)) ∧ μ.1 (kU σ r + 1) = some (iar (σ.1 (200 + 3 * r))) ∧ μ.1 (kU σ r + 2) = some (iar (σ.1 (201 + 3 * r)))) ∧ KA a m tx σ μ.2.1
/-- the reference's cells stay as they are, and so does the heap's size -/
def FC (a : Nat) (μ0 μ : Mm) : Prop := μ.2 = μ0.2 ∧ ∀ q, a + 60 ≤ q ∧ q < a + 94 → μ.1 q = μ0.1 q
theorem FC.rf {a : Nat} {μ : Mm} : FC a μ μ := ⟨rfl, fun _ _ => rfl⟩
theorem FC.tr {a : Nat} {μ μ1 μ2 : Mm} (h : FC a μ μ1) (k : FC a μ1 μ2) : FC a μ μ2 := ⟨k.1.trans h.1, fun q hq => (k.2 q hq).trans (h.2 q hq)⟩
theorem FC.upd {a c : Nat} {μ μ1 : Mm} {e : MC} (h : FC a μ μ1) (ho : ¬ (a + 60 ≤ c ∧ c < a + 94)) : FC a μ (mupd μ1 c e) := ⟨h.1, fun q hq => by rw [mupd_ne (by omega)]; exact h.2 q hq⟩
theorem kO_ok : ∀ q ∈ kO, q.1 < 57 ∧ q.1 ∉ kRo ∧ q.1 ∉ [1, 7, 8, 14, 31] ∧ ∀ p ∈ kO, p.1 = q.1 → p.2 = q.2 := by decide
theorem kRo_ok : ∀ q ∈ kRo, q < 57 ∧ q ∉ [1, 7, 8, 14, 31] ∧ ∀ p ∈ kO, p.1 ≠ q := by decide
section KMS
variable {a m tx : Nat} {σ : KS} {μ : Mm}
theorem KM.o (h : KM a m tx σ μ) (o ci : Nat) (hq : (o, ci) ∈ kO) : μ.1 (a + o) = some (obj ci (kf ci a σ o)) := h.1 (o, ci) hq
theorem KM.r (h : KM a m tx σ μ) (k : Nat) (hq : k ∈ kRo) : μ.1 (a + k) = some (iar (σ.1 k)) := h.2.1 k hq
theorem KM.dl (h : KM a m tx σ μ) : μ.1 (a + 1) = some (rar 1 (kDl m σ)) := h.2.2.1.1
theorem KM.ul (h : KM a m tx σ μ) : μ.1 (a + 7) = some (rar 2 (kUl tx σ)) := h.2.2.1.2.1
theorem KM.sl (h : KM a m tx σ μ) : μ.1 (a + 8) = some (rar 3 (kSl a)) := h.2.2.1.2.2.1
theorem KM.w1 (h : KM a m tx σ μ) : μ.1 (a + 14) = some (rar 4 (kWl a 19)) := h.2.2.1.2.2.2.1
theorem KM.w2 (h : KM a m tx σ μ) : μ.1 (a + 31) = some (rar 4 (kWl a 36)) := h.2.2.1.2.2.2.2
theorem KM.d (h : KM a m tx σ μ) {i : Nat} (hi : i < m) : μ.1 (kD σ i).1 = some (obj (kD σ i).2 (dF σ i)) := h.2.2.2.1 i hi
theorem KM.u (h : KM a m tx σ μ) {r : Nat} (hr : r < tx) : μ.1 (kU σ r) = some (obj 5 (uF σ r)) ∧ μ.1 (kU σ r + 1) = some (iar (σ.1 (200 + 3 * r))) ∧ μ.1 (kU σ r + 2) = some (iar (σ.1 (201 + 3 * r))) := h.2.2.2.2.1 r hr
theorem KM.ad (h : KM a m tx σ μ) : KA a m tx σ μ.2.1 := h.2.2.2.2.2
theorem KM.da (h : KM a m tx σ μ) {i : Nat} (hi : i < m) : a + 94 ≤ (kD σ i).1 := (h.ad.1 i hi).1
theorem KM.ua (h : KM a m tx σ μ) {r : Nat} (hr : r < tx) : kU σ r = a + 57 ∨ a + 94 ≤ kU σ r := (h.ad.2.1 r hr).1.elim (fun q => Or.inl q.2) Or.inr
theorem KM.frame (h : KM a m tx σ μ) {μ' : Mm} (h2 : μ'.2 = μ.2) (h1 : ∀ q, ¬ (a + 60 ≤ q ∧ q < a + 94) → μ'.1 q = μ.1 q) : KM a m tx σ μ' := by
  refine ⟨fun q hq => ?_, fun q hq => ?_, ⟨?_, ?_, ?_, ?_, ?_⟩, fun i hi => ?_, fun r hr => ?_, by rw [h2]; exact h.ad⟩
  · have := (kO_ok q hq).1; rw [h1 _ (by omega)]; exact h.1 q hq
  · have := (kRo_ok q hq).1; rw [h1 _ (by omega)]; exact h.2.1 q hq
  · rw [h1 _ (by omega)]; exact h.dl
  · rw [h1 _ (by omega)]; exact h.ul
  · rw [h1 _ (by omega)]; exact h.sl
  · rw [h1 _ (by omega)]; exact h.w1
  · rw [h1 _ (by omega)]; exact h.w2
  · have := h.da hi; rw [h1 _ (by omega)]; exact h.d hi
  · have := h.ua hr
    obtain ⟨x1, x2, x3⟩ := h.u hr
    exact ⟨by rw [h1 _ (by omega)]; exact x1, by rw [h1 _ (by omega)]; exact x2, by rw [h1 _ (by omega)]; exact x3⟩
theorem KM.setR (h : KM a m tx σ μ) {k : Nat} (hk : k ∈ kRo) (l : List Int32) : KM a m tx (ksR σ k l) (mupd μ (a + k) (iar l)) := by
  have hk57 := kRo_ok k hk
  have hne : ∀ z ∈ [1, 7, 8, 14, 31], z ≠ k := fun z hz e => hk57.2.1 (e ▸ hz)
  refine ⟨fun q hq => ?_, fun q hq => ?_, ⟨?_, ?_, ?_, ?_, ?_⟩, fun i hi => ?_, fun r hr => ?_, h.ad⟩
  · have := hk57.2.2 q hq; rw [mupd_ne (by omega)]; exact h.1 q hq
  · by_cases e : q = k
    · subst e; rw [mupd_eq]; simp [ksR]
    · rw [mupd_ne (by omega), h.2.1 q hq]; simp [ksR, e]
  · have := hne 1 (by decide); rw [mupd_ne (by omega)]; exact h.dl
  · have := hne 7 (by decide); rw [mupd_ne (by omega)]; exact h.ul
  · have := hne 8 (by decide); rw [mupd_ne (by omega)]; exact h.sl
  · have := hne 14 (by decide); rw [mupd_ne (by omega)]; exact h.w1
  · have := hne 31 (by decide); rw [mupd_ne (by omega)]; exact h.w2
  · have := h.da hi; show (mupd μ (a + k) (iar l)).1 (kD σ i).1 = _; rw [mupd_ne (by omega)]; exact h.d hi
  · have := h.ua hr
    obtain ⟨x1, x2, x3⟩ := h.u hr
    have e1 : (ksR σ k l).1 (200 + 3 * r) = σ.1 (200 + 3 * r) := by simp only [ksR]; rw [if_neg (by omega)]
    have e2 : (ksR σ k l).1 (201 + 3 * r) = σ.1 (201 + 3 * r) := by simp only [ksR]; rw [if_neg (by omega)]
    rw [e1, e2]
    show (mupd μ (a + k) (iar l)).1 (kU σ r) = _ ∧ (mupd μ (a + k) (iar l)).1 (kU σ r + 1) = _ ∧ (mupd μ (a + k) (iar l)).1 (kU σ r + 2) = _
    exact ⟨by rw [mupd_ne (by omega)]; exact x1, by rw [mupd_ne (by omega)]; exact x2, by rw [mupd_ne (by omega)]; exact x3⟩
/-- a rule's stack is written -/
theorem KM.setS (h : KM a m tx σ μ) {t : Nat} (ht : t < tx) (l : List Int32) : KM a m tx (ksR σ (201 + 3 * t) l) (mupd μ (kU σ t + 2) (iar l)) := by
  have hut := h.ua ht
  have hA := h.ad
  refine ⟨fun q hq => ?_, fun q hq => ?_, ⟨?_, ?_, ?_, ?_, ?_⟩, fun i hi => ?_, fun r hr => ?_, h.ad⟩
  · have := (kO_ok q hq).1; rw [mupd_ne (by omega)]; exact h.1 q hq
  · have := (kRo_ok q hq).1; rw [mupd_ne (by omega), h.2.1 q hq]; simp only [ksR]; rw [if_neg (by omega)]
  · rw [mupd_ne (by omega)]; exact h.dl
  · rw [mupd_ne (by omega)]; exact h.ul
  · rw [mupd_ne (by omega)]; exact h.sl
  · rw [mupd_ne (by omega)]; exact h.w1
  · rw [mupd_ne (by omega)]; exact h.w2
  · have := hA.2.2.2.2.1 i t hi ht; show (mupd μ (kU σ t + 2) (iar l)).1 (kD σ i).1 = _; rw [mupd_ne (by omega)]; exact h.d hi
  · have := hA.2.2.2.1 r t hr ht
    obtain ⟨x1, x2, x3⟩ := h.u hr
    have e1 : (ksR σ (201 + 3 * t) l).1 (200 + 3 * r) = σ.1 (200 + 3 * r) := by simp only [ksR]; rw [if_neg (by omega)]
    rw [e1]
    show (mupd μ (kU σ t + 2) (iar l)).1 (kU σ r) = _ ∧ (mupd μ (kU σ t + 2) (iar l)).1 (kU σ r + 1) = _ ∧ (mupd μ (kU σ t + 2) (iar l)).1 (kU σ r + 2) = _
    by_cases e : r = t
    · subst e
      refine ⟨by rw [mupd_ne (by omega)]; exact x1, by rw [mupd_ne (by omega)]; exact x2, ?_⟩
      rw [mupd_eq]; simp [ksR]
    · refine ⟨by rw [mupd_ne (by omega)]; exact x1, by rw [mupd_ne (by omega)]; exact x2, ?_⟩
      rw [mupd_ne (by omega), x3]; simp only [ksR]; rw [if_neg (by omega)]
theorem kf_I {ci a o k : Nat} {σ : KS} {v : Int32} (hk : (ci, k) ∈ kIf) : kf ci a (ksI σ o k v) o = (kf ci a σ o).set k (.int v) := by
  simp only [kIf, List.mem_cons, Prod.mk.injEq, List.not_mem_nil, or_false] at hk
  rcases hk with h | h | h | h | h | h | h | h | h | h | h | h | h | h | h | h | h | h | h | h | h | h <;> obtain ⟨rfl, rfl⟩ := h <;> simp [kf, ksI, kI]
theorem kf_ne {ci a p : Nat} {σ σ' : KS} (h1 : ∀ k, kI σ' p k = kI σ p k) (h2 : kT σ' p = kT σ p) : kf ci a σ' p = kf ci a σ p := by
  unfold kf
  simp only [h1, h2]
theorem ksI_ne {σ : KS} {o k p j : Nat} {v : Int32} (h : p ≠ o) : kI (ksI σ o k v) p j = kI σ p j := by
  show (if p = o ∧ j = k then v else σ.2.1 p j) = _
  rw [if_neg (fun q => h q.1)]
theorem ksO_ne {σ : KS} {o p j : Nat} {f : Nat → Int32} (h : p ≠ o) : kI (ksO σ o f) p j = kI σ p j := by
  show (if p = o then f else σ.2.1 p) j = _
  rw [if_neg h]
theorem ksO_eq {σ : KS} {o : Nat} {f : Nat → Int32} : kI (ksO σ o f) o = f := by
  show (if o = o then f else σ.2.1 o) = _
  rw [if_pos rfl]
/-- an object's ints have changed -/
theorem KM.obj1 (h : KM a m tx σ μ) {o ci : Nat} (ho : (o, ci) ∈ kO) {σ' : KS} (e1 : σ'.1 = σ.1) (e2 : ∀ p, p ≠ o → ∀ k, kI σ' p k = kI σ p k) (e3 : σ'.2.2 = σ.2.2) : KM a m tx σ' (mupd μ (a + o) (obj ci (kf ci a σ' o))) := by
  have ho57 := kO_ok (o, ci) ho
  have hne : ∀ z ∈ [1, 7, 8, 14, 31], z ≠ o := fun z hz e => ho57.2.2.1 (e ▸ hz)
  have eD : kD σ' = kD σ := by show σ'.2.2.1 = _; rw [e3]
  have eU : kU σ' = kU σ := by show σ'.2.2.2.1 = _; rw [e3]
  have eT : kT σ' = kT σ := by show σ'.2.2.2.2 = _; rw [e3]
  have ho1 : o < 57 := ho57.1
  refine ⟨fun q hq => ?_, fun q hq => ?_, ⟨?_, ?_, ?_, ?_, ?_⟩, fun i hi => ?_, fun r hr => ?_, ?_⟩
  · by_cases e : q.1 = o
    · have e' : q.2 = ci := ho57.2.2.2 q hq e
      rw [e, e', mupd_eq]
    · rw [mupd_ne (by omega), h.1 q hq, kf_ne (fun k => e2 q.1 e k) (by rw [eT])]
  · have := (kRo_ok q hq).2.2 _ ho; rw [mupd_ne (by simp only at this; omega), h.2.1 q hq, e1]
  · have := hne 1 (by decide); rw [mupd_ne (by omega), h.dl]; simp only [kDl, eD]
  · have := hne 7 (by decide); rw [mupd_ne (by omega), h.ul]; simp only [kUl, eU]
  · have := hne 8 (by decide); rw [mupd_ne (by omega)]; exact h.sl
  · have := hne 14 (by decide); rw [mupd_ne (by omega)]; exact h.w1
  · have := hne 31 (by decide); rw [mupd_ne (by omega)]; exact h.w2
  · have := h.da hi
    rw [eD, mupd_ne (by omega), h.d hi]
    simp only [dF]
    rw [e2 _ (by omega), e2 _ (by omega), e2 _ (by omega), e2 _ (by omega), e2 _ (by omega)]
  · have := h.ua hr
    obtain ⟨x1, x2, x3⟩ := h.u hr
    rw [eU, e1]
    refine ⟨?_, by rw [mupd_ne (by omega)]; exact x2, by rw [mupd_ne (by omega)]; exact x3⟩
    rw [mupd_ne (by omega), x1]
    simp only [uF, eU]
    rw [e2 _ (by omega), e2 _ (by omega)]
  · have hA := h.ad
    unfold KA at hA ⊢
    rw [eD, eU]
    exact hA
theorem KM.setI (h : KM a m tx σ μ) {o ci k : Nat} (ho : (o, ci) ∈ kO) (hk : (ci, k) ∈ kIf) (v : Int32) : KM a m tx (ksI σ o k v) (mupd μ (a + o) (obj ci ((kf ci a σ o).set k (.int v)))) := by
  rw [← kf_I hk]
  exact h.obj1 ho rfl (fun p hp k => ksI_ne hp) rfl
theorem KM.setO (h : KM a m tx σ μ) {o ci : Nat} (ho : (o, ci) ∈ kO) (f : Nat → Int32) : KM a m tx (ksO σ o f) (mupd μ (a + o) (obj ci (kf ci a (ksO σ o f) o))) :=
  h.obj1 ho rfl (fun p hp k => ksO_ne hp) rfl
/-- a door's facts have changed -/
theorem KM.setD (h : KM a m tx σ μ) {j : Nat} (hj : j < m) (f : Nat → Int32) : KM a m tx (ksO σ (100 + j) f) (mupd μ (kD σ j).1 (obj (kD σ j).2 (dF (ksO σ (100 + j) f) j))) := by
  have hjd := h.da hj
  have hA := h.ad
  have hj7 : j < 7 := Nat.lt_of_lt_of_le hj hA.2.2.2.2.2.2.1
  refine ⟨fun q hq => ?_, fun q hq => ?_, ⟨?_, ?_, ?_, ?_, ?_⟩, fun i hi => ?_, fun r hr => ?_, h.ad⟩
  · have := (kO_ok q hq).1; rw [mupd_ne (by omega), h.1 q hq, kf_ne (fun k => ksO_ne (by omega)) rfl]
  · have := (kRo_ok q hq).1; rw [mupd_ne (by omega)]; exact h.2.1 q hq
  · rw [mupd_ne (by omega)]; exact h.dl
  · rw [mupd_ne (by omega)]; exact h.ul
  · rw [mupd_ne (by omega)]; exact h.sl
  · rw [mupd_ne (by omega)]; exact h.w1
  · rw [mupd_ne (by omega)]; exact h.w2
  · by_cases e : i = j
    · subst e; rw [show kD (ksO σ (100 + i) f) = kD σ from rfl, mupd_eq]
    · have := fun q => e (hA.2.2.1 i j hi hj q)
      rw [show kD (ksO σ (100 + j) f) = kD σ from rfl, mupd_ne this, h.d hi]
      simp only [dF]
      rw [ksO_ne (by omega), ksO_ne (by omega), ksO_ne (by omega), ksO_ne (by omega), ksO_ne (by omega)]
  · have := hA.2.2.2.2.1 j r hj hr
    have hr6 : r < 6 := Nat.lt_of_lt_of_le hr hA.2.2.2.2.2.2.2
    obtain ⟨x1, x2, x3⟩ := h.u hr
    rw [show kU (ksO σ (100 + j) f) = kU σ from rfl]
    refine ⟨?_, by rw [mupd_ne (by omega)]; exact x2, by rw [mupd_ne (by omega)]; exact x3⟩
    rw [mupd_ne (by omega), x1]
    simp only [uF]
    rw [ksO_ne (by omega), ksO_ne (by omega)]
    rfl
/-- a search's references have changed -/
theorem KM.setT (h : KM a m tx σ μ) {o : Nat} (ho : (o, 6) ∈ kO) (x : Nat × Nat) : KM a m tx (ksT σ o x) (mupd μ (a + o) (obj 6 (kf 6 a (ksT σ o x) o))) := by
  have ho57 := kO_ok (o, 6) ho
  have hne : ∀ z ∈ [1, 7, 8, 14, 31], z ≠ o := fun z hz e => ho57.2.2.1 (e ▸ hz)
  have ho1 : o < 57 := ho57.1
  refine ⟨fun q hq => ?_, fun q hq => ?_, ⟨?_, ?_, ?_, ?_, ?_⟩, fun i hi => ?_, fun r hr => ?_, h.ad⟩
  · by_cases e : q.1 = o
    · have e' : q.2 = 6 := ho57.2.2.2 q hq e
      rw [e, e', mupd_eq]
    · rw [mupd_ne (by omega), h.1 q hq, kf_ne (σ := σ) (σ' := ksT σ o x) (fun k => rfl) (by show (if q.1 = o then x else _) = _; rw [if_neg e])]
  · have := (kRo_ok q hq).2.2 _ ho; rw [mupd_ne (by simp only at this; omega)]; exact h.2.1 q hq
  · have := hne 1 (by decide); rw [mupd_ne (by omega)]; exact h.dl
  · have := hne 7 (by decide); rw [mupd_ne (by omega)]; exact h.ul
  · have := hne 8 (by decide); rw [mupd_ne (by omega)]; exact h.sl
  · have := hne 14 (by decide); rw [mupd_ne (by omega)]; exact h.w1
  · have := hne 31 (by decide); rw [mupd_ne (by omega)]; exact h.w2
  · have := h.da hi; show (mupd μ (a + o) _).1 (kD σ i).1 = _; rw [mupd_ne (by omega)]; exact h.d hi
  · have := h.ua hr
    obtain ⟨x1, x2, x3⟩ := h.u hr
    show (mupd μ (a + o) _).1 (kU σ r) = _ ∧ (mupd μ (a + o) _).1 (kU σ r + 1) = _ ∧ (mupd μ (a + o) _).1 (kU σ r + 2) = _
    exact ⟨by rw [mupd_ne (by omega)]; exact x1, by rw [mupd_ne (by omega)]; exact x2, by rw [mupd_ne (by omega)]; exact x3⟩
end KMS
/-- alike but for some rows and the ints of some objects -/
def EqK (A I : List Nat) (σ' σ : KS) : Prop := (∀ k, k ∉ A → σ'.1 k = σ.1 k) ∧ (∀ o, o ∉ I → ∀ k, kI σ' o k = kI σ o k) ∧ σ'.2.2 = σ.2.2
theorem EqK.rf {A I : List Nat} {σ : KS} : EqK A I σ σ := ⟨fun _ _ => rfl, fun _ _ _ => rfl, rfl⟩
theorem EqK.tr {A I : List Nat} {x y z : KS} (h : EqK A I x y) (k : EqK A I y z) : EqK A I x z := ⟨fun q hq => (h.1 q hq).trans (k.1 q hq), fun o ho j => (h.2.1 o ho j).trans (k.2.1 o ho j), h.2.2.trans k.2.2⟩
theorem EqK.wd {A I A' I' : List Nat} {x y : KS} (h : EqK A I x y) (hA : ∀ k ∈ A, k ∈ A') (hI : ∀ k ∈ I, k ∈ I') : EqK A' I' x y := ⟨fun q hq => h.1 q (fun n => hq (hA q n)), fun o ho => h.2.1 o (fun n => ho (hI o n)), h.2.2⟩
theorem EqK.sR {A I : List Nat} {x y : KS} (h : EqK A I x y) {k : Nat} {l : List Int32} (hk : k ∈ A) : EqK A I (ksR x k l) y := by
  refine ⟨fun q hq => ?_, h.2⟩
  show (if q = k then l else x.1 q) = _
  rw [if_neg (fun e : q = k => hq (e ▸ hk))]
  exact h.1 q hq
theorem EqK.sI {A I : List Nat} {x y : KS} (h : EqK A I x y) {o k : Nat} {v : Int32} (hk : o ∈ I) : EqK A I (ksI x o k v) y :=
  ⟨h.1, fun p hp j => by rw [ksI_ne (fun e : p = o => hp (e ▸ hk))]; exact h.2.1 p hp j, h.2.2⟩
theorem EqK.sO {A I : List Nat} {x y : KS} (h : EqK A I x y) {o : Nat} {f : Nat → Int32} (hk : o ∈ I) : EqK A I (ksO x o f) y :=
  ⟨h.1, fun p hp j => by rw [ksO_ne (fun e : p = o => hp (e ▸ hk))]; exact h.2.1 p hp j, h.2.2⟩
section EVK
variable {g : Gl} {d : Nat} {Y : Md} {pc : Nat} {ls : List (Option Value)} {st : List Value} {μ μ0 : Mm} {Q : Option Value → Mm → Prop} {a m tx : Nat} {σ : KS}
theorem kIf_lt : ∀ q ∈ kIf, ∀ a σ o, q.2 < (kf q.1 a σ o).length := by
  intro q hq a σ o
  have : q.1 ∈ [11, 4, 6, 10, 7] ∧ q.2 < (if q.1 = 11 then 19 else if q.1 = 4 then 8 else if q.1 = 6 then 12 else if q.1 = 10 then 6 else 3) := by
    revert q; decide
  obtain ⟨h1, h2⟩ := this
  obtain ⟨x, y⟩ := q
  simp only [List.mem_cons, List.not_mem_nil, or_false] at h1
  dsimp only at h2 ⊢
  rcases h1 with rfl | rfl | rfl | rfl | rfl <;> exact h2
theorem evK_iast {k j : Nat} {i x : Int32} (hM : KM a m tx σ μ) (hF : FC a μ0 μ) (hk : k ∈ kRo) (hd : decode (mC Y) pc = .ok (.iastore, 1)) (hx : ix i j) (hj : j < (σ.1 k).length) (kk : ∀ μ1, KM a m tx (ksR σ k ((σ.1 k).set j x)) μ1 → FC a μ0 μ1 → Ev g d Y (pc + 1) ls st μ1 Q) : Ev g d Y pc ls (.int x :: .int i :: .ref (a + k) :: st) μ Q :=
  ev_iast hd (hM.r k hk) hx hj (kk _ (hM.setR hk _) (hF.upd (by have := (kRo_ok k hk).1; omega)))
theorem evK_put {o ci k idx : Nat} {ty : FieldType} {v : Int32} (hM : KM a m tx σ μ) (hF : FC a μ0 μ) (ho : (o, ci) ∈ kO) (hk : (ci, k) ∈ kIf) (hd : decode (mC Y) pc = .ok (.putfield idx, 3)) (hf : FP (mY Y).cls idx ci k ty false) (hn : narrow ty (.int v) = .int v) (hfit : fits ty (.int v) = true) (kk : ∀ μ1, KM a m tx (ksI σ o k v) μ1 → FC a μ0 μ1 → Ev g d Y (pc + 3) ls st μ1 Q) : Ev g d Y pc ls (.int v :: .ref (a + o) :: st) μ Q :=
  ev_put hd hf (hM.o o ci ho) (kIf_lt _ hk _ _ _) hn hfit (kk _ (hM.setI ho hk _) (hF.upd (by have := (kO_ok _ ho).1; simp only at this; omega)))
end EVK
