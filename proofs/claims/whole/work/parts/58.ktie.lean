/-! ===== the class's world is the reference's state ===== -/
def kLen : List (Nat × Nat) := [(2, 7), (3, 10), (5, 160), (6, 160), (10, 7), (11, 7), (13, 7), (15, 7), (16, 7), (27, 0), (28, 0), (30, 7), (32, 7), (33, 7), (44, 756), (45, 756), (46, 7), (47, 10), (48, 28), (50, 40), (52, 40), (54, 40), (56, 40)]
def KLn (σ : KS) : Prop := ∀ q ∈ kLen, (σ.1 q.1).length = q.2
def KHs (ρ : MS) (n m : Nat) (σ : KS) : Prop := n ≤ m ∧ kI σ 0 1 = nI n ∧ ∀ h, h < n → KC (kD σ h).2 (Fc ρ 0 h) ∧ kI σ (100 + h) 0 = nI h ∧ ∀ k, k < 4 → kI σ (100 + h) (k + 1) = Fc ρ (k + 1) h
def KLs (n : Nat) (Lf : Nat → Nat) (σ : KS) : Prop := ∀ i, i < n → (σ.1 2)[i]? = some (nI (Lf i))
def KRd (ρ : MS) (σ : KS) : Prop := kI σ 4 0 = ρ.2 15 ∧ ∀ i c, i < (ρ.2 15).toInt.toNat → (ρ.1 10)[i]? = some c → (σ.1 5)[i]? = some c
def KRu (t tx : Nat) (cd : Nat → List Int32) (σ : KS) : Prop := kI σ 0 6 = nI tx ∧ kI σ 0 7 = nI t ∧ ∀ r, r < tx → σ.1 (200 + 3 * r) = (cd (3 * r) ++ cd (3 * r + 1) ++ cd (3 * r + 2)).map en ∧ kI σ (200 + r) 1 = nI (cd (3 * r)).length ∧ kI σ (200 + r) 2 = nI ((cd (3 * r)).length + (cd (3 * r + 1)).length) ∧ (σ.1 (201 + 3 * r)).length = 32 ∧ (cd (3 * r)).length + (cd (3 * r + 1)).length + (cd (3 * r + 2)).length ≤ 160 ∧ ∀ w, w < 3 → HB (cd (3 * r + w))
def KSh (ρ : MS) (σ : KS) : Prop := ∀ s, s < 4 → kI σ (49 + 2 * s) 0 = (ρ.1 33).getD s 0 ∧ kI σ (49 + 2 * s) 1 = (ρ.1 34).getD s 0 ∧ ∀ i, i < ((ρ.1 34).getD s 0).toInt.toNat → (σ.1 (50 + 2 * s)).getD i 0 = (ρ.1 35).getD (40 * s + i) 0
/-- an image that is kept: so many houses, that rule, that list -/
def KImg (ρ : MS) (n tx kn kt : Nat) (kL : Nat → Nat) : Prop := (ρ.1 29).getD 45 0 = nI kn ∧ kn ≤ n ∧ (ρ.1 29).getD 46 0 = nI kt ∧ kt < tx ∧ (∀ i, i < kn → (ρ.1 29).getD (28 + i) 0 = nI (kL i) ∧ kL i < kn) ∧ (∀ h, h < kn → ∃ i, i < kn ∧ kL i = h) ∧ (∀ h, h < 7 → rg ((ρ.1 29).getD h 0) 0 9 ∧ rg ((ρ.1 29).getD (7 + h) 0) 0 99 ∧ rg ((ρ.1 29).getD (14 + h) 0) 0 1 ∧ rg ((ρ.1 29).getD (21 + h) 0) 0 3) ∧ VS (fun i => (ρ.1 29).getD (35 + i) 0)
def KKp (ρ : MS) (n tx : Nat) (σ : KS) : Prop := (ρ.2 30 = 0 ∧ kI σ 0 14 = -1) ∨ (ρ.2 30 = 1 ∧ ∃ kn kt kL, KImg ρ n tx kn kt kL ∧ kI σ 0 14 = nI kn ∧ kI σ 0 15 = nI kt ∧ (∀ i, i < kn → (σ.1 46)[i]? = some (nI (kL i))) ∧ (∀ i, i < 10 → (σ.1 47).getD i 0 = (ρ.1 29).getD (35 + i) 0) ∧ ∀ h, h < kn → ∀ w, w < 4 → (σ.1 48).getD (4 * h + w) 0 = (ρ.1 29).getD (7 * w + h) 0)
/-- the state that the found orders speak of: row 99 is no row of the reference: THICK and the like as they were when they were found -/
def gst (ρ : MS) : MS := setA ρ 6 (ρ.1 99)
def KBs (ρ : MS) (n t : Nat) (cd : Nat → List Int32) (σ : KS) : Prop := ∀ so, so < 2 → kI σ (12 + 17 * so) 3 = nI so ∧ (kI σ (12 + 17 * so) 2 = 0 ∨ (kI σ (12 + 17 * so) 2 = 1 ∧ kI σ (12 + 17 * so) 1 = (if so = 0 then 0 - (bst (gst ρ) n t cd 0).1 else (bst (gst ρ) n t cd 1).1) ∧ ∀ i, i < n → (σ.1 (12 + 17 * so + 1))[i]? = some (nI ((bst (gst ρ) n t cd (nI so)).2.getD i 0))))
def KTie (ρ : MS) (n t tx : Nat) (cd : Nat → List Int32) (Lf : Nat → Nat) (m : Nat) (σ : KS) : Prop := KLn σ ∧ σ.1 3 = ρ.1 6 ∧ KHs ρ n m σ ∧ KLs n Lf σ ∧ KRd ρ σ ∧ KRu t tx cd σ ∧ KSh ρ σ ∧ KKp ρ n tx σ ∧ KBs ρ n t cd σ
/-- what a round leaves as it was -/
def ScK (t : Nat) (σ' σ : KS) : Prop := EqK [10, 11, 201 + 3 * t] [9] σ' σ ∧ (σ'.1 10).length = (σ.1 10).length ∧ (σ'.1 11).length = (σ.1 11).length ∧ (σ'.1 (201 + 3 * t)).length = (σ.1 (201 + 3 * t)).length
theorem ScK.rf {t : Nat} {σ : KS} : ScK t σ σ := ⟨EqK.rf, rfl, rfl, rfl⟩
theorem ScK.tr {t : Nat} {x y z : KS} (h : ScK t x y) (k : ScK t y z) : ScK t x z := ⟨h.1.tr k.1, h.2.1.trans k.2.1, h.2.2.1.trans k.2.2.1, h.2.2.2.trans k.2.2.2⟩
theorem ScK.o {t : Nat} {x y : KS} (h : ScK t x y) {f : Nat → Int32} : ScK t (ksO x 9 f) y := ⟨h.1.sO (by simp), h.2.1, h.2.2.1, h.2.2.2⟩
theorem ScK.r10 {t : Nat} {x y : KS} (h : ScK t x y) {l : List Int32} (hl : l.length = (x.1 10).length) : ScK t (ksR x 10 l) y := by
  refine ⟨h.1.sR (by simp), ?_, ?_, ?_⟩
  · show (if 10 = 10 then l else x.1 10).length = _; rw [if_pos rfl, hl]; exact h.2.1
  · show (if 11 = 10 then l else _).length = _; rw [if_neg (by decide)]; exact h.2.2.1
  · show (if 201 + 3 * t = 10 then l else _).length = _; rw [if_neg (by omega)]; exact h.2.2.2
theorem ScK.r11 {t : Nat} {x y : KS} (h : ScK t x y) {l : List Int32} (hl : l.length = (x.1 11).length) : ScK t (ksR x 11 l) y := by
  refine ⟨h.1.sR (by simp), ?_, ?_, ?_⟩
  · show (if 10 = 11 then l else _).length = _; rw [if_neg (by decide)]; exact h.2.1
  · show (if 11 = 11 then l else x.1 11).length = _; rw [if_pos rfl, hl]; exact h.2.2.1
  · show (if 201 + 3 * t = 11 then l else _).length = _; rw [if_neg (by omega)]; exact h.2.2.2
theorem ScK.rs {t : Nat} {x y : KS} (h : ScK t x y) {l : List Int32} (hl : l.length = (x.1 (201 + 3 * t)).length) : ScK t (ksR x (201 + 3 * t) l) y := by
  refine ⟨h.1.sR (by simp), ?_, ?_, ?_⟩
  · show (if 10 = 201 + 3 * t then l else _).length = _; rw [if_neg (by omega)]; exact h.2.1
  · show (if 11 = 201 + 3 * t then l else _).length = _; rw [if_neg (by omega)]; exact h.2.2.1
  · show (if 201 + 3 * t = 201 + 3 * t then l else x.1 (201 + 3 * t)).length = _; rw [if_pos rfl, hl]; exact h.2.2.2
theorem ScK.row {t : Nat} {x y : KS} (h : ScK t x y) {k : Nat} (h1 : k ≠ 10) (h2 : k ≠ 11) (h3 : k ≠ 201 + 3 * t) : x.1 k = y.1 k := h.1.1 k (by simp only [List.mem_cons, List.not_mem_nil, or_false]; omega)
theorem ScK.int {t : Nat} {x y : KS} (h : ScK t x y) {o : Nat} (h1 : o ≠ 9) (k : Nat) : kI x o k = kI y o k := h.1.2.1 o (by simp; exact h1) k
theorem ScK.rest {t : Nat} {x y : KS} (h : ScK t x y) : kD x = kD y ∧ kU x = kU y ∧ kT x = kT y := ⟨congrArg (fun z => z.1) h.1.2.2, congrArg (fun z => z.2.1) h.1.2.2, congrArg (fun z => z.2.2) h.1.2.2⟩
theorem KLn.sc {t : Nat} {x y : KS} (h : KLn y) (e : ScK t x y) : KLn x := by
  intro q hq
  by_cases h1 : q.1 = 10
  · rw [h1, e.2.1, ← h1]; exact h q hq
  · by_cases h2 : q.1 = 11
    · rw [h2, e.2.2.1, ← h2]; exact h q hq
    · have h200 : ∀ q ∈ kLen, q.1 < 200 := by decide
      have := h200 q hq
      rw [e.row h1 h2 (by omega)]; exact h q hq
theorem KTie.sc {ρ : MS} {n t tx : Nat} {cd : Nat → List Int32} {Lf : Nat → Nat} {m : Nat} {x y : KS} (h : KTie ρ n t tx cd Lf m y) (e : ScK t x y) : KTie ρ n t tx cd Lf m x := by
  obtain ⟨h1, h2, h3, h4, h5, h6, h7, h8, h9⟩ := h
  have eD := e.rest.1
  refine ⟨h1.sc e, ?_, ?_, ?_, ?_, ?_, ?_, ?_, ?_⟩
  · rw [e.row (by decide) (by decide) (by omega)]; exact h2
  · refine ⟨h3.1, (e.int (by decide) 1).trans h3.2.1, fun h hh => ?_⟩
    obtain ⟨x1, x2, x3⟩ := h3.2.2 h hh
    rw [eD]
    exact ⟨x1, (e.int (by omega) 0).trans x2, fun k hk => (e.int (by omega) _).trans (x3 k hk)⟩
  · intro i hi; rw [e.row (by decide) (by decide) (by omega)]; exact h4 i hi
  · refine ⟨(e.int (by decide) 0).trans h5.1, fun i c hi hc => ?_⟩
    rw [e.row (by decide) (by decide) (by omega)]; exact h5.2 i c hi hc
  · refine ⟨(e.int (by decide) 6).trans h6.1, (e.int (by decide) 7).trans h6.2.1, fun r hr => ?_⟩
    obtain ⟨x1, x2, x3, x4, x5⟩ := h6.2.2 r hr
    refine ⟨by rw [e.row (by omega) (by omega) (by omega)]; exact x1, (e.int (by omega) 1).trans x2, (e.int (by omega) 2).trans x3, ?_, x5⟩
    by_cases q : r = t
    · rw [q] at x4 ⊢; rw [e.2.2.2]; exact x4
    · rw [e.row (by omega) (by omega) (by omega)]; exact x4
  · intro s hs
    obtain ⟨x1, x2, x3⟩ := h7 s hs
    refine ⟨(e.int (by omega) 0).trans x1, (e.int (by omega) 1).trans x2, fun i hi => ?_⟩
    rw [e.row (by omega) (by omega) (by omega)]; exact x3 i hi
  · unfold KKp
    rw [e.int (by decide) 14, e.int (by decide) 15, e.row (by decide) (by decide) (by omega), e.row (by decide) (by decide) (by omega), e.row (by decide) (by decide) (by omega)]
    exact h8
  · intro so hso
    rw [e.int (by omega) 3, e.int (by omega) 2, e.int (by omega) 1, e.row (by omega) (by omega) (by omega)]
    exact h9 so hso
abbrev w6f (z : W6) : Nat → Int32 := fun k => if k = 0 then z.1 else if k = 1 then z.2.1 else if k = 2 then z.2.2.1 else if k = 3 then z.2.2.2.1 else if k = 4 then z.2.2.2.2.1 else z.2.2.2.2.2
abbrev w6o (σ : KS) (o : Nat) : W6 := (kI σ o 0, kI σ o 1, kI σ o 2, kI σ o 3, kI σ o 4, kI σ o 5)
theorem kf_w6 {a o : Nat} {σ : KS} {z : W6} : kf 10 a (ksO σ o (w6f z)) o = wkF z := by
  show [Value.int (kI (ksO σ o (w6f z)) o 0), _, _, _, _, _] = _
  rw [ksO_eq]
  rfl
theorem w6o_eq {o : Nat} {σ : KS} {z : W6} : w6o (ksO σ o (w6f z)) o = z := by
  unfold w6o
  rw [ksO_eq]
  rfl
theorem KM.walk {a m tx : Nat} {σ : KS} {μ μ' : Mm} (h : KM a m tx σ μ) {o : Nat} (ho : (o, 10) ∈ kO) {z : W6} (e : μ' = mupd μ (a + o) (obj 10 (wkF z))) : KM a m tx (ksO σ o (w6f z)) μ' := by
  rw [e, ← kf_w6 (a := a) (σ := σ)]
  exact h.setO ho _
theorem kDl_at {m h : Nat} {σ : KS} (hh : h < m) (hm : m ≤ 7) : (kDl m σ)[h]? = some (some (kD σ h).1) := by
  rw [kDl, List.getElem?_map, List.getElem?_range (by omega)]
  simp [hh]
theorem kUl_at {tx r : Nat} {σ : KS} (hr : r < tx) (hm : tx ≤ 6) : (kUl tx σ)[r]? = some (some (kU σ r)) := by
  rw [kUl, List.getElem?_map, List.getElem?_range (by omega)]
  simp [hr]
section KTIE
variable {g : Gl} {a m tx n t : Nat} {σ : KS} {μ : Mm} {ρ : MS} {cd : Nat → List Int32} {Lf : Nat → Nat}
theorem KTie.ln (h : KTie ρ n t tx cd Lf m σ) {k z : Nat} (hq : (k, z) ∈ kLen) : (σ.1 k).length = z := h.1 (k, z) hq
theorem KTie.door (h : KTie ρ n t tx cd Lf m σ) (hM : KM a m tx σ μ) {i : Nat} (hi : i < n) : μ.1 (kD σ i).1 = some (obj (kD σ i).2 (dfs (nI i) (Fc ρ 1 i) (Fc ρ 2 i) (Fc ρ 3 i) (Fc ρ 4 i))) ∧ KC (kD σ i).2 (Fc ρ 0 i) := by
  obtain ⟨-, -, ⟨h1, h2, h3⟩, -⟩ := h
  obtain ⟨x1, x2, x3⟩ := h3 i hi
  refine ⟨?_, x1⟩
  rw [hM.d (Nat.lt_of_lt_of_le hi h1)]
  unfold dF
  rw [x2, x3 0 (by decide), x3 1 (by decide), x3 2 (by decide), x3 3 (by decide)]
theorem KTie.nm (h : KTie ρ n t tx cd Lf m σ) : n ≤ m := h.2.2.1.1
theorem KTie.hc (h : KTie ρ n t tx cd Lf m σ) : kI σ 0 1 = nI n := h.2.2.1.2.1
theorem KTie.tm (h : KTie ρ n t tx cd Lf m σ) : σ.1 3 = ρ.1 6 := h.2.1
theorem KTie.ru (h : KTie ρ n t tx cd Lf m σ) : KRu t tx cd σ := h.2.2.2.2.2.1
theorem KTie.ls (h : KTie ρ n t tx cd Lf m σ) : KLs n Lf σ := h.2.2.2.1
/-- a rule in the class's world -/
theorem KTie.rw1 (h : KTie ρ n t tx cd Lf m σ) (hM : KM a m tx σ μ) {r : Nat} (hr : r < tx) : RW (kU σ r) (cd (3 * r)) (cd (3 * r + 1)) (cd (3 * r + 2)) (σ.1 (201 + 3 * r)) μ := by
  obtain ⟨x1, x2, x3, x4, x5, x6⟩ := h.ru.2.2 r hr
  obtain ⟨y1, y2, y3⟩ := hM.u hr
  refine ⟨?_, by rw [y2, x1], y3, x4, x5⟩
  rw [y1]; unfold uF; rw [x2, x3]
theorem c_kHouse (hM : KM a m tx σ μ) (hn : kI σ 0 1 = nI n) (x : Int32) : Pu g 0 mX11_isHouse [.ref a, .int x] μ (b2i (0 ≤ x ∧ x < nI n)) := by
  refine Mt.of0 (ls0 := [some (.ref a), some (.int x)]) (by decide) (by simp [Value.category]) (Nat.le_of_ble_eq_true rfl) rfl ?_
  refine ev_iload_n dX11_isHouse_0 rfl ?_
  refine ev_if_lt (tgt := 16) dX11_isHouse_1 (by decide) (fun h1 => ?_) (fun h1 => ?_)
  · refine ev_iconst (v := 0) dX11_isHouse_16 (by decide) ?_
    refine ev_zret dX11_isHouse_17 rfl (by decide) ?_
    refine ⟨?_, rfl⟩
    first | (rw [b2i_t (by (simp only [Fc, Se, Nat.reduceLT, ↓reduceIte, ← Int32.toInt_inj, Int32.le_iff_toInt_le, Int32.lt_iff_toInt_lt, Int32.reduceToInt] at *; omega))]; done) | (rw [b2i_f (by (simp only [Fc, Se, Nat.reduceLT, ↓reduceIte, ← Int32.toInt_inj, Int32.le_iff_toInt_le, Int32.lt_iff_toInt_lt, Int32.reduceToInt] at *; omega))]; done) | (exfalso; (simp only [Fc, Se, Nat.reduceLT, ↓reduceIte, ← Int32.toInt_inj, Int32.le_iff_toInt_le, Int32.lt_iff_toInt_lt, Int32.reduceToInt] at *; omega))
  · refine ev_iload_n dX11_isHouse_4 rfl ?_
    refine ev_aload_n dX11_isHouse_5 rfl ?_
    refine ev_get dX11_isHouse_6 flX11_15_11 (hM.o 0 11 (by decide)) rfl ?_
    rw [hn]
    refine ev_icmp_ge (tgt := 16) dX11_isHouse_9 (by decide) (fun h9 => ?_) (fun h9 => ?_)
    · refine ev_iconst (v := 0) dX11_isHouse_16 (by decide) ?_
      refine ev_zret dX11_isHouse_17 rfl (by decide) ?_
      refine ⟨?_, rfl⟩
      first | (rw [b2i_t (by (simp only [Fc, Se, Nat.reduceLT, ↓reduceIte, ← Int32.toInt_inj, Int32.le_iff_toInt_le, Int32.lt_iff_toInt_lt, Int32.reduceToInt] at *; omega))]; done) | (rw [b2i_f (by (simp only [Fc, Se, Nat.reduceLT, ↓reduceIte, ← Int32.toInt_inj, Int32.le_iff_toInt_le, Int32.lt_iff_toInt_lt, Int32.reduceToInt] at *; omega))]; done) | (exfalso; (simp only [Fc, Se, Nat.reduceLT, ↓reduceIte, ← Int32.toInt_inj, Int32.le_iff_toInt_le, Int32.lt_iff_toInt_lt, Int32.reduceToInt] at *; omega))
    · refine ev_iconst (v := 1) dX11_isHouse_12 (by decide) ?_
      refine ev_goto (tgt := 17) dX11_isHouse_13 (by decide) ?_
      refine ev_zret dX11_isHouse_17 rfl (by decide) ?_
      refine ⟨?_, rfl⟩
      first | (rw [b2i_t (by (simp only [Fc, Se, Nat.reduceLT, ↓reduceIte, ← Int32.toInt_inj, Int32.le_iff_toInt_le, Int32.lt_iff_toInt_lt, Int32.reduceToInt] at *; omega))]; done) | (rw [b2i_f (by (simp only [Fc, Se, Nat.reduceLT, ↓reduceIte, ← Int32.toInt_inj, Int32.le_iff_toInt_le, Int32.lt_iff_toInt_lt, Int32.reduceToInt] at *; omega))]; done) | (exfalso; (simp only [Fc, Se, Nat.reduceLT, ↓reduceIte, ← Int32.toInt_inj, Int32.le_iff_toInt_le, Int32.lt_iff_toInt_lt, Int32.reduceToInt] at *; omega))
theorem c_doorOf (hM : KM a m tx σ μ) (hn : kI σ 0 1 = nI n) (hnm : n ≤ m) {h : Nat} (hh : h < n) : Mt g 1 mX11_doorOf [.ref a, .int (nI h)] μ (fun v μ' => v = some (.ref (kD σ h).1) ∧ μ' = μ) := by
  refine Mt.of0 (ls0 := [some (.ref a), some (.int (nI h))]) (by decide) (by simp [Value.category]) (Nat.le_of_ble_eq_true rfl) rfl ?_
  have h7 := hM.ad.2.2.2.2.2.2.1
  have hb : (0 : Int32) ≤ nI h ∧ nI h < nI n := ⟨nI_pos' (by omega), nI_lt hh (by omega)⟩
  refine ev_aload_n dX11_doorOf_0 rfl ?_
  refine ev_iload_n dX11_doorOf_1 rfl ?_
  refine k_v (c_kHouse hM hn _) (by decide) dX11_doorOf_2 cbX11_isHouse (mt3 65 rfl rfl) (mt3 67 rfl rfl) (ms0 18 rfl rfl) (ci := 11) rfl (hM.o 0 11 (by decide)) rfl rfl (Nat.le_of_ble_eq_true rfl) (fun v μ1 hq => ?_)
  obtain ⟨rfl, hμ⟩ := hq
  have hμ := hμ.symm
  subst hμ
  simp only [Option.toList, List.cons_append, List.nil_append]
  rw [b2i_t hb]
  refine ev_if_eq (tgt := 17) dX11_doorOf_5 (by decide) (fun h5 => absurd h5 ((show ¬ (1 : Int32) = 0 by decide))) (fun _ => ?_)
  refine ev_aload_n dX11_doorOf_8 rfl ?_
  refine ev_get dX11_doorOf_9 flX11_11_11 (hM.o 0 11 (by decide)) rfl ?_
  refine ev_iload_n dX11_doorOf_12 rfl ?_
  refine ev_aald dX11_doorOf_13 hM.dl (by decide) (by decide) (ix_n (by omega)) (kDl_at (Nat.lt_of_lt_of_le hh hnm) h7) ?_
  refine ev_goto (tgt := 18) dX11_doorOf_14 (by decide) ?_
  refine ev_aret dX11_doorOf_18 rfl (by simp) (Or.inr ⟨_, rfl⟩) ?_
  exact ⟨rfl, rfl⟩
theorem c_doorNo (hM : KM a m tx σ μ) (hn : kI σ 0 1 = nI n) {x : Int32} (hx : ¬ (0 ≤ x ∧ x < nI n)) : Mt g 1 mX11_doorOf [.ref a, .int x] μ (fun v μ' => v = some .null ∧ μ' = μ) := by
  refine Mt.of0 (ls0 := [some (.ref a), some (.int x)]) (by decide) (by simp [Value.category]) (Nat.le_of_ble_eq_true rfl) rfl ?_
  refine ev_aload_n dX11_doorOf_0 rfl ?_
  refine ev_iload_n dX11_doorOf_1 rfl ?_
  refine k_v (c_kHouse hM hn _) (by decide) dX11_doorOf_2 cbX11_isHouse (mt3 65 rfl rfl) (mt3 67 rfl rfl) (ms0 18 rfl rfl) (ci := 11) rfl (hM.o 0 11 (by decide)) rfl rfl (Nat.le_of_ble_eq_true rfl) (fun v μ1 hq => ?_)
  obtain ⟨rfl, hμ⟩ := hq
  have hμ := hμ.symm
  subst hμ
  simp only [Option.toList, List.cons_append, List.nil_append]
  rw [b2i_f hx]
  refine ev_if_eq (tgt := 17) dX11_doorOf_5 (by decide) (fun _ => ?_) (fun h5 => absurd (rfl) h5)
  refine ev_null dX11_doorOf_17 ?_
  refine ev_aret dX11_doorOf_18 rfl (by simp) (Or.inl rfl) ?_
  exact ⟨rfl, rfl⟩
end KTIE
