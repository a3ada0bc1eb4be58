/-! ===== the reference: what THE RULE says ===== -/
def nmd (F : Nat → Nat → Int32) (S : Nat → Int32) (h : Nat) (late x : Int32) : Int32 := if x = 0 then F 2 h else if x = 1 then F 3 h else if x = 2 then F 4 h else if x = 3 then late else if x = 4 then S 5 else nI h
def don (x a b : Int32) : Int32 := if x = 1 then a + b else if x = 2 then a - b else if x = 3 then a * b else if x = 4 then b2i (a < b) else if x = 5 then b2i (a = b) else if x = 6 then b2i (¬ a = 0 ∧ ¬ b = 0) else b2i (¬ a = 0 ∨ ¬ b = 0)
/-- one deed, by a stack -/
def stp (F : Nat → Nat → Int32) (S : Nat → Int32) (h : Nat) (late c : Int32) (st : List Int32) : Option (List Int32) :=
  if c < 20000 then some (c :: st) else if c < 30000 then some (nmd F S h late (c - 20000) :: st) else
  if c = 30008 then (match st with | x :: r => some (b2i (x = 0) :: r) | [] => none) else
  if c = 30009 then (match st with | x :: r => some (-x :: r) | [] => none) else
  match st with | y :: x :: r => some (don (c - 30000) x y :: r) | _ => none
def exe (F : Nat → Nat → Int32) (S : Nat → Int32) (h : Nat) (late : Int32) : List Int32 → List Int32 → Option (List Int32)
  | [], st => some st
  | c :: cs, st => (stp F S h late c st).bind (exe F S h late cs)
/-- a row of deeds as the reference holds it -/
def RC (ρ : MS) (r : Nat) (code : List Int32) : Prop := (ρ.1 12)[r]? = some (nI code.length) ∧ code.length ≤ 170 ∧ ∀ (k : Nat) (c : Int32), code[k]? = some c → (ρ.1 11)[170 * r + k]? = some c
/-- the reference's world, but for what lies on its stack -/
def RS (b : Nat) (ρ : MS) (μ : Mm) : Prop := ∃ l : List Int32, l.length = 200 ∧ RM b (setA ρ 14 l) μ
def SR (l st : List Int32) : Prop := ∀ (i : Nat) (x : Int32), st.reverse[i]? = some x → l[i]? = some x
theorem SR.push {l st : List Int32} (h : SR l st) (x : Int32) (hl : st.length < l.length) : SR (l.set st.length x) (x :: st) := by
  intro i y hy
  rw [List.reverse_cons, List.getElem?_append] at hy
  rw [List.getElem?_set]
  split at hy
  · rename_i hi
    rw [if_neg (by simp at hi; omega)]
    exact h i y hy
  · rename_i hi
    simp only [List.length_reverse] at hi hy
    have : i - st.length = 0 := by
      rcases Nat.eq_zero_or_pos (i - st.length) with h0 | h0
      · exact h0
      · rw [List.getElem?_eq_none (by simp; omega)] at hy; cases hy
    rw [this] at hy
    rw [if_pos (by omega), if_pos (by omega)]
    simpa using hy
theorem SR.top {l st : List Int32} {x : Int32} (h : SR l (x :: st)) : l[st.length]? = some x := h st.length x (by rw [List.reverse_cons, List.getElem?_append_right (by simp)]; simp)
theorem SR.pop {l st : List Int32} {x : Int32} (h : SR l (x :: st)) : SR l st := by
  intro i y hy
  refine h i y ?_
  rw [List.reverse_cons, List.getElem?_append_left (by have := (List.getElem?_eq_some_iff.mp hy).1; exact this)]
  exact hy
theorem SR.off {l st : List Int32} (h : SR l st) (x : Int32) {j : Nat} (hj : st.length ≤ j) : SR (l.set j x) st := by
  intro i y hy
  have := (List.getElem?_eq_some_iff.mp hy).1
  rw [List.getElem?_set, if_neg (by simp at this; omega)]
  exact h i y hy
theorem set_set14 {ρ : MS} {l l' : List Int32} : setA (setA ρ 14 l) 14 l' = setA ρ 14 l' := by
  simp only [setA]
  congr 1
  funext q
  split <;> rfl
theorem at14 {ρ : MS} {l : List Int32} : (setA ρ 14 l).1 14 = l := by simp [setA]
theorem mul_ix {r k : Nat} (hr : r < 18) (hk : k < 170) : ix (170 * nI r + nI k) (170 * r + k) := by
  have h1 : (170 : Int32) * nI r = nI (170 * r) := (Int32.ofNat_mul 170 r).symm
  rw [h1, nI_add]
  exact ix_n (by omega)
section MSAYS
variable {g : Gl} {μ : Mm} {b : Nat} {ρ : MS}
theorem c_named (hM : RM b ρ μ) (hL : ML ρ) (x late : Int32) {h : Nat} (hh : h < 7) : Pu g 0 mX12_named [.ref b, .int x, .int (nI h), .int late] μ (nmd (Fc ρ) (Se ρ) h late x) := by
  refine Mt.of0 (ls0 := [some (.ref b), some (.int x), some (.int (nI h)), some (.int late)]) (by decide) (by simp [Value.category]) (Nat.le_of_ble_eq_true rfl) rfl ?_
  unfold nmd
  refine ev_iload_n dX12_named_0 rfl ?_
  by_cases hs1 : (x).toInt < 0 ∨ 4 < (x).toInt
  · refine ev_tout (tgt := 66) dX12_named_1 hs1 (by decide) ?_
    have hn1_0 : ¬ (x) = 0 := fun q => by rw [q] at hs1; revert hs1; decide
    have hn1_1 : ¬ (x) = 1 := fun q => by rw [q] at hs1; revert hs1; decide
    have hn1_2 : ¬ (x) = 2 := fun q => by rw [q] at hs1; revert hs1; decide
    have hn1_3 : ¬ (x) = 3 := fun q => by rw [q] at hs1; revert hs1; decide
    have hn1_4 : ¬ (x) = 4 := fun q => by rw [q] at hs1; revert hs1; decide
    refine ev_iload_n dX12_named_66 rfl ?_
    refine ev_iret dX12_named_67 rfl ?_
    refine ⟨?_, rfl⟩
    first | (exfalso; (simp only [Fc, Se, Nat.reduceLT, ↓reduceIte, ← Int32.toInt_inj, Int32.le_iff_toInt_le, Int32.lt_iff_toInt_lt, Int32.reduceToInt] at *; omega)) | (repeat (first | rw [if_pos (by (simp only [Fc, Se, Nat.reduceLT, ↓reduceIte, ← Int32.toInt_inj, Int32.le_iff_toInt_le, Int32.lt_iff_toInt_lt, Int32.reduceToInt] at *; omega))] | rw [if_neg (by (simp only [Fc, Se, Nat.reduceLT, ↓reduceIte, ← Int32.toInt_inj, Int32.le_iff_toInt_le, Int32.lt_iff_toInt_lt, Int32.reduceToInt] at *; omega))] | rw [b2i_t (by (simp only [Fc, Se, Nat.reduceLT, ↓reduceIte, ← Int32.toInt_inj, Int32.le_iff_toInt_le, Int32.lt_iff_toInt_lt, Int32.reduceToInt] at *; omega))] | rw [b2i_f (by (simp only [Fc, Se, Nat.reduceLT, ↓reduceIte, ← Int32.toInt_inj, Int32.le_iff_toInt_le, Int32.lt_iff_toInt_lt, Int32.reduceToInt] at *; omega))])); try rfl
  have hs1 : (x).toInt = 0 ∨ (x).toInt = 1 ∨ (x).toInt = 2 ∨ (x).toInt = 3 ∨ (x).toInt = 4 := by omega
  rcases hs1 with hs1 | hs1 | hs1 | hs1 | hs1
  · refine ev_tin (off := 35) (tgt := 36) dX12_named_1 (by omega) (by omega) (by rw [hs1]; rfl) (by decide) ?_
    have he1 : (x) = 0 := Int32.toInt_inj.mp (hs1.trans (by decide))
    refine ev_aload_n dX12_named_36 rfl ?_
    refine ev_get dX12_named_37 flX12_16_12 hM.1 rfl ?_
    refine ev_iload_n dX12_named_40 rfl ?_
    refine ev_iald dX12_named_41 (hM.a 2 3 (by decide)) (ix_n (by omega)) (rd hL (n := 7) (by decide) hh) ?_
    refine ev_iret dX12_named_42 rfl ?_
    refine ⟨?_, rfl⟩
    first | (exfalso; (simp only [Fc, Se, Nat.reduceLT, ↓reduceIte, ← Int32.toInt_inj, Int32.le_iff_toInt_le, Int32.lt_iff_toInt_lt, Int32.reduceToInt] at *; omega)) | (repeat (first | rw [if_pos (by (simp only [Fc, Se, Nat.reduceLT, ↓reduceIte, ← Int32.toInt_inj, Int32.le_iff_toInt_le, Int32.lt_iff_toInt_lt, Int32.reduceToInt] at *; omega))] | rw [if_neg (by (simp only [Fc, Se, Nat.reduceLT, ↓reduceIte, ← Int32.toInt_inj, Int32.le_iff_toInt_le, Int32.lt_iff_toInt_lt, Int32.reduceToInt] at *; omega))] | rw [b2i_t (by (simp only [Fc, Se, Nat.reduceLT, ↓reduceIte, ← Int32.toInt_inj, Int32.le_iff_toInt_le, Int32.lt_iff_toInt_lt, Int32.reduceToInt] at *; omega))] | rw [b2i_f (by (simp only [Fc, Se, Nat.reduceLT, ↓reduceIte, ← Int32.toInt_inj, Int32.le_iff_toInt_le, Int32.lt_iff_toInt_lt, Int32.reduceToInt] at *; omega))])); try rfl
  · refine ev_tin (off := 42) (tgt := 43) dX12_named_1 (by omega) (by omega) (by rw [hs1]; rfl) (by decide) ?_
    have he1 : (x) = 1 := Int32.toInt_inj.mp (hs1.trans (by decide))
    refine ev_aload_n dX12_named_43 rfl ?_
    refine ev_get dX12_named_44 flX12_19_12 hM.1 rfl ?_
    refine ev_iload_n dX12_named_47 rfl ?_
    refine ev_iald dX12_named_48 (hM.a 3 4 (by decide)) (ix_n (by omega)) (rd hL (n := 7) (by decide) hh) ?_
    refine ev_iret dX12_named_49 rfl ?_
    refine ⟨?_, rfl⟩
    first | (exfalso; (simp only [Fc, Se, Nat.reduceLT, ↓reduceIte, ← Int32.toInt_inj, Int32.le_iff_toInt_le, Int32.lt_iff_toInt_lt, Int32.reduceToInt] at *; omega)) | (repeat (first | rw [if_pos (by (simp only [Fc, Se, Nat.reduceLT, ↓reduceIte, ← Int32.toInt_inj, Int32.le_iff_toInt_le, Int32.lt_iff_toInt_lt, Int32.reduceToInt] at *; omega))] | rw [if_neg (by (simp only [Fc, Se, Nat.reduceLT, ↓reduceIte, ← Int32.toInt_inj, Int32.le_iff_toInt_le, Int32.lt_iff_toInt_lt, Int32.reduceToInt] at *; omega))] | rw [b2i_t (by (simp only [Fc, Se, Nat.reduceLT, ↓reduceIte, ← Int32.toInt_inj, Int32.le_iff_toInt_le, Int32.lt_iff_toInt_lt, Int32.reduceToInt] at *; omega))] | rw [b2i_f (by (simp only [Fc, Se, Nat.reduceLT, ↓reduceIte, ← Int32.toInt_inj, Int32.le_iff_toInt_le, Int32.lt_iff_toInt_lt, Int32.reduceToInt] at *; omega))])); try rfl
  · refine ev_tin (off := 49) (tgt := 50) dX12_named_1 (by omega) (by omega) (by rw [hs1]; rfl) (by decide) ?_
    have he1 : (x) = 2 := Int32.toInt_inj.mp (hs1.trans (by decide))
    refine ev_aload_n dX12_named_50 rfl ?_
    refine ev_get dX12_named_51 flX12_22_12 hM.1 rfl ?_
    refine ev_iload_n dX12_named_54 rfl ?_
    refine ev_iald dX12_named_55 (hM.a 4 5 (by decide)) (ix_n (by omega)) (rd hL (n := 7) (by decide) hh) ?_
    refine ev_iret dX12_named_56 rfl ?_
    refine ⟨?_, rfl⟩
    first | (exfalso; (simp only [Fc, Se, Nat.reduceLT, ↓reduceIte, ← Int32.toInt_inj, Int32.le_iff_toInt_le, Int32.lt_iff_toInt_lt, Int32.reduceToInt] at *; omega)) | (repeat (first | rw [if_pos (by (simp only [Fc, Se, Nat.reduceLT, ↓reduceIte, ← Int32.toInt_inj, Int32.le_iff_toInt_le, Int32.lt_iff_toInt_lt, Int32.reduceToInt] at *; omega))] | rw [if_neg (by (simp only [Fc, Se, Nat.reduceLT, ↓reduceIte, ← Int32.toInt_inj, Int32.le_iff_toInt_le, Int32.lt_iff_toInt_lt, Int32.reduceToInt] at *; omega))] | rw [b2i_t (by (simp only [Fc, Se, Nat.reduceLT, ↓reduceIte, ← Int32.toInt_inj, Int32.le_iff_toInt_le, Int32.lt_iff_toInt_lt, Int32.reduceToInt] at *; omega))] | rw [b2i_f (by (simp only [Fc, Se, Nat.reduceLT, ↓reduceIte, ← Int32.toInt_inj, Int32.le_iff_toInt_le, Int32.lt_iff_toInt_lt, Int32.reduceToInt] at *; omega))])); try rfl
  · refine ev_tin (off := 56) (tgt := 57) dX12_named_1 (by omega) (by omega) (by rw [hs1]; rfl) (by decide) ?_
    have he1 : (x) = 3 := Int32.toInt_inj.mp (hs1.trans (by decide))
    refine ev_iload_n dX12_named_57 rfl ?_
    refine ev_iret dX12_named_58 rfl ?_
    refine ⟨?_, rfl⟩
    first | (exfalso; (simp only [Fc, Se, Nat.reduceLT, ↓reduceIte, ← Int32.toInt_inj, Int32.le_iff_toInt_le, Int32.lt_iff_toInt_lt, Int32.reduceToInt] at *; omega)) | (repeat (first | rw [if_pos (by (simp only [Fc, Se, Nat.reduceLT, ↓reduceIte, ← Int32.toInt_inj, Int32.le_iff_toInt_le, Int32.lt_iff_toInt_lt, Int32.reduceToInt] at *; omega))] | rw [if_neg (by (simp only [Fc, Se, Nat.reduceLT, ↓reduceIte, ← Int32.toInt_inj, Int32.le_iff_toInt_le, Int32.lt_iff_toInt_lt, Int32.reduceToInt] at *; omega))] | rw [b2i_t (by (simp only [Fc, Se, Nat.reduceLT, ↓reduceIte, ← Int32.toInt_inj, Int32.le_iff_toInt_le, Int32.lt_iff_toInt_lt, Int32.reduceToInt] at *; omega))] | rw [b2i_f (by (simp only [Fc, Se, Nat.reduceLT, ↓reduceIte, ← Int32.toInt_inj, Int32.le_iff_toInt_le, Int32.lt_iff_toInt_lt, Int32.reduceToInt] at *; omega))])); try rfl
  · refine ev_tin (off := 58) (tgt := 59) dX12_named_1 (by omega) (by omega) (by rw [hs1]; rfl) (by decide) ?_
    have he1 : (x) = 4 := Int32.toInt_inj.mp (hs1.trans (by decide))
    refine ev_aload_n dX12_named_59 rfl ?_
    refine ev_get dX12_named_60 flX12_28_12 hM.1 rfl ?_
    refine ev_iconst (v := 5) dX12_named_63 (by decide) ?_
    refine ev_iald dX12_named_64 (hM.a 6 7 (by decide)) ixl5 (rd hL (n := 10) (by decide) (by decide)) ?_
    refine ev_iret dX12_named_65 rfl ?_
    refine ⟨?_, rfl⟩
    first | (exfalso; (simp only [Fc, Se, Nat.reduceLT, ↓reduceIte, ← Int32.toInt_inj, Int32.le_iff_toInt_le, Int32.lt_iff_toInt_lt, Int32.reduceToInt] at *; omega)) | (repeat (first | rw [if_pos (by (simp only [Fc, Se, Nat.reduceLT, ↓reduceIte, ← Int32.toInt_inj, Int32.le_iff_toInt_le, Int32.lt_iff_toInt_lt, Int32.reduceToInt] at *; omega))] | rw [if_neg (by (simp only [Fc, Se, Nat.reduceLT, ↓reduceIte, ← Int32.toInt_inj, Int32.le_iff_toInt_le, Int32.lt_iff_toInt_lt, Int32.reduceToInt] at *; omega))] | rw [b2i_t (by (simp only [Fc, Se, Nat.reduceLT, ↓reduceIte, ← Int32.toInt_inj, Int32.le_iff_toInt_le, Int32.lt_iff_toInt_lt, Int32.reduceToInt] at *; omega))] | rw [b2i_f (by (simp only [Fc, Se, Nat.reduceLT, ↓reduceIte, ← Int32.toInt_inj, Int32.le_iff_toInt_le, Int32.lt_iff_toInt_lt, Int32.reduceToInt] at *; omega))])); try rfl
theorem S14 (hL : ML ρ) {l : List Int32} (hl : l.length = 200) : ML (setA ρ 14 l) := ML.setA hL (by rw [hl]; exact (hL.at (k := 14) (n := 200) (by decide)).symm)
theorem l_says (hL : ML ρ) {r h : Nat} {late w : Int32} {code : List Int32} (hr : r < 18) (hh : h < 7) (hC : RC ρ r code) {μ0 : Mm} {x : Int32} : ∀ (cs : List Int32) (k : Nat) (st l : List Int32) (o7 : Option Value) (μ : Mm), RM b (setA ρ 14 l) μ → FM b μ0 μ → l.length = 200 → SR l st → st.length ≤ k → code.drop k = cs → k ≤ code.length → exe (Fc ρ) (Se ρ) h late cs st = some [x] →
    Ev g 1 mX12_says 16 [some (.ref b), some (.int w), some (.int (nI h)), some (.int late), some (.int (nI r)), some (.int (nI st.length)), some (.int (nI k)), o7] [] μ (fun v μ' => v = some (.int x) ∧ RS b ρ μ' ∧ FM b μ0 μ') := by
  have hlen := hC.2.1
  intro cs
  induction cs with
  | nil =>
    intro k st l o7 μ hM hF hl hst hk hd hkl he
    have hdl : code.length ≤ k := by simpa using hd
    have he : st = [x] := by simpa [exe] using he
    subst he
    refine ev_iload dX12_says_16 rfl ?_
    refine ev_aload_n dX12_says_18 rfl ?_
    refine ev_get dX12_says_19 flX12_42_12 hM.1 rfl ?_
    refine ev_iload dX12_says_22 rfl ?_
    refine ev_iald dX12_says_24 (hM.a 12 23 (by decide)) (ix_n (by omega)) hC.1 ?_
    refine ev_icmp_ge (tgt := 210) dX12_says_25 (by decide) (fun _ => ?_) (fun h25 => absurd ((nI_le hdl (by omega))) h25)
    refine ev_aload_n dX12_says_210 rfl ?_
    refine ev_get dX12_says_211 flX12_48_12 hM.1 rfl ?_
    refine ev_iconst (v := 0) dX12_says_214 (by decide) ?_
    refine ev_iald dX12_says_215 (hM.a 14 25 (by decide)) ixl0 (show ((setA ρ 14 l).1 14)[0]? = some x by rw [at14]; exact hst 0 x rfl) ?_
    refine ev_iret dX12_says_216 rfl ?_
    exact ⟨rfl, ⟨l, hl, hM⟩, hF⟩
  | cons c cs ih =>
    intro k st l o7 μ hM hF hl hst hk hd hkl he
    have hc : code[k]? = some c := by
      have h1 : (code.drop k)[0]? = some c := by rw [hd]; rfl
      rw [List.getElem?_drop] at h1; exact h1
    have hd' : code.drop (k + 1) = cs := by
      have : (code.drop k).drop 1 = cs := by rw [hd]; rfl
      rw [List.drop_drop] at this; exact this
    have hlt : k < code.length := (List.getElem?_eq_some_iff.mp hc).1
    have hcd := hC.2.2 k c hc
    rw [exe] at he
    unfold stp at he
    have go : ∀ (st' l' : List Int32) (μ : Mm), RM b (setA ρ 14 l') μ → FM b μ0 μ → l'.length = 200 → SR l' st' → st'.length ≤ k + 1 → exe (Fc ρ) (Se ρ) h late cs st' = some [x] → Ev g 1 mX12_says 204 [some (.ref b), some (.int w), some (.int (nI h)), some (.int late), some (.int (nI r)), some (.int (nI st'.length)), some (.int (nI k)), some (.int c)] [] μ (fun v μ' => v = some (.int x) ∧ RS b ρ μ' ∧ FM b μ0 μ') := by
      intro st' l' μ hM hF hl' hst' hk' he'
      refine ev_iinc dX12_says_204 rfl (by decide) ?_
      dsimp only [List.set]
      refine ev_goto (tgt := 16) dX12_says_207 (by decide) ?_
      rw [nI_inc]
      exact ih (k + 1) st' l' _ μ hM hF hl' hst' hk' hd' (by omega) he'
    have ixp : ∀ n : Nat, n < 1000 → ix (nI (n + 1) - 1) n := fun n hn => by rw [nI_pred]; exact ix_n (by omega)
    have f108 : c = 30008 → 20000 ≤ c → 30000 ≤ c → Ev g 1 mX12_says 108 [some (.ref b), some (.int w), some (.int (nI h)), some (.int late), some (.int (nI r)), some (.int (nI st.length)), some (.int (nI k)), some (.int c)] [] μ (fun v μ' => v = some (.int x) ∧ RS b ρ μ' ∧ FM b μ0 μ') := by
      intro e1 e2 e3
      rw [if_neg (Int32.not_lt.mpr e2), if_neg (Int32.not_lt.mpr e3), if_pos e1] at he
      cases st with
      | nil => cases he
      | cons y st =>
        simp only [List.length_cons] at hk ⊢
        have he : exe (Fc ρ) (Se ρ) h late cs (b2i (y = 0) :: st) = some [x] := he
        refine ev_aload_n dX12_says_108 rfl ?_
        refine ev_get dX12_says_109 flX12_48_12 hM.1 rfl ?_
        refine ev_iload dX12_says_112 rfl ?_
        refine ev_iconst (v := 1) dX12_says_114 (by decide) ?_
        refine ev_isub dX12_says_115 ?_
        refine ev_aload_n dX12_says_116 rfl ?_
        refine ev_get dX12_says_117 flX12_48_12 hM.1 rfl ?_
        refine ev_iload dX12_says_120 rfl ?_
        refine ev_iconst (v := 1) dX12_says_122 (by decide) ?_
        refine ev_isub dX12_says_123 ?_
        refine ev_iald dX12_says_124 (hM.a 14 25 (by decide)) (ixp _ (by omega)) (show ((setA ρ 14 l).1 14)[st.length]? = some y by rw [at14]; exact hst.top) ?_
        refine ev_if_ne (tgt := 132) dX12_says_125 (by decide) (fun h125 => ?_) (fun h125 => ?_)
        · refine ev_iconst (v := 0) dX12_says_132 (by decide) ?_
          refine evM_iast hM hF (k := 14) (o := 25) (by decide) dX12_says_133 (ixp _ (by omega)) (show st.length < ((setA ρ 14 l).1 14).length by rw [at14, hl]; omega) (fun μ hM hF => ?_)
          rw [at14, set_set14] at hM
          refine ev_goto (tgt := 204) dX12_says_134 (by decide) ?_
          first
            | exact go (1 :: st) _ μ hM hF (by simpa using hl) (hst.pop.push 1 (by omega)) (by simp; omega) (by rw [b2i_t h125] at he; exact he)
            | exact go (0 :: st) _ μ hM hF (by simpa using hl) (hst.pop.push 0 (by omega)) (by simp; omega) (by rw [b2i_f h125] at he; exact he)
        · refine ev_iconst (v := 1) dX12_says_128 (by decide) ?_
          refine ev_goto (tgt := 133) dX12_says_129 (by decide) ?_
          refine evM_iast hM hF (k := 14) (o := 25) (by decide) dX12_says_133 (ixp _ (by omega)) (show st.length < ((setA ρ 14 l).1 14).length by rw [at14, hl]; omega) (fun μ hM hF => ?_)
          rw [at14, set_set14] at hM
          refine ev_goto (tgt := 204) dX12_says_134 (by decide) ?_
          first
            | exact go (1 :: st) _ μ hM hF (by simpa using hl) (hst.pop.push 1 (by omega)) (by simp; omega) (by rw [b2i_t h125] at he; exact he)
            | exact go (0 :: st) _ μ hM hF (by simpa using hl) (hst.pop.push 0 (by omega)) (by simp; omega) (by rw [b2i_f h125] at he; exact he)
    have f145 : c = 30009 → 20000 ≤ c → 30000 ≤ c → ¬ c = 30008 → Ev g 1 mX12_says 145 [some (.ref b), some (.int w), some (.int (nI h)), some (.int late), some (.int (nI r)), some (.int (nI st.length)), some (.int (nI k)), some (.int c)] [] μ (fun v μ' => v = some (.int x) ∧ RS b ρ μ' ∧ FM b μ0 μ') := by
      intro e1 e2 e3 e4
      rw [if_neg (Int32.not_lt.mpr e2), if_neg (Int32.not_lt.mpr e3), if_neg e4, if_pos e1] at he
      cases st with
      | nil => cases he
      | cons y st =>
        simp only [List.length_cons] at hk ⊢
        refine ev_aload_n dX12_says_145 rfl ?_
        refine ev_get dX12_says_146 flX12_48_12 hM.1 rfl ?_
        refine ev_iload dX12_says_149 rfl ?_
        refine ev_iconst (v := 1) dX12_says_151 (by decide) ?_
        refine ev_isub dX12_says_152 ?_
        refine ev_aload_n dX12_says_153 rfl ?_
        refine ev_get dX12_says_154 flX12_48_12 hM.1 rfl ?_
        refine ev_iload dX12_says_157 rfl ?_
        refine ev_iconst (v := 1) dX12_says_159 (by decide) ?_
        refine ev_isub dX12_says_160 ?_
        refine ev_iald dX12_says_161 (hM.a 14 25 (by decide)) (ixp _ (by omega)) (show ((setA ρ 14 l).1 14)[st.length]? = some y by rw [at14]; exact hst.top) ?_
        refine ev_ineg dX12_says_162 ?_
        refine evM_iast hM hF (k := 14) (o := 25) (by decide) dX12_says_163 (ixp _ (by omega)) (show st.length < ((setA ρ 14 l).1 14).length by rw [at14, hl]; omega) (fun μ hM hF => ?_)
        rw [at14, set_set14] at hM
        refine ev_goto (tgt := 204) dX12_says_164 (by decide) ?_
        exact go (-y :: st) _ μ hM hF (by simpa using hl) (hst.pop.push (-y) (by omega)) (by simp; omega) he
    have f167 : 20000 ≤ c → 30000 ≤ c → ¬ c = 30008 → ¬ c = 30009 → Ev g 1 mX12_says 167 [some (.ref b), some (.int w), some (.int (nI h)), some (.int late), some (.int (nI r)), some (.int (nI st.length)), some (.int (nI k)), some (.int c)] [] μ (fun v μ' => v = some (.int x) ∧ RS b ρ μ' ∧ FM b μ0 μ') := by
      intro e2 e3 e4 e5
      rw [if_neg (Int32.not_lt.mpr e2), if_neg (Int32.not_lt.mpr e3), if_neg e4, if_neg e5] at he
      cases st with
      | nil => cases he
      | cons y st =>
        cases st with
        | nil => cases he
        | cons z st =>
          simp only [List.length_cons] at hk ⊢
          refine ev_iinc dX12_says_167 rfl (by decide) ?_
          dsimp only [List.set]
          rw [nI_dec]
          refine ev_aload_n dX12_says_170 rfl ?_
          refine ev_get dX12_says_171 flX12_48_12 hM.1 rfl ?_
          refine ev_iload dX12_says_174 rfl ?_
          refine ev_iconst (v := 1) dX12_says_176 (by decide) ?_
          refine ev_isub dX12_says_177 ?_
          refine ev_iload dX12_says_178 rfl ?_
          refine ev_sipush (v := 30000) dX12_says_180 (by decide) ?_
          refine ev_isub dX12_says_183 ?_
          refine ev_aload_n dX12_says_184 rfl ?_
          refine ev_get dX12_says_185 flX12_48_12 hM.1 rfl ?_
          refine ev_iload dX12_says_188 rfl ?_
          refine ev_iconst (v := 1) dX12_says_190 (by decide) ?_
          refine ev_isub dX12_says_191 ?_
          refine ev_iald dX12_says_192 (hM.a 14 25 (by decide)) (ixp _ (by omega)) (show ((setA ρ 14 l).1 14)[st.length]? = some z by rw [at14]; exact hst.pop.top) ?_
          refine ev_aload_n dX12_says_193 rfl ?_
          refine ev_get dX12_says_194 flX12_48_12 hM.1 rfl ?_
          refine ev_iload dX12_says_197 rfl ?_
          refine ev_iald dX12_says_199 (hM.a 14 25 (by decide)) (ix_n (by omega)) (show ((setA ρ 14 l).1 14)[st.length + 1]? = some y by rw [at14]; exact hst.top) ?_
          refine k_s (c_done (c - 30000) z y) (by decide) dX12_says_200 cbX12_done (mt5 239 rfl rfl) (mt6 0 rfl rfl) rfl rfl (Nat.le_of_ble_eq_true rfl) (fun v μ1 hq => ?_)
          obtain ⟨rfl, hμ⟩ := hq
          have hμ := hμ.symm
          subst hμ
          simp only [Option.toList, List.cons_append, List.nil_append]
          refine evM_iast hM hF (k := 14) (o := 25) (by decide) dX12_says_203 (ixp _ (by omega)) (show st.length < ((setA ρ 14 l).1 14).length by rw [at14, hl]; omega) (fun μ hM hF => ?_)
          rw [at14, set_set14] at hM
          exact go (don (c - 30000) z y :: st) _ μ hM hF (by simpa using hl) (hst.pop.pop.push _ (by omega)) (by simp; omega) he
    refine ev_iload dX12_says_16 rfl ?_
    refine ev_aload_n dX12_says_18 rfl ?_
    refine ev_get dX12_says_19 flX12_42_12 hM.1 rfl ?_
    refine ev_iload dX12_says_22 rfl ?_
    refine ev_iald dX12_says_24 (hM.a 12 23 (by decide)) (ix_n (by omega)) hC.1 ?_
    refine ev_icmp_ge (tgt := 210) dX12_says_25 (by decide) (fun h25 => absurd h25 ((nI_ge hlt (by omega)))) (fun _ => ?_)
    refine ev_aload_n dX12_says_28 rfl ?_
    refine ev_get dX12_says_29 flX12_39_12 hM.1 rfl ?_
    refine ev_sipush (v := 170) dX12_says_32 (by decide) ?_
    refine ev_iload dX12_says_35 rfl ?_
    refine ev_imul dX12_says_37 ?_
    refine ev_iload dX12_says_38 rfl ?_
    refine ev_iadd dX12_says_40 ?_
    refine ev_iald dX12_says_41 (hM.a 11 22 (by decide)) (mul_ix hr (by omega)) hcd ?_
    refine ev_istore dX12_says_42 (by decide) ?_
    dsimp only [List.set]
    refine ev_iload dX12_says_44 rfl ?_
    refine ev_sipush (v := 20000) dX12_says_46 (by decide) ?_
    refine ev_icmp_ge (tgt := 67) dX12_says_49 (by decide) (fun h49 => ?_) (fun h49 => ?_)
    · refine ev_iload dX12_says_67 rfl ?_
      refine ev_sipush (v := 30000) dX12_says_69 (by decide) ?_
      refine ev_icmp_ge (tgt := 100) dX12_says_72 (by decide) (fun h72 => ?_) (fun h72 => ?_)
      · refine ev_iload dX12_says_100 rfl ?_
        refine ev_sipush (v := 30008) dX12_says_102 (by decide) ?_
        refine ev_icmp_ne (tgt := 137) dX12_says_105 (by decide) (fun h105 => ?_) (fun h105 => ?_)
        · refine ev_iload dX12_says_137 rfl ?_
          refine ev_sipush (v := 30009) dX12_says_139 (by decide) ?_
          refine ev_icmp_ne (tgt := 167) dX12_says_142 (by decide) (fun h142 => ?_) (fun h142 => ?_)
          · exact f167 h49 h72 h105 h142
          · exact f145 h142 h49 h72 h105
        · exact f108 h105 h49 h72
      · refine ev_aload_n dX12_says_75 rfl ?_
        refine ev_get dX12_says_76 flX12_48_12 hM.1 rfl ?_
        refine ev_iload dX12_says_79 rfl ?_
        refine ev_aload_n dX12_says_81 rfl ?_
        refine ev_iload dX12_says_82 rfl ?_
        refine ev_sipush (v := 20000) dX12_says_84 (by decide) ?_
        refine ev_isub dX12_says_87 ?_
        refine ev_iload_n dX12_says_88 rfl ?_
        refine ev_iload_n dX12_says_89 rfl ?_
        refine k_v (c_named hM (S14 hL hl) (c - 20000) late hh) (by decide) dX12_says_90 cbX12_named (mt5 235 rfl rfl) (mt5 237 rfl rfl) (ms0 63 rfl rfl) (ci := 12) rfl hM.1 rfl rfl (Nat.le_of_ble_eq_true rfl) (fun v μ1 hq => ?_)
        obtain ⟨rfl, hμ⟩ := hq
        have hμ := hμ.symm
        subst hμ
        simp only [Option.toList, List.cons_append, List.nil_append]
        refine evM_iast hM hF (k := 14) (o := 25) (by decide) dX12_says_93 (ix_n (by omega)) (show st.length < ((setA ρ 14 l).1 14).length by rw [at14, hl]; omega) (fun μ hM hF => ?_)
        rw [at14, set_set14] at hM
        refine ev_iinc dX12_says_94 rfl (by decide) ?_
        dsimp only [List.set]
        refine ev_goto (tgt := 204) dX12_says_97 (by decide) ?_
        rw [nI_inc]
        first
          | exact go (c :: st) _ μ hM hF (by simpa using hl) (hst.push _ (by omega)) (by simp; omega) (by rw [if_pos (Int32.not_le.mp h49)] at he; exact he)
          | exact go (nmd (Fc ρ) (Se ρ) h late (c - 20000) :: st) _ μ hM hF (by simpa using hl) (hst.push _ (by omega)) (by simp; omega) (by rw [if_neg (Int32.not_lt.mpr h49), if_pos (Int32.not_le.mp h72)] at he; exact he)
    · refine ev_aload_n dX12_says_52 rfl ?_
      refine ev_get dX12_says_53 flX12_48_12 hM.1 rfl ?_
      refine ev_iload dX12_says_56 rfl ?_
      refine ev_iload dX12_says_58 rfl ?_
      refine evM_iast hM hF (k := 14) (o := 25) (by decide) dX12_says_60 (ix_n (by omega)) (show st.length < ((setA ρ 14 l).1 14).length by rw [at14, hl]; omega) (fun μ hM hF => ?_)
      rw [at14, set_set14] at hM
      refine ev_iinc dX12_says_61 rfl (by decide) ?_
      dsimp only [List.set]
      refine ev_goto (tgt := 204) dX12_says_64 (by decide) ?_
      rw [nI_inc]
      first
        | exact go (c :: st) _ μ hM hF (by simpa using hl) (hst.push _ (by omega)) (by simp; omega) (by rw [if_pos (Int32.not_le.mp h49)] at he; exact he)
        | exact go (nmd (Fc ρ) (Se ρ) h late (c - 20000) :: st) _ μ hM hF (by simpa using hl) (hst.push _ (by omega)) (by simp; omega) (by rw [if_neg (Int32.not_lt.mpr h49), if_pos (Int32.not_le.mp h72)] at he; exact he)
/-- says(which, h, late): the row's value -/
theorem c_says (hR : RS b ρ μ) (hL : ML ρ) {t w h : Nat} (hT : ρ.2 8 = nI t) (ht : t < 6) (hw : w < 3) (hh : h < 7) {late x : Int32} {code : List Int32} (hC : RC ρ (3 * t + w) code) (he : exe (Fc ρ) (Se ρ) h late code [] = some [x]) : Mt g 1 mX12_says [.ref b, .int (nI w), .int (nI h), .int late] μ (fun v μ' => v = some (.int x) ∧ RS b ρ μ' ∧ FM b μ μ') := by
  refine Mt.of0 (ls0 := [some (.ref b), some (.int (nI w)), some (.int (nI h)), some (.int late), none, none, none, none]) (by decide) (by simp [Value.category]) (Nat.le_of_ble_eq_true rfl) rfl ?_
  obtain ⟨l, hl, hM⟩ := hR
  have hF : FM b μ μ := FM.rf
  have hm : (3 : Int32) * ρ.2 8 + nI w = nI (3 * t + w) := by
    have h1 : (3 : Int32) * nI t = nI (3 * t) := (Int32.ofNat_mul 3 t).symm
    rw [hT, h1, nI_add]
  refine ev_iconst (v := 3) dX12_says_0 (by decide) ?_
  refine ev_aload_n dX12_says_1 rfl ?_
  refine ev_get dX12_says_2 flX12_165_12 hM.1 rfl ?_
  refine ev_imul dX12_says_5 ?_
  refine ev_iload_n dX12_says_6 rfl ?_
  refine ev_iadd dX12_says_7 ?_
  refine ev_istore dX12_says_8 (by decide) ?_
  dsimp only [List.set]
  refine ev_iconst (v := 0) dX12_says_10 (by decide) ?_
  refine ev_istore dX12_says_11 (by decide) ?_
  dsimp only [List.set]
  refine ev_iconst (v := 0) dX12_says_13 (by decide) ?_
  refine ev_istore dX12_says_14 (by decide) ?_
  dsimp only [List.set]
  rw [show (3 : Int32) * (setA ρ 14 l).2 8 + nI w = nI (3 * t + w) from hm]
  exact l_says hL (by omega) hh hC code 0 [] l _ μ hM hF hl (fun i x hx => by simp at hx) (Nat.le_refl 0) rfl (Nat.zero_le _) he
end MSAYS
