/-! ===== the reference: lengths, ranges, reads ===== -/
def mLen : List (Nat × Nat) := [(0, 7), (1, 7), (2, 7), (3, 7), (4, 7), (5, 7), (6, 10), (10, 160), (11, 3060), (12, 18), (13, 200), (14, 200), (24, 7), (25, 7), (28, 7), (29, 60), (33, 4), (34, 4), (35, 160), (36, 40)]
def ML (ρ : MS) : Prop := ∀ q ∈ mLen, (ρ.1 q.1).length = q.2
theorem ML.setI {ρ : MS} (h : ML ρ) {k : Nat} {v : Int32} : ML (setI ρ k v) := h
theorem ML.setA {ρ : MS} (h : ML ρ) {k : Nat} {l : List Int32} (hl : l.length = (ρ.1 k).length) : ML (setA ρ k l) := by
  intro q hq
  simp only [setA_u]
  split
  · rename_i he; rw [hl, ← he]; exact h q hq
  · exact h q hq
theorem gd {l : List Int32} {j : Nat} (h : j < l.length) : l[j]? = some (l.getD j 0) := by
  rw [List.getD_eq_getElem?_getD, List.getElem?_eq_getElem h]; rfl
/-- facts of houses: 0 kind, 1 number, 2 place, 3 side, 4 sort; settings -/
abbrev Fc (ρ : MS) (k h : Nat) : Int32 := if k < 5 then (ρ.1 k).getD h 0 else 0
abbrev Se (ρ : MS) (i : Nat) : Int32 := (ρ.1 6).getD i 0
def rg (x : Int32) (lo hi : Int) : Prop := lo ≤ x.toInt ∧ x.toInt ≤ hi
def VF (F : Nat → Nat → Int32) : Prop := ∀ k, k < 7 → rg (F 0 k) 0 5 ∧ rg (F 1 k) 0 9 ∧ rg (F 2 k) 0 99 ∧ rg (F 3 k) 0 1 ∧ rg (F 4 k) 0 3
def VS (S : Nat → Int32) : Prop := rg (S 0) 4 60 ∧ rg (S 1) 0 99 ∧ rg (S 2) 0 999 ∧ rg (S 3) 1 9 ∧ rg (S 4) 0 9 ∧ rg (S 5) 0 9 ∧ rg (S 6) 1 9 ∧ rg (S 7) 1 9 ∧ rg (S 8) 1 9 ∧ rg (S 9) 1 9
theorem ix_of {x : Int32} (h : 0 ≤ x.toInt) : ix x x.toInt.toNat := by
  refine ⟨fun hn => ?_, rfl⟩
  rw [Int32.lt_iff_toInt_lt, Int32.toInt_zero] at hn
  omega
theorem ixl0 : ix 0 0 := ⟨by decide, by decide⟩
theorem ixl1 : ix 1 1 := ⟨by decide, by decide⟩
theorem ixl2 : ix 2 2 := ⟨by decide, by decide⟩
theorem ixl3 : ix 3 3 := ⟨by decide, by decide⟩
theorem ixl4 : ix 4 4 := ⟨by decide, by decide⟩
theorem ixl5 : ix 5 5 := ⟨by decide, by decide⟩
theorem ixl6 : ix 6 6 := ⟨by decide, by decide⟩
theorem ixl7 : ix 7 7 := ⟨by decide, by decide⟩
theorem ixl8 : ix 8 8 := ⟨by decide, by decide⟩
theorem ixl9 : ix 9 9 := ⟨by decide, by decide⟩
theorem bmod_small {x : Int} (h1 : -2147483648 ≤ x) (h2 : x < 2147483648) : x.bmod (2 ^ 32) = x := by
  rw [Int.bmod_def]
  split <;> omega
theorem add_i {a b : Int32} (h1 : -2147483648 ≤ a.toInt + b.toInt) (h2 : a.toInt + b.toInt < 2147483648) : (a + b).toInt = a.toInt + b.toInt := by
  rw [Int32.toInt_add, bmod_small h1 h2]
theorem sub_i {a b : Int32} (h1 : -2147483648 ≤ a.toInt - b.toInt) (h2 : a.toInt - b.toInt < 2147483648) : (a - b).toInt = a.toInt - b.toInt := by
  rw [Int32.toInt_sub, bmod_small h1 h2]
theorem mul_i {a b : Int32} (h1 : -2147483648 ≤ a.toInt * b.toInt) (h2 : a.toInt * b.toInt < 2147483648) : (a * b).toInt = a.toInt * b.toInt := by
  rw [Int32.toInt_mul, bmod_small h1 h2]
theorem lit6 : (6 : Int32).toInt = 6 := by decide
/-- how thick house k's paper is -/
def thk (F : Nat → Nat → Int32) (S : Nat → Int32) (k : Nat) : Int32 := S (6 + (F 4 k).toInt.toNat)
def dogT (x : Int32) : Int32 := 1 + (if x - x / 2 * 2 = 1 then 3 else 0)
def tks (F : Nat → Nat → Int32) (S : Nat → Int32) (k : Nat) : Int32 :=
  if F 0 k = 1 then 1 + F 1 k else if F 0 k = 2 then dogT (F 1 k) else if F 0 k = 3 then 1 + F 1 k + thk F S k else if F 0 k = 4 then 2 * dogT (F 1 k) else if F 0 k = 5 then 1 + F 1 k + b2i (0 < S 5) else 1
def far32 (a b p : Int32) : Int32 := ((if a < b then b - a else a - b) + p - 1) / p
section MGET
variable {g : Gl} {μ : Mm} {b : Nat} {ρ : MS}
theorem ML.at {ρ : MS} (h : ML ρ) {k n : Nat} (hq : (k, n) ∈ mLen) : (ρ.1 k).length = n := h (k, n) hq
/-- a read of row k at place j -/
theorem rd (h : ML ρ) {k n j : Nat} (hq : (k, n) ∈ mLen) (hj : j < n) : (ρ.1 k)[j]? = some ((ρ.1 k).getD j 0) := gd (by rw [h.at hq]; exact hj)
theorem c_thickOf (hM : RM b ρ μ) (hL : ML ρ) (hV : VF (Fc ρ)) {k : Nat} (hk : k < 7) : Pu g 0 mX12_thickOf [.ref b, .int (nI k)] μ (thk (Fc ρ) (Se ρ) k) := by
  refine Mt.of0 (ls0 := [some (.ref b), some (.int (nI k))]) (by decide) (by simp [Value.category]) (Nat.le_of_ble_eq_true rfl) rfl ?_
  have hp := (hV k hk).2.2.2.2
  have hix : ix (6 + Fc ρ 4 k) (6 + (Fc ρ 4 k).toInt.toNat) := by
    have h1 : (6 + Fc ρ 4 k).toInt = 6 + (Fc ρ 4 k).toInt := by
      have := hp.1; have := hp.2
      rw [add_i (by rw [lit6]; omega) (by rw [lit6]; omega), lit6]
    have h2 := ix_of (x := 6 + Fc ρ 4 k) (by rw [h1]; have := hp.1; omega)
    rw [h1] at h2
    have := hp.1
    rw [show (6 + (Fc ρ 4 k).toInt).toNat = 6 + (Fc ρ 4 k).toInt.toNat by omega] at h2
    exact h2
  refine ev_aload_n dX12_thickOf_0 rfl ?_
  refine ev_get dX12_thickOf_1 flX12_28_12 hM.1 rfl ?_
  refine ev_bipush (v := 6) dX12_thickOf_4 (by decide) ?_
  refine ev_aload_n dX12_thickOf_6 rfl ?_
  refine ev_get dX12_thickOf_7 flX12_22_12 hM.1 rfl ?_
  refine ev_iload_n dX12_thickOf_10 rfl ?_
  refine ev_iald dX12_thickOf_11 (hM.a 4 5 (by decide)) (ix_n (by omega)) (rd hL (n := 7) (by decide) hk) ?_
  refine ev_iadd dX12_thickOf_12 ?_
  refine ev_iald dX12_thickOf_13 (hM.a 6 7 (by decide)) hix (rd hL (n := 10) (by decide) (by have := hp.1; have := hp.2; omega)) ?_
  refine ev_iret dX12_thickOf_14 rfl ?_
  exact ⟨rfl, rfl⟩
theorem c_takesOf (hM : RM b ρ μ) (hL : ML ρ) (hV : VF (Fc ρ)) {k : Nat} (hk : k < 7) : Pu g 1 mX12_takesOf [.ref b, .int (nI k)] μ (tks (Fc ρ) (Se ρ) k) := by
  refine Mt.of0 (ls0 := [some (.ref b), some (.int (nI k)), none, none]) (by decide) (by simp [Value.category]) (Nat.le_of_ble_eq_true rfl) rfl ?_
  unfold tks dogT
  refine ev_iconst (v := 1) dX12_takesOf_0 (by decide) ?_
  refine ev_aload_n dX12_takesOf_1 rfl ?_
  refine ev_get dX12_takesOf_2 flX12_13_12 hM.1 rfl ?_
  refine ev_iload_n dX12_takesOf_5 rfl ?_
  refine ev_iald dX12_takesOf_6 (hM.a 1 2 (by decide)) (ix_n (by omega)) (rd hL (n := 7) (by decide) hk) ?_
  refine ev_iadd dX12_takesOf_7 ?_
  refine ev_istore_n dX12_takesOf_8 (by decide) ?_
  dsimp only [List.set]
  refine ev_iconst (v := 1) dX12_takesOf_9 (by decide) ?_
  refine ev_aload_n dX12_takesOf_10 rfl ?_
  refine ev_get dX12_takesOf_11 flX12_13_12 hM.1 rfl ?_
  refine ev_iload_n dX12_takesOf_14 rfl ?_
  refine ev_iald dX12_takesOf_15 (hM.a 1 2 (by decide)) (ix_n (by omega)) (rd hL (n := 7) (by decide) hk) ?_
  refine ev_iconst (v := 2) dX12_takesOf_16 (by decide) ?_
  refine ev_irem dX12_takesOf_17 (by decide) ?_
  refine ev_iconst (v := 1) dX12_takesOf_18 (by decide) ?_
  refine ev_icmp_ne (tgt := 26) dX12_takesOf_19 (by decide) (fun h19 => ?_) (fun h19 => ?_)
  · refine ev_iconst (v := 0) dX12_takesOf_26 (by decide) ?_
    refine ev_iadd dX12_takesOf_27 ?_
    refine ev_istore_n dX12_takesOf_28 (by decide) ?_
    dsimp only [List.set]
    refine ev_aload_n dX12_takesOf_29 rfl ?_
    refine ev_get dX12_takesOf_30 flX12_7_12 hM.1 rfl ?_
    refine ev_iload_n dX12_takesOf_33 rfl ?_
    refine ev_iald dX12_takesOf_34 (hM.a 0 1 (by decide)) (ix_n (by omega)) (rd hL (n := 7) (by decide) hk) ?_
    by_cases hs35 : ((ρ.1 0).getD k 0).toInt < 1 ∨ 5 < ((ρ.1 0).getD k 0).toInt
    · refine ev_tout (tgt := 101) dX12_takesOf_35 hs35 (by decide) ?_
      have hn35_0 : ¬ ((ρ.1 0).getD k 0) = 1 := fun q => by rw [q] at hs35; revert hs35; decide
      have hn35_1 : ¬ ((ρ.1 0).getD k 0) = 2 := fun q => by rw [q] at hs35; revert hs35; decide
      have hn35_2 : ¬ ((ρ.1 0).getD k 0) = 3 := fun q => by rw [q] at hs35; revert hs35; decide
      have hn35_3 : ¬ ((ρ.1 0).getD k 0) = 4 := fun q => by rw [q] at hs35; revert hs35; decide
      have hn35_4 : ¬ ((ρ.1 0).getD k 0) = 5 := fun q => by rw [q] at hs35; revert hs35; decide
      refine ev_iconst (v := 1) dX12_takesOf_101 (by decide) ?_
      refine ev_iret dX12_takesOf_102 rfl ?_
      refine ⟨?_, rfl⟩
      first | (exfalso; (simp only [Fc, Se, Nat.reduceLT, ↓reduceIte, ← Int32.toInt_inj, Int32.le_iff_toInt_le, Int32.lt_iff_toInt_lt, Int32.reduceToInt] at *; omega)) | (repeat (first | rw [if_pos (by (simp only [Fc, Se, Nat.reduceLT, ↓reduceIte, ← Int32.toInt_inj, Int32.le_iff_toInt_le, Int32.lt_iff_toInt_lt, Int32.reduceToInt] at *; omega))] | rw [if_neg (by (simp only [Fc, Se, Nat.reduceLT, ↓reduceIte, ← Int32.toInt_inj, Int32.le_iff_toInt_le, Int32.lt_iff_toInt_lt, Int32.reduceToInt] at *; omega))] | rw [b2i_t (by (simp only [Fc, Se, Nat.reduceLT, ↓reduceIte, ← Int32.toInt_inj, Int32.le_iff_toInt_le, Int32.lt_iff_toInt_lt, Int32.reduceToInt] at *; omega))] | rw [b2i_f (by (simp only [Fc, Se, Nat.reduceLT, ↓reduceIte, ← Int32.toInt_inj, Int32.le_iff_toInt_le, Int32.lt_iff_toInt_lt, Int32.reduceToInt] at *; omega))])); try rfl
    have hs35 : ((ρ.1 0).getD k 0).toInt = 1 ∨ ((ρ.1 0).getD k 0).toInt = 2 ∨ ((ρ.1 0).getD k 0).toInt = 3 ∨ ((ρ.1 0).getD k 0).toInt = 4 ∨ ((ρ.1 0).getD k 0).toInt = 5 := by omega
    rcases hs35 with hs35 | hs35 | hs35 | hs35 | hs35
    · refine ev_tin (off := 33) (tgt := 68) dX12_takesOf_35 (by omega) (by omega) (by rw [hs35]; rfl) (by decide) ?_
      have he35 : ((ρ.1 0).getD k 0) = 1 := Int32.toInt_inj.mp (hs35.trans (by decide))
      refine ev_iload_n dX12_takesOf_68 rfl ?_
      refine ev_iret dX12_takesOf_69 rfl ?_
      refine ⟨?_, rfl⟩
      first | (exfalso; (simp only [Fc, Se, Nat.reduceLT, ↓reduceIte, ← Int32.toInt_inj, Int32.le_iff_toInt_le, Int32.lt_iff_toInt_lt, Int32.reduceToInt] at *; omega)) | (repeat (first | rw [if_pos (by (simp only [Fc, Se, Nat.reduceLT, ↓reduceIte, ← Int32.toInt_inj, Int32.le_iff_toInt_le, Int32.lt_iff_toInt_lt, Int32.reduceToInt] at *; omega))] | rw [if_neg (by (simp only [Fc, Se, Nat.reduceLT, ↓reduceIte, ← Int32.toInt_inj, Int32.le_iff_toInt_le, Int32.lt_iff_toInt_lt, Int32.reduceToInt] at *; omega))] | rw [b2i_t (by (simp only [Fc, Se, Nat.reduceLT, ↓reduceIte, ← Int32.toInt_inj, Int32.le_iff_toInt_le, Int32.lt_iff_toInt_lt, Int32.reduceToInt] at *; omega))] | rw [b2i_f (by (simp only [Fc, Se, Nat.reduceLT, ↓reduceIte, ← Int32.toInt_inj, Int32.le_iff_toInt_le, Int32.lt_iff_toInt_lt, Int32.reduceToInt] at *; omega))])); try rfl
    · refine ev_tin (off := 35) (tgt := 70) dX12_takesOf_35 (by omega) (by omega) (by rw [hs35]; rfl) (by decide) ?_
      have he35 : ((ρ.1 0).getD k 0) = 2 := Int32.toInt_inj.mp (hs35.trans (by decide))
      refine ev_iload_n dX12_takesOf_70 rfl ?_
      refine ev_iret dX12_takesOf_71 rfl ?_
      refine ⟨?_, rfl⟩
      first | (exfalso; (simp only [Fc, Se, Nat.reduceLT, ↓reduceIte, ← Int32.toInt_inj, Int32.le_iff_toInt_le, Int32.lt_iff_toInt_lt, Int32.reduceToInt] at *; omega)) | (repeat (first | rw [if_pos (by (simp only [Fc, Se, Nat.reduceLT, ↓reduceIte, ← Int32.toInt_inj, Int32.le_iff_toInt_le, Int32.lt_iff_toInt_lt, Int32.reduceToInt] at *; omega))] | rw [if_neg (by (simp only [Fc, Se, Nat.reduceLT, ↓reduceIte, ← Int32.toInt_inj, Int32.le_iff_toInt_le, Int32.lt_iff_toInt_lt, Int32.reduceToInt] at *; omega))] | rw [b2i_t (by (simp only [Fc, Se, Nat.reduceLT, ↓reduceIte, ← Int32.toInt_inj, Int32.le_iff_toInt_le, Int32.lt_iff_toInt_lt, Int32.reduceToInt] at *; omega))] | rw [b2i_f (by (simp only [Fc, Se, Nat.reduceLT, ↓reduceIte, ← Int32.toInt_inj, Int32.le_iff_toInt_le, Int32.lt_iff_toInt_lt, Int32.reduceToInt] at *; omega))])); try rfl
    · refine ev_tin (off := 37) (tgt := 72) dX12_takesOf_35 (by omega) (by omega) (by rw [hs35]; rfl) (by decide) ?_
      have he35 : ((ρ.1 0).getD k 0) = 3 := Int32.toInt_inj.mp (hs35.trans (by decide))
      refine ev_iload_n dX12_takesOf_72 rfl ?_
      refine ev_aload_n dX12_takesOf_73 rfl ?_
      refine ev_iload_n dX12_takesOf_74 rfl ?_
      refine k_v (c_thickOf hM hL hV hk) (by decide) dX12_takesOf_75 cbX12_thickOf (mt5 223 rfl rfl) (mt5 225 rfl rfl) (ms0 60 rfl rfl) (ci := 12) rfl hM.1 rfl rfl (Nat.le_of_ble_eq_true rfl) (fun v μ1 hq => ?_)
      obtain ⟨rfl, hμ⟩ := hq
      have hμ := hμ.symm
      subst hμ
      simp only [Option.toList, List.cons_append, List.nil_append]
      refine ev_iadd dX12_takesOf_78 ?_
      refine ev_iret dX12_takesOf_79 rfl ?_
      refine ⟨?_, rfl⟩
      first | (exfalso; (simp only [Fc, Se, Nat.reduceLT, ↓reduceIte, ← Int32.toInt_inj, Int32.le_iff_toInt_le, Int32.lt_iff_toInt_lt, Int32.reduceToInt] at *; omega)) | (repeat (first | rw [if_pos (by (simp only [Fc, Se, Nat.reduceLT, ↓reduceIte, ← Int32.toInt_inj, Int32.le_iff_toInt_le, Int32.lt_iff_toInt_lt, Int32.reduceToInt] at *; omega))] | rw [if_neg (by (simp only [Fc, Se, Nat.reduceLT, ↓reduceIte, ← Int32.toInt_inj, Int32.le_iff_toInt_le, Int32.lt_iff_toInt_lt, Int32.reduceToInt] at *; omega))] | rw [b2i_t (by (simp only [Fc, Se, Nat.reduceLT, ↓reduceIte, ← Int32.toInt_inj, Int32.le_iff_toInt_le, Int32.lt_iff_toInt_lt, Int32.reduceToInt] at *; omega))] | rw [b2i_f (by (simp only [Fc, Se, Nat.reduceLT, ↓reduceIte, ← Int32.toInt_inj, Int32.le_iff_toInt_le, Int32.lt_iff_toInt_lt, Int32.reduceToInt] at *; omega))])); try rfl
    · refine ev_tin (off := 45) (tgt := 80) dX12_takesOf_35 (by omega) (by omega) (by rw [hs35]; rfl) (by decide) ?_
      have he35 : ((ρ.1 0).getD k 0) = 4 := Int32.toInt_inj.mp (hs35.trans (by decide))
      refine ev_iconst (v := 2) dX12_takesOf_80 (by decide) ?_
      refine ev_iload_n dX12_takesOf_81 rfl ?_
      refine ev_imul dX12_takesOf_82 ?_
      refine ev_iret dX12_takesOf_83 rfl ?_
      refine ⟨?_, rfl⟩
      first | (exfalso; (simp only [Fc, Se, Nat.reduceLT, ↓reduceIte, ← Int32.toInt_inj, Int32.le_iff_toInt_le, Int32.lt_iff_toInt_lt, Int32.reduceToInt] at *; omega)) | (repeat (first | rw [if_pos (by (simp only [Fc, Se, Nat.reduceLT, ↓reduceIte, ← Int32.toInt_inj, Int32.le_iff_toInt_le, Int32.lt_iff_toInt_lt, Int32.reduceToInt] at *; omega))] | rw [if_neg (by (simp only [Fc, Se, Nat.reduceLT, ↓reduceIte, ← Int32.toInt_inj, Int32.le_iff_toInt_le, Int32.lt_iff_toInt_lt, Int32.reduceToInt] at *; omega))] | rw [b2i_t (by (simp only [Fc, Se, Nat.reduceLT, ↓reduceIte, ← Int32.toInt_inj, Int32.le_iff_toInt_le, Int32.lt_iff_toInt_lt, Int32.reduceToInt] at *; omega))] | rw [b2i_f (by (simp only [Fc, Se, Nat.reduceLT, ↓reduceIte, ← Int32.toInt_inj, Int32.le_iff_toInt_le, Int32.lt_iff_toInt_lt, Int32.reduceToInt] at *; omega))])); try rfl
    · refine ev_tin (off := 49) (tgt := 84) dX12_takesOf_35 (by omega) (by omega) (by rw [hs35]; rfl) (by decide) ?_
      have he35 : ((ρ.1 0).getD k 0) = 5 := Int32.toInt_inj.mp (hs35.trans (by decide))
      refine ev_iload_n dX12_takesOf_84 rfl ?_
      refine ev_aload_n dX12_takesOf_85 rfl ?_
      refine ev_get dX12_takesOf_86 flX12_28_12 hM.1 rfl ?_
      refine ev_iconst (v := 5) dX12_takesOf_89 (by decide) ?_
      refine ev_iald dX12_takesOf_90 (hM.a 6 7 (by decide)) ixl5 (rd hL (n := 10) (by decide) (by decide)) ?_
      refine ev_if_le (tgt := 98) dX12_takesOf_91 (by decide) (fun h91 => ?_) (fun h91 => ?_)
      · refine ev_iconst (v := 0) dX12_takesOf_98 (by decide) ?_
        refine ev_iadd dX12_takesOf_99 ?_
        refine ev_iret dX12_takesOf_100 rfl ?_
        refine ⟨?_, rfl⟩
        first | (exfalso; (simp only [Fc, Se, Nat.reduceLT, ↓reduceIte, ← Int32.toInt_inj, Int32.le_iff_toInt_le, Int32.lt_iff_toInt_lt, Int32.reduceToInt] at *; omega)) | (repeat (first | rw [if_pos (by (simp only [Fc, Se, Nat.reduceLT, ↓reduceIte, ← Int32.toInt_inj, Int32.le_iff_toInt_le, Int32.lt_iff_toInt_lt, Int32.reduceToInt] at *; omega))] | rw [if_neg (by (simp only [Fc, Se, Nat.reduceLT, ↓reduceIte, ← Int32.toInt_inj, Int32.le_iff_toInt_le, Int32.lt_iff_toInt_lt, Int32.reduceToInt] at *; omega))] | rw [b2i_t (by (simp only [Fc, Se, Nat.reduceLT, ↓reduceIte, ← Int32.toInt_inj, Int32.le_iff_toInt_le, Int32.lt_iff_toInt_lt, Int32.reduceToInt] at *; omega))] | rw [b2i_f (by (simp only [Fc, Se, Nat.reduceLT, ↓reduceIte, ← Int32.toInt_inj, Int32.le_iff_toInt_le, Int32.lt_iff_toInt_lt, Int32.reduceToInt] at *; omega))])); try rfl
      · refine ev_iconst (v := 1) dX12_takesOf_94 (by decide) ?_
        refine ev_goto (tgt := 99) dX12_takesOf_95 (by decide) ?_
        refine ev_iadd dX12_takesOf_99 ?_
        refine ev_iret dX12_takesOf_100 rfl ?_
        refine ⟨?_, rfl⟩
        first | (exfalso; (simp only [Fc, Se, Nat.reduceLT, ↓reduceIte, ← Int32.toInt_inj, Int32.le_iff_toInt_le, Int32.lt_iff_toInt_lt, Int32.reduceToInt] at *; omega)) | (repeat (first | rw [if_pos (by (simp only [Fc, Se, Nat.reduceLT, ↓reduceIte, ← Int32.toInt_inj, Int32.le_iff_toInt_le, Int32.lt_iff_toInt_lt, Int32.reduceToInt] at *; omega))] | rw [if_neg (by (simp only [Fc, Se, Nat.reduceLT, ↓reduceIte, ← Int32.toInt_inj, Int32.le_iff_toInt_le, Int32.lt_iff_toInt_lt, Int32.reduceToInt] at *; omega))] | rw [b2i_t (by (simp only [Fc, Se, Nat.reduceLT, ↓reduceIte, ← Int32.toInt_inj, Int32.le_iff_toInt_le, Int32.lt_iff_toInt_lt, Int32.reduceToInt] at *; omega))] | rw [b2i_f (by (simp only [Fc, Se, Nat.reduceLT, ↓reduceIte, ← Int32.toInt_inj, Int32.le_iff_toInt_le, Int32.lt_iff_toInt_lt, Int32.reduceToInt] at *; omega))])); try rfl
  · refine ev_iconst (v := 3) dX12_takesOf_22 (by decide) ?_
    refine ev_goto (tgt := 27) dX12_takesOf_23 (by decide) ?_
    refine ev_iadd dX12_takesOf_27 ?_
    refine ev_istore_n dX12_takesOf_28 (by decide) ?_
    dsimp only [List.set]
    refine ev_aload_n dX12_takesOf_29 rfl ?_
    refine ev_get dX12_takesOf_30 flX12_7_12 hM.1 rfl ?_
    refine ev_iload_n dX12_takesOf_33 rfl ?_
    refine ev_iald dX12_takesOf_34 (hM.a 0 1 (by decide)) (ix_n (by omega)) (rd hL (n := 7) (by decide) hk) ?_
    by_cases hs35 : ((ρ.1 0).getD k 0).toInt < 1 ∨ 5 < ((ρ.1 0).getD k 0).toInt
    · refine ev_tout (tgt := 101) dX12_takesOf_35 hs35 (by decide) ?_
      have hn35_0 : ¬ ((ρ.1 0).getD k 0) = 1 := fun q => by rw [q] at hs35; revert hs35; decide
      have hn35_1 : ¬ ((ρ.1 0).getD k 0) = 2 := fun q => by rw [q] at hs35; revert hs35; decide
      have hn35_2 : ¬ ((ρ.1 0).getD k 0) = 3 := fun q => by rw [q] at hs35; revert hs35; decide
      have hn35_3 : ¬ ((ρ.1 0).getD k 0) = 4 := fun q => by rw [q] at hs35; revert hs35; decide
      have hn35_4 : ¬ ((ρ.1 0).getD k 0) = 5 := fun q => by rw [q] at hs35; revert hs35; decide
      refine ev_iconst (v := 1) dX12_takesOf_101 (by decide) ?_
      refine ev_iret dX12_takesOf_102 rfl ?_
      refine ⟨?_, rfl⟩
      first | (exfalso; (simp only [Fc, Se, Nat.reduceLT, ↓reduceIte, ← Int32.toInt_inj, Int32.le_iff_toInt_le, Int32.lt_iff_toInt_lt, Int32.reduceToInt] at *; omega)) | (repeat (first | rw [if_pos (by (simp only [Fc, Se, Nat.reduceLT, ↓reduceIte, ← Int32.toInt_inj, Int32.le_iff_toInt_le, Int32.lt_iff_toInt_lt, Int32.reduceToInt] at *; omega))] | rw [if_neg (by (simp only [Fc, Se, Nat.reduceLT, ↓reduceIte, ← Int32.toInt_inj, Int32.le_iff_toInt_le, Int32.lt_iff_toInt_lt, Int32.reduceToInt] at *; omega))] | rw [b2i_t (by (simp only [Fc, Se, Nat.reduceLT, ↓reduceIte, ← Int32.toInt_inj, Int32.le_iff_toInt_le, Int32.lt_iff_toInt_lt, Int32.reduceToInt] at *; omega))] | rw [b2i_f (by (simp only [Fc, Se, Nat.reduceLT, ↓reduceIte, ← Int32.toInt_inj, Int32.le_iff_toInt_le, Int32.lt_iff_toInt_lt, Int32.reduceToInt] at *; omega))])); try rfl
    have hs35 : ((ρ.1 0).getD k 0).toInt = 1 ∨ ((ρ.1 0).getD k 0).toInt = 2 ∨ ((ρ.1 0).getD k 0).toInt = 3 ∨ ((ρ.1 0).getD k 0).toInt = 4 ∨ ((ρ.1 0).getD k 0).toInt = 5 := by omega
    rcases hs35 with hs35 | hs35 | hs35 | hs35 | hs35
    · refine ev_tin (off := 33) (tgt := 68) dX12_takesOf_35 (by omega) (by omega) (by rw [hs35]; rfl) (by decide) ?_
      have he35 : ((ρ.1 0).getD k 0) = 1 := Int32.toInt_inj.mp (hs35.trans (by decide))
      refine ev_iload_n dX12_takesOf_68 rfl ?_
      refine ev_iret dX12_takesOf_69 rfl ?_
      refine ⟨?_, rfl⟩
      first | (exfalso; (simp only [Fc, Se, Nat.reduceLT, ↓reduceIte, ← Int32.toInt_inj, Int32.le_iff_toInt_le, Int32.lt_iff_toInt_lt, Int32.reduceToInt] at *; omega)) | (repeat (first | rw [if_pos (by (simp only [Fc, Se, Nat.reduceLT, ↓reduceIte, ← Int32.toInt_inj, Int32.le_iff_toInt_le, Int32.lt_iff_toInt_lt, Int32.reduceToInt] at *; omega))] | rw [if_neg (by (simp only [Fc, Se, Nat.reduceLT, ↓reduceIte, ← Int32.toInt_inj, Int32.le_iff_toInt_le, Int32.lt_iff_toInt_lt, Int32.reduceToInt] at *; omega))] | rw [b2i_t (by (simp only [Fc, Se, Nat.reduceLT, ↓reduceIte, ← Int32.toInt_inj, Int32.le_iff_toInt_le, Int32.lt_iff_toInt_lt, Int32.reduceToInt] at *; omega))] | rw [b2i_f (by (simp only [Fc, Se, Nat.reduceLT, ↓reduceIte, ← Int32.toInt_inj, Int32.le_iff_toInt_le, Int32.lt_iff_toInt_lt, Int32.reduceToInt] at *; omega))])); try rfl
    · refine ev_tin (off := 35) (tgt := 70) dX12_takesOf_35 (by omega) (by omega) (by rw [hs35]; rfl) (by decide) ?_
      have he35 : ((ρ.1 0).getD k 0) = 2 := Int32.toInt_inj.mp (hs35.trans (by decide))
      refine ev_iload_n dX12_takesOf_70 rfl ?_
      refine ev_iret dX12_takesOf_71 rfl ?_
      refine ⟨?_, rfl⟩
      first | (exfalso; (simp only [Fc, Se, Nat.reduceLT, ↓reduceIte, ← Int32.toInt_inj, Int32.le_iff_toInt_le, Int32.lt_iff_toInt_lt, Int32.reduceToInt] at *; omega)) | (repeat (first | rw [if_pos (by (simp only [Fc, Se, Nat.reduceLT, ↓reduceIte, ← Int32.toInt_inj, Int32.le_iff_toInt_le, Int32.lt_iff_toInt_lt, Int32.reduceToInt] at *; omega))] | rw [if_neg (by (simp only [Fc, Se, Nat.reduceLT, ↓reduceIte, ← Int32.toInt_inj, Int32.le_iff_toInt_le, Int32.lt_iff_toInt_lt, Int32.reduceToInt] at *; omega))] | rw [b2i_t (by (simp only [Fc, Se, Nat.reduceLT, ↓reduceIte, ← Int32.toInt_inj, Int32.le_iff_toInt_le, Int32.lt_iff_toInt_lt, Int32.reduceToInt] at *; omega))] | rw [b2i_f (by (simp only [Fc, Se, Nat.reduceLT, ↓reduceIte, ← Int32.toInt_inj, Int32.le_iff_toInt_le, Int32.lt_iff_toInt_lt, Int32.reduceToInt] at *; omega))])); try rfl
    · refine ev_tin (off := 37) (tgt := 72) dX12_takesOf_35 (by omega) (by omega) (by rw [hs35]; rfl) (by decide) ?_
      have he35 : ((ρ.1 0).getD k 0) = 3 := Int32.toInt_inj.mp (hs35.trans (by decide))
      refine ev_iload_n dX12_takesOf_72 rfl ?_
      refine ev_aload_n dX12_takesOf_73 rfl ?_
      refine ev_iload_n dX12_takesOf_74 rfl ?_
      refine k_v (c_thickOf hM hL hV hk) (by decide) dX12_takesOf_75 cbX12_thickOf (mt5 223 rfl rfl) (mt5 225 rfl rfl) (ms0 60 rfl rfl) (ci := 12) rfl hM.1 rfl rfl (Nat.le_of_ble_eq_true rfl) (fun v μ1 hq => ?_)
      obtain ⟨rfl, hμ⟩ := hq
      have hμ := hμ.symm
      subst hμ
      simp only [Option.toList, List.cons_append, List.nil_append]
      refine ev_iadd dX12_takesOf_78 ?_
      refine ev_iret dX12_takesOf_79 rfl ?_
      refine ⟨?_, rfl⟩
      first | (exfalso; (simp only [Fc, Se, Nat.reduceLT, ↓reduceIte, ← Int32.toInt_inj, Int32.le_iff_toInt_le, Int32.lt_iff_toInt_lt, Int32.reduceToInt] at *; omega)) | (repeat (first | rw [if_pos (by (simp only [Fc, Se, Nat.reduceLT, ↓reduceIte, ← Int32.toInt_inj, Int32.le_iff_toInt_le, Int32.lt_iff_toInt_lt, Int32.reduceToInt] at *; omega))] | rw [if_neg (by (simp only [Fc, Se, Nat.reduceLT, ↓reduceIte, ← Int32.toInt_inj, Int32.le_iff_toInt_le, Int32.lt_iff_toInt_lt, Int32.reduceToInt] at *; omega))] | rw [b2i_t (by (simp only [Fc, Se, Nat.reduceLT, ↓reduceIte, ← Int32.toInt_inj, Int32.le_iff_toInt_le, Int32.lt_iff_toInt_lt, Int32.reduceToInt] at *; omega))] | rw [b2i_f (by (simp only [Fc, Se, Nat.reduceLT, ↓reduceIte, ← Int32.toInt_inj, Int32.le_iff_toInt_le, Int32.lt_iff_toInt_lt, Int32.reduceToInt] at *; omega))])); try rfl
    · refine ev_tin (off := 45) (tgt := 80) dX12_takesOf_35 (by omega) (by omega) (by rw [hs35]; rfl) (by decide) ?_
      have he35 : ((ρ.1 0).getD k 0) = 4 := Int32.toInt_inj.mp (hs35.trans (by decide))
      refine ev_iconst (v := 2) dX12_takesOf_80 (by decide) ?_
      refine ev_iload_n dX12_takesOf_81 rfl ?_
      refine ev_imul dX12_takesOf_82 ?_
      refine ev_iret dX12_takesOf_83 rfl ?_
      refine ⟨?_, rfl⟩
      first | (exfalso; (simp only [Fc, Se, Nat.reduceLT, ↓reduceIte, ← Int32.toInt_inj, Int32.le_iff_toInt_le, Int32.lt_iff_toInt_lt, Int32.reduceToInt] at *; omega)) | (repeat (first | rw [if_pos (by (simp only [Fc, Se, Nat.reduceLT, ↓reduceIte, ← Int32.toInt_inj, Int32.le_iff_toInt_le, Int32.lt_iff_toInt_lt, Int32.reduceToInt] at *; omega))] | rw [if_neg (by (simp only [Fc, Se, Nat.reduceLT, ↓reduceIte, ← Int32.toInt_inj, Int32.le_iff_toInt_le, Int32.lt_iff_toInt_lt, Int32.reduceToInt] at *; omega))] | rw [b2i_t (by (simp only [Fc, Se, Nat.reduceLT, ↓reduceIte, ← Int32.toInt_inj, Int32.le_iff_toInt_le, Int32.lt_iff_toInt_lt, Int32.reduceToInt] at *; omega))] | rw [b2i_f (by (simp only [Fc, Se, Nat.reduceLT, ↓reduceIte, ← Int32.toInt_inj, Int32.le_iff_toInt_le, Int32.lt_iff_toInt_lt, Int32.reduceToInt] at *; omega))])); try rfl
    · refine ev_tin (off := 49) (tgt := 84) dX12_takesOf_35 (by omega) (by omega) (by rw [hs35]; rfl) (by decide) ?_
      have he35 : ((ρ.1 0).getD k 0) = 5 := Int32.toInt_inj.mp (hs35.trans (by decide))
      refine ev_iload_n dX12_takesOf_84 rfl ?_
      refine ev_aload_n dX12_takesOf_85 rfl ?_
      refine ev_get dX12_takesOf_86 flX12_28_12 hM.1 rfl ?_
      refine ev_iconst (v := 5) dX12_takesOf_89 (by decide) ?_
      refine ev_iald dX12_takesOf_90 (hM.a 6 7 (by decide)) ixl5 (rd hL (n := 10) (by decide) (by decide)) ?_
      refine ev_if_le (tgt := 98) dX12_takesOf_91 (by decide) (fun h91 => ?_) (fun h91 => ?_)
      · refine ev_iconst (v := 0) dX12_takesOf_98 (by decide) ?_
        refine ev_iadd dX12_takesOf_99 ?_
        refine ev_iret dX12_takesOf_100 rfl ?_
        refine ⟨?_, rfl⟩
        first | (exfalso; (simp only [Fc, Se, Nat.reduceLT, ↓reduceIte, ← Int32.toInt_inj, Int32.le_iff_toInt_le, Int32.lt_iff_toInt_lt, Int32.reduceToInt] at *; omega)) | (repeat (first | rw [if_pos (by (simp only [Fc, Se, Nat.reduceLT, ↓reduceIte, ← Int32.toInt_inj, Int32.le_iff_toInt_le, Int32.lt_iff_toInt_lt, Int32.reduceToInt] at *; omega))] | rw [if_neg (by (simp only [Fc, Se, Nat.reduceLT, ↓reduceIte, ← Int32.toInt_inj, Int32.le_iff_toInt_le, Int32.lt_iff_toInt_lt, Int32.reduceToInt] at *; omega))] | rw [b2i_t (by (simp only [Fc, Se, Nat.reduceLT, ↓reduceIte, ← Int32.toInt_inj, Int32.le_iff_toInt_le, Int32.lt_iff_toInt_lt, Int32.reduceToInt] at *; omega))] | rw [b2i_f (by (simp only [Fc, Se, Nat.reduceLT, ↓reduceIte, ← Int32.toInt_inj, Int32.le_iff_toInt_le, Int32.lt_iff_toInt_lt, Int32.reduceToInt] at *; omega))])); try rfl
      · refine ev_iconst (v := 1) dX12_takesOf_94 (by decide) ?_
        refine ev_goto (tgt := 99) dX12_takesOf_95 (by decide) ?_
        refine ev_iadd dX12_takesOf_99 ?_
        refine ev_iret dX12_takesOf_100 rfl ?_
        refine ⟨?_, rfl⟩
        first | (exfalso; (simp only [Fc, Se, Nat.reduceLT, ↓reduceIte, ← Int32.toInt_inj, Int32.le_iff_toInt_le, Int32.lt_iff_toInt_lt, Int32.reduceToInt] at *; omega)) | (repeat (first | rw [if_pos (by (simp only [Fc, Se, Nat.reduceLT, ↓reduceIte, ← Int32.toInt_inj, Int32.le_iff_toInt_le, Int32.lt_iff_toInt_lt, Int32.reduceToInt] at *; omega))] | rw [if_neg (by (simp only [Fc, Se, Nat.reduceLT, ↓reduceIte, ← Int32.toInt_inj, Int32.le_iff_toInt_le, Int32.lt_iff_toInt_lt, Int32.reduceToInt] at *; omega))] | rw [b2i_t (by (simp only [Fc, Se, Nat.reduceLT, ↓reduceIte, ← Int32.toInt_inj, Int32.le_iff_toInt_le, Int32.lt_iff_toInt_lt, Int32.reduceToInt] at *; omega))] | rw [b2i_f (by (simp only [Fc, Se, Nat.reduceLT, ↓reduceIte, ← Int32.toInt_inj, Int32.le_iff_toInt_le, Int32.lt_iff_toInt_lt, Int32.reduceToInt] at *; omega))])); try rfl
theorem c_far (hM : RM b ρ μ) (hL : ML ρ) (hS : ¬ Se ρ 3 = 0) (x y : Int32) : Pu g 0 mX12_far [.ref b, .int x, .int y] μ (far32 x y (Se ρ 3)) := by
  refine Mt.of0 (ls0 := [some (.ref b), some (.int x), some (.int y), none]) (by decide) (by simp [Value.category]) (Nat.le_of_ble_eq_true rfl) rfl ?_
  unfold far32
  refine ev_iload_n dX12_far_0 rfl ?_
  refine ev_iload_n dX12_far_1 rfl ?_
  refine ev_icmp_ge (tgt := 11) dX12_far_2 (by decide) (fun h2 => ?_) (fun h2 => ?_)
  · refine ev_iload_n dX12_far_11 rfl ?_
    refine ev_iload_n dX12_far_12 rfl ?_
    refine ev_isub dX12_far_13 ?_
    refine ev_istore_n dX12_far_14 (by decide) ?_
    dsimp only [List.set]
    refine ev_iload_n dX12_far_15 rfl ?_
    refine ev_aload_n dX12_far_16 rfl ?_
    refine ev_get dX12_far_17 flX12_28_12 hM.1 rfl ?_
    refine ev_iconst (v := 3) dX12_far_20 (by decide) ?_
    refine ev_iald dX12_far_21 (hM.a 6 7 (by decide)) ixl3 (rd hL (n := 10) (by decide) (by decide)) ?_
    refine ev_iadd dX12_far_22 ?_
    refine ev_iconst (v := 1) dX12_far_23 (by decide) ?_
    refine ev_isub dX12_far_24 ?_
    refine ev_aload_n dX12_far_25 rfl ?_
    refine ev_get dX12_far_26 flX12_28_12 hM.1 rfl ?_
    refine ev_iconst (v := 3) dX12_far_29 (by decide) ?_
    refine ev_iald dX12_far_30 (hM.a 6 7 (by decide)) ixl3 (rd hL (n := 10) (by decide) (by decide)) ?_
    refine ev_idiv dX12_far_31 hS ?_
    refine ev_iret dX12_far_32 rfl ?_
    refine ⟨?_, rfl⟩
    first | (exfalso; (simp only [Fc, Se, Nat.reduceLT, ↓reduceIte, ← Int32.toInt_inj, Int32.le_iff_toInt_le, Int32.lt_iff_toInt_lt, Int32.reduceToInt] at *; omega)) | (repeat (first | rw [if_pos (by (simp only [Fc, Se, Nat.reduceLT, ↓reduceIte, ← Int32.toInt_inj, Int32.le_iff_toInt_le, Int32.lt_iff_toInt_lt, Int32.reduceToInt] at *; omega))] | rw [if_neg (by (simp only [Fc, Se, Nat.reduceLT, ↓reduceIte, ← Int32.toInt_inj, Int32.le_iff_toInt_le, Int32.lt_iff_toInt_lt, Int32.reduceToInt] at *; omega))] | rw [b2i_t (by (simp only [Fc, Se, Nat.reduceLT, ↓reduceIte, ← Int32.toInt_inj, Int32.le_iff_toInt_le, Int32.lt_iff_toInt_lt, Int32.reduceToInt] at *; omega))] | rw [b2i_f (by (simp only [Fc, Se, Nat.reduceLT, ↓reduceIte, ← Int32.toInt_inj, Int32.le_iff_toInt_le, Int32.lt_iff_toInt_lt, Int32.reduceToInt] at *; omega))])); try rfl
  · refine ev_iload_n dX12_far_5 rfl ?_
    refine ev_iload_n dX12_far_6 rfl ?_
    refine ev_isub dX12_far_7 ?_
    refine ev_goto (tgt := 14) dX12_far_8 (by decide) ?_
    refine ev_istore_n dX12_far_14 (by decide) ?_
    dsimp only [List.set]
    refine ev_iload_n dX12_far_15 rfl ?_
    refine ev_aload_n dX12_far_16 rfl ?_
    refine ev_get dX12_far_17 flX12_28_12 hM.1 rfl ?_
    refine ev_iconst (v := 3) dX12_far_20 (by decide) ?_
    refine ev_iald dX12_far_21 (hM.a 6 7 (by decide)) ixl3 (rd hL (n := 10) (by decide) (by decide)) ?_
    refine ev_iadd dX12_far_22 ?_
    refine ev_iconst (v := 1) dX12_far_23 (by decide) ?_
    refine ev_isub dX12_far_24 ?_
    refine ev_aload_n dX12_far_25 rfl ?_
    refine ev_get dX12_far_26 flX12_28_12 hM.1 rfl ?_
    refine ev_iconst (v := 3) dX12_far_29 (by decide) ?_
    refine ev_iald dX12_far_30 (hM.a 6 7 (by decide)) ixl3 (rd hL (n := 10) (by decide) (by decide)) ?_
    refine ev_idiv dX12_far_31 hS ?_
    refine ev_iret dX12_far_32 rfl ?_
    refine ⟨?_, rfl⟩
    first | (exfalso; (simp only [Fc, Se, Nat.reduceLT, ↓reduceIte, ← Int32.toInt_inj, Int32.le_iff_toInt_le, Int32.lt_iff_toInt_lt, Int32.reduceToInt] at *; omega)) | (repeat (first | rw [if_pos (by (simp only [Fc, Se, Nat.reduceLT, ↓reduceIte, ← Int32.toInt_inj, Int32.le_iff_toInt_le, Int32.lt_iff_toInt_lt, Int32.reduceToInt] at *; omega))] | rw [if_neg (by (simp only [Fc, Se, Nat.reduceLT, ↓reduceIte, ← Int32.toInt_inj, Int32.le_iff_toInt_le, Int32.lt_iff_toInt_lt, Int32.reduceToInt] at *; omega))] | rw [b2i_t (by (simp only [Fc, Se, Nat.reduceLT, ↓reduceIte, ← Int32.toInt_inj, Int32.le_iff_toInt_le, Int32.lt_iff_toInt_lt, Int32.reduceToInt] at *; omega))] | rw [b2i_f (by (simp only [Fc, Se, Nat.reduceLT, ↓reduceIte, ← Int32.toInt_inj, Int32.le_iff_toInt_le, Int32.lt_iff_toInt_lt, Int32.reduceToInt] at *; omega))])); try rfl
end MGET
