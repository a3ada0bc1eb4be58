/-! ===== the reference: its leaves ===== -/
abbrev b2i (p : Prop) [Decidable p] : Int32 := if p then 1 else 0
theorem b2i_t {p : Prop} [Decidable p] (h : p) : b2i p = 1 := if_pos h
theorem b2i_f {p : Prop} [Decidable p] (h : ¬ p) : b2i p = 0 := if_neg h
theorem b2i_ne {p : Prop} [Decidable p] (h : ¬ b2i p = 0) : p := Classical.byContradiction fun n => h (b2i_f n)
theorem b2i_eq {p : Prop} [Decidable p] (h : b2i p = 0) : ¬ p := fun n => by rw [b2i_t n] at h; exact absurd h (by decide)
/-- a contract of a method that changes nothing and answers an int -/
abbrev Pu (g : Gl) (d : Nat) (Y : Md) (av : List Value) (μ : Mm) (r : Int32) : Prop := Mt g d Y av μ (fun v μ' => v = some (.int r) ∧ μ' = μ)
theorem c_isIn {g : Gl} {μ : Mm} (v least most : Int32) : Pu g 0 mX12_isIn [.int v, .int least, .int most] μ (b2i (least ≤ v ∧ v ≤ most)) := by
  refine Mt.of0 (ls0 := [some (.int v), some (.int least), some (.int most)]) (by decide) (by simp [Value.category]) (Nat.le_of_ble_eq_true rfl) rfl ?_
  refine ev_iload_n dX12_isIn_0 rfl ?_
  refine ev_iload_n dX12_isIn_1 rfl ?_
  refine ev_icmp_lt (tgt := 14) dX12_isIn_2 (by decide) (fun h2 => ?_) (fun h2 => ?_)
  · refine ev_iconst (v := 0) dX12_isIn_14 (by decide) ?_
    refine ev_zret dX12_isIn_15 rfl (by decide) ?_
    refine ⟨?_, rfl⟩
    first | (rw [b2i_t (by (simp only [← Int32.toInt_inj, Int32.le_iff_toInt_le, Int32.lt_iff_toInt_lt, Int32.reduceToInt] at *; omega))]; done) | (rw [b2i_f (by (simp only [← Int32.toInt_inj, Int32.le_iff_toInt_le, Int32.lt_iff_toInt_lt, Int32.reduceToInt] at *; omega))]; done) | (exfalso; (simp only [← Int32.toInt_inj, Int32.le_iff_toInt_le, Int32.lt_iff_toInt_lt, Int32.reduceToInt] at *; omega))
  · refine ev_iload_n dX12_isIn_5 rfl ?_
    refine ev_iload_n dX12_isIn_6 rfl ?_
    refine ev_icmp_gt (tgt := 14) dX12_isIn_7 (by decide) (fun h7 => ?_) (fun h7 => ?_)
    · refine ev_iconst (v := 0) dX12_isIn_14 (by decide) ?_
      refine ev_zret dX12_isIn_15 rfl (by decide) ?_
      refine ⟨?_, rfl⟩
      first | (rw [b2i_t (by (simp only [← Int32.toInt_inj, Int32.le_iff_toInt_le, Int32.lt_iff_toInt_lt, Int32.reduceToInt] at *; omega))]; done) | (rw [b2i_f (by (simp only [← Int32.toInt_inj, Int32.le_iff_toInt_le, Int32.lt_iff_toInt_lt, Int32.reduceToInt] at *; omega))]; done) | (exfalso; (simp only [← Int32.toInt_inj, Int32.le_iff_toInt_le, Int32.lt_iff_toInt_lt, Int32.reduceToInt] at *; omega))
    · refine ev_iconst (v := 1) dX12_isIn_10 (by decide) ?_
      refine ev_goto (tgt := 15) dX12_isIn_11 (by decide) ?_
      refine ev_zret dX12_isIn_15 rfl (by decide) ?_
      refine ⟨?_, rfl⟩
      first | (rw [b2i_t (by (simp only [← Int32.toInt_inj, Int32.le_iff_toInt_le, Int32.lt_iff_toInt_lt, Int32.reduceToInt] at *; omega))]; done) | (rw [b2i_f (by (simp only [← Int32.toInt_inj, Int32.le_iff_toInt_le, Int32.lt_iff_toInt_lt, Int32.reduceToInt] at *; omega))]; done) | (exfalso; (simp only [← Int32.toInt_inj, Int32.le_iff_toInt_le, Int32.lt_iff_toInt_lt, Int32.reduceToInt] at *; omega))
theorem c_isHouse {g : Gl} {μ : Mm} {b : Nat} {ρ : MS} (hM : RM b ρ μ) (h : Int32) : Pu g 0 mX12_isHouse [.ref b, .int h] μ (b2i (0 ≤ h ∧ h < ρ.2 7)) := by
  refine Mt.of0 (ls0 := [some (.ref b), some (.int h)]) (by decide) (by simp [Value.category]) (Nat.le_of_ble_eq_true rfl) rfl ?_
  refine ev_iload_n dX12_isHouse_0 rfl ?_
  refine ev_if_lt (tgt := 16) dX12_isHouse_1 (by decide) (fun h1 => ?_) (fun h1 => ?_)
  · refine ev_iconst (v := 0) dX12_isHouse_16 (by decide) ?_
    refine ev_zret dX12_isHouse_17 rfl (by decide) ?_
    refine ⟨?_, rfl⟩
    first | (rw [b2i_t (by (simp only [← Int32.toInt_inj, Int32.le_iff_toInt_le, Int32.lt_iff_toInt_lt, Int32.reduceToInt] at *; omega))]; done) | (rw [b2i_f (by (simp only [← Int32.toInt_inj, Int32.le_iff_toInt_le, Int32.lt_iff_toInt_lt, Int32.reduceToInt] at *; omega))]; done) | (exfalso; (simp only [← Int32.toInt_inj, Int32.le_iff_toInt_le, Int32.lt_iff_toInt_lt, Int32.reduceToInt] at *; omega))
  · refine ev_iload_n dX12_isHouse_4 rfl ?_
    refine ev_aload_n dX12_isHouse_5 rfl ?_
    refine ev_get dX12_isHouse_6 flX12_82_12 hM.1 rfl ?_
    refine ev_icmp_ge (tgt := 16) dX12_isHouse_9 (by decide) (fun h9 => ?_) (fun h9 => ?_)
    · refine ev_iconst (v := 0) dX12_isHouse_16 (by decide) ?_
      refine ev_zret dX12_isHouse_17 rfl (by decide) ?_
      refine ⟨?_, rfl⟩
      first | (rw [b2i_t (by (simp only [← Int32.toInt_inj, Int32.le_iff_toInt_le, Int32.lt_iff_toInt_lt, Int32.reduceToInt] at *; omega))]; done) | (rw [b2i_f (by (simp only [← Int32.toInt_inj, Int32.le_iff_toInt_le, Int32.lt_iff_toInt_lt, Int32.reduceToInt] at *; omega))]; done) | (exfalso; (simp only [← Int32.toInt_inj, Int32.le_iff_toInt_le, Int32.lt_iff_toInt_lt, Int32.reduceToInt] at *; omega))
    · refine ev_iconst (v := 1) dX12_isHouse_12 (by decide) ?_
      refine ev_goto (tgt := 17) dX12_isHouse_13 (by decide) ?_
      refine ev_zret dX12_isHouse_17 rfl (by decide) ?_
      refine ⟨?_, rfl⟩
      first | (rw [b2i_t (by (simp only [← Int32.toInt_inj, Int32.le_iff_toInt_le, Int32.lt_iff_toInt_lt, Int32.reduceToInt] at *; omega))]; done) | (rw [b2i_f (by (simp only [← Int32.toInt_inj, Int32.le_iff_toInt_le, Int32.lt_iff_toInt_lt, Int32.reduceToInt] at *; omega))]; done) | (exfalso; (simp only [← Int32.toInt_inj, Int32.le_iff_toInt_le, Int32.lt_iff_toInt_lt, Int32.reduceToInt] at *; omega))
theorem c_isSheet {g : Gl} {μ : Mm} (h : Int32) : Pu g 0 mX12_isSheet [.int h] μ (b2i (0 ≤ h ∧ h < 4)) := by
  refine Mt.of0 (ls0 := [some (.int h)]) (by decide) (by simp [Value.category]) (Nat.le_of_ble_eq_true rfl) rfl ?_
  refine ev_iload_n dX12_isSheet_0 rfl ?_
  refine ev_if_lt (tgt := 13) dX12_isSheet_1 (by decide) (fun h1 => ?_) (fun h1 => ?_)
  · refine ev_iconst (v := 0) dX12_isSheet_13 (by decide) ?_
    refine ev_zret dX12_isSheet_14 rfl (by decide) ?_
    refine ⟨?_, rfl⟩
    first | (rw [b2i_t (by (simp only [← Int32.toInt_inj, Int32.le_iff_toInt_le, Int32.lt_iff_toInt_lt, Int32.reduceToInt] at *; omega))]; done) | (rw [b2i_f (by (simp only [← Int32.toInt_inj, Int32.le_iff_toInt_le, Int32.lt_iff_toInt_lt, Int32.reduceToInt] at *; omega))]; done) | (exfalso; (simp only [← Int32.toInt_inj, Int32.le_iff_toInt_le, Int32.lt_iff_toInt_lt, Int32.reduceToInt] at *; omega))
  · refine ev_iload_n dX12_isSheet_4 rfl ?_
    refine ev_iconst (v := 4) dX12_isSheet_5 (by decide) ?_
    refine ev_icmp_ge (tgt := 13) dX12_isSheet_6 (by decide) (fun h6 => ?_) (fun h6 => ?_)
    · refine ev_iconst (v := 0) dX12_isSheet_13 (by decide) ?_
      refine ev_zret dX12_isSheet_14 rfl (by decide) ?_
      refine ⟨?_, rfl⟩
      first | (rw [b2i_t (by (simp only [← Int32.toInt_inj, Int32.le_iff_toInt_le, Int32.lt_iff_toInt_lt, Int32.reduceToInt] at *; omega))]; done) | (rw [b2i_f (by (simp only [← Int32.toInt_inj, Int32.le_iff_toInt_le, Int32.lt_iff_toInt_lt, Int32.reduceToInt] at *; omega))]; done) | (exfalso; (simp only [← Int32.toInt_inj, Int32.le_iff_toInt_le, Int32.lt_iff_toInt_lt, Int32.reduceToInt] at *; omega))
    · refine ev_iconst (v := 1) dX12_isSheet_9 (by decide) ?_
      refine ev_goto (tgt := 14) dX12_isSheet_10 (by decide) ?_
      refine ev_zret dX12_isSheet_14 rfl (by decide) ?_
      refine ⟨?_, rfl⟩
      first | (rw [b2i_t (by (simp only [← Int32.toInt_inj, Int32.le_iff_toInt_le, Int32.lt_iff_toInt_lt, Int32.reduceToInt] at *; omega))]; done) | (rw [b2i_f (by (simp only [← Int32.toInt_inj, Int32.le_iff_toInt_le, Int32.lt_iff_toInt_lt, Int32.reduceToInt] at *; omega))]; done) | (exfalso; (simp only [← Int32.toInt_inj, Int32.le_iff_toInt_le, Int32.lt_iff_toInt_lt, Int32.reduceToInt] at *; omega))
theorem c_bounded {g : Gl} {μ : Mm} (v a z : Int32) : Pu g 0 mX12_bounded [.int v, .int a, .int z] μ (if v < a then a else if z < v then z else v) := by
  refine Mt.of0 (ls0 := [some (.int v), some (.int a), some (.int z)]) (by decide) (by simp [Value.category]) (Nat.le_of_ble_eq_true rfl) rfl ?_
  refine ev_iload_n dX12_bounded_0 rfl ?_
  refine ev_iload_n dX12_bounded_1 rfl ?_
  refine ev_icmp_ge (tgt := 9) dX12_bounded_2 (by decide) (fun h2 => ?_) (fun h2 => ?_)
  · refine ev_iload_n dX12_bounded_9 rfl ?_
    refine ev_iload_n dX12_bounded_10 rfl ?_
    refine ev_icmp_le (tgt := 18) dX12_bounded_11 (by decide) (fun h11 => ?_) (fun h11 => ?_)
    · refine ev_iload_n dX12_bounded_18 rfl ?_
      refine ev_iret dX12_bounded_19 rfl ?_
      refine ⟨?_, rfl⟩
      first | (exfalso; (simp only [← Int32.toInt_inj, Int32.le_iff_toInt_le, Int32.lt_iff_toInt_lt, Int32.reduceToInt] at *; omega)) | (repeat (first | rw [if_pos (by (simp only [← Int32.toInt_inj, Int32.le_iff_toInt_le, Int32.lt_iff_toInt_lt, Int32.reduceToInt] at *; omega))] | rw [if_neg (by (simp only [← Int32.toInt_inj, Int32.le_iff_toInt_le, Int32.lt_iff_toInt_lt, Int32.reduceToInt] at *; omega))] | rw [b2i_t (by (simp only [← Int32.toInt_inj, Int32.le_iff_toInt_le, Int32.lt_iff_toInt_lt, Int32.reduceToInt] at *; omega))] | rw [b2i_f (by (simp only [← Int32.toInt_inj, Int32.le_iff_toInt_le, Int32.lt_iff_toInt_lt, Int32.reduceToInt] at *; omega))])); try rfl
    · refine ev_iload_n dX12_bounded_14 rfl ?_
      refine ev_goto (tgt := 19) dX12_bounded_15 (by decide) ?_
      refine ev_iret dX12_bounded_19 rfl ?_
      refine ⟨?_, rfl⟩
      first | (exfalso; (simp only [← Int32.toInt_inj, Int32.le_iff_toInt_le, Int32.lt_iff_toInt_lt, Int32.reduceToInt] at *; omega)) | (repeat (first | rw [if_pos (by (simp only [← Int32.toInt_inj, Int32.le_iff_toInt_le, Int32.lt_iff_toInt_lt, Int32.reduceToInt] at *; omega))] | rw [if_neg (by (simp only [← Int32.toInt_inj, Int32.le_iff_toInt_le, Int32.lt_iff_toInt_lt, Int32.reduceToInt] at *; omega))] | rw [b2i_t (by (simp only [← Int32.toInt_inj, Int32.le_iff_toInt_le, Int32.lt_iff_toInt_lt, Int32.reduceToInt] at *; omega))] | rw [b2i_f (by (simp only [← Int32.toInt_inj, Int32.le_iff_toInt_le, Int32.lt_iff_toInt_lt, Int32.reduceToInt] at *; omega))])); try rfl
  · refine ev_iload_n dX12_bounded_5 rfl ?_
    refine ev_goto (tgt := 19) dX12_bounded_6 (by decide) ?_
    refine ev_iret dX12_bounded_19 rfl ?_
    refine ⟨?_, rfl⟩
    first | (exfalso; (simp only [← Int32.toInt_inj, Int32.le_iff_toInt_le, Int32.lt_iff_toInt_lt, Int32.reduceToInt] at *; omega)) | (repeat (first | rw [if_pos (by (simp only [← Int32.toInt_inj, Int32.le_iff_toInt_le, Int32.lt_iff_toInt_lt, Int32.reduceToInt] at *; omega))] | rw [if_neg (by (simp only [← Int32.toInt_inj, Int32.le_iff_toInt_le, Int32.lt_iff_toInt_lt, Int32.reduceToInt] at *; omega))] | rw [b2i_t (by (simp only [← Int32.toInt_inj, Int32.le_iff_toInt_le, Int32.lt_iff_toInt_lt, Int32.reduceToInt] at *; omega))] | rw [b2i_f (by (simp only [← Int32.toInt_inj, Int32.le_iff_toInt_le, Int32.lt_iff_toInt_lt, Int32.reduceToInt] at *; omega))])); try rfl
theorem c_heightOf {g : Gl} {μ : Mm} (x : Int32) : Pu g 0 mX12_heightOf [.int x] μ (if x = 7 then 1 else if x = 6 then 2 else if x = 8 then 3 else if x = 4 then 4 else if x = 5 then 4 else if x = 1 then 5 else if x = 2 then 5 else if x = 3 then 6 else if x = 9 then 7 else 0) := by
  refine Mt.of0 (ls0 := [some (.int x)]) (by decide) (by simp [Value.category]) (Nat.le_of_ble_eq_true rfl) rfl ?_
  refine ev_iload_n dX12_heightOf_0 rfl ?_
  by_cases hs1 : (x).toInt < 1 ∨ 9 < (x).toInt
  · refine ev_tout (tgt := 68) dX12_heightOf_1 hs1 (by decide) ?_
    have hn1_0 : ¬ (x) = 1 := fun q => by rw [q] at hs1; revert hs1; decide
    have hn1_1 : ¬ (x) = 2 := fun q => by rw [q] at hs1; revert hs1; decide
    have hn1_2 : ¬ (x) = 3 := fun q => by rw [q] at hs1; revert hs1; decide
    have hn1_3 : ¬ (x) = 4 := fun q => by rw [q] at hs1; revert hs1; decide
    have hn1_4 : ¬ (x) = 5 := fun q => by rw [q] at hs1; revert hs1; decide
    have hn1_5 : ¬ (x) = 6 := fun q => by rw [q] at hs1; revert hs1; decide
    have hn1_6 : ¬ (x) = 7 := fun q => by rw [q] at hs1; revert hs1; decide
    have hn1_7 : ¬ (x) = 8 := fun q => by rw [q] at hs1; revert hs1; decide
    have hn1_8 : ¬ (x) = 9 := fun q => by rw [q] at hs1; revert hs1; decide
    refine ev_iconst (v := 0) dX12_heightOf_68 (by decide) ?_
    refine ev_iret dX12_heightOf_69 rfl ?_
    refine ⟨?_, rfl⟩
    first | (exfalso; (simp only [← Int32.toInt_inj, Int32.le_iff_toInt_le, Int32.lt_iff_toInt_lt, Int32.reduceToInt] at *; omega)) | (repeat (first | rw [if_pos (by (simp only [← Int32.toInt_inj, Int32.le_iff_toInt_le, Int32.lt_iff_toInt_lt, Int32.reduceToInt] at *; omega))] | rw [if_neg (by (simp only [← Int32.toInt_inj, Int32.le_iff_toInt_le, Int32.lt_iff_toInt_lt, Int32.reduceToInt] at *; omega))] | rw [b2i_t (by (simp only [← Int32.toInt_inj, Int32.le_iff_toInt_le, Int32.lt_iff_toInt_lt, Int32.reduceToInt] at *; omega))] | rw [b2i_f (by (simp only [← Int32.toInt_inj, Int32.le_iff_toInt_le, Int32.lt_iff_toInt_lt, Int32.reduceToInt] at *; omega))])); try rfl
  have hs1 : (x).toInt = 1 ∨ (x).toInt = 2 ∨ (x).toInt = 3 ∨ (x).toInt = 4 ∨ (x).toInt = 5 ∨ (x).toInt = 6 ∨ (x).toInt = 7 ∨ (x).toInt = 8 ∨ (x).toInt = 9 := by omega
  rcases hs1 with hs1 | hs1 | hs1 | hs1 | hs1 | hs1 | hs1 | hs1 | hs1
  · refine ev_tin (off := 59) (tgt := 60) dX12_heightOf_1 (by omega) (by omega) (by rw [hs1]; rfl) (by decide) ?_
    have he1 : (x) = 1 := Int32.toInt_inj.mp (hs1.trans (by decide))
    refine ev_iconst (v := 5) dX12_heightOf_60 (by decide) ?_
    refine ev_iret dX12_heightOf_61 rfl ?_
    refine ⟨?_, rfl⟩
    first | (exfalso; (simp only [← Int32.toInt_inj, Int32.le_iff_toInt_le, Int32.lt_iff_toInt_lt, Int32.reduceToInt] at *; omega)) | (repeat (first | rw [if_pos (by (simp only [← Int32.toInt_inj, Int32.le_iff_toInt_le, Int32.lt_iff_toInt_lt, Int32.reduceToInt] at *; omega))] | rw [if_neg (by (simp only [← Int32.toInt_inj, Int32.le_iff_toInt_le, Int32.lt_iff_toInt_lt, Int32.reduceToInt] at *; omega))] | rw [b2i_t (by (simp only [← Int32.toInt_inj, Int32.le_iff_toInt_le, Int32.lt_iff_toInt_lt, Int32.reduceToInt] at *; omega))] | rw [b2i_f (by (simp only [← Int32.toInt_inj, Int32.le_iff_toInt_le, Int32.lt_iff_toInt_lt, Int32.reduceToInt] at *; omega))])); try rfl
  · refine ev_tin (off := 59) (tgt := 60) dX12_heightOf_1 (by omega) (by omega) (by rw [hs1]; rfl) (by decide) ?_
    have he1 : (x) = 2 := Int32.toInt_inj.mp (hs1.trans (by decide))
    refine ev_iconst (v := 5) dX12_heightOf_60 (by decide) ?_
    refine ev_iret dX12_heightOf_61 rfl ?_
    refine ⟨?_, rfl⟩
    first | (exfalso; (simp only [← Int32.toInt_inj, Int32.le_iff_toInt_le, Int32.lt_iff_toInt_lt, Int32.reduceToInt] at *; omega)) | (repeat (first | rw [if_pos (by (simp only [← Int32.toInt_inj, Int32.le_iff_toInt_le, Int32.lt_iff_toInt_lt, Int32.reduceToInt] at *; omega))] | rw [if_neg (by (simp only [← Int32.toInt_inj, Int32.le_iff_toInt_le, Int32.lt_iff_toInt_lt, Int32.reduceToInt] at *; omega))] | rw [b2i_t (by (simp only [← Int32.toInt_inj, Int32.le_iff_toInt_le, Int32.lt_iff_toInt_lt, Int32.reduceToInt] at *; omega))] | rw [b2i_f (by (simp only [← Int32.toInt_inj, Int32.le_iff_toInt_le, Int32.lt_iff_toInt_lt, Int32.reduceToInt] at *; omega))])); try rfl
  · refine ev_tin (off := 61) (tgt := 62) dX12_heightOf_1 (by omega) (by omega) (by rw [hs1]; rfl) (by decide) ?_
    have he1 : (x) = 3 := Int32.toInt_inj.mp (hs1.trans (by decide))
    refine ev_bipush (v := 6) dX12_heightOf_62 (by decide) ?_
    refine ev_iret dX12_heightOf_64 rfl ?_
    refine ⟨?_, rfl⟩
    first | (exfalso; (simp only [← Int32.toInt_inj, Int32.le_iff_toInt_le, Int32.lt_iff_toInt_lt, Int32.reduceToInt] at *; omega)) | (repeat (first | rw [if_pos (by (simp only [← Int32.toInt_inj, Int32.le_iff_toInt_le, Int32.lt_iff_toInt_lt, Int32.reduceToInt] at *; omega))] | rw [if_neg (by (simp only [← Int32.toInt_inj, Int32.le_iff_toInt_le, Int32.lt_iff_toInt_lt, Int32.reduceToInt] at *; omega))] | rw [b2i_t (by (simp only [← Int32.toInt_inj, Int32.le_iff_toInt_le, Int32.lt_iff_toInt_lt, Int32.reduceToInt] at *; omega))] | rw [b2i_f (by (simp only [← Int32.toInt_inj, Int32.le_iff_toInt_le, Int32.lt_iff_toInt_lt, Int32.reduceToInt] at *; omega))])); try rfl
  · refine ev_tin (off := 57) (tgt := 58) dX12_heightOf_1 (by omega) (by omega) (by rw [hs1]; rfl) (by decide) ?_
    have he1 : (x) = 4 := Int32.toInt_inj.mp (hs1.trans (by decide))
    refine ev_iconst (v := 4) dX12_heightOf_58 (by decide) ?_
    refine ev_iret dX12_heightOf_59 rfl ?_
    refine ⟨?_, rfl⟩
    first | (exfalso; (simp only [← Int32.toInt_inj, Int32.le_iff_toInt_le, Int32.lt_iff_toInt_lt, Int32.reduceToInt] at *; omega)) | (repeat (first | rw [if_pos (by (simp only [← Int32.toInt_inj, Int32.le_iff_toInt_le, Int32.lt_iff_toInt_lt, Int32.reduceToInt] at *; omega))] | rw [if_neg (by (simp only [← Int32.toInt_inj, Int32.le_iff_toInt_le, Int32.lt_iff_toInt_lt, Int32.reduceToInt] at *; omega))] | rw [b2i_t (by (simp only [← Int32.toInt_inj, Int32.le_iff_toInt_le, Int32.lt_iff_toInt_lt, Int32.reduceToInt] at *; omega))] | rw [b2i_f (by (simp only [← Int32.toInt_inj, Int32.le_iff_toInt_le, Int32.lt_iff_toInt_lt, Int32.reduceToInt] at *; omega))])); try rfl
  · refine ev_tin (off := 57) (tgt := 58) dX12_heightOf_1 (by omega) (by omega) (by rw [hs1]; rfl) (by decide) ?_
    have he1 : (x) = 5 := Int32.toInt_inj.mp (hs1.trans (by decide))
    refine ev_iconst (v := 4) dX12_heightOf_58 (by decide) ?_
    refine ev_iret dX12_heightOf_59 rfl ?_
    refine ⟨?_, rfl⟩
    first | (exfalso; (simp only [← Int32.toInt_inj, Int32.le_iff_toInt_le, Int32.lt_iff_toInt_lt, Int32.reduceToInt] at *; omega)) | (repeat (first | rw [if_pos (by (simp only [← Int32.toInt_inj, Int32.le_iff_toInt_le, Int32.lt_iff_toInt_lt, Int32.reduceToInt] at *; omega))] | rw [if_neg (by (simp only [← Int32.toInt_inj, Int32.le_iff_toInt_le, Int32.lt_iff_toInt_lt, Int32.reduceToInt] at *; omega))] | rw [b2i_t (by (simp only [← Int32.toInt_inj, Int32.le_iff_toInt_le, Int32.lt_iff_toInt_lt, Int32.reduceToInt] at *; omega))] | rw [b2i_f (by (simp only [← Int32.toInt_inj, Int32.le_iff_toInt_le, Int32.lt_iff_toInt_lt, Int32.reduceToInt] at *; omega))])); try rfl
  · refine ev_tin (off := 53) (tgt := 54) dX12_heightOf_1 (by omega) (by omega) (by rw [hs1]; rfl) (by decide) ?_
    have he1 : (x) = 6 := Int32.toInt_inj.mp (hs1.trans (by decide))
    refine ev_iconst (v := 2) dX12_heightOf_54 (by decide) ?_
    refine ev_iret dX12_heightOf_55 rfl ?_
    refine ⟨?_, rfl⟩
    first | (exfalso; (simp only [← Int32.toInt_inj, Int32.le_iff_toInt_le, Int32.lt_iff_toInt_lt, Int32.reduceToInt] at *; omega)) | (repeat (first | rw [if_pos (by (simp only [← Int32.toInt_inj, Int32.le_iff_toInt_le, Int32.lt_iff_toInt_lt, Int32.reduceToInt] at *; omega))] | rw [if_neg (by (simp only [← Int32.toInt_inj, Int32.le_iff_toInt_le, Int32.lt_iff_toInt_lt, Int32.reduceToInt] at *; omega))] | rw [b2i_t (by (simp only [← Int32.toInt_inj, Int32.le_iff_toInt_le, Int32.lt_iff_toInt_lt, Int32.reduceToInt] at *; omega))] | rw [b2i_f (by (simp only [← Int32.toInt_inj, Int32.le_iff_toInt_le, Int32.lt_iff_toInt_lt, Int32.reduceToInt] at *; omega))])); try rfl
  · refine ev_tin (off := 51) (tgt := 52) dX12_heightOf_1 (by omega) (by omega) (by rw [hs1]; rfl) (by decide) ?_
    have he1 : (x) = 7 := Int32.toInt_inj.mp (hs1.trans (by decide))
    refine ev_iconst (v := 1) dX12_heightOf_52 (by decide) ?_
    refine ev_iret dX12_heightOf_53 rfl ?_
    refine ⟨?_, rfl⟩
    first | (exfalso; (simp only [← Int32.toInt_inj, Int32.le_iff_toInt_le, Int32.lt_iff_toInt_lt, Int32.reduceToInt] at *; omega)) | (repeat (first | rw [if_pos (by (simp only [← Int32.toInt_inj, Int32.le_iff_toInt_le, Int32.lt_iff_toInt_lt, Int32.reduceToInt] at *; omega))] | rw [if_neg (by (simp only [← Int32.toInt_inj, Int32.le_iff_toInt_le, Int32.lt_iff_toInt_lt, Int32.reduceToInt] at *; omega))] | rw [b2i_t (by (simp only [← Int32.toInt_inj, Int32.le_iff_toInt_le, Int32.lt_iff_toInt_lt, Int32.reduceToInt] at *; omega))] | rw [b2i_f (by (simp only [← Int32.toInt_inj, Int32.le_iff_toInt_le, Int32.lt_iff_toInt_lt, Int32.reduceToInt] at *; omega))])); try rfl
  · refine ev_tin (off := 55) (tgt := 56) dX12_heightOf_1 (by omega) (by omega) (by rw [hs1]; rfl) (by decide) ?_
    have he1 : (x) = 8 := Int32.toInt_inj.mp (hs1.trans (by decide))
    refine ev_iconst (v := 3) dX12_heightOf_56 (by decide) ?_
    refine ev_iret dX12_heightOf_57 rfl ?_
    refine ⟨?_, rfl⟩
    first | (exfalso; (simp only [← Int32.toInt_inj, Int32.le_iff_toInt_le, Int32.lt_iff_toInt_lt, Int32.reduceToInt] at *; omega)) | (repeat (first | rw [if_pos (by (simp only [← Int32.toInt_inj, Int32.le_iff_toInt_le, Int32.lt_iff_toInt_lt, Int32.reduceToInt] at *; omega))] | rw [if_neg (by (simp only [← Int32.toInt_inj, Int32.le_iff_toInt_le, Int32.lt_iff_toInt_lt, Int32.reduceToInt] at *; omega))] | rw [b2i_t (by (simp only [← Int32.toInt_inj, Int32.le_iff_toInt_le, Int32.lt_iff_toInt_lt, Int32.reduceToInt] at *; omega))] | rw [b2i_f (by (simp only [← Int32.toInt_inj, Int32.le_iff_toInt_le, Int32.lt_iff_toInt_lt, Int32.reduceToInt] at *; omega))])); try rfl
  · refine ev_tin (off := 64) (tgt := 65) dX12_heightOf_1 (by omega) (by omega) (by rw [hs1]; rfl) (by decide) ?_
    have he1 : (x) = 9 := Int32.toInt_inj.mp (hs1.trans (by decide))
    refine ev_bipush (v := 7) dX12_heightOf_65 (by decide) ?_
    refine ev_iret dX12_heightOf_67 rfl ?_
    refine ⟨?_, rfl⟩
    first | (exfalso; (simp only [← Int32.toInt_inj, Int32.le_iff_toInt_le, Int32.lt_iff_toInt_lt, Int32.reduceToInt] at *; omega)) | (repeat (first | rw [if_pos (by (simp only [← Int32.toInt_inj, Int32.le_iff_toInt_le, Int32.lt_iff_toInt_lt, Int32.reduceToInt] at *; omega))] | rw [if_neg (by (simp only [← Int32.toInt_inj, Int32.le_iff_toInt_le, Int32.lt_iff_toInt_lt, Int32.reduceToInt] at *; omega))] | rw [b2i_t (by (simp only [← Int32.toInt_inj, Int32.le_iff_toInt_le, Int32.lt_iff_toInt_lt, Int32.reduceToInt] at *; omega))] | rw [b2i_f (by (simp only [← Int32.toInt_inj, Int32.le_iff_toInt_le, Int32.lt_iff_toInt_lt, Int32.reduceToInt] at *; omega))])); try rfl
theorem c_deedOf {g : Gl} {μ : Mm} (x : Int32) : Pu g 0 mX12_deedOf [.int x] μ (if x = 43 then 1 else if x = 45 then 2 else if x = 42 then 3 else if x = 60 then 4 else if x = 61 then 5 else 0) := by
  refine Mt.of0 (ls0 := [some (.int x)]) (by decide) (by simp [Value.category]) (Nat.le_of_ble_eq_true rfl) rfl ?_
  refine ev_iload_n dX12_deedOf_0 rfl ?_
  refine ev_bipush (v := 43) dX12_deedOf_1 (by decide) ?_
  refine ev_icmp_ne (tgt := 10) dX12_deedOf_3 (by decide) (fun h3 => ?_) (fun h3 => ?_)
  · refine ev_iload_n dX12_deedOf_10 rfl ?_
    refine ev_bipush (v := 45) dX12_deedOf_11 (by decide) ?_
    refine ev_icmp_ne (tgt := 20) dX12_deedOf_13 (by decide) (fun h13 => ?_) (fun h13 => ?_)
    · refine ev_iload_n dX12_deedOf_20 rfl ?_
      refine ev_bipush (v := 42) dX12_deedOf_21 (by decide) ?_
      refine ev_icmp_ne (tgt := 30) dX12_deedOf_23 (by decide) (fun h23 => ?_) (fun h23 => ?_)
      · refine ev_iload_n dX12_deedOf_30 rfl ?_
        refine ev_bipush (v := 60) dX12_deedOf_31 (by decide) ?_
        refine ev_icmp_ne (tgt := 40) dX12_deedOf_33 (by decide) (fun h33 => ?_) (fun h33 => ?_)
        · refine ev_iload_n dX12_deedOf_40 rfl ?_
          refine ev_bipush (v := 61) dX12_deedOf_41 (by decide) ?_
          refine ev_icmp_ne (tgt := 50) dX12_deedOf_43 (by decide) (fun h43 => ?_) (fun h43 => ?_)
          · refine ev_iconst (v := 0) dX12_deedOf_50 (by decide) ?_
            refine ev_iret dX12_deedOf_51 rfl ?_
            refine ⟨?_, rfl⟩
            first | (exfalso; (simp only [← Int32.toInt_inj, Int32.le_iff_toInt_le, Int32.lt_iff_toInt_lt, Int32.reduceToInt] at *; omega)) | (repeat (first | rw [if_pos (by (simp only [← Int32.toInt_inj, Int32.le_iff_toInt_le, Int32.lt_iff_toInt_lt, Int32.reduceToInt] at *; omega))] | rw [if_neg (by (simp only [← Int32.toInt_inj, Int32.le_iff_toInt_le, Int32.lt_iff_toInt_lt, Int32.reduceToInt] at *; omega))] | rw [b2i_t (by (simp only [← Int32.toInt_inj, Int32.le_iff_toInt_le, Int32.lt_iff_toInt_lt, Int32.reduceToInt] at *; omega))] | rw [b2i_f (by (simp only [← Int32.toInt_inj, Int32.le_iff_toInt_le, Int32.lt_iff_toInt_lt, Int32.reduceToInt] at *; omega))])); try rfl
          · refine ev_iconst (v := 5) dX12_deedOf_46 (by decide) ?_
            refine ev_goto (tgt := 51) dX12_deedOf_47 (by decide) ?_
            refine ev_iret dX12_deedOf_51 rfl ?_
            refine ⟨?_, rfl⟩
            first | (exfalso; (simp only [← Int32.toInt_inj, Int32.le_iff_toInt_le, Int32.lt_iff_toInt_lt, Int32.reduceToInt] at *; omega)) | (repeat (first | rw [if_pos (by (simp only [← Int32.toInt_inj, Int32.le_iff_toInt_le, Int32.lt_iff_toInt_lt, Int32.reduceToInt] at *; omega))] | rw [if_neg (by (simp only [← Int32.toInt_inj, Int32.le_iff_toInt_le, Int32.lt_iff_toInt_lt, Int32.reduceToInt] at *; omega))] | rw [b2i_t (by (simp only [← Int32.toInt_inj, Int32.le_iff_toInt_le, Int32.lt_iff_toInt_lt, Int32.reduceToInt] at *; omega))] | rw [b2i_f (by (simp only [← Int32.toInt_inj, Int32.le_iff_toInt_le, Int32.lt_iff_toInt_lt, Int32.reduceToInt] at *; omega))])); try rfl
        · refine ev_iconst (v := 4) dX12_deedOf_36 (by decide) ?_
          refine ev_goto (tgt := 51) dX12_deedOf_37 (by decide) ?_
          refine ev_iret dX12_deedOf_51 rfl ?_
          refine ⟨?_, rfl⟩
          first | (exfalso; (simp only [← Int32.toInt_inj, Int32.le_iff_toInt_le, Int32.lt_iff_toInt_lt, Int32.reduceToInt] at *; omega)) | (repeat (first | rw [if_pos (by (simp only [← Int32.toInt_inj, Int32.le_iff_toInt_le, Int32.lt_iff_toInt_lt, Int32.reduceToInt] at *; omega))] | rw [if_neg (by (simp only [← Int32.toInt_inj, Int32.le_iff_toInt_le, Int32.lt_iff_toInt_lt, Int32.reduceToInt] at *; omega))] | rw [b2i_t (by (simp only [← Int32.toInt_inj, Int32.le_iff_toInt_le, Int32.lt_iff_toInt_lt, Int32.reduceToInt] at *; omega))] | rw [b2i_f (by (simp only [← Int32.toInt_inj, Int32.le_iff_toInt_le, Int32.lt_iff_toInt_lt, Int32.reduceToInt] at *; omega))])); try rfl
      · refine ev_iconst (v := 3) dX12_deedOf_26 (by decide) ?_
        refine ev_goto (tgt := 51) dX12_deedOf_27 (by decide) ?_
        refine ev_iret dX12_deedOf_51 rfl ?_
        refine ⟨?_, rfl⟩
        first | (exfalso; (simp only [← Int32.toInt_inj, Int32.le_iff_toInt_le, Int32.lt_iff_toInt_lt, Int32.reduceToInt] at *; omega)) | (repeat (first | rw [if_pos (by (simp only [← Int32.toInt_inj, Int32.le_iff_toInt_le, Int32.lt_iff_toInt_lt, Int32.reduceToInt] at *; omega))] | rw [if_neg (by (simp only [← Int32.toInt_inj, Int32.le_iff_toInt_le, Int32.lt_iff_toInt_lt, Int32.reduceToInt] at *; omega))] | rw [b2i_t (by (simp only [← Int32.toInt_inj, Int32.le_iff_toInt_le, Int32.lt_iff_toInt_lt, Int32.reduceToInt] at *; omega))] | rw [b2i_f (by (simp only [← Int32.toInt_inj, Int32.le_iff_toInt_le, Int32.lt_iff_toInt_lt, Int32.reduceToInt] at *; omega))])); try rfl
    · refine ev_iconst (v := 2) dX12_deedOf_16 (by decide) ?_
      refine ev_goto (tgt := 51) dX12_deedOf_17 (by decide) ?_
      refine ev_iret dX12_deedOf_51 rfl ?_
      refine ⟨?_, rfl⟩
      first | (exfalso; (simp only [← Int32.toInt_inj, Int32.le_iff_toInt_le, Int32.lt_iff_toInt_lt, Int32.reduceToInt] at *; omega)) | (repeat (first | rw [if_pos (by (simp only [← Int32.toInt_inj, Int32.le_iff_toInt_le, Int32.lt_iff_toInt_lt, Int32.reduceToInt] at *; omega))] | rw [if_neg (by (simp only [← Int32.toInt_inj, Int32.le_iff_toInt_le, Int32.lt_iff_toInt_lt, Int32.reduceToInt] at *; omega))] | rw [b2i_t (by (simp only [← Int32.toInt_inj, Int32.le_iff_toInt_le, Int32.lt_iff_toInt_lt, Int32.reduceToInt] at *; omega))] | rw [b2i_f (by (simp only [← Int32.toInt_inj, Int32.le_iff_toInt_le, Int32.lt_iff_toInt_lt, Int32.reduceToInt] at *; omega))])); try rfl
  · refine ev_iconst (v := 1) dX12_deedOf_6 (by decide) ?_
    refine ev_goto (tgt := 51) dX12_deedOf_7 (by decide) ?_
    refine ev_iret dX12_deedOf_51 rfl ?_
    refine ⟨?_, rfl⟩
    first | (exfalso; (simp only [← Int32.toInt_inj, Int32.le_iff_toInt_le, Int32.lt_iff_toInt_lt, Int32.reduceToInt] at *; omega)) | (repeat (first | rw [if_pos (by (simp only [← Int32.toInt_inj, Int32.le_iff_toInt_le, Int32.lt_iff_toInt_lt, Int32.reduceToInt] at *; omega))] | rw [if_neg (by (simp only [← Int32.toInt_inj, Int32.le_iff_toInt_le, Int32.lt_iff_toInt_lt, Int32.reduceToInt] at *; omega))] | rw [b2i_t (by (simp only [← Int32.toInt_inj, Int32.le_iff_toInt_le, Int32.lt_iff_toInt_lt, Int32.reduceToInt] at *; omega))] | rw [b2i_f (by (simp only [← Int32.toInt_inj, Int32.le_iff_toInt_le, Int32.lt_iff_toInt_lt, Int32.reduceToInt] at *; omega))])); try rfl
theorem c_isSign {g : Gl} {μ : Mm} (x : Int32) : Pu g 0 mX12_isSign [.int x] μ (b2i (x = 40 ∨ x = 41 ∨ x = 59 ∨ x = 43 ∨ x = 45 ∨ x = 42 ∨ x = 60 ∨ x = 61)) := by
  refine Mt.of0 (ls0 := [some (.int x)]) (by decide) (by simp [Value.category]) (Nat.le_of_ble_eq_true rfl) rfl ?_
  refine ev_iload_n dX12_isSign_0 rfl ?_
  refine ev_bipush (v := 40) dX12_isSign_1 (by decide) ?_
  refine ev_icmp_eq (tgt := 48) dX12_isSign_3 (by decide) (fun h3 => ?_) (fun h3 => ?_)
  · refine ev_iconst (v := 1) dX12_isSign_48 (by decide) ?_
    refine ev_goto (tgt := 53) dX12_isSign_49 (by decide) ?_
    refine ev_zret dX12_isSign_53 rfl (by decide) ?_
    refine ⟨?_, rfl⟩
    first | (rw [b2i_t (by (simp only [← Int32.toInt_inj, Int32.le_iff_toInt_le, Int32.lt_iff_toInt_lt, Int32.reduceToInt] at *; omega))]; done) | (rw [b2i_f (by (simp only [← Int32.toInt_inj, Int32.le_iff_toInt_le, Int32.lt_iff_toInt_lt, Int32.reduceToInt] at *; omega))]; done) | (exfalso; (simp only [← Int32.toInt_inj, Int32.le_iff_toInt_le, Int32.lt_iff_toInt_lt, Int32.reduceToInt] at *; omega))
  · refine ev_iload_n dX12_isSign_6 rfl ?_
    refine ev_bipush (v := 41) dX12_isSign_7 (by decide) ?_
    refine ev_icmp_eq (tgt := 48) dX12_isSign_9 (by decide) (fun h9 => ?_) (fun h9 => ?_)
    · refine ev_iconst (v := 1) dX12_isSign_48 (by decide) ?_
      refine ev_goto (tgt := 53) dX12_isSign_49 (by decide) ?_
      refine ev_zret dX12_isSign_53 rfl (by decide) ?_
      refine ⟨?_, rfl⟩
      first | (rw [b2i_t (by (simp only [← Int32.toInt_inj, Int32.le_iff_toInt_le, Int32.lt_iff_toInt_lt, Int32.reduceToInt] at *; omega))]; done) | (rw [b2i_f (by (simp only [← Int32.toInt_inj, Int32.le_iff_toInt_le, Int32.lt_iff_toInt_lt, Int32.reduceToInt] at *; omega))]; done) | (exfalso; (simp only [← Int32.toInt_inj, Int32.le_iff_toInt_le, Int32.lt_iff_toInt_lt, Int32.reduceToInt] at *; omega))
    · refine ev_iload_n dX12_isSign_12 rfl ?_
      refine ev_bipush (v := 59) dX12_isSign_13 (by decide) ?_
      refine ev_icmp_eq (tgt := 48) dX12_isSign_15 (by decide) (fun h15 => ?_) (fun h15 => ?_)
      · refine ev_iconst (v := 1) dX12_isSign_48 (by decide) ?_
        refine ev_goto (tgt := 53) dX12_isSign_49 (by decide) ?_
        refine ev_zret dX12_isSign_53 rfl (by decide) ?_
        refine ⟨?_, rfl⟩
        first | (rw [b2i_t (by (simp only [← Int32.toInt_inj, Int32.le_iff_toInt_le, Int32.lt_iff_toInt_lt, Int32.reduceToInt] at *; omega))]; done) | (rw [b2i_f (by (simp only [← Int32.toInt_inj, Int32.le_iff_toInt_le, Int32.lt_iff_toInt_lt, Int32.reduceToInt] at *; omega))]; done) | (exfalso; (simp only [← Int32.toInt_inj, Int32.le_iff_toInt_le, Int32.lt_iff_toInt_lt, Int32.reduceToInt] at *; omega))
      · refine ev_iload_n dX12_isSign_18 rfl ?_
        refine ev_bipush (v := 43) dX12_isSign_19 (by decide) ?_
        refine ev_icmp_eq (tgt := 48) dX12_isSign_21 (by decide) (fun h21 => ?_) (fun h21 => ?_)
        · refine ev_iconst (v := 1) dX12_isSign_48 (by decide) ?_
          refine ev_goto (tgt := 53) dX12_isSign_49 (by decide) ?_
          refine ev_zret dX12_isSign_53 rfl (by decide) ?_
          refine ⟨?_, rfl⟩
          first | (rw [b2i_t (by (simp only [← Int32.toInt_inj, Int32.le_iff_toInt_le, Int32.lt_iff_toInt_lt, Int32.reduceToInt] at *; omega))]; done) | (rw [b2i_f (by (simp only [← Int32.toInt_inj, Int32.le_iff_toInt_le, Int32.lt_iff_toInt_lt, Int32.reduceToInt] at *; omega))]; done) | (exfalso; (simp only [← Int32.toInt_inj, Int32.le_iff_toInt_le, Int32.lt_iff_toInt_lt, Int32.reduceToInt] at *; omega))
        · refine ev_iload_n dX12_isSign_24 rfl ?_
          refine ev_bipush (v := 45) dX12_isSign_25 (by decide) ?_
          refine ev_icmp_eq (tgt := 48) dX12_isSign_27 (by decide) (fun h27 => ?_) (fun h27 => ?_)
          · refine ev_iconst (v := 1) dX12_isSign_48 (by decide) ?_
            refine ev_goto (tgt := 53) dX12_isSign_49 (by decide) ?_
            refine ev_zret dX12_isSign_53 rfl (by decide) ?_
            refine ⟨?_, rfl⟩
            first | (rw [b2i_t (by (simp only [← Int32.toInt_inj, Int32.le_iff_toInt_le, Int32.lt_iff_toInt_lt, Int32.reduceToInt] at *; omega))]; done) | (rw [b2i_f (by (simp only [← Int32.toInt_inj, Int32.le_iff_toInt_le, Int32.lt_iff_toInt_lt, Int32.reduceToInt] at *; omega))]; done) | (exfalso; (simp only [← Int32.toInt_inj, Int32.le_iff_toInt_le, Int32.lt_iff_toInt_lt, Int32.reduceToInt] at *; omega))
          · refine ev_iload_n dX12_isSign_30 rfl ?_
            refine ev_bipush (v := 42) dX12_isSign_31 (by decide) ?_
            refine ev_icmp_eq (tgt := 48) dX12_isSign_33 (by decide) (fun h33 => ?_) (fun h33 => ?_)
            · refine ev_iconst (v := 1) dX12_isSign_48 (by decide) ?_
              refine ev_goto (tgt := 53) dX12_isSign_49 (by decide) ?_
              refine ev_zret dX12_isSign_53 rfl (by decide) ?_
              refine ⟨?_, rfl⟩
              first | (rw [b2i_t (by (simp only [← Int32.toInt_inj, Int32.le_iff_toInt_le, Int32.lt_iff_toInt_lt, Int32.reduceToInt] at *; omega))]; done) | (rw [b2i_f (by (simp only [← Int32.toInt_inj, Int32.le_iff_toInt_le, Int32.lt_iff_toInt_lt, Int32.reduceToInt] at *; omega))]; done) | (exfalso; (simp only [← Int32.toInt_inj, Int32.le_iff_toInt_le, Int32.lt_iff_toInt_lt, Int32.reduceToInt] at *; omega))
            · refine ev_iload_n dX12_isSign_36 rfl ?_
              refine ev_bipush (v := 60) dX12_isSign_37 (by decide) ?_
              refine ev_icmp_eq (tgt := 48) dX12_isSign_39 (by decide) (fun h39 => ?_) (fun h39 => ?_)
              · refine ev_iconst (v := 1) dX12_isSign_48 (by decide) ?_
                refine ev_goto (tgt := 53) dX12_isSign_49 (by decide) ?_
                refine ev_zret dX12_isSign_53 rfl (by decide) ?_
                refine ⟨?_, rfl⟩
                first | (rw [b2i_t (by (simp only [← Int32.toInt_inj, Int32.le_iff_toInt_le, Int32.lt_iff_toInt_lt, Int32.reduceToInt] at *; omega))]; done) | (rw [b2i_f (by (simp only [← Int32.toInt_inj, Int32.le_iff_toInt_le, Int32.lt_iff_toInt_lt, Int32.reduceToInt] at *; omega))]; done) | (exfalso; (simp only [← Int32.toInt_inj, Int32.le_iff_toInt_le, Int32.lt_iff_toInt_lt, Int32.reduceToInt] at *; omega))
              · refine ev_iload_n dX12_isSign_42 rfl ?_
                refine ev_bipush (v := 61) dX12_isSign_43 (by decide) ?_
                refine ev_icmp_ne (tgt := 52) dX12_isSign_45 (by decide) (fun h45 => ?_) (fun h45 => ?_)
                · refine ev_iconst (v := 0) dX12_isSign_52 (by decide) ?_
                  refine ev_zret dX12_isSign_53 rfl (by decide) ?_
                  refine ⟨?_, rfl⟩
                  first | (rw [b2i_t (by (simp only [← Int32.toInt_inj, Int32.le_iff_toInt_le, Int32.lt_iff_toInt_lt, Int32.reduceToInt] at *; omega))]; done) | (rw [b2i_f (by (simp only [← Int32.toInt_inj, Int32.le_iff_toInt_le, Int32.lt_iff_toInt_lt, Int32.reduceToInt] at *; omega))]; done) | (exfalso; (simp only [← Int32.toInt_inj, Int32.le_iff_toInt_le, Int32.lt_iff_toInt_lt, Int32.reduceToInt] at *; omega))
                · refine ev_iconst (v := 1) dX12_isSign_48 (by decide) ?_
                  refine ev_goto (tgt := 53) dX12_isSign_49 (by decide) ?_
                  refine ev_zret dX12_isSign_53 rfl (by decide) ?_
                  refine ⟨?_, rfl⟩
                  first | (rw [b2i_t (by (simp only [← Int32.toInt_inj, Int32.le_iff_toInt_le, Int32.lt_iff_toInt_lt, Int32.reduceToInt] at *; omega))]; done) | (rw [b2i_f (by (simp only [← Int32.toInt_inj, Int32.le_iff_toInt_le, Int32.lt_iff_toInt_lt, Int32.reduceToInt] at *; omega))]; done) | (exfalso; (simp only [← Int32.toInt_inj, Int32.le_iff_toInt_le, Int32.lt_iff_toInt_lt, Int32.reduceToInt] at *; omega))
theorem c_done {g : Gl} {μ : Mm} (x a b : Int32) : Pu g 0 mX12_done [.int x, .int a, .int b] μ (if x = 1 then a + b else if x = 2 then a - b else if x = 3 then a * b else if x = 4 then b2i (a < b) else if x = 5 then b2i (a = b) else if x = 6 then b2i (¬ a = 0 ∧ ¬ b = 0) else b2i (¬ a = 0 ∨ ¬ b = 0)) := by
  refine Mt.of0 (ls0 := [some (.int x), some (.int a), some (.int b)]) (by decide) (by simp [Value.category]) (Nat.le_of_ble_eq_true rfl) rfl ?_
  refine ev_iload_n dX12_done_0 rfl ?_
  by_cases hs1 : (x).toInt < 1 ∨ 6 < (x).toInt
  · refine ev_tout (tgt := 88) dX12_done_1 hs1 (by decide) ?_
    have hn1_0 : ¬ (x) = 1 := fun q => by rw [q] at hs1; revert hs1; decide
    have hn1_1 : ¬ (x) = 2 := fun q => by rw [q] at hs1; revert hs1; decide
    have hn1_2 : ¬ (x) = 3 := fun q => by rw [q] at hs1; revert hs1; decide
    have hn1_3 : ¬ (x) = 4 := fun q => by rw [q] at hs1; revert hs1; decide
    have hn1_4 : ¬ (x) = 5 := fun q => by rw [q] at hs1; revert hs1; decide
    have hn1_5 : ¬ (x) = 6 := fun q => by rw [q] at hs1; revert hs1; decide
    refine ev_iload_n dX12_done_88 rfl ?_
    refine ev_if_ne (tgt := 96) dX12_done_89 (by decide) (fun h89 => ?_) (fun h89 => ?_)
    · refine ev_iconst (v := 1) dX12_done_96 (by decide) ?_
      refine ev_goto (tgt := 101) dX12_done_97 (by decide) ?_
      refine ev_iret dX12_done_101 rfl ?_
      refine ⟨?_, rfl⟩
      first | (exfalso; (simp only [← Int32.toInt_inj, Int32.le_iff_toInt_le, Int32.lt_iff_toInt_lt, Int32.reduceToInt] at *; omega)) | (repeat (first | rw [if_pos (by (simp only [← Int32.toInt_inj, Int32.le_iff_toInt_le, Int32.lt_iff_toInt_lt, Int32.reduceToInt] at *; omega))] | rw [if_neg (by (simp only [← Int32.toInt_inj, Int32.le_iff_toInt_le, Int32.lt_iff_toInt_lt, Int32.reduceToInt] at *; omega))] | rw [b2i_t (by (simp only [← Int32.toInt_inj, Int32.le_iff_toInt_le, Int32.lt_iff_toInt_lt, Int32.reduceToInt] at *; omega))] | rw [b2i_f (by (simp only [← Int32.toInt_inj, Int32.le_iff_toInt_le, Int32.lt_iff_toInt_lt, Int32.reduceToInt] at *; omega))])); try rfl
    · refine ev_iload_n dX12_done_92 rfl ?_
      refine ev_if_eq (tgt := 100) dX12_done_93 (by decide) (fun h93 => ?_) (fun h93 => ?_)
      · refine ev_iconst (v := 0) dX12_done_100 (by decide) ?_
        refine ev_iret dX12_done_101 rfl ?_
        refine ⟨?_, rfl⟩
        first | (exfalso; (simp only [← Int32.toInt_inj, Int32.le_iff_toInt_le, Int32.lt_iff_toInt_lt, Int32.reduceToInt] at *; omega)) | (repeat (first | rw [if_pos (by (simp only [← Int32.toInt_inj, Int32.le_iff_toInt_le, Int32.lt_iff_toInt_lt, Int32.reduceToInt] at *; omega))] | rw [if_neg (by (simp only [← Int32.toInt_inj, Int32.le_iff_toInt_le, Int32.lt_iff_toInt_lt, Int32.reduceToInt] at *; omega))] | rw [b2i_t (by (simp only [← Int32.toInt_inj, Int32.le_iff_toInt_le, Int32.lt_iff_toInt_lt, Int32.reduceToInt] at *; omega))] | rw [b2i_f (by (simp only [← Int32.toInt_inj, Int32.le_iff_toInt_le, Int32.lt_iff_toInt_lt, Int32.reduceToInt] at *; omega))])); try rfl
      · refine ev_iconst (v := 1) dX12_done_96 (by decide) ?_
        refine ev_goto (tgt := 101) dX12_done_97 (by decide) ?_
        refine ev_iret dX12_done_101 rfl ?_
        refine ⟨?_, rfl⟩
        first | (exfalso; (simp only [← Int32.toInt_inj, Int32.le_iff_toInt_le, Int32.lt_iff_toInt_lt, Int32.reduceToInt] at *; omega)) | (repeat (first | rw [if_pos (by (simp only [← Int32.toInt_inj, Int32.le_iff_toInt_le, Int32.lt_iff_toInt_lt, Int32.reduceToInt] at *; omega))] | rw [if_neg (by (simp only [← Int32.toInt_inj, Int32.le_iff_toInt_le, Int32.lt_iff_toInt_lt, Int32.reduceToInt] at *; omega))] | rw [b2i_t (by (simp only [← Int32.toInt_inj, Int32.le_iff_toInt_le, Int32.lt_iff_toInt_lt, Int32.reduceToInt] at *; omega))] | rw [b2i_f (by (simp only [← Int32.toInt_inj, Int32.le_iff_toInt_le, Int32.lt_iff_toInt_lt, Int32.reduceToInt] at *; omega))])); try rfl
  have hs1 : (x).toInt = 1 ∨ (x).toInt = 2 ∨ (x).toInt = 3 ∨ (x).toInt = 4 ∨ (x).toInt = 5 ∨ (x).toInt = 6 := by omega
  rcases hs1 with hs1 | hs1 | hs1 | hs1 | hs1 | hs1
  · refine ev_tin (off := 39) (tgt := 40) dX12_done_1 (by omega) (by omega) (by rw [hs1]; rfl) (by decide) ?_
    have he1 : (x) = 1 := Int32.toInt_inj.mp (hs1.trans (by decide))
    refine ev_iload_n dX12_done_40 rfl ?_
    refine ev_iload_n dX12_done_41 rfl ?_
    refine ev_iadd dX12_done_42 ?_
    refine ev_iret dX12_done_43 rfl ?_
    refine ⟨?_, rfl⟩
    first | (exfalso; (simp only [← Int32.toInt_inj, Int32.le_iff_toInt_le, Int32.lt_iff_toInt_lt, Int32.reduceToInt] at *; omega)) | (repeat (first | rw [if_pos (by (simp only [← Int32.toInt_inj, Int32.le_iff_toInt_le, Int32.lt_iff_toInt_lt, Int32.reduceToInt] at *; omega))] | rw [if_neg (by (simp only [← Int32.toInt_inj, Int32.le_iff_toInt_le, Int32.lt_iff_toInt_lt, Int32.reduceToInt] at *; omega))] | rw [b2i_t (by (simp only [← Int32.toInt_inj, Int32.le_iff_toInt_le, Int32.lt_iff_toInt_lt, Int32.reduceToInt] at *; omega))] | rw [b2i_f (by (simp only [← Int32.toInt_inj, Int32.le_iff_toInt_le, Int32.lt_iff_toInt_lt, Int32.reduceToInt] at *; omega))])); try rfl
  · refine ev_tin (off := 43) (tgt := 44) dX12_done_1 (by omega) (by omega) (by rw [hs1]; rfl) (by decide) ?_
    have he1 : (x) = 2 := Int32.toInt_inj.mp (hs1.trans (by decide))
    refine ev_iload_n dX12_done_44 rfl ?_
    refine ev_iload_n dX12_done_45 rfl ?_
    refine ev_isub dX12_done_46 ?_
    refine ev_iret dX12_done_47 rfl ?_
    refine ⟨?_, rfl⟩
    first | (exfalso; (simp only [← Int32.toInt_inj, Int32.le_iff_toInt_le, Int32.lt_iff_toInt_lt, Int32.reduceToInt] at *; omega)) | (repeat (first | rw [if_pos (by (simp only [← Int32.toInt_inj, Int32.le_iff_toInt_le, Int32.lt_iff_toInt_lt, Int32.reduceToInt] at *; omega))] | rw [if_neg (by (simp only [← Int32.toInt_inj, Int32.le_iff_toInt_le, Int32.lt_iff_toInt_lt, Int32.reduceToInt] at *; omega))] | rw [b2i_t (by (simp only [← Int32.toInt_inj, Int32.le_iff_toInt_le, Int32.lt_iff_toInt_lt, Int32.reduceToInt] at *; omega))] | rw [b2i_f (by (simp only [← Int32.toInt_inj, Int32.le_iff_toInt_le, Int32.lt_iff_toInt_lt, Int32.reduceToInt] at *; omega))])); try rfl
  · refine ev_tin (off := 47) (tgt := 48) dX12_done_1 (by omega) (by omega) (by rw [hs1]; rfl) (by decide) ?_
    have he1 : (x) = 3 := Int32.toInt_inj.mp (hs1.trans (by decide))
    refine ev_iload_n dX12_done_48 rfl ?_
    refine ev_iload_n dX12_done_49 rfl ?_
    refine ev_imul dX12_done_50 ?_
    refine ev_iret dX12_done_51 rfl ?_
    refine ⟨?_, rfl⟩
    first | (exfalso; (simp only [← Int32.toInt_inj, Int32.le_iff_toInt_le, Int32.lt_iff_toInt_lt, Int32.reduceToInt] at *; omega)) | (repeat (first | rw [if_pos (by (simp only [← Int32.toInt_inj, Int32.le_iff_toInt_le, Int32.lt_iff_toInt_lt, Int32.reduceToInt] at *; omega))] | rw [if_neg (by (simp only [← Int32.toInt_inj, Int32.le_iff_toInt_le, Int32.lt_iff_toInt_lt, Int32.reduceToInt] at *; omega))] | rw [b2i_t (by (simp only [← Int32.toInt_inj, Int32.le_iff_toInt_le, Int32.lt_iff_toInt_lt, Int32.reduceToInt] at *; omega))] | rw [b2i_f (by (simp only [← Int32.toInt_inj, Int32.le_iff_toInt_le, Int32.lt_iff_toInt_lt, Int32.reduceToInt] at *; omega))])); try rfl
  · refine ev_tin (off := 51) (tgt := 52) dX12_done_1 (by omega) (by omega) (by rw [hs1]; rfl) (by decide) ?_
    have he1 : (x) = 4 := Int32.toInt_inj.mp (hs1.trans (by decide))
    refine ev_iload_n dX12_done_52 rfl ?_
    refine ev_iload_n dX12_done_53 rfl ?_
    refine ev_icmp_ge (tgt := 61) dX12_done_54 (by decide) (fun h54 => ?_) (fun h54 => ?_)
    · refine ev_iconst (v := 0) dX12_done_61 (by decide) ?_
      refine ev_iret dX12_done_62 rfl ?_
      refine ⟨?_, rfl⟩
      first | (exfalso; (simp only [← Int32.toInt_inj, Int32.le_iff_toInt_le, Int32.lt_iff_toInt_lt, Int32.reduceToInt] at *; omega)) | (repeat (first | rw [if_pos (by (simp only [← Int32.toInt_inj, Int32.le_iff_toInt_le, Int32.lt_iff_toInt_lt, Int32.reduceToInt] at *; omega))] | rw [if_neg (by (simp only [← Int32.toInt_inj, Int32.le_iff_toInt_le, Int32.lt_iff_toInt_lt, Int32.reduceToInt] at *; omega))] | rw [b2i_t (by (simp only [← Int32.toInt_inj, Int32.le_iff_toInt_le, Int32.lt_iff_toInt_lt, Int32.reduceToInt] at *; omega))] | rw [b2i_f (by (simp only [← Int32.toInt_inj, Int32.le_iff_toInt_le, Int32.lt_iff_toInt_lt, Int32.reduceToInt] at *; omega))])); try rfl
    · refine ev_iconst (v := 1) dX12_done_57 (by decide) ?_
      refine ev_goto (tgt := 62) dX12_done_58 (by decide) ?_
      refine ev_iret dX12_done_62 rfl ?_
      refine ⟨?_, rfl⟩
      first | (exfalso; (simp only [← Int32.toInt_inj, Int32.le_iff_toInt_le, Int32.lt_iff_toInt_lt, Int32.reduceToInt] at *; omega)) | (repeat (first | rw [if_pos (by (simp only [← Int32.toInt_inj, Int32.le_iff_toInt_le, Int32.lt_iff_toInt_lt, Int32.reduceToInt] at *; omega))] | rw [if_neg (by (simp only [← Int32.toInt_inj, Int32.le_iff_toInt_le, Int32.lt_iff_toInt_lt, Int32.reduceToInt] at *; omega))] | rw [b2i_t (by (simp only [← Int32.toInt_inj, Int32.le_iff_toInt_le, Int32.lt_iff_toInt_lt, Int32.reduceToInt] at *; omega))] | rw [b2i_f (by (simp only [← Int32.toInt_inj, Int32.le_iff_toInt_le, Int32.lt_iff_toInt_lt, Int32.reduceToInt] at *; omega))])); try rfl
  · refine ev_tin (off := 62) (tgt := 63) dX12_done_1 (by omega) (by omega) (by rw [hs1]; rfl) (by decide) ?_
    have he1 : (x) = 5 := Int32.toInt_inj.mp (hs1.trans (by decide))
    refine ev_iload_n dX12_done_63 rfl ?_
    refine ev_iload_n dX12_done_64 rfl ?_
    refine ev_icmp_ne (tgt := 72) dX12_done_65 (by decide) (fun h65 => ?_) (fun h65 => ?_)
    · refine ev_iconst (v := 0) dX12_done_72 (by decide) ?_
      refine ev_iret dX12_done_73 rfl ?_
      refine ⟨?_, rfl⟩
      first | (exfalso; (simp only [← Int32.toInt_inj, Int32.le_iff_toInt_le, Int32.lt_iff_toInt_lt, Int32.reduceToInt] at *; omega)) | (repeat (first | rw [if_pos (by (simp only [← Int32.toInt_inj, Int32.le_iff_toInt_le, Int32.lt_iff_toInt_lt, Int32.reduceToInt] at *; omega))] | rw [if_neg (by (simp only [← Int32.toInt_inj, Int32.le_iff_toInt_le, Int32.lt_iff_toInt_lt, Int32.reduceToInt] at *; omega))] | rw [b2i_t (by (simp only [← Int32.toInt_inj, Int32.le_iff_toInt_le, Int32.lt_iff_toInt_lt, Int32.reduceToInt] at *; omega))] | rw [b2i_f (by (simp only [← Int32.toInt_inj, Int32.le_iff_toInt_le, Int32.lt_iff_toInt_lt, Int32.reduceToInt] at *; omega))])); try rfl
    · refine ev_iconst (v := 1) dX12_done_68 (by decide) ?_
      refine ev_goto (tgt := 73) dX12_done_69 (by decide) ?_
      refine ev_iret dX12_done_73 rfl ?_
      refine ⟨?_, rfl⟩
      first | (exfalso; (simp only [← Int32.toInt_inj, Int32.le_iff_toInt_le, Int32.lt_iff_toInt_lt, Int32.reduceToInt] at *; omega)) | (repeat (first | rw [if_pos (by (simp only [← Int32.toInt_inj, Int32.le_iff_toInt_le, Int32.lt_iff_toInt_lt, Int32.reduceToInt] at *; omega))] | rw [if_neg (by (simp only [← Int32.toInt_inj, Int32.le_iff_toInt_le, Int32.lt_iff_toInt_lt, Int32.reduceToInt] at *; omega))] | rw [b2i_t (by (simp only [← Int32.toInt_inj, Int32.le_iff_toInt_le, Int32.lt_iff_toInt_lt, Int32.reduceToInt] at *; omega))] | rw [b2i_f (by (simp only [← Int32.toInt_inj, Int32.le_iff_toInt_le, Int32.lt_iff_toInt_lt, Int32.reduceToInt] at *; omega))])); try rfl
  · refine ev_tin (off := 73) (tgt := 74) dX12_done_1 (by omega) (by omega) (by rw [hs1]; rfl) (by decide) ?_
    have he1 : (x) = 6 := Int32.toInt_inj.mp (hs1.trans (by decide))
    refine ev_iload_n dX12_done_74 rfl ?_
    refine ev_if_eq (tgt := 86) dX12_done_75 (by decide) (fun h75 => ?_) (fun h75 => ?_)
    · refine ev_iconst (v := 0) dX12_done_86 (by decide) ?_
      refine ev_iret dX12_done_87 rfl ?_
      refine ⟨?_, rfl⟩
      first | (exfalso; (simp only [← Int32.toInt_inj, Int32.le_iff_toInt_le, Int32.lt_iff_toInt_lt, Int32.reduceToInt] at *; omega)) | (repeat (first | rw [if_pos (by (simp only [← Int32.toInt_inj, Int32.le_iff_toInt_le, Int32.lt_iff_toInt_lt, Int32.reduceToInt] at *; omega))] | rw [if_neg (by (simp only [← Int32.toInt_inj, Int32.le_iff_toInt_le, Int32.lt_iff_toInt_lt, Int32.reduceToInt] at *; omega))] | rw [b2i_t (by (simp only [← Int32.toInt_inj, Int32.le_iff_toInt_le, Int32.lt_iff_toInt_lt, Int32.reduceToInt] at *; omega))] | rw [b2i_f (by (simp only [← Int32.toInt_inj, Int32.le_iff_toInt_le, Int32.lt_iff_toInt_lt, Int32.reduceToInt] at *; omega))])); try rfl
    · refine ev_iload_n dX12_done_78 rfl ?_
      refine ev_if_eq (tgt := 86) dX12_done_79 (by decide) (fun h79 => ?_) (fun h79 => ?_)
      · refine ev_iconst (v := 0) dX12_done_86 (by decide) ?_
        refine ev_iret dX12_done_87 rfl ?_
        refine ⟨?_, rfl⟩
        first | (exfalso; (simp only [← Int32.toInt_inj, Int32.le_iff_toInt_le, Int32.lt_iff_toInt_lt, Int32.reduceToInt] at *; omega)) | (repeat (first | rw [if_pos (by (simp only [← Int32.toInt_inj, Int32.le_iff_toInt_le, Int32.lt_iff_toInt_lt, Int32.reduceToInt] at *; omega))] | rw [if_neg (by (simp only [← Int32.toInt_inj, Int32.le_iff_toInt_le, Int32.lt_iff_toInt_lt, Int32.reduceToInt] at *; omega))] | rw [b2i_t (by (simp only [← Int32.toInt_inj, Int32.le_iff_toInt_le, Int32.lt_iff_toInt_lt, Int32.reduceToInt] at *; omega))] | rw [b2i_f (by (simp only [← Int32.toInt_inj, Int32.le_iff_toInt_le, Int32.lt_iff_toInt_lt, Int32.reduceToInt] at *; omega))])); try rfl
      · refine ev_iconst (v := 1) dX12_done_82 (by decide) ?_
        refine ev_goto (tgt := 87) dX12_done_83 (by decide) ?_
        refine ev_iret dX12_done_87 rfl ?_
        refine ⟨?_, rfl⟩
        first | (exfalso; (simp only [← Int32.toInt_inj, Int32.le_iff_toInt_le, Int32.lt_iff_toInt_lt, Int32.reduceToInt] at *; omega)) | (repeat (first | rw [if_pos (by (simp only [← Int32.toInt_inj, Int32.le_iff_toInt_le, Int32.lt_iff_toInt_lt, Int32.reduceToInt] at *; omega))] | rw [if_neg (by (simp only [← Int32.toInt_inj, Int32.le_iff_toInt_le, Int32.lt_iff_toInt_lt, Int32.reduceToInt] at *; omega))] | rw [b2i_t (by (simp only [← Int32.toInt_inj, Int32.le_iff_toInt_le, Int32.lt_iff_toInt_lt, Int32.reduceToInt] at *; omega))] | rw [b2i_f (by (simp only [← Int32.toInt_inj, Int32.le_iff_toInt_le, Int32.lt_iff_toInt_lt, Int32.reduceToInt] at *; omega))])); try rfl
theorem c_isUnder {g : Gl} {μ : Mm} (kd k : Int32) : Pu g 0 mX12_isUnder [.int kd, .int k] μ (b2i (kd = k ∨ k = 0 ∨ (k = 1 ∧ (kd = 3 ∨ kd = 5)) ∨ (k = 2 ∧ kd = 4))) := by
  refine Mt.of0 (ls0 := [some (.int kd), some (.int k)]) (by decide) (by simp [Value.category]) (Nat.le_of_ble_eq_true rfl) rfl ?_
  refine ev_iload_n dX12_isUnder_0 rfl ?_
  refine ev_iload_n dX12_isUnder_1 rfl ?_
  refine ev_icmp_eq (tgt := 34) dX12_isUnder_2 (by decide) (fun h2 => ?_) (fun h2 => ?_)
  · refine ev_iconst (v := 1) dX12_isUnder_34 (by decide) ?_
    refine ev_goto (tgt := 39) dX12_isUnder_35 (by decide) ?_
    refine ev_zret dX12_isUnder_39 rfl (by decide) ?_
    refine ⟨?_, rfl⟩
    first | (rw [b2i_t (by (simp only [← Int32.toInt_inj, Int32.le_iff_toInt_le, Int32.lt_iff_toInt_lt, Int32.reduceToInt] at *; omega))]; done) | (rw [b2i_f (by (simp only [← Int32.toInt_inj, Int32.le_iff_toInt_le, Int32.lt_iff_toInt_lt, Int32.reduceToInt] at *; omega))]; done) | (exfalso; (simp only [← Int32.toInt_inj, Int32.le_iff_toInt_le, Int32.lt_iff_toInt_lt, Int32.reduceToInt] at *; omega))
  · refine ev_iload_n dX12_isUnder_5 rfl ?_
    refine ev_if_eq (tgt := 34) dX12_isUnder_6 (by decide) (fun h6 => ?_) (fun h6 => ?_)
    · refine ev_iconst (v := 1) dX12_isUnder_34 (by decide) ?_
      refine ev_goto (tgt := 39) dX12_isUnder_35 (by decide) ?_
      refine ev_zret dX12_isUnder_39 rfl (by decide) ?_
      refine ⟨?_, rfl⟩
      first | (rw [b2i_t (by (simp only [← Int32.toInt_inj, Int32.le_iff_toInt_le, Int32.lt_iff_toInt_lt, Int32.reduceToInt] at *; omega))]; done) | (rw [b2i_f (by (simp only [← Int32.toInt_inj, Int32.le_iff_toInt_le, Int32.lt_iff_toInt_lt, Int32.reduceToInt] at *; omega))]; done) | (exfalso; (simp only [← Int32.toInt_inj, Int32.le_iff_toInt_le, Int32.lt_iff_toInt_lt, Int32.reduceToInt] at *; omega))
    · refine ev_iload_n dX12_isUnder_9 rfl ?_
      refine ev_iconst (v := 1) dX12_isUnder_10 (by decide) ?_
      refine ev_icmp_ne (tgt := 24) dX12_isUnder_11 (by decide) (fun h11 => ?_) (fun h11 => ?_)
      · refine ev_iload_n dX12_isUnder_24 rfl ?_
        refine ev_iconst (v := 2) dX12_isUnder_25 (by decide) ?_
        refine ev_icmp_ne (tgt := 38) dX12_isUnder_26 (by decide) (fun h26 => ?_) (fun h26 => ?_)
        · refine ev_iconst (v := 0) dX12_isUnder_38 (by decide) ?_
          refine ev_zret dX12_isUnder_39 rfl (by decide) ?_
          refine ⟨?_, rfl⟩
          first | (rw [b2i_t (by (simp only [← Int32.toInt_inj, Int32.le_iff_toInt_le, Int32.lt_iff_toInt_lt, Int32.reduceToInt] at *; omega))]; done) | (rw [b2i_f (by (simp only [← Int32.toInt_inj, Int32.le_iff_toInt_le, Int32.lt_iff_toInt_lt, Int32.reduceToInt] at *; omega))]; done) | (exfalso; (simp only [← Int32.toInt_inj, Int32.le_iff_toInt_le, Int32.lt_iff_toInt_lt, Int32.reduceToInt] at *; omega))
        · refine ev_iload_n dX12_isUnder_29 rfl ?_
          refine ev_iconst (v := 4) dX12_isUnder_30 (by decide) ?_
          refine ev_icmp_ne (tgt := 38) dX12_isUnder_31 (by decide) (fun h31 => ?_) (fun h31 => ?_)
          · refine ev_iconst (v := 0) dX12_isUnder_38 (by decide) ?_
            refine ev_zret dX12_isUnder_39 rfl (by decide) ?_
            refine ⟨?_, rfl⟩
            first | (rw [b2i_t (by (simp only [← Int32.toInt_inj, Int32.le_iff_toInt_le, Int32.lt_iff_toInt_lt, Int32.reduceToInt] at *; omega))]; done) | (rw [b2i_f (by (simp only [← Int32.toInt_inj, Int32.le_iff_toInt_le, Int32.lt_iff_toInt_lt, Int32.reduceToInt] at *; omega))]; done) | (exfalso; (simp only [← Int32.toInt_inj, Int32.le_iff_toInt_le, Int32.lt_iff_toInt_lt, Int32.reduceToInt] at *; omega))
          · refine ev_iconst (v := 1) dX12_isUnder_34 (by decide) ?_
            refine ev_goto (tgt := 39) dX12_isUnder_35 (by decide) ?_
            refine ev_zret dX12_isUnder_39 rfl (by decide) ?_
            refine ⟨?_, rfl⟩
            first | (rw [b2i_t (by (simp only [← Int32.toInt_inj, Int32.le_iff_toInt_le, Int32.lt_iff_toInt_lt, Int32.reduceToInt] at *; omega))]; done) | (rw [b2i_f (by (simp only [← Int32.toInt_inj, Int32.le_iff_toInt_le, Int32.lt_iff_toInt_lt, Int32.reduceToInt] at *; omega))]; done) | (exfalso; (simp only [← Int32.toInt_inj, Int32.le_iff_toInt_le, Int32.lt_iff_toInt_lt, Int32.reduceToInt] at *; omega))
      · refine ev_iload_n dX12_isUnder_14 rfl ?_
        refine ev_iconst (v := 3) dX12_isUnder_15 (by decide) ?_
        refine ev_icmp_eq (tgt := 34) dX12_isUnder_16 (by decide) (fun h16 => ?_) (fun h16 => ?_)
        · refine ev_iconst (v := 1) dX12_isUnder_34 (by decide) ?_
          refine ev_goto (tgt := 39) dX12_isUnder_35 (by decide) ?_
          refine ev_zret dX12_isUnder_39 rfl (by decide) ?_
          refine ⟨?_, rfl⟩
          first | (rw [b2i_t (by (simp only [← Int32.toInt_inj, Int32.le_iff_toInt_le, Int32.lt_iff_toInt_lt, Int32.reduceToInt] at *; omega))]; done) | (rw [b2i_f (by (simp only [← Int32.toInt_inj, Int32.le_iff_toInt_le, Int32.lt_iff_toInt_lt, Int32.reduceToInt] at *; omega))]; done) | (exfalso; (simp only [← Int32.toInt_inj, Int32.le_iff_toInt_le, Int32.lt_iff_toInt_lt, Int32.reduceToInt] at *; omega))
        · refine ev_iload_n dX12_isUnder_19 rfl ?_
          refine ev_iconst (v := 5) dX12_isUnder_20 (by decide) ?_
          refine ev_icmp_eq (tgt := 34) dX12_isUnder_21 (by decide) (fun h21 => ?_) (fun h21 => ?_)
          · refine ev_iconst (v := 1) dX12_isUnder_34 (by decide) ?_
            refine ev_goto (tgt := 39) dX12_isUnder_35 (by decide) ?_
            refine ev_zret dX12_isUnder_39 rfl (by decide) ?_
            refine ⟨?_, rfl⟩
            first | (rw [b2i_t (by (simp only [← Int32.toInt_inj, Int32.le_iff_toInt_le, Int32.lt_iff_toInt_lt, Int32.reduceToInt] at *; omega))]; done) | (rw [b2i_f (by (simp only [← Int32.toInt_inj, Int32.le_iff_toInt_le, Int32.lt_iff_toInt_lt, Int32.reduceToInt] at *; omega))]; done) | (exfalso; (simp only [← Int32.toInt_inj, Int32.le_iff_toInt_le, Int32.lt_iff_toInt_lt, Int32.reduceToInt] at *; omega))
          · refine ev_iload_n dX12_isUnder_24 rfl ?_
            refine ev_iconst (v := 2) dX12_isUnder_25 (by decide) ?_
            refine ev_icmp_ne (tgt := 38) dX12_isUnder_26 (by decide) (fun h26 => ?_) (fun h26 => ?_)
            · refine ev_iconst (v := 0) dX12_isUnder_38 (by decide) ?_
              refine ev_zret dX12_isUnder_39 rfl (by decide) ?_
              refine ⟨?_, rfl⟩
              first | (rw [b2i_t (by (simp only [← Int32.toInt_inj, Int32.le_iff_toInt_le, Int32.lt_iff_toInt_lt, Int32.reduceToInt] at *; omega))]; done) | (rw [b2i_f (by (simp only [← Int32.toInt_inj, Int32.le_iff_toInt_le, Int32.lt_iff_toInt_lt, Int32.reduceToInt] at *; omega))]; done) | (exfalso; (simp only [← Int32.toInt_inj, Int32.le_iff_toInt_le, Int32.lt_iff_toInt_lt, Int32.reduceToInt] at *; omega))
            · refine ev_iload_n dX12_isUnder_29 rfl ?_
              refine ev_iconst (v := 4) dX12_isUnder_30 (by decide) ?_
              refine ev_icmp_ne (tgt := 38) dX12_isUnder_31 (by decide) (fun h31 => ?_) (fun h31 => ?_)
              · refine ev_iconst (v := 0) dX12_isUnder_38 (by decide) ?_
                refine ev_zret dX12_isUnder_39 rfl (by decide) ?_
                refine ⟨?_, rfl⟩
                first | (rw [b2i_t (by (simp only [← Int32.toInt_inj, Int32.le_iff_toInt_le, Int32.lt_iff_toInt_lt, Int32.reduceToInt] at *; omega))]; done) | (rw [b2i_f (by (simp only [← Int32.toInt_inj, Int32.le_iff_toInt_le, Int32.lt_iff_toInt_lt, Int32.reduceToInt] at *; omega))]; done) | (exfalso; (simp only [← Int32.toInt_inj, Int32.le_iff_toInt_le, Int32.lt_iff_toInt_lt, Int32.reduceToInt] at *; omega))
              · refine ev_iconst (v := 1) dX12_isUnder_34 (by decide) ?_
                refine ev_goto (tgt := 39) dX12_isUnder_35 (by decide) ?_
                refine ev_zret dX12_isUnder_39 rfl (by decide) ?_
                refine ⟨?_, rfl⟩
                first | (rw [b2i_t (by (simp only [← Int32.toInt_inj, Int32.le_iff_toInt_le, Int32.lt_iff_toInt_lt, Int32.reduceToInt] at *; omega))]; done) | (rw [b2i_f (by (simp only [← Int32.toInt_inj, Int32.le_iff_toInt_le, Int32.lt_iff_toInt_lt, Int32.reduceToInt] at *; omega))]; done) | (exfalso; (simp only [← Int32.toInt_inj, Int32.le_iff_toInt_le, Int32.lt_iff_toInt_lt, Int32.reduceToInt] at *; omega))
