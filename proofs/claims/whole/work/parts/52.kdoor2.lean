/-! ===== a door's own methods, by its class ===== -/
theorem glX10_35 {ci : Nat} (h : ci ∈ dks) : FL RX10 35 ci 4 := by
  simp only [dks, List.mem_cons, List.not_mem_nil, or_false] at h
  rcases h with rfl | rfl | rfl | rfl | rfl | rfl
  · exact flX10_35_0
  · exact flX10_35_1
  · exact flX10_35_2
  · exact flX10_35_3
  · exact flX10_35_8
  · exact flX10_35_9
theorem gpX10_35 {ci : Nat} (h : ci ∈ dks) : FP RX10 35 ci 4 .int false := by
  simp only [dks, List.mem_cons, List.not_mem_nil, or_false] at h
  rcases h with rfl | rfl | rfl | rfl | rfl | rfl
  · exact fpX10_35_0
  · exact fpX10_35_1
  · exact fpX10_35_2
  · exact fpX10_35_3
  · exact fpX10_35_8
  · exact fpX10_35_9
theorem glX10_48 {ci : Nat} (h : ci ∈ dks) : FL RX10 48 ci 2 := by
  simp only [dks, List.mem_cons, List.not_mem_nil, or_false] at h
  rcases h with rfl | rfl | rfl | rfl | rfl | rfl
  · exact flX10_48_0
  · exact flX10_48_1
  · exact flX10_48_2
  · exact flX10_48_3
  · exact flX10_48_8
  · exact flX10_48_9
theorem gpX10_48 {ci : Nat} (h : ci ∈ dks) : FP RX10 48 ci 2 .int false := by
  simp only [dks, List.mem_cons, List.not_mem_nil, or_false] at h
  rcases h with rfl | rfl | rfl | rfl | rfl | rfl
  · exact fpX10_48_0
  · exact fpX10_48_1
  · exact fpX10_48_2
  · exact fpX10_48_3
  · exact fpX10_48_8
  · exact fpX10_48_9
theorem glX10_49 {ci : Nat} (h : ci ∈ dks) : FL RX10 49 ci 3 := by
  simp only [dks, List.mem_cons, List.not_mem_nil, or_false] at h
  rcases h with rfl | rfl | rfl | rfl | rfl | rfl
  · exact flX10_49_0
  · exact flX10_49_1
  · exact flX10_49_2
  · exact flX10_49_3
  · exact flX10_49_8
  · exact flX10_49_9
theorem gpX10_49 {ci : Nat} (h : ci ∈ dks) : FP RX10 49 ci 3 .int false := by
  simp only [dks, List.mem_cons, List.not_mem_nil, or_false] at h
  rcases h with rfl | rfl | rfl | rfl | rfl | rfl
  · exact fpX10_49_0
  · exact fpX10_49_1
  · exact fpX10_49_2
  · exact fpX10_49_3
  · exact fpX10_49_8
  · exact fpX10_49_9
theorem glX11_157 {ci : Nat} (h : ci ∈ dks) : FL RX11 157 ci 4 := by
  simp only [dks, List.mem_cons, List.not_mem_nil, or_false] at h
  rcases h with rfl | rfl | rfl | rfl | rfl | rfl
  · exact flX11_157_0
  · exact flX11_157_1
  · exact flX11_157_2
  · exact flX11_157_3
  · exact flX11_157_8
  · exact flX11_157_9
theorem gpX11_157 {ci : Nat} (h : ci ∈ dks) : FP RX11 157 ci 4 .int false := by
  simp only [dks, List.mem_cons, List.not_mem_nil, or_false] at h
  rcases h with rfl | rfl | rfl | rfl | rfl | rfl
  · exact fpX11_157_0
  · exact fpX11_157_1
  · exact fpX11_157_2
  · exact fpX11_157_3
  · exact fpX11_157_8
  · exact fpX11_157_9
theorem glX11_295 {ci : Nat} (h : ci ∈ dks) : FL RX11 295 ci 1 := by
  simp only [dks, List.mem_cons, List.not_mem_nil, or_false] at h
  rcases h with rfl | rfl | rfl | rfl | rfl | rfl
  · exact flX11_295_0
  · exact flX11_295_1
  · exact flX11_295_2
  · exact flX11_295_3
  · exact flX11_295_8
  · exact flX11_295_9
theorem gpX11_295 {ci : Nat} (h : ci ∈ dks) : FP RX11 295 ci 1 .int false := by
  simp only [dks, List.mem_cons, List.not_mem_nil, or_false] at h
  rcases h with rfl | rfl | rfl | rfl | rfl | rfl
  · exact fpX11_295_0
  · exact fpX11_295_1
  · exact fpX11_295_2
  · exact fpX11_295_3
  · exact fpX11_295_8
  · exact fpX11_295_9
theorem glX11_324 {ci : Nat} (h : ci ∈ dks) : FL RX11 324 ci 0 := by
  simp only [dks, List.mem_cons, List.not_mem_nil, or_false] at h
  rcases h with rfl | rfl | rfl | rfl | rfl | rfl
  · exact flX11_324_0
  · exact flX11_324_1
  · exact flX11_324_2
  · exact flX11_324_3
  · exact flX11_324_8
  · exact flX11_324_9
theorem glX11_334 {ci : Nat} (h : ci ∈ dks) : FL RX11 334 ci 3 := by
  simp only [dks, List.mem_cons, List.not_mem_nil, or_false] at h
  rcases h with rfl | rfl | rfl | rfl | rfl | rfl
  · exact flX11_334_0
  · exact flX11_334_1
  · exact flX11_334_2
  · exact flX11_334_3
  · exact flX11_334_8
  · exact flX11_334_9
theorem gpX11_334 {ci : Nat} (h : ci ∈ dks) : FP RX11 334 ci 3 .int false := by
  simp only [dks, List.mem_cons, List.not_mem_nil, or_false] at h
  rcases h with rfl | rfl | rfl | rfl | rfl | rfl
  · exact fpX11_334_0
  · exact fpX11_334_1
  · exact fpX11_334_2
  · exact fpX11_334_3
  · exact fpX11_334_8
  · exact fpX11_334_9
theorem glX11_337 {ci : Nat} (h : ci ∈ dks) : FL RX11 337 ci 2 := by
  simp only [dks, List.mem_cons, List.not_mem_nil, or_false] at h
  rcases h with rfl | rfl | rfl | rfl | rfl | rfl
  · exact flX11_337_0
  · exact flX11_337_1
  · exact flX11_337_2
  · exact flX11_337_3
  · exact flX11_337_8
  · exact flX11_337_9
theorem gpX11_337 {ci : Nat} (h : ci ∈ dks) : FP RX11 337 ci 2 .int false := by
  simp only [dks, List.mem_cons, List.not_mem_nil, or_false] at h
  rcases h with rfl | rfl | rfl | rfl | rfl | rfl
  · exact fpX11_337_0
  · exact fpX11_337_1
  · exact fpX11_337_2
  · exact fpX11_337_3
  · exact fpX11_337_8
  · exact fpX11_337_9
theorem glX2_9 {ci : Nat} (h : ci ∈ dks) : FL RX2 9 ci 1 := by
  simp only [dks, List.mem_cons, List.not_mem_nil, or_false] at h
  rcases h with rfl | rfl | rfl | rfl | rfl | rfl
  · exact flX2_9_0
  · exact flX2_9_1
  · exact flX2_9_2
  · exact flX2_9_3
  · exact flX2_9_8
  · exact flX2_9_9
theorem gpX2_9 {ci : Nat} (h : ci ∈ dks) : FP RX2 9 ci 1 .int false := by
  simp only [dks, List.mem_cons, List.not_mem_nil, or_false] at h
  rcases h with rfl | rfl | rfl | rfl | rfl | rfl
  · exact fpX2_9_0
  · exact fpX2_9_1
  · exact fpX2_9_2
  · exact fpX2_9_3
  · exact fpX2_9_8
  · exact fpX2_9_9
theorem glX2_15 {ci : Nat} (h : ci ∈ dks) : FL RX2 15 ci 2 := by
  simp only [dks, List.mem_cons, List.not_mem_nil, or_false] at h
  rcases h with rfl | rfl | rfl | rfl | rfl | rfl
  · exact flX2_15_0
  · exact flX2_15_1
  · exact flX2_15_2
  · exact flX2_15_3
  · exact flX2_15_8
  · exact flX2_15_9
theorem gpX2_15 {ci : Nat} (h : ci ∈ dks) : FP RX2 15 ci 2 .int false := by
  simp only [dks, List.mem_cons, List.not_mem_nil, or_false] at h
  rcases h with rfl | rfl | rfl | rfl | rfl | rfl
  · exact fpX2_15_0
  · exact fpX2_15_1
  · exact fpX2_15_2
  · exact fpX2_15_3
  · exact fpX2_15_8
  · exact fpX2_15_9
theorem glX2_18 {ci : Nat} (h : ci ∈ dks) : FL RX2 18 ci 3 := by
  simp only [dks, List.mem_cons, List.not_mem_nil, or_false] at h
  rcases h with rfl | rfl | rfl | rfl | rfl | rfl
  · exact flX2_18_0
  · exact flX2_18_1
  · exact flX2_18_2
  · exact flX2_18_3
  · exact flX2_18_8
  · exact flX2_18_9
theorem gpX2_18 {ci : Nat} (h : ci ∈ dks) : FP RX2 18 ci 3 .int false := by
  simp only [dks, List.mem_cons, List.not_mem_nil, or_false] at h
  rcases h with rfl | rfl | rfl | rfl | rfl | rfl
  · exact fpX2_18_0
  · exact fpX2_18_1
  · exact fpX2_18_2
  · exact fpX2_18_3
  · exact fpX2_18_8
  · exact fpX2_18_9
theorem glX2_21 {ci : Nat} (h : ci ∈ dks) : FL RX2 21 ci 4 := by
  simp only [dks, List.mem_cons, List.not_mem_nil, or_false] at h
  rcases h with rfl | rfl | rfl | rfl | rfl | rfl
  · exact flX2_21_0
  · exact flX2_21_1
  · exact flX2_21_2
  · exact flX2_21_3
  · exact flX2_21_8
  · exact flX2_21_9
theorem gpX2_21 {ci : Nat} (h : ci ∈ dks) : FP RX2 21 ci 4 .int false := by
  simp only [dks, List.mem_cons, List.not_mem_nil, or_false] at h
  rcases h with rfl | rfl | rfl | rfl | rfl | rfl
  · exact fpX2_21_0
  · exact fpX2_21_1
  · exact fpX2_21_2
  · exact fpX2_21_3
  · exact fpX2_21_8
  · exact fpX2_21_9
theorem glX2_24 {ci : Nat} (h : ci ∈ dks) : FL RX2 24 ci 0 := by
  simp only [dks, List.mem_cons, List.not_mem_nil, or_false] at h
  rcases h with rfl | rfl | rfl | rfl | rfl | rfl
  · exact flX2_24_0
  · exact flX2_24_1
  · exact flX2_24_2
  · exact flX2_24_3
  · exact flX2_24_8
  · exact flX2_24_9
theorem glX5_64 {ci : Nat} (h : ci ∈ dks) : FL RX5 64 ci 2 := by
  simp only [dks, List.mem_cons, List.not_mem_nil, or_false] at h
  rcases h with rfl | rfl | rfl | rfl | rfl | rfl
  · exact flX5_64_0
  · exact flX5_64_1
  · exact flX5_64_2
  · exact flX5_64_3
  · exact flX5_64_8
  · exact flX5_64_9
theorem gpX5_64 {ci : Nat} (h : ci ∈ dks) : FP RX5 64 ci 2 .int false := by
  simp only [dks, List.mem_cons, List.not_mem_nil, or_false] at h
  rcases h with rfl | rfl | rfl | rfl | rfl | rfl
  · exact fpX5_64_0
  · exact fpX5_64_1
  · exact fpX5_64_2
  · exact fpX5_64_3
  · exact fpX5_64_8
  · exact fpX5_64_9
theorem glX5_67 {ci : Nat} (h : ci ∈ dks) : FL RX5 67 ci 3 := by
  simp only [dks, List.mem_cons, List.not_mem_nil, or_false] at h
  rcases h with rfl | rfl | rfl | rfl | rfl | rfl
  · exact flX5_67_0
  · exact flX5_67_1
  · exact flX5_67_2
  · exact flX5_67_3
  · exact flX5_67_8
  · exact flX5_67_9
theorem gpX5_67 {ci : Nat} (h : ci ∈ dks) : FP RX5 67 ci 3 .int false := by
  simp only [dks, List.mem_cons, List.not_mem_nil, or_false] at h
  rcases h with rfl | rfl | rfl | rfl | rfl | rfl
  · exact fpX5_67_0
  · exact fpX5_67_1
  · exact fpX5_67_2
  · exact fpX5_67_3
  · exact fpX5_67_8
  · exact fpX5_67_9
theorem glX5_70 {ci : Nat} (h : ci ∈ dks) : FL RX5 70 ci 4 := by
  simp only [dks, List.mem_cons, List.not_mem_nil, or_false] at h
  rcases h with rfl | rfl | rfl | rfl | rfl | rfl
  · exact flX5_70_0
  · exact flX5_70_1
  · exact flX5_70_2
  · exact flX5_70_3
  · exact flX5_70_8
  · exact flX5_70_9
theorem gpX5_70 {ci : Nat} (h : ci ∈ dks) : FP RX5 70 ci 4 .int false := by
  simp only [dks, List.mem_cons, List.not_mem_nil, or_false] at h
  rcases h with rfl | rfl | rfl | rfl | rfl | rfl
  · exact fpX5_70_0
  · exact fpX5_70_1
  · exact fpX5_70_2
  · exact fpX5_70_3
  · exact fpX5_70_8
  · exact fpX5_70_9
theorem glX5_73 {ci : Nat} (h : ci ∈ dks) : FL RX5 73 ci 0 := by
  simp only [dks, List.mem_cons, List.not_mem_nil, or_false] at h
  rcases h with rfl | rfl | rfl | rfl | rfl | rfl
  · exact flX5_73_0
  · exact flX5_73_1
  · exact flX5_73_2
  · exact flX5_73_3
  · exact flX5_73_8
  · exact flX5_73_9
theorem glX6_122 {ci : Nat} (h : ci ∈ dks) : FL RX6 122 ci 4 := by
  simp only [dks, List.mem_cons, List.not_mem_nil, or_false] at h
  rcases h with rfl | rfl | rfl | rfl | rfl | rfl
  · exact flX6_122_0
  · exact flX6_122_1
  · exact flX6_122_2
  · exact flX6_122_3
  · exact flX6_122_8
  · exact flX6_122_9
theorem gpX6_122 {ci : Nat} (h : ci ∈ dks) : FP RX6 122 ci 4 .int false := by
  simp only [dks, List.mem_cons, List.not_mem_nil, or_false] at h
  rcases h with rfl | rfl | rfl | rfl | rfl | rfl
  · exact fpX6_122_0
  · exact fpX6_122_1
  · exact fpX6_122_2
  · exact fpX6_122_3
  · exact fpX6_122_8
  · exact fpX6_122_9
section KDOOR2
variable {g : Gl} {μ : Mm} {w : Nat} {i n p s so : Int32}
theorem c_kd3 : Pu g 0 mX3_kind [.ref w] μ 1 := by
  refine Mt.of0 (ls0 := [some (.ref w)]) (by decide) (by simp [Value.category]) (Nat.le_of_ble_eq_true rfl) rfl ?_
  refine ev_iconst (v := 1) dX3_kind_0 (by decide) ?_
  refine ev_iret dX3_kind_1 rfl ?_
  exact ⟨rfl, rfl⟩
theorem c_kd1 : Pu g 0 mX1_kind [.ref w] μ 2 := by
  refine Mt.of0 (ls0 := [some (.ref w)]) (by decide) (by simp [Value.category]) (Nat.le_of_ble_eq_true rfl) rfl ?_
  refine ev_iconst (v := 2) dX1_kind_0 (by decide) ?_
  refine ev_iret dX1_kind_1 rfl ?_
  exact ⟨rfl, rfl⟩
theorem c_kd9 : Pu g 0 mX9_kind [.ref w] μ 3 := by
  refine Mt.of0 (ls0 := [some (.ref w)]) (by decide) (by simp [Value.category]) (Nat.le_of_ble_eq_true rfl) rfl ?_
  refine ev_iconst (v := 3) dX9_kind_0 (by decide) ?_
  refine ev_iret dX9_kind_1 rfl ?_
  exact ⟨rfl, rfl⟩
theorem c_kd0 : Pu g 0 mX0_kind [.ref w] μ 4 := by
  refine Mt.of0 (ls0 := [some (.ref w)]) (by decide) (by simp [Value.category]) (Nat.le_of_ble_eq_true rfl) rfl ?_
  refine ev_iconst (v := 4) dX0_kind_0 (by decide) ?_
  refine ev_iret dX0_kind_1 rfl ?_
  exact ⟨rfl, rfl⟩
theorem c_kd8 : Pu g 0 mX8_kind [.ref w] μ 5 := by
  refine Mt.of0 (ls0 := [some (.ref w)]) (by decide) (by simp [Value.category]) (Nat.le_of_ble_eq_true rfl) rfl ?_
  refine ev_iconst (v := 5) dX8_kind_0 (by decide) ?_
  refine ev_iret dX8_kind_1 rfl ?_
  exact ⟨rfl, rfl⟩
theorem c_kd2 : Pu g 0 mX2_kind [.ref w] μ 0 := by
  refine Mt.of0 (ls0 := [some (.ref w)]) (by decide) (by simp [Value.category]) (Nat.le_of_ble_eq_true rfl) rfl ?_
  refine ev_iconst (v := 0) dX2_kind_0 (by decide) ?_
  refine ev_iret dX2_kind_1 rfl ?_
  exact ⟨rfl, rfl⟩
theorem c_dFact {ci : Nat} (hci : ci ∈ dks) (hm : μ.1 w = some (obj ci (dfs i n p s so))) (x : Int32) : Pu g 0 mX2_fact [.ref w, .int x] μ (if x = 0 then n else if x = 1 then p else if x = 2 then s else so) := by
  refine Mt.of0 (ls0 := [some (.ref w), some (.int x)]) (by decide) (by simp [Value.category]) (Nat.le_of_ble_eq_true rfl) rfl ?_
  refine ev_iload_n dX2_fact_0 rfl ?_
  by_cases hs1 : (x).toInt < 0 ∨ 2 < (x).toInt
  · refine ev_tout (tgt := 43) dX2_fact_1 hs1 (by decide) ?_
    have hn1_0 : ¬ (x) = 0 := fun q => by rw [q] at hs1; revert hs1; decide
    have hn1_1 : ¬ (x) = 1 := fun q => by rw [q] at hs1; revert hs1; decide
    have hn1_2 : ¬ (x) = 2 := fun q => by rw [q] at hs1; revert hs1; decide
    refine ev_aload_n dX2_fact_43 rfl ?_
    refine ev_get dX2_fact_44 (glX2_21 hci) hm rfl ?_
    refine ev_iret dX2_fact_47 rfl ?_
    refine ⟨?_, rfl⟩
    first | (exfalso; (simp only [Fc, Se, Nat.reduceLT, ↓reduceIte, ← Int32.toInt_inj, Int32.le_iff_toInt_le, Int32.lt_iff_toInt_lt, Int32.reduceToInt] at *; omega)) | (repeat (first | rw [if_pos (by (simp only [Fc, Se, Nat.reduceLT, ↓reduceIte, ← Int32.toInt_inj, Int32.le_iff_toInt_le, Int32.lt_iff_toInt_lt, Int32.reduceToInt] at *; omega))] | rw [if_neg (by (simp only [Fc, Se, Nat.reduceLT, ↓reduceIte, ← Int32.toInt_inj, Int32.le_iff_toInt_le, Int32.lt_iff_toInt_lt, Int32.reduceToInt] at *; omega))] | rw [b2i_t (by (simp only [Fc, Se, Nat.reduceLT, ↓reduceIte, ← Int32.toInt_inj, Int32.le_iff_toInt_le, Int32.lt_iff_toInt_lt, Int32.reduceToInt] at *; omega))] | rw [b2i_f (by (simp only [Fc, Se, Nat.reduceLT, ↓reduceIte, ← Int32.toInt_inj, Int32.le_iff_toInt_le, Int32.lt_iff_toInt_lt, Int32.reduceToInt] at *; omega))])); try rfl
  have hs1 : (x).toInt = 0 ∨ (x).toInt = 1 ∨ (x).toInt = 2 := by omega
  rcases hs1 with hs1 | hs1 | hs1
  · refine ev_tin (off := 27) (tgt := 28) dX2_fact_1 (by omega) (by omega) (by rw [hs1]; rfl) (by decide) ?_
    have he1 : (x) = 0 := Int32.toInt_inj.mp (hs1.trans (by decide))
    refine ev_aload_n dX2_fact_28 rfl ?_
    refine ev_get dX2_fact_29 (glX2_9 hci) hm rfl ?_
    refine ev_iret dX2_fact_32 rfl ?_
    refine ⟨?_, rfl⟩
    first | (exfalso; (simp only [Fc, Se, Nat.reduceLT, ↓reduceIte, ← Int32.toInt_inj, Int32.le_iff_toInt_le, Int32.lt_iff_toInt_lt, Int32.reduceToInt] at *; omega)) | (repeat (first | rw [if_pos (by (simp only [Fc, Se, Nat.reduceLT, ↓reduceIte, ← Int32.toInt_inj, Int32.le_iff_toInt_le, Int32.lt_iff_toInt_lt, Int32.reduceToInt] at *; omega))] | rw [if_neg (by (simp only [Fc, Se, Nat.reduceLT, ↓reduceIte, ← Int32.toInt_inj, Int32.le_iff_toInt_le, Int32.lt_iff_toInt_lt, Int32.reduceToInt] at *; omega))] | rw [b2i_t (by (simp only [Fc, Se, Nat.reduceLT, ↓reduceIte, ← Int32.toInt_inj, Int32.le_iff_toInt_le, Int32.lt_iff_toInt_lt, Int32.reduceToInt] at *; omega))] | rw [b2i_f (by (simp only [Fc, Se, Nat.reduceLT, ↓reduceIte, ← Int32.toInt_inj, Int32.le_iff_toInt_le, Int32.lt_iff_toInt_lt, Int32.reduceToInt] at *; omega))])); try rfl
  · refine ev_tin (off := 32) (tgt := 33) dX2_fact_1 (by omega) (by omega) (by rw [hs1]; rfl) (by decide) ?_
    have he1 : (x) = 1 := Int32.toInt_inj.mp (hs1.trans (by decide))
    refine ev_aload_n dX2_fact_33 rfl ?_
    refine ev_get dX2_fact_34 (glX2_15 hci) hm rfl ?_
    refine ev_iret dX2_fact_37 rfl ?_
    refine ⟨?_, rfl⟩
    first | (exfalso; (simp only [Fc, Se, Nat.reduceLT, ↓reduceIte, ← Int32.toInt_inj, Int32.le_iff_toInt_le, Int32.lt_iff_toInt_lt, Int32.reduceToInt] at *; omega)) | (repeat (first | rw [if_pos (by (simp only [Fc, Se, Nat.reduceLT, ↓reduceIte, ← Int32.toInt_inj, Int32.le_iff_toInt_le, Int32.lt_iff_toInt_lt, Int32.reduceToInt] at *; omega))] | rw [if_neg (by (simp only [Fc, Se, Nat.reduceLT, ↓reduceIte, ← Int32.toInt_inj, Int32.le_iff_toInt_le, Int32.lt_iff_toInt_lt, Int32.reduceToInt] at *; omega))] | rw [b2i_t (by (simp only [Fc, Se, Nat.reduceLT, ↓reduceIte, ← Int32.toInt_inj, Int32.le_iff_toInt_le, Int32.lt_iff_toInt_lt, Int32.reduceToInt] at *; omega))] | rw [b2i_f (by (simp only [Fc, Se, Nat.reduceLT, ↓reduceIte, ← Int32.toInt_inj, Int32.le_iff_toInt_le, Int32.lt_iff_toInt_lt, Int32.reduceToInt] at *; omega))])); try rfl
  · refine ev_tin (off := 37) (tgt := 38) dX2_fact_1 (by omega) (by omega) (by rw [hs1]; rfl) (by decide) ?_
    have he1 : (x) = 2 := Int32.toInt_inj.mp (hs1.trans (by decide))
    refine ev_aload_n dX2_fact_38 rfl ?_
    refine ev_get dX2_fact_39 (glX2_18 hci) hm rfl ?_
    refine ev_iret dX2_fact_42 rfl ?_
    refine ⟨?_, rfl⟩
    first | (exfalso; (simp only [Fc, Se, Nat.reduceLT, ↓reduceIte, ← Int32.toInt_inj, Int32.le_iff_toInt_le, Int32.lt_iff_toInt_lt, Int32.reduceToInt] at *; omega)) | (repeat (first | rw [if_pos (by (simp only [Fc, Se, Nat.reduceLT, ↓reduceIte, ← Int32.toInt_inj, Int32.le_iff_toInt_le, Int32.lt_iff_toInt_lt, Int32.reduceToInt] at *; omega))] | rw [if_neg (by (simp only [Fc, Se, Nat.reduceLT, ↓reduceIte, ← Int32.toInt_inj, Int32.le_iff_toInt_le, Int32.lt_iff_toInt_lt, Int32.reduceToInt] at *; omega))] | rw [b2i_t (by (simp only [Fc, Se, Nat.reduceLT, ↓reduceIte, ← Int32.toInt_inj, Int32.le_iff_toInt_le, Int32.lt_iff_toInt_lt, Int32.reduceToInt] at *; omega))] | rw [b2i_f (by (simp only [Fc, Se, Nat.reduceLT, ↓reduceIte, ← Int32.toInt_inj, Int32.le_iff_toInt_le, Int32.lt_iff_toInt_lt, Int32.reduceToInt] at *; omega))])); try rfl
theorem mupd_self {μ : Mm} {a : Nat} {e : MC} (h : μ.1 a = some e) : mupd μ a e = μ := by
  refine Prod.ext ?_ rfl
  funext q
  show (if q = a then some e else μ.1 q) = μ.1 q
  split
  · rename_i hq; rw [hq, h]
  · rfl
theorem mupd_mupd {μ : Mm} {a : Nat} {e e' : MC} : mupd (mupd μ a e) a e' = mupd μ a e' := by
  refine Prod.ext ?_ rfl
  funext q
  show (if q = a then some e' else if q = a then some e else μ.1 q) = if q = a then some e' else μ.1 q
  split <;> rfl
/-- the ints of a door, once one was written -/
def dch (x v : Int32) (n p s so : Int32) : Int32 × Int32 × Int32 × Int32 := if x = 0 then (v, p, s, so) else if x = 1 then (n, v, s, so) else if x = 2 then (n, p, v, so) else (n, p, s, v)
abbrev dfq (i : Int32) (z : Int32 × Int32 × Int32 × Int32) : List Value := dfs i z.1 z.2.1 z.2.2.1 z.2.2.2
theorem c_dChange {ci : Nat} (hci : ci ∈ dks) (hm : μ.1 w = some (obj ci (dfs i n p s so))) (x v : Int32) : Mt g 0 mX2_change [.ref w, .int x, .int v] μ (fun r μ' => r = none ∧ μ' = mupd μ w (obj ci (dfq i (dch x v n p s so)))) := by
  refine Mt.of0 (ls0 := [some (.ref w), some (.int x), some (.int v)]) (by decide) (by simp [Value.category]) (Nat.le_of_ble_eq_true rfl) rfl ?_
  unfold dch
  refine ev_iload_n dX2_change_0 rfl ?_
  by_cases hs1 : (x).toInt < 0 ∨ 2 < (x).toInt
  · refine ev_tout (tgt := 52) dX2_change_1 hs1 (by decide) ?_
    have hn1_0 : ¬ (x) = 0 := fun q => by rw [q] at hs1; revert hs1; decide
    have hn1_1 : ¬ (x) = 1 := fun q => by rw [q] at hs1; revert hs1; decide
    have hn1_2 : ¬ (x) = 2 := fun q => by rw [q] at hs1; revert hs1; decide
    refine ev_aload_n dX2_change_52 rfl ?_
    refine ev_iload_n dX2_change_53 rfl ?_
    refine ev_put dX2_change_54 (gpX2_21 hci) hm (Nat.le_of_ble_eq_true rfl) rfl rfl ?_
    refine ev_vret dX2_change_57 rfl ?_
    refine ⟨rfl, ?_⟩
    first
      | (rw [if_pos he1]; rfl)
      | (rw [if_neg (by rw [he1]; decide), if_pos he1]; rfl)
      | (rw [if_neg (by rw [he1]; decide), if_neg (by rw [he1]; decide), if_pos he1]; rfl)
      | (rw [if_neg hn1_0, if_neg hn1_1, if_neg hn1_2]; rfl)
  have hs1 : (x).toInt = 0 ∨ (x).toInt = 1 ∨ (x).toInt = 2 := by omega
  rcases hs1 with hs1 | hs1 | hs1
  · refine ev_tin (off := 27) (tgt := 28) dX2_change_1 (by omega) (by omega) (by rw [hs1]; rfl) (by decide) ?_
    have he1 : (x) = 0 := Int32.toInt_inj.mp (hs1.trans (by decide))
    refine ev_aload_n dX2_change_28 rfl ?_
    refine ev_iload_n dX2_change_29 rfl ?_
    refine ev_put dX2_change_30 (gpX2_9 hci) hm (Nat.le_of_ble_eq_true rfl) rfl rfl ?_
    refine ev_goto (tgt := 57) dX2_change_33 (by decide) ?_
    refine ev_vret dX2_change_57 rfl ?_
    refine ⟨rfl, ?_⟩
    first
      | (rw [if_pos he1]; rfl)
      | (rw [if_neg (by rw [he1]; decide), if_pos he1]; rfl)
      | (rw [if_neg (by rw [he1]; decide), if_neg (by rw [he1]; decide), if_pos he1]; rfl)
      | (rw [if_neg hn1_0, if_neg hn1_1, if_neg hn1_2]; rfl)
  · refine ev_tin (off := 35) (tgt := 36) dX2_change_1 (by omega) (by omega) (by rw [hs1]; rfl) (by decide) ?_
    have he1 : (x) = 1 := Int32.toInt_inj.mp (hs1.trans (by decide))
    refine ev_aload_n dX2_change_36 rfl ?_
    refine ev_iload_n dX2_change_37 rfl ?_
    refine ev_put dX2_change_38 (gpX2_15 hci) hm (Nat.le_of_ble_eq_true rfl) rfl rfl ?_
    refine ev_goto (tgt := 57) dX2_change_41 (by decide) ?_
    refine ev_vret dX2_change_57 rfl ?_
    refine ⟨rfl, ?_⟩
    first
      | (rw [if_pos he1]; rfl)
      | (rw [if_neg (by rw [he1]; decide), if_pos he1]; rfl)
      | (rw [if_neg (by rw [he1]; decide), if_neg (by rw [he1]; decide), if_pos he1]; rfl)
      | (rw [if_neg hn1_0, if_neg hn1_1, if_neg hn1_2]; rfl)
  · refine ev_tin (off := 43) (tgt := 44) dX2_change_1 (by omega) (by omega) (by rw [hs1]; rfl) (by decide) ?_
    have he1 : (x) = 2 := Int32.toInt_inj.mp (hs1.trans (by decide))
    refine ev_aload_n dX2_change_44 rfl ?_
    refine ev_iload_n dX2_change_45 rfl ?_
    refine ev_put dX2_change_46 (gpX2_18 hci) hm (Nat.le_of_ble_eq_true rfl) rfl rfl ?_
    refine ev_goto (tgt := 57) dX2_change_49 (by decide) ?_
    refine ev_vret dX2_change_57 rfl ?_
    refine ⟨rfl, ?_⟩
    first
      | (rw [if_pos he1]; rfl)
      | (rw [if_neg (by rw [he1]; decide), if_pos he1]; rfl)
      | (rw [if_neg (by rw [he1]; decide), if_neg (by rw [he1]; decide), if_pos he1]; rfl)
      | (rw [if_neg hn1_0, if_neg hn1_1, if_neg hn1_2]; rfl)
end KDOOR2
section KU
variable {g : Gl} {d : Nat} {Y : Md} {pc : Nat} {ls : List (Option Value)} {st : List Value} {μ : Mm} {Q : Option Value → Mm → Prop} {w : Nat} {i n p s so : Int32}
theorem u_takes {idx ci : Nat} {th ra : Int32} (hd : decode (mC Y) pc = .ok (.invokevirtual idx, 3)) (hl : Cond.methodLink (mY Y).cls idx yX2_takes ∈ GT) (hci : ci ∈ dks) (hm : μ.1 w = some (obj ci (dfs i n p s so))) (hc : (st.map fun v => v.category).sum ≤ 8) (kk : Ev g (d + 3) Y (pc + 3) ls (.int (tkC ci n th ra) :: st) μ Q) : Ev g (d + 3) Y pc ls (.int ra :: .int th :: .ref w :: st) μ Q := by
  simp only [dks, List.mem_cons, List.not_mem_nil, or_false] at hci
  rcases hci with rfl | rfl | rfl | rfl | rfl | rfl
  · refine ev_callu (Yc := mX0_takes) (owner := RX2) (x := yX2_takes) hd cbX0_takes hl (mt3 121 rfl rfl) (mt3 119 rfl rfl) cbX2_takes.1 (mt3 123 rfl rfl) (mt3 122 rfl rfl) ⟨by decide, by decide⟩ (by decide +kernel) (ci := 0) rfl hm (av := [.int th, .int ra]) rfl rfl hc ((c_tkX0 hm th ra).mono (by omega)) (fun v μ1 hq => ?_)
    obtain ⟨rfl, rfl⟩ := hq
    exact kk
  · refine ev_callu (Yc := mX1_takes) (owner := RX2) (x := yX2_takes) hd cbX1_takes hl (mt3 121 rfl rfl) (mt3 119 rfl rfl) cbX2_takes.1 (mt3 126 rfl rfl) (mt3 129 rfl rfl) ⟨by decide, by decide⟩ (by decide +kernel) (ci := 1) rfl hm (av := [.int th, .int ra]) rfl rfl hc ((c_tkX1 (Or.inl rfl) hm th ra).mono (by omega)) (fun v μ1 hq => ?_)
    obtain ⟨rfl, rfl⟩ := hq
    exact kk
  · refine ev_callu (Yc := mX2_takes) (owner := RX2) (x := yX2_takes) hd cbX2_takes hl (mt3 121 rfl rfl) (mt3 119 rfl rfl) cbX2_takes.1 (mt3 119 rfl rfl) (mt3 120 rfl rfl) ⟨by decide, by decide⟩ (by decide +kernel) (ci := 2) rfl hm (av := [.int th, .int ra]) rfl rfl hc ((c_tkX2 th ra).mono (by omega)) (fun v μ1 hq => ?_)
    obtain ⟨rfl, rfl⟩ := hq
    exact kk
  · refine ev_callu (Yc := mX3_takes) (owner := RX2) (x := yX2_takes) hd cbX3_takes hl (mt3 121 rfl rfl) (mt3 119 rfl rfl) cbX2_takes.1 (mt3 131 rfl rfl) (mt3 130 rfl rfl) ⟨by decide, by decide⟩ (by decide +kernel) (ci := 3) rfl hm (av := [.int th, .int ra]) rfl rfl hc ((c_tkX3 (Or.inl rfl) hm th ra).mono (by omega)) (fun v μ1 hq => ?_)
    obtain ⟨rfl, rfl⟩ := hq
    exact kk
  · refine ev_callu (Yc := mX8_takes) (owner := RX2) (x := yX2_takes) hd cbX8_takes hl (mt3 121 rfl rfl) (mt3 119 rfl rfl) cbX2_takes.1 (mt3 135 rfl rfl) (mt3 134 rfl rfl) ⟨by decide, by decide⟩ (by decide +kernel) (ci := 8) rfl hm (av := [.int th, .int ra]) rfl rfl hc ((c_tkX8 hm th ra).mono (by omega)) (fun v μ1 hq => ?_)
    obtain ⟨rfl, rfl⟩ := hq
    exact kk
  · refine ev_callu (Yc := mX9_takes) (owner := RX2) (x := yX2_takes) hd cbX9_takes hl (mt3 121 rfl rfl) (mt3 119 rfl rfl) cbX2_takes.1 (mt3 139 rfl rfl) (mt3 138 rfl rfl) ⟨by decide, by decide⟩ (by decide +kernel) (ci := 9) rfl hm (av := [.int th, .int ra]) rfl rfl hc ((c_tkX9 hm th ra).mono (by omega)) (fun v μ1 hq => ?_)
    obtain ⟨rfl, rfl⟩ := hq
    exact kk
theorem u_gives {idx ci : Nat} {bs la ra : Int32} (hd : decode (mC Y) pc = .ok (.invokevirtual idx, 3)) (hl : Cond.methodLink (mY Y).cls idx yX2_gives ∈ GT) (hci : ci ∈ dks) (hm : μ.1 w = some (obj ci (dfs i n p s so))) (hc : (st.map fun v => v.category).sum ≤ 8) (kk : Ev g (d + 3) Y (pc + 3) ls (.int (gvC ci n bs la ra) :: st) μ Q) : Ev g (d + 3) Y pc ls (.int ra :: .int la :: .int bs :: .ref w :: st) μ Q := by
  simp only [dks, List.mem_cons, List.not_mem_nil, or_false] at hci
  rcases hci with rfl | rfl | rfl | rfl | rfl | rfl
  · refine ev_callu (Yc := mX0_gives) (owner := RX2) (x := yX2_gives) hd cbX0_gives hl (mt3 236 rfl rfl) (mt3 234 rfl rfl) cbX2_gives.1 (mt3 238 rfl rfl) (mt3 237 rfl rfl) ⟨by decide, by decide⟩ (by decide +kernel) (ci := 0) rfl hm (av := [.int bs, .int la, .int ra]) rfl rfl hc ((c_gvX0 hm bs la ra).mono (by omega)) (fun v μ1 hq => ?_)
    obtain ⟨rfl, rfl⟩ := hq
    exact kk
  · refine ev_callu (Yc := mX1_gives) (owner := RX2) (x := yX2_gives) hd cbX1_gives hl (mt3 236 rfl rfl) (mt3 234 rfl rfl) cbX2_gives.1 (mt4 1 rfl rfl) (mt4 4 rfl rfl) ⟨by decide, by decide⟩ (by decide +kernel) (ci := 1) rfl hm (av := [.int bs, .int la, .int ra]) rfl rfl hc ((c_gvX1 (Or.inl rfl) hm bs la ra).mono (by omega)) (fun v μ1 hq => ?_)
    obtain ⟨rfl, rfl⟩ := hq
    exact kk
  · refine ev_callu (Yc := mX2_gives) (owner := RX2) (x := yX2_gives) hd cbX2_gives hl (mt3 236 rfl rfl) (mt3 234 rfl rfl) cbX2_gives.1 (mt3 234 rfl rfl) (mt3 235 rfl rfl) ⟨by decide, by decide⟩ (by decide +kernel) (ci := 2) rfl hm (av := [.int bs, .int la, .int ra]) rfl rfl hc ((c_gvX2 bs la ra).mono (by omega)) (fun v μ1 hq => ?_)
    obtain ⟨rfl, rfl⟩ := hq
    exact kk
  · refine ev_callu (Yc := mX2_gives) (owner := RX2) (x := yX2_gives) hd cbX2_gives hl (mt3 236 rfl rfl) (mt3 234 rfl rfl) cbX2_gives.1 (mt3 234 rfl rfl) (mt4 5 rfl rfl) ⟨by decide, by decide⟩ (by decide +kernel) (ci := 3) rfl hm (av := [.int bs, .int la, .int ra]) rfl rfl hc ((c_gvX2 bs la ra).mono (by omega)) (fun v μ1 hq => ?_)
    obtain ⟨rfl, rfl⟩ := hq
    exact kk
  · refine ev_callu (Yc := mX8_gives) (owner := RX2) (x := yX2_gives) hd cbX8_gives hl (mt3 236 rfl rfl) (mt3 234 rfl rfl) cbX2_gives.1 (mt4 7 rfl rfl) (mt4 6 rfl rfl) ⟨by decide, by decide⟩ (by decide +kernel) (ci := 8) rfl hm (av := [.int bs, .int la, .int ra]) rfl rfl hc ((c_gvX8 hm bs la ra).mono (by omega)) (fun v μ1 hq => ?_)
    obtain ⟨rfl, rfl⟩ := hq
    exact kk
  · refine ev_callu (Yc := mX9_gives) (owner := RX2) (x := yX2_gives) hd cbX9_gives hl (mt3 236 rfl rfl) (mt3 234 rfl rfl) cbX2_gives.1 (mt4 13 rfl rfl) (mt4 12 rfl rfl) ⟨by decide, by decide⟩ (by decide +kernel) (ci := 9) rfl hm (av := [.int bs, .int la, .int ra]) rfl rfl hc ((c_gvX9 hm bs la ra).mono (by omega)) (fun v μ1 hq => ?_)
    obtain ⟨rfl, rfl⟩ := hq
    exact kk
theorem u_kind {idx ci : Nat} (hd : decode (mC Y) pc = .ok (.invokevirtual idx, 3)) (hl : Cond.methodLink (mY Y).cls idx yX2_kind ∈ GT) (hci : ci ∈ dks) (hm : μ.1 w = some (obj ci (dfs i n p s so))) (hc : (st.map fun v => v.category).sum ≤ 8) (kk : Ev g (d + 3) Y (pc + 3) ls (.int (kdC ci) :: st) μ Q) : Ev g (d + 3) Y pc ls (.ref w :: st) μ Q := by
  simp only [dks, List.mem_cons, List.not_mem_nil, or_false] at hci
  rcases hci with rfl | rfl | rfl | rfl | rfl | rfl
  · refine ev_callu (Yc := mX0_kind) (owner := RX2) (x := yX2_kind) hd cbX0_kind hl (mt3 94 rfl rfl) (mt3 92 rfl rfl) cbX2_kind.1 (mt3 96 rfl rfl) (mt3 95 rfl rfl) ⟨by decide, by decide⟩ (by decide +kernel) (ci := 0) rfl hm (av := []) rfl rfl hc (c_kd0.mono (by omega)) (fun v μ1 hq => ?_)
    obtain ⟨rfl, rfl⟩ := hq
    exact kk
  · refine ev_callu (Yc := mX1_kind) (owner := RX2) (x := yX2_kind) hd cbX1_kind hl (mt3 94 rfl rfl) (mt3 92 rfl rfl) cbX2_kind.1 (mt3 99 rfl rfl) (mt3 98 rfl rfl) ⟨by decide, by decide⟩ (by decide +kernel) (ci := 1) rfl hm (av := []) rfl rfl hc (c_kd1.mono (by omega)) (fun v μ1 hq => ?_)
    obtain ⟨rfl, rfl⟩ := hq
    exact kk
  · refine ev_callu (Yc := mX2_kind) (owner := RX2) (x := yX2_kind) hd cbX2_kind hl (mt3 94 rfl rfl) (mt3 92 rfl rfl) cbX2_kind.1 (mt3 92 rfl rfl) (mt3 93 rfl rfl) ⟨by decide, by decide⟩ (by decide +kernel) (ci := 2) rfl hm (av := []) rfl rfl hc (c_kd2.mono (by omega)) (fun v μ1 hq => ?_)
    obtain ⟨rfl, rfl⟩ := hq
    exact kk
  · refine ev_callu (Yc := mX3_kind) (owner := RX2) (x := yX2_kind) hd cbX3_kind hl (mt3 94 rfl rfl) (mt3 92 rfl rfl) cbX2_kind.1 (mt3 102 rfl rfl) (mt3 101 rfl rfl) ⟨by decide, by decide⟩ (by decide +kernel) (ci := 3) rfl hm (av := []) rfl rfl hc (c_kd3.mono (by omega)) (fun v μ1 hq => ?_)
    obtain ⟨rfl, rfl⟩ := hq
    exact kk
  · refine ev_callu (Yc := mX8_kind) (owner := RX2) (x := yX2_kind) hd cbX8_kind hl (mt3 94 rfl rfl) (mt3 92 rfl rfl) cbX2_kind.1 (mt3 105 rfl rfl) (mt3 104 rfl rfl) ⟨by decide, by decide⟩ (by decide +kernel) (ci := 8) rfl hm (av := []) rfl rfl hc (c_kd8.mono (by omega)) (fun v μ1 hq => ?_)
    obtain ⟨rfl, rfl⟩ := hq
    exact kk
  · refine ev_callu (Yc := mX9_kind) (owner := RX2) (x := yX2_kind) hd cbX9_kind hl (mt3 94 rfl rfl) (mt3 92 rfl rfl) cbX2_kind.1 (mt3 108 rfl rfl) (mt3 107 rfl rfl) ⟨by decide, by decide⟩ (by decide +kernel) (ci := 9) rfl hm (av := []) rfl rfl hc (c_kd9.mono (by omega)) (fun v μ1 hq => ?_)
    obtain ⟨rfl, rfl⟩ := hq
    exact kk
theorem u_fact {idx ci : Nat} {x : Int32} (hd : decode (mC Y) pc = .ok (.invokevirtual idx, 3)) (hl : Cond.methodLink (mY Y).cls idx yX2_fact ∈ GT) (hci : ci ∈ dks) (hm : μ.1 w = some (obj ci (dfs i n p s so))) (hc : (st.map fun v => v.category).sum ≤ 8) (kk : Ev g (d + 1) Y (pc + 3) ls (.int (if x = 0 then n else if x = 1 then p else if x = 2 then s else so) :: st) μ Q) : Ev g (d + 1) Y pc ls (.int x :: .ref w :: st) μ Q := by
  have h0 := hci
  simp only [dks, List.mem_cons, List.not_mem_nil, or_false] at hci
  rcases hci with rfl | rfl | rfl | rfl | rfl | rfl
  · refine ev_callu (Yc := mX2_fact) (owner := RX2) (x := yX2_fact) hd cbX2_fact hl (mt3 72 rfl rfl) (mt3 70 rfl rfl) cbX2_fact.1 (mt3 70 rfl rfl) (mt3 73 rfl rfl) ⟨by decide, by decide⟩ (by decide +kernel) (ci := 0) rfl hm (av := [.int x]) rfl rfl hc ((c_dFact h0 hm x).mono (by omega)) (fun v μ1 hq => ?_)
    obtain ⟨rfl, rfl⟩ := hq
    exact kk
  · refine ev_callu (Yc := mX2_fact) (owner := RX2) (x := yX2_fact) hd cbX2_fact hl (mt3 72 rfl rfl) (mt3 70 rfl rfl) cbX2_fact.1 (mt3 70 rfl rfl) (mt3 74 rfl rfl) ⟨by decide, by decide⟩ (by decide +kernel) (ci := 1) rfl hm (av := [.int x]) rfl rfl hc ((c_dFact h0 hm x).mono (by omega)) (fun v μ1 hq => ?_)
    obtain ⟨rfl, rfl⟩ := hq
    exact kk
  · refine ev_callu (Yc := mX2_fact) (owner := RX2) (x := yX2_fact) hd cbX2_fact hl (mt3 72 rfl rfl) (mt3 70 rfl rfl) cbX2_fact.1 (mt3 70 rfl rfl) (mt3 71 rfl rfl) ⟨by decide, by decide⟩ (by decide +kernel) (ci := 2) rfl hm (av := [.int x]) rfl rfl hc ((c_dFact h0 hm x).mono (by omega)) (fun v μ1 hq => ?_)
    obtain ⟨rfl, rfl⟩ := hq
    exact kk
  · refine ev_callu (Yc := mX2_fact) (owner := RX2) (x := yX2_fact) hd cbX2_fact hl (mt3 72 rfl rfl) (mt3 70 rfl rfl) cbX2_fact.1 (mt3 70 rfl rfl) (mt3 75 rfl rfl) ⟨by decide, by decide⟩ (by decide +kernel) (ci := 3) rfl hm (av := [.int x]) rfl rfl hc ((c_dFact h0 hm x).mono (by omega)) (fun v μ1 hq => ?_)
    obtain ⟨rfl, rfl⟩ := hq
    exact kk
  · refine ev_callu (Yc := mX2_fact) (owner := RX2) (x := yX2_fact) hd cbX2_fact hl (mt3 72 rfl rfl) (mt3 70 rfl rfl) cbX2_fact.1 (mt3 70 rfl rfl) (mt3 76 rfl rfl) ⟨by decide, by decide⟩ (by decide +kernel) (ci := 8) rfl hm (av := [.int x]) rfl rfl hc ((c_dFact h0 hm x).mono (by omega)) (fun v μ1 hq => ?_)
    obtain ⟨rfl, rfl⟩ := hq
    exact kk
  · refine ev_callu (Yc := mX2_fact) (owner := RX2) (x := yX2_fact) hd cbX2_fact hl (mt3 72 rfl rfl) (mt3 70 rfl rfl) cbX2_fact.1 (mt3 70 rfl rfl) (mt3 77 rfl rfl) ⟨by decide, by decide⟩ (by decide +kernel) (ci := 9) rfl hm (av := [.int x]) rfl rfl hc ((c_dFact h0 hm x).mono (by omega)) (fun v μ1 hq => ?_)
    obtain ⟨rfl, rfl⟩ := hq
    exact kk
theorem u_change {idx ci : Nat} {x v : Int32} (hd : decode (mC Y) pc = .ok (.invokevirtual idx, 3)) (hl : Cond.methodLink (mY Y).cls idx yX2_change ∈ GT) (hci : ci ∈ dks) (hm : μ.1 w = some (obj ci (dfs i n p s so))) (hc : (st.map fun v => v.category).sum ≤ 8) (kk : Ev g (d + 1) Y (pc + 3) ls st (mupd μ w (obj ci (dfq i (dch x v n p s so)))) Q) : Ev g (d + 1) Y pc ls (.int v :: .int x :: .ref w :: st) μ Q := by
  have h0 := hci
  simp only [dks, List.mem_cons, List.not_mem_nil, or_false] at hci
  rcases hci with rfl | rfl | rfl | rfl | rfl | rfl
  · refine ev_callu (Yc := mX2_change) (owner := RX2) (x := yX2_change) hd cbX2_change hl (mt3 46 rfl rfl) (mt3 44 rfl rfl) cbX2_change.1 (mt3 44 rfl rfl) (mt3 47 rfl rfl) ⟨by decide, by decide⟩ (by decide +kernel) (ci := 0) rfl hm (av := [.int x, .int v]) rfl rfl hc ((c_dChange h0 hm x v).mono (by omega)) (fun v μ1 hq => ?_)
    obtain ⟨rfl, rfl⟩ := hq
    exact kk
  · refine ev_callu (Yc := mX2_change) (owner := RX2) (x := yX2_change) hd cbX2_change hl (mt3 46 rfl rfl) (mt3 44 rfl rfl) cbX2_change.1 (mt3 44 rfl rfl) (mt3 48 rfl rfl) ⟨by decide, by decide⟩ (by decide +kernel) (ci := 1) rfl hm (av := [.int x, .int v]) rfl rfl hc ((c_dChange h0 hm x v).mono (by omega)) (fun v μ1 hq => ?_)
    obtain ⟨rfl, rfl⟩ := hq
    exact kk
  · refine ev_callu (Yc := mX2_change) (owner := RX2) (x := yX2_change) hd cbX2_change hl (mt3 46 rfl rfl) (mt3 44 rfl rfl) cbX2_change.1 (mt3 44 rfl rfl) (mt3 45 rfl rfl) ⟨by decide, by decide⟩ (by decide +kernel) (ci := 2) rfl hm (av := [.int x, .int v]) rfl rfl hc ((c_dChange h0 hm x v).mono (by omega)) (fun v μ1 hq => ?_)
    obtain ⟨rfl, rfl⟩ := hq
    exact kk
  · refine ev_callu (Yc := mX2_change) (owner := RX2) (x := yX2_change) hd cbX2_change hl (mt3 46 rfl rfl) (mt3 44 rfl rfl) cbX2_change.1 (mt3 44 rfl rfl) (mt3 49 rfl rfl) ⟨by decide, by decide⟩ (by decide +kernel) (ci := 3) rfl hm (av := [.int x, .int v]) rfl rfl hc ((c_dChange h0 hm x v).mono (by omega)) (fun v μ1 hq => ?_)
    obtain ⟨rfl, rfl⟩ := hq
    exact kk
  · refine ev_callu (Yc := mX2_change) (owner := RX2) (x := yX2_change) hd cbX2_change hl (mt3 46 rfl rfl) (mt3 44 rfl rfl) cbX2_change.1 (mt3 44 rfl rfl) (mt3 50 rfl rfl) ⟨by decide, by decide⟩ (by decide +kernel) (ci := 8) rfl hm (av := [.int x, .int v]) rfl rfl hc ((c_dChange h0 hm x v).mono (by omega)) (fun v μ1 hq => ?_)
    obtain ⟨rfl, rfl⟩ := hq
    exact kk
  · refine ev_callu (Yc := mX2_change) (owner := RX2) (x := yX2_change) hd cbX2_change hl (mt3 46 rfl rfl) (mt3 44 rfl rfl) cbX2_change.1 (mt3 44 rfl rfl) (mt3 51 rfl rfl) ⟨by decide, by decide⟩ (by decide +kernel) (ci := 9) rfl hm (av := [.int x, .int v]) rfl rfl hc ((c_dChange h0 hm x v).mono (by omega)) (fun v μ1 hq => ?_)
    obtain ⟨rfl, rfl⟩ := hq
    exact kk
end KU
