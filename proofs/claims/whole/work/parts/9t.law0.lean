/-! ===== the law: its entry ===== -/
theorem df12 : ∀ j, j < 37 → defaultValue (tyX12 j) = vp_V [.null, .null, .null, .null, .null, .null, .null, .int 0, .int 0, .null, .null, .null, .null, .null, .null, .int 0, .int 0, .int 0, .int 0, .int 0, .int 0, .int 0, .int 0, .int 0, .null, .null, .int 0, .int 0, .null, .null, .int 0, .int 0, .int 0, .null, .null, .null, .null] j := by
  intro j hj
  have q : j = 0 ∨ j = 1 ∨ j = 2 ∨ j = 3 ∨ j = 4 ∨ j = 5 ∨ j = 6 ∨ j = 7 ∨ j = 8 ∨ j = 9 ∨ j = 10 ∨ j = 11 ∨ j = 12 ∨ j = 13 ∨ j = 14 ∨ j = 15 ∨ j = 16 ∨ j = 17 ∨ j = 18 ∨ j = 19 ∨ j = 20 ∨ j = 21 ∨ j = 22 ∨ j = 23 ∨ j = 24 ∨ j = 25 ∨ j = 26 ∨ j = 27 ∨ j = 28 ∨ j = 29 ∨ j = 30 ∨ j = 31 ∨ j = 32 ∨ j = 33 ∨ j = 34 ∨ j = 35 ∨ j = 36 := by omega
  rcases q with rfl | rfl | rfl | rfl | rfl | rfl | rfl | rfl | rfl | rfl | rfl | rfl | rfl | rfl | rfl | rfl | rfl | rfl | rfl | rfl | rfl | rfl | rfl | rfl | rfl | rfl | rfl | rfl | rfl | rfl | rfl | rfl | rfl | rfl | rfl | rfl | rfl <;> rfl
theorem l_law0 {g : Gl} {μ0 : Mm} (hL : (gX g).length ≤ 3072) : Ev g 70 mL_law 0 [some (.ref (gS g 9)), none, none, none] [] μ0 (fun v μ' => v = some (.int 1) ∧ μ'.2.1 ≤ μ0.2.1 + 40000 ∧ μ'.2.2 ≤ μ0.2.2 + 800000) := by
  obtain ⟨a, ha⟩ : ∃ a, a = μ0.2.1 := ⟨_, rfl⟩
  rw [← ha]
  have hB : BW a 0 (fun _ => iar []) μ0.2.2 μ0 μ0 := ⟨fun i hi => absurd hi (Nat.not_lt_zero i), ⟨ha.symm, rfl⟩, fun _ _ => rfl⟩
  generalize μ0.2.2 = s0 at hB ⊢
  refine bw_new (ci := 11) (k := 19) (N := 0) (fs := [.null, .int 0, .null, .null, .null, .null, .int 0, .int 0, .null, .null, .null, .null, .null, .null, .int 0, .int 0, .null, .null, .null]) hB dL_law_0 rfl uwX11 tyX11_ok (mt1 21 rfl rfl) (mt1 22 rfl rfl) (mt1 1 rfl rfl) (fun j hj => by have q : j = 0 ∨ j = 1 ∨ j = 2 ∨ j = 3 ∨ j = 4 ∨ j = 5 ∨ j = 6 ∨ j = 7 ∨ j = 8 ∨ j = 9 ∨ j = 10 ∨ j = 11 ∨ j = 12 ∨ j = 13 ∨ j = 14 ∨ j = 15 ∨ j = 16 ∨ j = 17 ∨ j = 18 := (by omega); rcases q with rfl | rfl | rfl | rfl | rfl | rfl | rfl | rfl | rfl | rfl | rfl | rfl | rfl | rfl | rfl | rfl | rfl | rfl | rfl <;> rfl) (N1 := 1) rfl (fun μ hB => ?_)
  refine ev_dup dL_law_3 rfl ?_
  refine k_i (c_iX11 hB) (by decide) dL_law_4 cbX11_init rfl (mt1 23 rfl rfl) (mt1 24 rfl rfl) (by decide) rfl rfl (Nat.le_of_ble_eq_true rfl) (fun v μ1 hq ↦ ?_)
  obtain ⟨rfl, T, C, f, s1, hT, hC, hf, hs1, hB1⟩ := hq
  simp only [Option.toList, List.cons_append, List.nil_append]
  rename_i μz
  have hB : BW (a + 60) 0 (fun _ => iar []) s1 μ1 μ1 := ⟨fun i hi => absurd hi (Nat.not_lt_zero i), hB1.2.1, fun _ _ => rfl⟩
  refine ev_astore_n dL_law_7 (by decide) ?_
  dsimp only [List.set]
  refine bw_new (ci := 12) (k := 37) (N := 0) (fs := [.null, .null, .null, .null, .null, .null, .null, .int 0, .int 0, .null, .null, .null, .null, .null, .null, .int 0, .int 0, .int 0, .int 0, .int 0, .int 0, .int 0, .int 0, .int 0, .null, .null, .int 0, .int 0, .null, .null, .int 0, .int 0, .int 0, .null, .null, .null, .null]) hB dL_law_8 rfl uwX12 tyX12_ok (mt4 231 rfl rfl) (mt4 232 rfl rfl) (mt1 14 rfl rfl) df12 (N1 := 1) rfl (fun μ hB ↦ ?_)
  refine ev_dup dL_law_11 rfl ?_
  refine k_i (c_iX12 hB) (by decide) dL_law_12 cbX12_init rfl (mt4 233 rfl rfl) (mt4 234 rfl rfl) (by decide) rfl rfl (Nat.le_of_ble_eq_true rfl) (fun v μ2 hq ↦ ?_)
  obtain ⟨rfl, hm, ⟨t1, t2⟩, fr⟩ := hq
  simp only [Option.toList, List.cons_append, List.nil_append]
  have hI : Inv a μ2 := inv_I hB1 hT hC hf hm fr t1
  refine ev_astore_n dL_law_15 (by decide) ?_
  dsimp only [List.set]
  refine ev_iconst (v := 0) dL_law_16 (by decide) ?_
  refine ev_istore_n dL_law_17 (by decide) ?_
  dsimp only [List.set]
  refine (l_law (a := a) hL (c0 := μ2.2.1) (s0 := μ2.2.2) 3072 0 μ2 (by omega) (by decide) hI (by omega) (by omega)).imp (fun v μ' hq => ?_)
  exact ⟨hq.1, by omega, by omega⟩
