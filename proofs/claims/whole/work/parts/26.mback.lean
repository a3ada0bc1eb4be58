/-! ===== the reference: image and back, whole ===== -/
theorem pst_pst {ρ : MS} {kf c c' : Nat} {l l' : List Int32} : pst (pst ρ kf l c) kf l' c' = pst ρ kf l' c' := by
  have : pst (pst ρ kf l c) kf l' c' = setI (setA (pst ρ kf l c) kf l') 32 (nI c') := rfl
  rw [this, pst_l, pst_c]; rfl
/-- what is kept -/
def kpt (ρ : MS) : List Int32 := ((pkK (ρ.1 6) 10 0 35 (pkK (ρ.1 5) 7 0 28 (pkK (ρ.1 4) 7 0 21 (pkK (ρ.1 3) 7 0 14 (pkK (ρ.1 2) 7 0 7 (pkK (ρ.1 1) 7 0 0 (ρ.1 29))))))).set 45 (ρ.2 7)).set 46 (ρ.2 8)
def opImage (ρ : MS) : Int32 × MS := (ρ.2 7, setI (setA ρ 29 (kpt ρ)) 30 1)
def unk (ρ : MS) : MS := setI (setI (setA (setA (setA (setA (setA (setA ρ 1 (bkK (ρ.1 29) 7 0 0 (ρ.1 1))) 2 (bkK (ρ.1 29) 7 0 7 (ρ.1 2))) 3 (bkK (ρ.1 29) 7 0 14 (ρ.1 3))) 4 (bkK (ρ.1 29) 7 0 21 (ρ.1 4))) 5 (bkK (ρ.1 29) 7 0 28 (ρ.1 5))) 6 (bkK (ρ.1 29) 10 0 35 (ρ.1 6))) 7 ((ρ.1 29).getD 45 0)) 8 ((ρ.1 29).getD 46 0)
def opBack (ρ : MS) : Int32 × MS := if ρ.2 30 = 0 then (-3, ρ) else ((ρ.1 29).getD 45 0, unk ρ)
theorem pst_L {ρ : MS} (hL : ML ρ) {kf c : Nat} {l : List Int32} (h : l.length = (ρ.1 kf).length) : ML (pst ρ kf l c) := ML.setI (ML.setA hL h)
section MBACK
variable {g : Gl} {μ : Mm} {b : Nat} {ρ : MS}
theorem c_passK1' (hM : RM b ρ μ) (hL : ML ρ) (hk : ρ.2 31 = 1) (hc : ρ.2 32 = nI 0) : Mt g 0 mX12_passes [.ref b, .ref (b + 2)] μ (fun v μ' => v = none ∧ (∃ K, K = pkK (ρ.1 1) 7 0 0 (ρ.1 29) ∧ K.length = 60 ∧ RM b (pst ρ 29 K 7) μ') ∧ FM b μ μ') := by
  refine Mt.imp (c_passK1 hM hL hk hc (by decide)) ?_
  rintro v μ' ⟨h1, h2, h3⟩
  exact ⟨h1, ⟨_, rfl, by rw [pkK_len]; exact hL.at (by decide), h2⟩, h3⟩
theorem c_passB1' (hM : RM b ρ μ) (hL : ML ρ) (hk : ρ.2 31 = 0) (hc : ρ.2 32 = nI 0) : Mt g 0 mX12_passes [.ref b, .ref (b + 2)] μ (fun v μ' => v = none ∧ (∃ K, K = bkK (ρ.1 29) 7 0 0 (ρ.1 1) ∧ K.length = 7 ∧ RM b (pst ρ 1 K 7) μ') ∧ FM b μ μ') := by
  refine Mt.imp (c_passB1 hM hL hk hc (by decide)) ?_
  rintro v μ' ⟨h1, h2, h3⟩
  exact ⟨h1, ⟨_, rfl, by rw [bkK_len]; exact hL.at (by decide), h2⟩, h3⟩
theorem c_passK2' (hM : RM b ρ μ) (hL : ML ρ) (hk : ρ.2 31 = 1) (hc : ρ.2 32 = nI 7) : Mt g 0 mX12_passes [.ref b, .ref (b + 3)] μ (fun v μ' => v = none ∧ (∃ K, K = pkK (ρ.1 2) 7 0 7 (ρ.1 29) ∧ K.length = 60 ∧ RM b (pst ρ 29 K 14) μ') ∧ FM b μ μ') := by
  refine Mt.imp (c_passK2 hM hL hk hc (by decide)) ?_
  rintro v μ' ⟨h1, h2, h3⟩
  exact ⟨h1, ⟨_, rfl, by rw [pkK_len]; exact hL.at (by decide), h2⟩, h3⟩
theorem c_passB2' (hM : RM b ρ μ) (hL : ML ρ) (hk : ρ.2 31 = 0) (hc : ρ.2 32 = nI 7) : Mt g 0 mX12_passes [.ref b, .ref (b + 3)] μ (fun v μ' => v = none ∧ (∃ K, K = bkK (ρ.1 29) 7 0 7 (ρ.1 2) ∧ K.length = 7 ∧ RM b (pst ρ 2 K 14) μ') ∧ FM b μ μ') := by
  refine Mt.imp (c_passB2 hM hL hk hc (by decide)) ?_
  rintro v μ' ⟨h1, h2, h3⟩
  exact ⟨h1, ⟨_, rfl, by rw [bkK_len]; exact hL.at (by decide), h2⟩, h3⟩
theorem c_passK3' (hM : RM b ρ μ) (hL : ML ρ) (hk : ρ.2 31 = 1) (hc : ρ.2 32 = nI 14) : Mt g 0 mX12_passes [.ref b, .ref (b + 4)] μ (fun v μ' => v = none ∧ (∃ K, K = pkK (ρ.1 3) 7 0 14 (ρ.1 29) ∧ K.length = 60 ∧ RM b (pst ρ 29 K 21) μ') ∧ FM b μ μ') := by
  refine Mt.imp (c_passK3 hM hL hk hc (by decide)) ?_
  rintro v μ' ⟨h1, h2, h3⟩
  exact ⟨h1, ⟨_, rfl, by rw [pkK_len]; exact hL.at (by decide), h2⟩, h3⟩
theorem c_passB3' (hM : RM b ρ μ) (hL : ML ρ) (hk : ρ.2 31 = 0) (hc : ρ.2 32 = nI 14) : Mt g 0 mX12_passes [.ref b, .ref (b + 4)] μ (fun v μ' => v = none ∧ (∃ K, K = bkK (ρ.1 29) 7 0 14 (ρ.1 3) ∧ K.length = 7 ∧ RM b (pst ρ 3 K 21) μ') ∧ FM b μ μ') := by
  refine Mt.imp (c_passB3 hM hL hk hc (by decide)) ?_
  rintro v μ' ⟨h1, h2, h3⟩
  exact ⟨h1, ⟨_, rfl, by rw [bkK_len]; exact hL.at (by decide), h2⟩, h3⟩
theorem c_passK4' (hM : RM b ρ μ) (hL : ML ρ) (hk : ρ.2 31 = 1) (hc : ρ.2 32 = nI 21) : Mt g 0 mX12_passes [.ref b, .ref (b + 5)] μ (fun v μ' => v = none ∧ (∃ K, K = pkK (ρ.1 4) 7 0 21 (ρ.1 29) ∧ K.length = 60 ∧ RM b (pst ρ 29 K 28) μ') ∧ FM b μ μ') := by
  refine Mt.imp (c_passK4 hM hL hk hc (by decide)) ?_
  rintro v μ' ⟨h1, h2, h3⟩
  exact ⟨h1, ⟨_, rfl, by rw [pkK_len]; exact hL.at (by decide), h2⟩, h3⟩
theorem c_passB4' (hM : RM b ρ μ) (hL : ML ρ) (hk : ρ.2 31 = 0) (hc : ρ.2 32 = nI 21) : Mt g 0 mX12_passes [.ref b, .ref (b + 5)] μ (fun v μ' => v = none ∧ (∃ K, K = bkK (ρ.1 29) 7 0 21 (ρ.1 4) ∧ K.length = 7 ∧ RM b (pst ρ 4 K 28) μ') ∧ FM b μ μ') := by
  refine Mt.imp (c_passB4 hM hL hk hc (by decide)) ?_
  rintro v μ' ⟨h1, h2, h3⟩
  exact ⟨h1, ⟨_, rfl, by rw [bkK_len]; exact hL.at (by decide), h2⟩, h3⟩
theorem c_passK5' (hM : RM b ρ μ) (hL : ML ρ) (hk : ρ.2 31 = 1) (hc : ρ.2 32 = nI 28) : Mt g 0 mX12_passes [.ref b, .ref (b + 6)] μ (fun v μ' => v = none ∧ (∃ K, K = pkK (ρ.1 5) 7 0 28 (ρ.1 29) ∧ K.length = 60 ∧ RM b (pst ρ 29 K 35) μ') ∧ FM b μ μ') := by
  refine Mt.imp (c_passK5 hM hL hk hc (by decide)) ?_
  rintro v μ' ⟨h1, h2, h3⟩
  exact ⟨h1, ⟨_, rfl, by rw [pkK_len]; exact hL.at (by decide), h2⟩, h3⟩
theorem c_passB5' (hM : RM b ρ μ) (hL : ML ρ) (hk : ρ.2 31 = 0) (hc : ρ.2 32 = nI 28) : Mt g 0 mX12_passes [.ref b, .ref (b + 6)] μ (fun v μ' => v = none ∧ (∃ K, K = bkK (ρ.1 29) 7 0 28 (ρ.1 5) ∧ K.length = 7 ∧ RM b (pst ρ 5 K 35) μ') ∧ FM b μ μ') := by
  refine Mt.imp (c_passB5 hM hL hk hc (by decide)) ?_
  rintro v μ' ⟨h1, h2, h3⟩
  exact ⟨h1, ⟨_, rfl, by rw [bkK_len]; exact hL.at (by decide), h2⟩, h3⟩
theorem c_passK6' (hM : RM b ρ μ) (hL : ML ρ) (hk : ρ.2 31 = 1) (hc : ρ.2 32 = nI 35) : Mt g 0 mX12_passes [.ref b, .ref (b + 7)] μ (fun v μ' => v = none ∧ (∃ K, K = pkK (ρ.1 6) 10 0 35 (ρ.1 29) ∧ K.length = 60 ∧ RM b (pst ρ 29 K 45) μ') ∧ FM b μ μ') := by
  refine Mt.imp (c_passK6 hM hL hk hc (by decide)) ?_
  rintro v μ' ⟨h1, h2, h3⟩
  exact ⟨h1, ⟨_, rfl, by rw [pkK_len]; exact hL.at (by decide), h2⟩, h3⟩
theorem c_passB6' (hM : RM b ρ μ) (hL : ML ρ) (hk : ρ.2 31 = 0) (hc : ρ.2 32 = nI 35) : Mt g 0 mX12_passes [.ref b, .ref (b + 7)] μ (fun v μ' => v = none ∧ (∃ K, K = bkK (ρ.1 29) 10 0 35 (ρ.1 6) ∧ K.length = 10 ∧ RM b (pst ρ 6 K 45) μ') ∧ FM b μ μ') := by
  refine Mt.imp (c_passB6 hM hL hk hc (by decide)) ?_
  rintro v μ' ⟨h1, h2, h3⟩
  exact ⟨h1, ⟨_, rfl, by rw [bkK_len]; exact hL.at (by decide), h2⟩, h3⟩
theorem c_passesAllK (hM : RM b ρ μ) (hL : ML ρ) : Mt g 1 mX12_passesAll [.ref b, .int 1] μ (fun v μ' => v = none ∧ (∃ ρ', RM b ρ' μ' ∧ ML ρ' ∧ EqC ρ' (setA ρ 29 (kpt ρ))) ∧ FM b μ μ') := by
  refine Mt.of0 (ls0 := [some (.ref b), some (.int 1)]) (by decide) (by simp [Value.category]) (Nat.le_of_ble_eq_true rfl) rfl ?_
  have hF : FM b μ μ := FM.rf
  have l29 := hL.at (k := 29) (n := 60) (by decide)
  have hLz : ∀ (K : List Int32) (c : Nat), K.length = 60 → ML (pst (setI (setI ρ 32 0) 31 1) 29 K c) := fun K c h => pst_L (ML.setI (ML.setI hL)) (h.trans l29.symm)
  refine ev_aload_n dX12_passesAll_0 rfl ?_
  refine ev_iconst (v := 0) dX12_passesAll_1 (by decide) ?_
  refine evM_put hM hF (k := 32) (by decide) dX12_passesAll_2 fpX12_284_12 rfl rfl (fun μ hM hF => ?_)
  refine ev_aload_n dX12_passesAll_5 rfl ?_
  refine ev_iload_n dX12_passesAll_6 rfl ?_
  refine evM_put hM hF (k := 31) (by decide) dX12_passesAll_7 fpX12_280_12 rfl rfl (fun μ hM hF => ?_)
  have hLa : ML (setI (setI ρ 32 0) 31 1) := ML.setI (ML.setI hL)
  refine ev_aload_n dX12_passesAll_10 rfl ?_
  refine ev_aload_n dX12_passesAll_11 rfl ?_
  refine ev_get dX12_passesAll_12 flX12_13_12 hM.1 rfl ?_
  refine k_v (c_passK1' hM hLa rfl rfl) (by decide) dX12_passesAll_15 cbX12_passes (mt6 164 rfl rfl) (mt6 166 rfl rfl) (ms0 83 rfl rfl) (ci := 12) rfl hM.1 rfl rfl (Nat.le_of_ble_eq_true rfl) (fun v μ1 hq => ?_)
  obtain ⟨rfl, ⟨K1, eK1, lK1, hM⟩, hF1⟩ := hq; have hF := hF.tr hF1; have eK1 : K1 = pkK (ρ.1 1) 7 0 0 (ρ.1 29) := eK1; have hLa := hLz K1 7 lK1
  simp only [Option.toList, List.cons_append, List.nil_append]
  refine ev_aload_n dX12_passesAll_18 rfl ?_
  refine ev_aload_n dX12_passesAll_19 rfl ?_
  refine ev_get dX12_passesAll_20 flX12_16_12 hM.1 rfl ?_
  refine k_v (c_passK2' hM hLa rfl rfl) (by decide) dX12_passesAll_23 cbX12_passes (mt6 164 rfl rfl) (mt6 166 rfl rfl) (ms0 83 rfl rfl) (ci := 12) rfl hM.1 rfl rfl (Nat.le_of_ble_eq_true rfl) (fun v μ1 hq => ?_)
  obtain ⟨rfl, ⟨K2, eK2, lK2, hM⟩, hF1⟩ := hq; have hF := hF.tr hF1; rw [pst_pst] at hM; have eK2 : K2 = pkK (ρ.1 2) 7 0 7 K1 := eK2; have hLa := hLz K2 14 lK2
  simp only [Option.toList, List.cons_append, List.nil_append]
  refine ev_aload_n dX12_passesAll_26 rfl ?_
  refine ev_aload_n dX12_passesAll_27 rfl ?_
  refine ev_get dX12_passesAll_28 flX12_19_12 hM.1 rfl ?_
  refine k_v (c_passK3' hM hLa rfl rfl) (by decide) dX12_passesAll_31 cbX12_passes (mt6 164 rfl rfl) (mt6 166 rfl rfl) (ms0 83 rfl rfl) (ci := 12) rfl hM.1 rfl rfl (Nat.le_of_ble_eq_true rfl) (fun v μ1 hq => ?_)
  obtain ⟨rfl, ⟨K3, eK3, lK3, hM⟩, hF1⟩ := hq; have hF := hF.tr hF1; rw [pst_pst] at hM; have eK3 : K3 = pkK (ρ.1 3) 7 0 14 K2 := eK3; have hLa := hLz K3 21 lK3
  simp only [Option.toList, List.cons_append, List.nil_append]
  refine ev_aload_n dX12_passesAll_34 rfl ?_
  refine ev_aload_n dX12_passesAll_35 rfl ?_
  refine ev_get dX12_passesAll_36 flX12_22_12 hM.1 rfl ?_
  refine k_v (c_passK4' hM hLa rfl rfl) (by decide) dX12_passesAll_39 cbX12_passes (mt6 164 rfl rfl) (mt6 166 rfl rfl) (ms0 83 rfl rfl) (ci := 12) rfl hM.1 rfl rfl (Nat.le_of_ble_eq_true rfl) (fun v μ1 hq => ?_)
  obtain ⟨rfl, ⟨K4, eK4, lK4, hM⟩, hF1⟩ := hq; have hF := hF.tr hF1; rw [pst_pst] at hM; have eK4 : K4 = pkK (ρ.1 4) 7 0 21 K3 := eK4; have hLa := hLz K4 28 lK4
  simp only [Option.toList, List.cons_append, List.nil_append]
  refine ev_aload_n dX12_passesAll_42 rfl ?_
  refine ev_aload_n dX12_passesAll_43 rfl ?_
  refine ev_get dX12_passesAll_44 flX12_25_12 hM.1 rfl ?_
  refine k_v (c_passK5' hM hLa rfl rfl) (by decide) dX12_passesAll_47 cbX12_passes (mt6 164 rfl rfl) (mt6 166 rfl rfl) (ms0 83 rfl rfl) (ci := 12) rfl hM.1 rfl rfl (Nat.le_of_ble_eq_true rfl) (fun v μ1 hq => ?_)
  obtain ⟨rfl, ⟨K5, eK5, lK5, hM⟩, hF1⟩ := hq; have hF := hF.tr hF1; rw [pst_pst] at hM; have eK5 : K5 = pkK (ρ.1 5) 7 0 28 K4 := eK5; have hLa := hLz K5 35 lK5
  simp only [Option.toList, List.cons_append, List.nil_append]
  refine ev_aload_n dX12_passesAll_50 rfl ?_
  refine ev_aload_n dX12_passesAll_51 rfl ?_
  refine ev_get dX12_passesAll_52 flX12_28_12 hM.1 rfl ?_
  refine k_v (c_passK6' hM hLa rfl rfl) (by decide) dX12_passesAll_55 cbX12_passes (mt6 164 rfl rfl) (mt6 166 rfl rfl) (ms0 83 rfl rfl) (ci := 12) rfl hM.1 rfl rfl (Nat.le_of_ble_eq_true rfl) (fun v μ1 hq => ?_)
  obtain ⟨rfl, ⟨K6, eK6, lK6, hM⟩, hF1⟩ := hq; have hF := hF.tr hF1; rw [pst_pst] at hM; have eK6 : K6 = pkK (ρ.1 6) 10 0 35 K5 := eK6; have hLa := hLz K6 45 lK6
  simp only [Option.toList, List.cons_append, List.nil_append]
  refine ev_aload_n dX12_passesAll_58 rfl ?_
  refine ev_aload_n dX12_passesAll_59 rfl ?_
  refine ev_aload_n dX12_passesAll_60 rfl ?_
  refine ev_get dX12_passesAll_61 flX12_82_12 hM.1 rfl ?_
  refine k_v (c_passOneK (c := 45) hM hLa rfl rfl (by decide) _) (by decide) dX12_passesAll_64 cbX12_passOne (mt6 168 rfl rfl) (mt6 170 rfl rfl) (ms0 84 rfl rfl) (ci := 12) rfl hM.1 rfl rfl (Nat.le_of_ble_eq_true rfl) (fun v μ1 hq => ?_)
  obtain ⟨rfl, hM, hF1⟩ := hq; have hF := hF.tr hF1; rw [pst_pst] at hM
  simp only [Option.toList, List.cons_append, List.nil_append]
  refine evM_put hM hF (k := 7) (by decide) dX12_passesAll_67 fpX12_82_12 rfl rfl (fun μ hM hF => ?_)
  have hLa : ML (setI (pst (setI (setI ρ 32 0) 31 1) 29 (K6.set 45 (ρ.2 7)) 46) 7 (ρ.2 7)) := ML.setI (hLz _ _ (by rw [List.length_set]; exact lK6))
  refine ev_aload_n dX12_passesAll_70 rfl ?_
  refine ev_aload_n dX12_passesAll_71 rfl ?_
  refine ev_aload_n dX12_passesAll_72 rfl ?_
  refine ev_get dX12_passesAll_73 flX12_165_12 hM.1 rfl ?_
  refine k_v (c_passOneK (c := 46) hM hLa rfl rfl (by decide) _) (by decide) dX12_passesAll_76 cbX12_passOne (mt6 168 rfl rfl) (mt6 170 rfl rfl) (ms0 84 rfl rfl) (ci := 12) rfl hM.1 rfl rfl (Nat.le_of_ble_eq_true rfl) (fun v μ1 hq => ?_)
  obtain ⟨rfl, hM, hF1⟩ := hq; have hF := hF.tr hF1
  simp only [Option.toList, List.cons_append, List.nil_append]
  refine evM_put hM hF (k := 8) (by decide) dX12_passesAll_79 fpX12_165_12 rfl rfl (fun μ hM hF => ?_)
  refine ev_vret dX12_passesAll_82 rfl ?_
  refine ⟨rfl, ⟨_, hM, ML.setI (ML.setI (ML.setA hLa ?_)), ?_⟩, hF⟩
  · rw [List.length_set]; rfl
  · have ek : kpt ρ = (K6.set 45 (ρ.2 7)).set 46 (ρ.2 8) := by rw [kpt, ← eK1, ← eK2, ← eK3, ← eK4, ← eK5, ← eK6]
    rw [ek]
    refine ⟨fun k hk => ?_, fun k hk => ?_⟩
    · simp only [coreA, List.mem_cons, List.not_mem_nil, or_false] at hk
      rcases hk with rfl | rfl | rfl | rfl | rfl | rfl | rfl | rfl | rfl | rfl | rfl | rfl | rfl | rfl <;> rfl
    · simp only [coreI, List.mem_cons, List.not_mem_nil, or_false] at hk
      rcases hk with rfl | rfl | rfl | rfl | rfl <;> rfl
theorem c_image (hW : MW b ρ μ) : Mt g 2 mX12_image [.ref b] μ (fun v μ' => v = some (.int (opImage ρ).1) ∧ MW b (opImage ρ).2 μ' ∧ FM b μ μ') := by
  refine Mt.of0 (ls0 := [some (.ref b)]) (by decide) (by simp [Value.category]) (Nat.le_of_ble_eq_true rfl) rfl ?_
  obtain ⟨ρ0, hM, hL, hE⟩ := id hW
  have hF : FM b μ μ := FM.rf
  rw [opImage]
  refine ev_aload_n dX12_image_0 rfl ?_
  refine ev_iconst (v := 1) dX12_image_1 (by decide) ?_
  refine evM_put hM hF (k := 30) (by decide) dX12_image_2 fpX12_294_12 rfl rfl (fun μ hM hF => ?_)
  refine ev_aload_n dX12_image_5 rfl ?_
  refine ev_iconst (v := 1) dX12_image_6 (by decide) ?_
  refine k_v (c_passesAllK hM (ML.setI hL)) (by decide) dX12_image_7 cbX12_passesAll (mt6 160 rfl rfl) (mt6 162 rfl rfl) (ms0 82 rfl rfl) (ci := 12) rfl hM.1 rfl rfl (Nat.le_of_ble_eq_true rfl) (fun v μ1 hq => ?_)
  obtain ⟨rfl, ⟨ρ1, hM, hL1, hE1⟩, hF1⟩ := hq; have hF := hF.tr hF1
  simp only [Option.toList, List.cons_append, List.nil_append]
  refine ev_aload_n dX12_image_10 rfl ?_
  refine ev_get dX12_image_11 flX12_82_12 hM.1 rfl ?_
  refine ev_iret dX12_image_14 rfl ?_
  refine ⟨?_, ⟨ρ1, hM, hL1, hE1.tr ?_⟩, hF⟩
  · rw [hE1.2 7 (by decide)]
    show some (Value.int (ρ0.2 7)) = _
    rw [hE.2 7 (by decide)]
  · have e : kpt (setI ρ0 30 1) = kpt ρ := by
      show kpt (setI ρ0 30 1) = _
      unfold kpt
      show _ = _
      rw [← hE.1 6 (by decide), ← hE.1 5 (by decide), ← hE.1 4 (by decide), ← hE.1 3 (by decide), ← hE.1 2 (by decide), ← hE.1 1 (by decide), ← hE.1 29 (by decide), ← hE.2 7 (by decide), ← hE.2 8 (by decide)]
      rfl
    rw [e]
    exact hE.cA.cI
theorem c_passesAllB (hM : RM b ρ μ) (hL : ML ρ) : Mt g 1 mX12_passesAll [.ref b, .int 0] μ (fun v μ' => v = none ∧ (∃ ρ', RM b ρ' μ' ∧ ML ρ' ∧ EqC ρ' (unk ρ)) ∧ FM b μ μ') := by
  refine Mt.of0 (ls0 := [some (.ref b), some (.int 0)]) (by decide) (by simp [Value.category]) (Nat.le_of_ble_eq_true rfl) rfl ?_
  have hF : FM b μ μ := FM.rf
  refine ev_aload_n dX12_passesAll_0 rfl ?_
  refine ev_iconst (v := 0) dX12_passesAll_1 (by decide) ?_
  refine evM_put hM hF (k := 32) (by decide) dX12_passesAll_2 fpX12_284_12 rfl rfl (fun μ hM hF => ?_)
  refine ev_aload_n dX12_passesAll_5 rfl ?_
  refine ev_iload_n dX12_passesAll_6 rfl ?_
  refine evM_put hM hF (k := 31) (by decide) dX12_passesAll_7 fpX12_280_12 rfl rfl (fun μ hM hF => ?_)
  have hLa : ML (setI (setI ρ 32 0) 31 0) := ML.setI (ML.setI hL)
  refine ev_aload_n dX12_passesAll_10 rfl ?_
  refine ev_aload_n dX12_passesAll_11 rfl ?_
  refine ev_get dX12_passesAll_12 flX12_13_12 hM.1 rfl ?_
  refine k_v (c_passB1' hM hLa rfl rfl) (by decide) dX12_passesAll_15 cbX12_passes (mt6 164 rfl rfl) (mt6 166 rfl rfl) (ms0 83 rfl rfl) (ci := 12) rfl hM.1 rfl rfl (Nat.le_of_ble_eq_true rfl) (fun v μ1 hq => ?_)
  obtain ⟨rfl, ⟨A1, eA1, lA1, hM⟩, hF1⟩ := hq; have hF := hF.tr hF1; have eA1 : A1 = bkK (ρ.1 29) 7 0 0 (ρ.1 1) := eA1; have hLa := pst_L (kf := 1) (c := 7) hLa (lA1.trans (hL.at (k := 1) (n := 7) (by decide)).symm)
  simp only [Option.toList, List.cons_append, List.nil_append]
  refine ev_aload_n dX12_passesAll_18 rfl ?_
  refine ev_aload_n dX12_passesAll_19 rfl ?_
  refine ev_get dX12_passesAll_20 flX12_16_12 hM.1 rfl ?_
  refine k_v (c_passB2' hM hLa rfl rfl) (by decide) dX12_passesAll_23 cbX12_passes (mt6 164 rfl rfl) (mt6 166 rfl rfl) (ms0 83 rfl rfl) (ci := 12) rfl hM.1 rfl rfl (Nat.le_of_ble_eq_true rfl) (fun v μ1 hq => ?_)
  obtain ⟨rfl, ⟨A2, eA2, lA2, hM⟩, hF1⟩ := hq; have hF := hF.tr hF1; have eA2 : A2 = bkK (ρ.1 29) 7 0 7 (ρ.1 2) := eA2; have hLa := pst_L (kf := 2) (c := 14) hLa (lA2.trans (hL.at (k := 2) (n := 7) (by decide)).symm)
  simp only [Option.toList, List.cons_append, List.nil_append]
  refine ev_aload_n dX12_passesAll_26 rfl ?_
  refine ev_aload_n dX12_passesAll_27 rfl ?_
  refine ev_get dX12_passesAll_28 flX12_19_12 hM.1 rfl ?_
  refine k_v (c_passB3' hM hLa rfl rfl) (by decide) dX12_passesAll_31 cbX12_passes (mt6 164 rfl rfl) (mt6 166 rfl rfl) (ms0 83 rfl rfl) (ci := 12) rfl hM.1 rfl rfl (Nat.le_of_ble_eq_true rfl) (fun v μ1 hq => ?_)
  obtain ⟨rfl, ⟨A3, eA3, lA3, hM⟩, hF1⟩ := hq; have hF := hF.tr hF1; have eA3 : A3 = bkK (ρ.1 29) 7 0 14 (ρ.1 3) := eA3; have hLa := pst_L (kf := 3) (c := 21) hLa (lA3.trans (hL.at (k := 3) (n := 7) (by decide)).symm)
  simp only [Option.toList, List.cons_append, List.nil_append]
  refine ev_aload_n dX12_passesAll_34 rfl ?_
  refine ev_aload_n dX12_passesAll_35 rfl ?_
  refine ev_get dX12_passesAll_36 flX12_22_12 hM.1 rfl ?_
  refine k_v (c_passB4' hM hLa rfl rfl) (by decide) dX12_passesAll_39 cbX12_passes (mt6 164 rfl rfl) (mt6 166 rfl rfl) (ms0 83 rfl rfl) (ci := 12) rfl hM.1 rfl rfl (Nat.le_of_ble_eq_true rfl) (fun v μ1 hq => ?_)
  obtain ⟨rfl, ⟨A4, eA4, lA4, hM⟩, hF1⟩ := hq; have hF := hF.tr hF1; have eA4 : A4 = bkK (ρ.1 29) 7 0 21 (ρ.1 4) := eA4; have hLa := pst_L (kf := 4) (c := 28) hLa (lA4.trans (hL.at (k := 4) (n := 7) (by decide)).symm)
  simp only [Option.toList, List.cons_append, List.nil_append]
  refine ev_aload_n dX12_passesAll_42 rfl ?_
  refine ev_aload_n dX12_passesAll_43 rfl ?_
  refine ev_get dX12_passesAll_44 flX12_25_12 hM.1 rfl ?_
  refine k_v (c_passB5' hM hLa rfl rfl) (by decide) dX12_passesAll_47 cbX12_passes (mt6 164 rfl rfl) (mt6 166 rfl rfl) (ms0 83 rfl rfl) (ci := 12) rfl hM.1 rfl rfl (Nat.le_of_ble_eq_true rfl) (fun v μ1 hq => ?_)
  obtain ⟨rfl, ⟨A5, eA5, lA5, hM⟩, hF1⟩ := hq; have hF := hF.tr hF1; have eA5 : A5 = bkK (ρ.1 29) 7 0 28 (ρ.1 5) := eA5; have hLa := pst_L (kf := 5) (c := 35) hLa (lA5.trans (hL.at (k := 5) (n := 7) (by decide)).symm)
  simp only [Option.toList, List.cons_append, List.nil_append]
  refine ev_aload_n dX12_passesAll_50 rfl ?_
  refine ev_aload_n dX12_passesAll_51 rfl ?_
  refine ev_get dX12_passesAll_52 flX12_28_12 hM.1 rfl ?_
  refine k_v (c_passB6' hM hLa rfl rfl) (by decide) dX12_passesAll_55 cbX12_passes (mt6 164 rfl rfl) (mt6 166 rfl rfl) (ms0 83 rfl rfl) (ci := 12) rfl hM.1 rfl rfl (Nat.le_of_ble_eq_true rfl) (fun v μ1 hq => ?_)
  obtain ⟨rfl, ⟨A6, eA6, lA6, hM⟩, hF1⟩ := hq; have hF := hF.tr hF1; have eA6 : A6 = bkK (ρ.1 29) 10 0 35 (ρ.1 6) := eA6; have hLa := pst_L (kf := 6) (c := 45) hLa (lA6.trans (hL.at (k := 6) (n := 10) (by decide)).symm)
  simp only [Option.toList, List.cons_append, List.nil_append]
  refine ev_aload_n dX12_passesAll_58 rfl ?_
  refine ev_aload_n dX12_passesAll_59 rfl ?_
  refine ev_aload_n dX12_passesAll_60 rfl ?_
  refine ev_get dX12_passesAll_61 flX12_82_12 hM.1 rfl ?_
  refine k_v (c_passOneB (c := 45) hM hLa rfl rfl (by decide) _) (by decide) dX12_passesAll_64 cbX12_passOne (mt6 168 rfl rfl) (mt6 170 rfl rfl) (ms0 84 rfl rfl) (ci := 12) rfl hM.1 rfl rfl (Nat.le_of_ble_eq_true rfl) (fun v μ1 hq => ?_)
  obtain ⟨rfl, hM, hF1⟩ := hq; have hF := hF.tr hF1
  simp only [Option.toList, List.cons_append, List.nil_append]
  refine evM_put hM hF (k := 7) (by decide) dX12_passesAll_67 fpX12_82_12 rfl rfl (fun μ hM hF => ?_)
  have hLa := ML.setI (k := 7) (v := (ρ.1 29).getD 45 0) (pst_L (kf := 29) (l := ρ.1 29) (c := 46) hLa rfl)
  refine ev_aload_n dX12_passesAll_70 rfl ?_
  refine ev_aload_n dX12_passesAll_71 rfl ?_
  refine ev_aload_n dX12_passesAll_72 rfl ?_
  refine ev_get dX12_passesAll_73 flX12_165_12 hM.1 rfl ?_
  refine k_v (c_passOneB (c := 46) hM hLa rfl rfl (by decide) _) (by decide) dX12_passesAll_76 cbX12_passOne (mt6 168 rfl rfl) (mt6 170 rfl rfl) (ms0 84 rfl rfl) (ci := 12) rfl hM.1 rfl rfl (Nat.le_of_ble_eq_true rfl) (fun v μ1 hq => ?_)
  obtain ⟨rfl, hM, hF1⟩ := hq; have hF := hF.tr hF1
  simp only [Option.toList, List.cons_append, List.nil_append]
  refine evM_put hM hF (k := 8) (by decide) dX12_passesAll_79 fpX12_165_12 rfl rfl (fun μ hM hF => ?_)
  refine ev_vret dX12_passesAll_82 rfl ?_
  refine ⟨rfl, ⟨_, hM, ML.setI (pst_L hLa rfl), ?_⟩, hF⟩
  rw [unk, ← eA1, ← eA2, ← eA3, ← eA4, ← eA5, ← eA6]
  refine ⟨fun k hk => ?_, fun k hk => ?_⟩
  · simp only [coreA, List.mem_cons, List.not_mem_nil, or_false] at hk
    rcases hk with rfl | rfl | rfl | rfl | rfl | rfl | rfl | rfl | rfl | rfl | rfl | rfl | rfl | rfl <;> rfl
  · simp only [coreI, List.mem_cons, List.not_mem_nil, or_false] at hk
    rcases hk with rfl | rfl | rfl | rfl | rfl <;> rfl
theorem unk_eqc {ρ0 : MS} (hE : EqC ρ0 ρ) : EqC (unk ρ0) (unk ρ) := by
  rw [unk, unk, hE.1 1 (by decide), hE.1 2 (by decide), hE.1 3 (by decide), hE.1 4 (by decide), hE.1 5 (by decide), hE.1 6 (by decide), hE.1 29 (by decide)]
  exact hE.cA.cA.cA.cA.cA.cA.cI.cI
theorem c_back (hW : MW b ρ μ) : Mt g 2 mX12_back [.ref b] μ (fun v μ' => v = some (.int (opBack ρ).1) ∧ MW b (opBack ρ).2 μ' ∧ FM b μ μ') := by
  refine Mt.of0 (ls0 := [some (.ref b)]) (by decide) (by simp [Value.category]) (Nat.le_of_ble_eq_true rfl) rfl ?_
  obtain ⟨ρ0, hM, hL, hE⟩ := id hW
  have hF : FM b μ μ := FM.rf
  rw [opBack, ← hE.2 30 (by decide)]
  refine ev_aload_n dX12_back_0 rfl ?_
  refine ev_get dX12_back_1 flX12_294_12 hM.1 rfl ?_
  refine ev_if_ne (tgt := 10) dX12_back_4 (by decide) (fun h4 => ?_) (fun h4 => ?_)
  · rw [if_neg h4]
    refine ev_aload_n dX12_back_10 rfl ?_
    refine ev_iconst (v := 0) dX12_back_11 (by decide) ?_
    refine k_v (c_passesAllB hM hL) (by decide) dX12_back_12 cbX12_passesAll (mt6 160 rfl rfl) (mt6 162 rfl rfl) (ms0 82 rfl rfl) (ci := 12) rfl hM.1 rfl rfl (Nat.le_of_ble_eq_true rfl) (fun v μ1 hq => ?_)
    obtain ⟨rfl, ⟨ρ1, hM, hL1, hE1⟩, hF1⟩ := hq; have hF := hF.tr hF1
    simp only [Option.toList, List.cons_append, List.nil_append]
    refine ev_aload_n dX12_back_15 rfl ?_
    refine ev_get dX12_back_16 flX12_82_12 hM.1 rfl ?_
    refine ev_iret dX12_back_19 rfl ?_
    refine ⟨?_, ⟨ρ1, hM, hL1, hE1.tr (unk_eqc hE)⟩, hF⟩
    rw [hE1.2 7 (by decide), ← hE.1 29 (by decide)]
    rfl
  · refine ev_bipush (v := (-3)) dX12_back_7 (by decide) ?_
    refine ev_iret dX12_back_9 rfl ?_
    rw [if_pos h4]
    exact ⟨rfl, hW, hF⟩
end MBACK
