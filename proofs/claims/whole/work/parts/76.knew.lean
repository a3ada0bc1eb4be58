/-! ===== the class: a new door ===== -/
theorem gpX2_24f {ci : Nat} (h : ci ∈ dks) : FP RX2 24 ci 0 .int true := by
  simp only [dks, List.mem_cons, List.not_mem_nil, or_false] at h
  rcases h with rfl | rfl | rfl | rfl | rfl | rfl
  · exact fpX2_24_0
  · exact fpX2_24_1
  · exact fpX2_24_2
  · exact fpX2_24_3
  · exact fpX2_24_8
  · exact fpX2_24_9
section KNEW
variable {g : Gl} {μ : Mm} {w : Nat} {x0 x1 x2 x3 x4 : Int32}
theorem ev_putFO {d : Nat} {Y : Md} {pc : Nat} {ls : List (Option Value)} {st : List Value} {Q : Option Value → Mm → Prop} {w idx ci k : Nat} {fs : List Value} {v : Value} {ty : FieldType} (hd : decode (mC Y) pc = .ok (.putfield idx, 3)) (hf : FP (mY Y).cls idx ci k ty true) (hin : (mY Y).name = "<init>") (hl : k < fs.length) (hn : narrow ty v = v) (hfit : fits ty v = true) (kk : Ev g d Y (pc + 3) ls st (mupd μ w (obj ci (fs.set k v))) Q) : Ev g d Y pc ls (v :: .ref w :: st) (mupd μ w (obj ci fs)) Q :=
  ev_putF hd hf hin mupd_eq hl hn hfit (by rw [mupd_mupd]; exact kk)
theorem c_iX2 {ci : Nat} (hci : ci ∈ dks) (hm : μ.1 w = some (obj ci (dfs x0 x1 x2 x3 x4))) (i : Int32) : Mt g 1 mX2_init [.ref w, .int i] μ (fun r μ' => r = none ∧ μ' = mupd μ w (obj ci (dfs i 0 0 0 0))) := by
  refine Mt.of0 (ls0 := [some (.ref w), some (.int i)]) (by decide) (by simp [Value.category]) (Nat.le_of_ble_eq_true rfl) rfl ?_
  refine ev_own hm ?_
  refine ev_aload_n dX2_init_0 rfl ?_
  refine ev_objInit dX2_init_1 (mt2 191 rfl rfl) (mt1 27 rfl rfl) (mt1 28 rfl rfl) (Nat.le_of_ble_eq_true rfl) ?_
  refine ev_aload_n dX2_init_4 rfl ?_
  refine ev_iconst (v := 0) dX2_init_5 (by decide) ?_
  refine ev_putO dX2_init_6 (gpX2_9 hci) (Nat.le_of_ble_eq_true rfl) rfl rfl ?_
  dsimp only [List.set]
  refine ev_aload_n dX2_init_9 rfl ?_
  refine ev_iconst (v := 0) dX2_init_10 (by decide) ?_
  refine ev_putO dX2_init_11 (gpX2_15 hci) (Nat.le_of_ble_eq_true rfl) rfl rfl ?_
  dsimp only [List.set]
  refine ev_aload_n dX2_init_14 rfl ?_
  refine ev_iconst (v := 0) dX2_init_15 (by decide) ?_
  refine ev_putO dX2_init_16 (gpX2_18 hci) (Nat.le_of_ble_eq_true rfl) rfl rfl ?_
  dsimp only [List.set]
  refine ev_aload_n dX2_init_19 rfl ?_
  refine ev_iconst (v := 0) dX2_init_20 (by decide) ?_
  refine ev_putO dX2_init_21 (gpX2_21 hci) (Nat.le_of_ble_eq_true rfl) rfl rfl ?_
  dsimp only [List.set]
  refine ev_aload_n dX2_init_24 rfl ?_
  refine ev_iload_n dX2_init_25 rfl ?_
  refine ev_putFO dX2_init_26 (gpX2_24f hci) rfl (Nat.le_of_ble_eq_true rfl) rfl rfl ?_
  dsimp only [List.set]
  refine ev_vret dX2_init_29 rfl ?_
  exact ⟨rfl, rfl⟩
theorem c_iX3 {ci : Nat} (hci : ci ∈ dks) (hm : μ.1 w = some (obj ci (dfs x0 x1 x2 x3 x4))) (i : Int32) : Mt g 2 mX3_init [.ref w, .int i] μ (fun r μ' => r = none ∧ μ' = mupd μ w (obj ci (dfs i 0 0 0 0))) := by
  refine Mt.of0 (ls0 := [some (.ref w), some (.int i)]) (by decide) (by simp [Value.category]) (Nat.le_of_ble_eq_true rfl) rfl ?_
  refine ev_aload_n dX3_init_0 rfl ?_
  refine ev_iload_n dX3_init_1 rfl ?_
  refine k_i (c_iX2 hci hm i) (by decide) dX3_init_2 cbX2_init rfl (mt2 188 rfl rfl) (mt2 189 rfl rfl) (by decide) rfl rfl (Nat.le_of_ble_eq_true rfl) (fun v μ1 hq => ?_)
  obtain ⟨rfl, hq⟩ := hq; subst hq
  simp only [Option.toList, List.cons_append, List.nil_append]
  refine ev_vret dX3_init_5 rfl ?_
  exact ⟨rfl, rfl⟩
theorem c_iX1 {ci : Nat} (hci : ci ∈ dks) (hm : μ.1 w = some (obj ci (dfs x0 x1 x2 x3 x4))) (i : Int32) : Mt g 2 mX1_init [.ref w, .int i] μ (fun r μ' => r = none ∧ μ' = mupd μ w (obj ci (dfs i 0 0 0 0))) := by
  refine Mt.of0 (ls0 := [some (.ref w), some (.int i)]) (by decide) (by simp [Value.category]) (Nat.le_of_ble_eq_true rfl) rfl ?_
  refine ev_aload_n dX1_init_0 rfl ?_
  refine ev_iload_n dX1_init_1 rfl ?_
  refine k_i (c_iX2 hci hm i) (by decide) dX1_init_2 cbX2_init rfl (mt2 232 rfl rfl) (mt2 189 rfl rfl) (by decide) rfl rfl (Nat.le_of_ble_eq_true rfl) (fun v μ1 hq => ?_)
  obtain ⟨rfl, hq⟩ := hq; subst hq
  simp only [Option.toList, List.cons_append, List.nil_append]
  refine ev_vret dX1_init_5 rfl ?_
  exact ⟨rfl, rfl⟩
theorem c_iX9 {ci : Nat} (hci : ci ∈ dks) (hm : μ.1 w = some (obj ci (dfs x0 x1 x2 x3 x4))) (i : Int32) : Mt g 3 mX9_init [.ref w, .int i] μ (fun r μ' => r = none ∧ μ' = mupd μ w (obj ci (dfs i 0 0 0 0))) := by
  refine Mt.of0 (ls0 := [some (.ref w), some (.int i)]) (by decide) (by simp [Value.category]) (Nat.le_of_ble_eq_true rfl) rfl ?_
  refine ev_aload_n dX9_init_0 rfl ?_
  refine ev_iload_n dX9_init_1 rfl ?_
  refine k_i (c_iX3 hci hm i) (by decide) dX9_init_2 cbX3_init rfl (mt3 4 rfl rfl) (mt2 186 rfl rfl) (by decide) rfl rfl (Nat.le_of_ble_eq_true rfl) (fun v μ1 hq => ?_)
  obtain ⟨rfl, hq⟩ := hq; subst hq
  simp only [Option.toList, List.cons_append, List.nil_append]
  refine ev_vret dX9_init_5 rfl ?_
  exact ⟨rfl, rfl⟩
theorem c_iX0 {ci : Nat} (hci : ci ∈ dks) (hm : μ.1 w = some (obj ci (dfs x0 x1 x2 x3 x4))) (i : Int32) : Mt g 3 mX0_init [.ref w, .int i] μ (fun r μ' => r = none ∧ μ' = mupd μ w (obj ci (dfs i 0 0 0 0))) := by
  refine Mt.of0 (ls0 := [some (.ref w), some (.int i)]) (by decide) (by simp [Value.category]) (Nat.le_of_ble_eq_true rfl) rfl ?_
  refine ev_aload_n dX0_init_0 rfl ?_
  refine ev_iload_n dX0_init_1 rfl ?_
  refine k_i (c_iX1 hci hm i) (by decide) dX0_init_2 cbX1_init rfl (mt3 16 rfl rfl) (mt2 230 rfl rfl) (by decide) rfl rfl (Nat.le_of_ble_eq_true rfl) (fun v μ1 hq => ?_)
  obtain ⟨rfl, hq⟩ := hq; subst hq
  simp only [Option.toList, List.cons_append, List.nil_append]
  refine ev_vret dX0_init_5 rfl ?_
  exact ⟨rfl, rfl⟩
theorem c_iX8 {ci : Nat} (hci : ci ∈ dks) (hm : μ.1 w = some (obj ci (dfs x0 x1 x2 x3 x4))) (i : Int32) : Mt g 3 mX8_init [.ref w, .int i] μ (fun r μ' => r = none ∧ μ' = mupd μ w (obj ci (dfs i 0 0 0 0))) := by
  refine Mt.of0 (ls0 := [some (.ref w), some (.int i)]) (by decide) (by simp [Value.category]) (Nat.le_of_ble_eq_true rfl) rfl ?_
  refine ev_aload_n dX8_init_0 rfl ?_
  refine ev_iload_n dX8_init_1 rfl ?_
  refine k_i (c_iX3 hci hm i) (by decide) dX8_init_2 cbX3_init rfl (mt3 28 rfl rfl) (mt2 186 rfl rfl) (by decide) rfl rfl (Nat.le_of_ble_eq_true rfl) (fun v μ1 hq => ?_)
  obtain ⟨rfl, hq⟩ := hq; subst hq
  simp only [Option.toList, List.cons_append, List.nil_append]
  refine ev_vret dX8_init_5 rfl ?_
  exact ⟨rfl, rfl⟩
theorem mupd_mnew {e e' : MC} {k : Nat} : mupd (mnew μ e k) μ.2.1 e' = mnew μ e' k := by
  refine Prod.ext ?_ rfl
  funext q
  show (if q = μ.2.1 then some e' else if q = μ.2.1 then some e else μ.1 q) = if q = μ.2.1 then some e' else μ.1 q
  by_cases h : q = μ.2.1
  · rw [if_pos h, if_pos h]
  · rw [if_neg h, if_neg h, if_neg h]
theorem dfs_def : ∀ j, j < 5 → defaultValue ((fun _ => FieldType.int) j) = vp_V (dfs 0 0 0 0 0) j := by
  intro j hj
  have : j = 0 ∨ j = 1 ∨ j = 2 ∨ j = 3 ∨ j = 4 := by omega
  rcases this with rfl | rfl | rfl | rfl | rfl <;> rfl
theorem c_kNewDoor {k : Int32} (hk : 0 ≤ k ∧ k ≤ 5) (i : Int32) : Mt g 4 mX11_newDoor [.int k, .int i] μ (fun r μ' => r = some (.ref μ.2.1) ∧ ∃ ci, KC ci k ∧ μ' = mnew μ (obj ci (dfs i 0 0 0 0)) 5) := by
  refine Mt.of0 (ls0 := [some (.int k), some (.int i)]) (by decide) (by simp [Value.category]) (Nat.le_of_ble_eq_true rfl) rfl ?_
  have hk' := hk
  rw [Int32.le_iff_toInt_le, Int32.le_iff_toInt_le] at hk'
  have e0 : (0 : Int32).toInt = 0 := by decide
  have e5 : (5 : Int32).toInt = 5 := by decide
  rw [e0, e5] at hk'
  refine ev_iload_n dX11_newDoor_0 rfl ?_
  by_cases hs1 : (k).toInt < 1 ∨ 5 < (k).toInt
  · refine ev_tout (tgt := 81) dX11_newDoor_1 hs1 (by decide) ?_
    have hn1_0 : ¬ (k) = 1 := fun q => by rw [q] at hs1; revert hs1; decide
    have hn1_1 : ¬ (k) = 2 := fun q => by rw [q] at hs1; revert hs1; decide
    have hn1_2 : ¬ (k) = 3 := fun q => by rw [q] at hs1; revert hs1; decide
    have hn1_3 : ¬ (k) = 4 := fun q => by rw [q] at hs1; revert hs1; decide
    have hn1_4 : ¬ (k) = 5 := fun q => by rw [q] at hs1; revert hs1; decide
    refine ev_new (ci := 2) (N := 5) (fs := dfs 0 0 0 0 0) dX11_newDoor_81 rfl uwX2 tyX2_ok (mt1 29 rfl rfl) (mt3 35 rfl rfl) (mt1 15 rfl rfl) (fun j hj ↦ by have q : j = 0 ∨ j = 1 ∨ j = 2 ∨ j = 3 ∨ j = 4 := (by omega); rcases q with rfl | rfl | rfl | rfl | rfl <;> rfl) ?_
    refine ev_dup dX11_newDoor_84 rfl ?_
    refine ev_iload_n dX11_newDoor_85 rfl ?_
    refine k_i (c_iX2 (ci := 2) (by decide) (x0 := 0) (x1 := 0) (x2 := 0) (x3 := 0) (x4 := 0) (if_pos rfl) i) (by decide) dX11_newDoor_86 cbX2_init rfl (mt3 36 rfl rfl) (mt2 189 rfl rfl) (by decide) rfl rfl (Nat.le_of_ble_eq_true rfl) (fun v μ1 hq => ?_)
    obtain ⟨rfl, hq⟩ := hq; subst hq; rw [mupd_mnew]
    simp only [Option.toList, List.cons_append, List.nil_append]
    refine ev_aret dX11_newDoor_89 rfl (by simp) (Or.inr ⟨_, rfl⟩) ?_
    exact ⟨rfl, 2, ⟨by decide, Int32.toInt_inj.mp (by show (0 : Int32).toInt = _; omega)⟩, rfl⟩
  have hs1 : (k).toInt = 1 ∨ (k).toInt = 2 ∨ (k).toInt = 3 ∨ (k).toInt = 4 ∨ (k).toInt = 5 := by omega
  rcases hs1 with hs1 | hs1 | hs1 | hs1 | hs1
  · refine ev_tin (off := 35) (tgt := 36) dX11_newDoor_1 (by omega) (by omega) (by rw [hs1]; rfl) (by decide) ?_
    have he1 : (k) = 1 := Int32.toInt_inj.mp (hs1.trans (by decide))
    refine ev_new (ci := 3) (N := 5) (fs := dfs 0 0 0 0 0) dX11_newDoor_36 rfl uwX3 tyX3_ok (mt2 183 rfl rfl) (mt2 184 rfl rfl) (mt1 16 rfl rfl) (fun j hj ↦ by have q : j = 0 ∨ j = 1 ∨ j = 2 ∨ j = 3 ∨ j = 4 := (by omega); rcases q with rfl | rfl | rfl | rfl | rfl <;> rfl) ?_
    refine ev_dup dX11_newDoor_39 rfl ?_
    refine ev_iload_n dX11_newDoor_40 rfl ?_
    refine k_i (c_iX3 (ci := 3) (by decide) (x0 := 0) (x1 := 0) (x2 := 0) (x3 := 0) (x4 := 0) (if_pos rfl) i) (by decide) dX11_newDoor_41 cbX3_init rfl (mt2 185 rfl rfl) (mt2 186 rfl rfl) (by decide) rfl rfl (Nat.le_of_ble_eq_true rfl) (fun v μ1 hq => ?_)
    obtain ⟨rfl, hq⟩ := hq; subst hq; rw [mupd_mnew]
    simp only [Option.toList, List.cons_append, List.nil_append]
    refine ev_aret dX11_newDoor_44 rfl (by simp) (Or.inr ⟨_, rfl⟩) ?_
    exact ⟨rfl, 3, ⟨by decide, he1.symm⟩, rfl⟩
  · refine ev_tin (off := 44) (tgt := 45) dX11_newDoor_1 (by omega) (by omega) (by rw [hs1]; rfl) (by decide) ?_
    have he1 : (k) = 2 := Int32.toInt_inj.mp (hs1.trans (by decide))
    refine ev_new (ci := 1) (N := 5) (fs := dfs 0 0 0 0 0) dX11_newDoor_45 rfl uwX1 tyX1_ok (mt2 227 rfl rfl) (mt2 228 rfl rfl) (mt1 17 rfl rfl) (fun j hj ↦ by have q : j = 0 ∨ j = 1 ∨ j = 2 ∨ j = 3 ∨ j = 4 := (by omega); rcases q with rfl | rfl | rfl | rfl | rfl <;> rfl) ?_
    refine ev_dup dX11_newDoor_48 rfl ?_
    refine ev_iload_n dX11_newDoor_49 rfl ?_
    refine k_i (c_iX1 (ci := 1) (by decide) (x0 := 0) (x1 := 0) (x2 := 0) (x3 := 0) (x4 := 0) (if_pos rfl) i) (by decide) dX11_newDoor_50 cbX1_init rfl (mt2 229 rfl rfl) (mt2 230 rfl rfl) (by decide) rfl rfl (Nat.le_of_ble_eq_true rfl) (fun v μ1 hq => ?_)
    obtain ⟨rfl, hq⟩ := hq; subst hq; rw [mupd_mnew]
    simp only [Option.toList, List.cons_append, List.nil_append]
    refine ev_aret dX11_newDoor_53 rfl (by simp) (Or.inr ⟨_, rfl⟩) ?_
    exact ⟨rfl, 1, ⟨by decide, he1.symm⟩, rfl⟩
  · refine ev_tin (off := 53) (tgt := 54) dX11_newDoor_1 (by omega) (by omega) (by rw [hs1]; rfl) (by decide) ?_
    have he1 : (k) = 3 := Int32.toInt_inj.mp (hs1.trans (by decide))
    refine ev_new (ci := 9) (N := 5) (fs := dfs 0 0 0 0 0) dX11_newDoor_54 rfl uwX9 tyX9_ok (mt2 239 rfl rfl) (mt3 0 rfl rfl) (mt1 18 rfl rfl) (fun j hj ↦ by have q : j = 0 ∨ j = 1 ∨ j = 2 ∨ j = 3 ∨ j = 4 := (by omega); rcases q with rfl | rfl | rfl | rfl | rfl <;> rfl) ?_
    refine ev_dup dX11_newDoor_57 rfl ?_
    refine ev_iload_n dX11_newDoor_58 rfl ?_
    refine k_i (c_iX9 (ci := 9) (by decide) (x0 := 0) (x1 := 0) (x2 := 0) (x3 := 0) (x4 := 0) (if_pos rfl) i) (by decide) dX11_newDoor_59 cbX9_init rfl (mt3 1 rfl rfl) (mt3 2 rfl rfl) (by decide) rfl rfl (Nat.le_of_ble_eq_true rfl) (fun v μ1 hq => ?_)
    obtain ⟨rfl, hq⟩ := hq; subst hq; rw [mupd_mnew]
    simp only [Option.toList, List.cons_append, List.nil_append]
    refine ev_aret dX11_newDoor_62 rfl (by simp) (Or.inr ⟨_, rfl⟩) ?_
    exact ⟨rfl, 9, ⟨by decide, he1.symm⟩, rfl⟩
  · refine ev_tin (off := 62) (tgt := 63) dX11_newDoor_1 (by omega) (by omega) (by rw [hs1]; rfl) (by decide) ?_
    have he1 : (k) = 4 := Int32.toInt_inj.mp (hs1.trans (by decide))
    refine ev_new (ci := 0) (N := 5) (fs := dfs 0 0 0 0 0) dX11_newDoor_63 rfl uwX0 tyX0_ok (mt3 11 rfl rfl) (mt3 12 rfl rfl) (mt1 19 rfl rfl) (fun j hj ↦ by have q : j = 0 ∨ j = 1 ∨ j = 2 ∨ j = 3 ∨ j = 4 := (by omega); rcases q with rfl | rfl | rfl | rfl | rfl <;> rfl) ?_
    refine ev_dup dX11_newDoor_66 rfl ?_
    refine ev_iload_n dX11_newDoor_67 rfl ?_
    refine k_i (c_iX0 (ci := 0) (by decide) (x0 := 0) (x1 := 0) (x2 := 0) (x3 := 0) (x4 := 0) (if_pos rfl) i) (by decide) dX11_newDoor_68 cbX0_init rfl (mt3 13 rfl rfl) (mt3 14 rfl rfl) (by decide) rfl rfl (Nat.le_of_ble_eq_true rfl) (fun v μ1 hq => ?_)
    obtain ⟨rfl, hq⟩ := hq; subst hq; rw [mupd_mnew]
    simp only [Option.toList, List.cons_append, List.nil_append]
    refine ev_aret dX11_newDoor_71 rfl (by simp) (Or.inr ⟨_, rfl⟩) ?_
    exact ⟨rfl, 0, ⟨by decide, he1.symm⟩, rfl⟩
  · refine ev_tin (off := 71) (tgt := 72) dX11_newDoor_1 (by omega) (by omega) (by rw [hs1]; rfl) (by decide) ?_
    have he1 : (k) = 5 := Int32.toInt_inj.mp (hs1.trans (by decide))
    refine ev_new (ci := 8) (N := 5) (fs := dfs 0 0 0 0 0) dX11_newDoor_72 rfl uwX8 tyX8_ok (mt3 23 rfl rfl) (mt3 24 rfl rfl) (mt1 20 rfl rfl) (fun j hj ↦ by have q : j = 0 ∨ j = 1 ∨ j = 2 ∨ j = 3 ∨ j = 4 := (by omega); rcases q with rfl | rfl | rfl | rfl | rfl <;> rfl) ?_
    refine ev_dup dX11_newDoor_75 rfl ?_
    refine ev_iload_n dX11_newDoor_76 rfl ?_
    refine k_i (c_iX8 (ci := 8) (by decide) (x0 := 0) (x1 := 0) (x2 := 0) (x3 := 0) (x4 := 0) (if_pos rfl) i) (by decide) dX11_newDoor_77 cbX8_init rfl (mt3 25 rfl rfl) (mt3 26 rfl rfl) (by decide) rfl rfl (Nat.le_of_ble_eq_true rfl) (fun v μ1 hq => ?_)
    obtain ⟨rfl, hq⟩ := hq; subst hq; rw [mupd_mnew]
    simp only [Option.toList, List.cons_append, List.nil_append]
    refine ev_aret dX11_newDoor_80 rfl (by simp) (Or.inr ⟨_, rfl⟩) ?_
    exact ⟨rfl, 8, ⟨by decide, he1.symm⟩, rfl⟩
end KNEW
