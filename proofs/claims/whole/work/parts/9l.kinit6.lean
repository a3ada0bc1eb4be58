/-! ===== the class: a search is made ===== -/
section KINIT6
variable {g : Gl} {μ μ0 : Mm} {a s : Nat} {c : Nat → MC}
/-- the cells of a search at 12 -/
def c6_0 (a : Nat) (c : Nat → MC) : Nat → MC := fun j =>
  if j = 12 then obj 6 [.ref (a + 13), .int 0, .int 0, .int 0, .ref (a + 14), .ref (a + 15), .ref (a + 16), .ref (a + 27), .ref (a + 28), .ref (a + 17), .int 0, .ref (a + 18)]
  else if j = 13 then iar (List.replicate 7 0) else if j = 14 then rar 4 (kWl a 19) else if j = 15 then iar (List.replicate 7 0) else if j = 16 then iar (List.replicate 7 0) else if j = 17 then rar 1 [] else if j = 18 then iar (List.replicate 10 0)
  else if j = 27 then iar (List.replicate 0 0) else if j = 28 then iar (List.replicate 0 0) else if 19 ≤ j ∧ j < 27 then obj 10 [.int 0, .int 0, .int 0, .int 0, .int 0, .int 1] else c j
theorem c_iX6_0 (hB : BW a 13 (cst c 12 (obj 6 [.null, .int 0, .int 0, .int 0, .null, .null, .null, .null, .null, .null, .int 0, .null])) s μ0 μ) : Mt g 2 mX6_init [.ref (a + 12), .int 0] μ (fun v μ' => v = none ∧ ∃ c', (∀ j, j < 29 → c' j = c6_0 a c j) ∧ BW a 29 c' (s + 87) μ0 μ') := by
  refine Mt.of0 (ls0 := [some (.ref (a + 12)), some (.int 0), none]) (by decide) (by simp [Value.category]) (Nat.le_of_ble_eq_true rfl) rfl ?_
  refine ev_aload_n dX6_init_0 rfl ?_
  refine ev_objInit dX6_init_1 (mt1 111 rfl rfl) (mt1 27 rfl rfl) (mt1 28 rfl rfl) (Nat.le_of_ble_eq_true rfl) ?_
  refine ev_aload_n dX6_init_4 rfl ?_
  refine ev_bipush (v := 7) dX6_init_5 (by decide) ?_
  refine bw_newa (k := 7) (N := 13) hB dX6_init_7 (ix_z (by decide) rfl) (by decide) (N1 := 14) rfl (fun μ hB => ?_)
  refine bw_putF (i := 12) (k := 0) hB (by decide) rfl dX6_init_9 fpX6_9_6 rfl (Nat.le_of_ble_eq_true rfl) rfl rfl (fun μ hB => ?_)
  refine ev_aload_n dX6_init_12 rfl ?_
  refine ev_iconst (v := 0) dX6_init_13 (by decide) ?_
  refine bw_put (i := 12) (k := 1) hB (by decide) rfl dX6_init_14 fpX6_15_6 (Nat.le_of_ble_eq_true rfl) rfl rfl (fun μ hB => ?_)
  refine ev_aload_n dX6_init_17 rfl ?_
  refine ev_iconst (v := 0) dX6_init_18 (by decide) ?_
  refine bw_put (i := 12) (k := 2) hB (by decide) rfl dX6_init_19 fpX6_19_6 (Nat.le_of_ble_eq_true rfl) rfl rfl (fun μ hB => ?_)
  refine ev_aload_n dX6_init_22 rfl ?_
  refine ev_bipush (v := 8) dX6_init_23 (by decide) ?_
  refine bw_anew (k := 8) (N := 14) (t := 4) (E := RX10) hB dX6_init_25 ⟨(mt1 112 rfl rfl), by decide, fun _ => rfl⟩ (ix_z (by decide) rfl) (by decide) (N1 := 15) rfl (fun μ hB => ?_)
  refine bw_putF (i := 12) (k := 4) hB (by decide) rfl dX6_init_28 fpX6_25_6 rfl (Nat.le_of_ble_eq_true rfl) rfl rfl (fun μ hB => ?_)
  refine ev_aload_n dX6_init_31 rfl ?_
  refine ev_bipush (v := 7) dX6_init_32 (by decide) ?_
  refine bw_newa (k := 7) (N := 15) hB dX6_init_34 (ix_z (by decide) rfl) (by decide) (N1 := 16) rfl (fun μ hB => ?_)
  refine bw_putF (i := 12) (k := 5) hB (by decide) rfl dX6_init_36 fpX6_29_6 rfl (Nat.le_of_ble_eq_true rfl) rfl rfl (fun μ hB => ?_)
  refine ev_aload_n dX6_init_39 rfl ?_
  refine ev_bipush (v := 7) dX6_init_40 (by decide) ?_
  refine bw_newa (k := 7) (N := 16) hB dX6_init_42 (ix_z (by decide) rfl) (by decide) (N1 := 17) rfl (fun μ hB => ?_)
  refine bw_putF (i := 12) (k := 6) hB (by decide) rfl dX6_init_44 fpX6_32_6 rfl (Nat.le_of_ble_eq_true rfl) rfl rfl (fun μ hB => ?_)
  refine ev_aload_n dX6_init_47 rfl ?_
  refine ev_iconst (v := 0) dX6_init_48 (by decide) ?_
  refine bw_anew (k := 0) (N := 17) (t := 1) (E := RX2) hB dX6_init_49 ⟨(mt1 114 rfl rfl), by decide, fun _ => rfl⟩ (ix_z (by decide) rfl) (by decide) (N1 := 18) rfl (fun μ hB => ?_)
  refine bw_put (i := 12) (k := 9) hB (by decide) rfl dX6_init_52 fpX6_37_6 (Nat.le_of_ble_eq_true rfl) rfl rfl (fun μ hB => ?_)
  refine ev_aload_n dX6_init_55 rfl ?_
  refine ev_iconst (v := 0) dX6_init_56 (by decide) ?_
  refine bw_put (i := 12) (k := 10) hB (by decide) rfl dX6_init_57 fpX6_41_6 (Nat.le_of_ble_eq_true rfl) rfl rfl (fun μ hB => ?_)
  refine ev_aload_n dX6_init_60 rfl ?_
  refine ev_bipush (v := 10) dX6_init_61 (by decide) ?_
  refine bw_newa (k := 10) (N := 18) hB dX6_init_63 (ix_z (by decide) rfl) (by decide) (N1 := 19) rfl (fun μ hB => ?_)
  refine bw_put (i := 12) (k := 11) hB (by decide) rfl dX6_init_65 fpX6_44_6 (Nat.le_of_ble_eq_true rfl) rfl rfl (fun μ hB => ?_)
  refine ev_aload_n dX6_init_68 rfl ?_
  refine ev_iload_n dX6_init_69 rfl ?_
  refine bw_putF (i := 12) (k := 3) hB (by decide) rfl dX6_init_70 fpX6_47_6 rfl (Nat.le_of_ble_eq_true rfl) rfl rfl (fun μ hB => ?_)
  refine ev_iconst (v := 0) dX6_init_73 (by decide) ?_
  refine ev_istore_n dX6_init_74 (by decide) ?_
  dsimp only [List.set]
  refine ev_iload_n dX6_init_75 rfl ?_
  refine ev_bipush (v := 7) dX6_init_76 (by decide) ?_
  refine ev_icmp_gt (tgt := 100) dX6_init_78 (by decide) (fun h => absurd h (by decide)) (fun _ => ?_)
  refine ev_aload_n dX6_init_81 rfl ?_
  refine bw_get (i := 12) (k := 4) hB (by decide) rfl dX6_init_82 flX6_25_6 rfl ?_
  refine ev_iload_n dX6_init_85 rfl ?_
  refine bw_new (ci := 10) (k := 6) (N := 19) (fs := [.int 0, .int 0, .int 0, .int 0, .int 0, .int 0]) hB dX6_init_86 rfl uwX10 tyX10_ok (mt1 112 rfl rfl) (mt1 79 rfl rfl) (mt1 3 rfl rfl) (fun j hj => by have q : j = 0 ∨ j = 1 ∨ j = 2 ∨ j = 3 ∨ j = 4 ∨ j = 5 := (by omega); rcases q with rfl | rfl | rfl | rfl | rfl | rfl <;> rfl) (N1 := 20) rfl (fun μ hB => ?_)
  refine ev_dup dX6_init_89 rfl ?_
  refine k_iN (c_iX10 (w := a + 19) ((hB.1 19 (by decide)).trans rfl)) (by decide) dX6_init_90 cbX10_init rfl (List.mem_of_getElem? (i := 2) rfl) (mt1 81 rfl rfl) (by decide) rfl rfl (Nat.le_of_ble_eq_true rfl) (fun v μ1 hq ↦ ?_)
  obtain ⟨rfl, hq⟩ := hq
  rename_i μz hBz
  have hB := BW.up hB (i := 19) (by decide) (obj 10 [.int 0, .int 0, .int 0, .int 0, .int 0, .int 1])
  rw [← hq] at hB
  clear hq
  simp only [Option.toList, List.cons_append, List.nil_append]
  refine bw_aast (i := 14) (j := 0) (v := 19) hB (by decide) (by decide) rfl rfl aok_w dX6_init_93 (ix_z (by decide) rfl) (Nat.le_of_ble_eq_true rfl) (fun μ hB => ?_)
  refine ev_iinc dX6_init_94 rfl (by decide) ?_
  dsimp only [List.set]
  rw [show (0 : Int32) + Int32.ofInt 1 = 1 by decide]
  refine ev_goto (tgt := 75) dX6_init_97 (by decide) ?_
  refine ev_iload_n dX6_init_75 rfl ?_
  refine ev_bipush (v := 7) dX6_init_76 (by decide) ?_
  refine ev_icmp_gt (tgt := 100) dX6_init_78 (by decide) (fun h => absurd h (by decide)) (fun _ => ?_)
  refine ev_aload_n dX6_init_81 rfl ?_
  refine bw_get (i := 12) (k := 4) hB (by decide) rfl dX6_init_82 flX6_25_6 rfl ?_
  refine ev_iload_n dX6_init_85 rfl ?_
  refine bw_new (ci := 10) (k := 6) (N := 20) (fs := [.int 0, .int 0, .int 0, .int 0, .int 0, .int 0]) hB dX6_init_86 rfl uwX10 tyX10_ok (mt1 112 rfl rfl) (mt1 79 rfl rfl) (mt1 3 rfl rfl) (fun j hj => by have q : j = 0 ∨ j = 1 ∨ j = 2 ∨ j = 3 ∨ j = 4 ∨ j = 5 := (by omega); rcases q with rfl | rfl | rfl | rfl | rfl | rfl <;> rfl) (N1 := 21) rfl (fun μ hB => ?_)
  refine ev_dup dX6_init_89 rfl ?_
  refine k_iN (c_iX10 (w := a + 20) ((hB.1 20 (by decide)).trans rfl)) (by decide) dX6_init_90 cbX10_init rfl (List.mem_of_getElem? (i := 2) rfl) (mt1 81 rfl rfl) (by decide) rfl rfl (Nat.le_of_ble_eq_true rfl) (fun v μ1 hq ↦ ?_)
  obtain ⟨rfl, hq⟩ := hq
  rename_i μz hBz
  have hB := BW.up hB (i := 20) (by decide) (obj 10 [.int 0, .int 0, .int 0, .int 0, .int 0, .int 1])
  rw [← hq] at hB
  clear hq
  simp only [Option.toList, List.cons_append, List.nil_append]
  refine bw_aast (i := 14) (j := 1) (v := 20) hB (by decide) (by decide) rfl rfl aok_w dX6_init_93 (ix_z (by decide) rfl) (Nat.le_of_ble_eq_true rfl) (fun μ hB => ?_)
  refine ev_iinc dX6_init_94 rfl (by decide) ?_
  dsimp only [List.set]
  rw [show (1 : Int32) + Int32.ofInt 1 = 2 by decide]
  refine ev_goto (tgt := 75) dX6_init_97 (by decide) ?_
  refine ev_iload_n dX6_init_75 rfl ?_
  refine ev_bipush (v := 7) dX6_init_76 (by decide) ?_
  refine ev_icmp_gt (tgt := 100) dX6_init_78 (by decide) (fun h => absurd h (by decide)) (fun _ => ?_)
  refine ev_aload_n dX6_init_81 rfl ?_
  refine bw_get (i := 12) (k := 4) hB (by decide) rfl dX6_init_82 flX6_25_6 rfl ?_
  refine ev_iload_n dX6_init_85 rfl ?_
  refine bw_new (ci := 10) (k := 6) (N := 21) (fs := [.int 0, .int 0, .int 0, .int 0, .int 0, .int 0]) hB dX6_init_86 rfl uwX10 tyX10_ok (mt1 112 rfl rfl) (mt1 79 rfl rfl) (mt1 3 rfl rfl) (fun j hj => by have q : j = 0 ∨ j = 1 ∨ j = 2 ∨ j = 3 ∨ j = 4 ∨ j = 5 := (by omega); rcases q with rfl | rfl | rfl | rfl | rfl | rfl <;> rfl) (N1 := 22) rfl (fun μ hB => ?_)
  refine ev_dup dX6_init_89 rfl ?_
  refine k_iN (c_iX10 (w := a + 21) ((hB.1 21 (by decide)).trans rfl)) (by decide) dX6_init_90 cbX10_init rfl (List.mem_of_getElem? (i := 2) rfl) (mt1 81 rfl rfl) (by decide) rfl rfl (Nat.le_of_ble_eq_true rfl) (fun v μ1 hq ↦ ?_)
  obtain ⟨rfl, hq⟩ := hq
  rename_i μz hBz
  have hB := BW.up hB (i := 21) (by decide) (obj 10 [.int 0, .int 0, .int 0, .int 0, .int 0, .int 1])
  rw [← hq] at hB
  clear hq
  simp only [Option.toList, List.cons_append, List.nil_append]
  refine bw_aast (i := 14) (j := 2) (v := 21) hB (by decide) (by decide) rfl rfl aok_w dX6_init_93 (ix_z (by decide) rfl) (Nat.le_of_ble_eq_true rfl) (fun μ hB => ?_)
  refine ev_iinc dX6_init_94 rfl (by decide) ?_
  dsimp only [List.set]
  rw [show (2 : Int32) + Int32.ofInt 1 = 3 by decide]
  refine ev_goto (tgt := 75) dX6_init_97 (by decide) ?_
  refine ev_iload_n dX6_init_75 rfl ?_
  refine ev_bipush (v := 7) dX6_init_76 (by decide) ?_
  refine ev_icmp_gt (tgt := 100) dX6_init_78 (by decide) (fun h => absurd h (by decide)) (fun _ => ?_)
  refine ev_aload_n dX6_init_81 rfl ?_
  refine bw_get (i := 12) (k := 4) hB (by decide) rfl dX6_init_82 flX6_25_6 rfl ?_
  refine ev_iload_n dX6_init_85 rfl ?_
  refine bw_new (ci := 10) (k := 6) (N := 22) (fs := [.int 0, .int 0, .int 0, .int 0, .int 0, .int 0]) hB dX6_init_86 rfl uwX10 tyX10_ok (mt1 112 rfl rfl) (mt1 79 rfl rfl) (mt1 3 rfl rfl) (fun j hj => by have q : j = 0 ∨ j = 1 ∨ j = 2 ∨ j = 3 ∨ j = 4 ∨ j = 5 := (by omega); rcases q with rfl | rfl | rfl | rfl | rfl | rfl <;> rfl) (N1 := 23) rfl (fun μ hB => ?_)
  refine ev_dup dX6_init_89 rfl ?_
  refine k_iN (c_iX10 (w := a + 22) ((hB.1 22 (by decide)).trans rfl)) (by decide) dX6_init_90 cbX10_init rfl (List.mem_of_getElem? (i := 2) rfl) (mt1 81 rfl rfl) (by decide) rfl rfl (Nat.le_of_ble_eq_true rfl) (fun v μ1 hq ↦ ?_)
  obtain ⟨rfl, hq⟩ := hq
  rename_i μz hBz
  have hB := BW.up hB (i := 22) (by decide) (obj 10 [.int 0, .int 0, .int 0, .int 0, .int 0, .int 1])
  rw [← hq] at hB
  clear hq
  simp only [Option.toList, List.cons_append, List.nil_append]
  refine bw_aast (i := 14) (j := 3) (v := 22) hB (by decide) (by decide) rfl rfl aok_w dX6_init_93 (ix_z (by decide) rfl) (Nat.le_of_ble_eq_true rfl) (fun μ hB => ?_)
  refine ev_iinc dX6_init_94 rfl (by decide) ?_
  dsimp only [List.set]
  rw [show (3 : Int32) + Int32.ofInt 1 = 4 by decide]
  refine ev_goto (tgt := 75) dX6_init_97 (by decide) ?_
  refine ev_iload_n dX6_init_75 rfl ?_
  refine ev_bipush (v := 7) dX6_init_76 (by decide) ?_
  refine ev_icmp_gt (tgt := 100) dX6_init_78 (by decide) (fun h => absurd h (by decide)) (fun _ => ?_)
  refine ev_aload_n dX6_init_81 rfl ?_
  refine bw_get (i := 12) (k := 4) hB (by decide) rfl dX6_init_82 flX6_25_6 rfl ?_
  refine ev_iload_n dX6_init_85 rfl ?_
  refine bw_new (ci := 10) (k := 6) (N := 23) (fs := [.int 0, .int 0, .int 0, .int 0, .int 0, .int 0]) hB dX6_init_86 rfl uwX10 tyX10_ok (mt1 112 rfl rfl) (mt1 79 rfl rfl) (mt1 3 rfl rfl) (fun j hj => by have q : j = 0 ∨ j = 1 ∨ j = 2 ∨ j = 3 ∨ j = 4 ∨ j = 5 := (by omega); rcases q with rfl | rfl | rfl | rfl | rfl | rfl <;> rfl) (N1 := 24) rfl (fun μ hB => ?_)
  refine ev_dup dX6_init_89 rfl ?_
  refine k_iN (c_iX10 (w := a + 23) ((hB.1 23 (by decide)).trans rfl)) (by decide) dX6_init_90 cbX10_init rfl (List.mem_of_getElem? (i := 2) rfl) (mt1 81 rfl rfl) (by decide) rfl rfl (Nat.le_of_ble_eq_true rfl) (fun v μ1 hq ↦ ?_)
  obtain ⟨rfl, hq⟩ := hq
  rename_i μz hBz
  have hB := BW.up hB (i := 23) (by decide) (obj 10 [.int 0, .int 0, .int 0, .int 0, .int 0, .int 1])
  rw [← hq] at hB
  clear hq
  simp only [Option.toList, List.cons_append, List.nil_append]
  refine bw_aast (i := 14) (j := 4) (v := 23) hB (by decide) (by decide) rfl rfl aok_w dX6_init_93 (ix_z (by decide) rfl) (Nat.le_of_ble_eq_true rfl) (fun μ hB => ?_)
  refine ev_iinc dX6_init_94 rfl (by decide) ?_
  dsimp only [List.set]
  rw [show (4 : Int32) + Int32.ofInt 1 = 5 by decide]
  refine ev_goto (tgt := 75) dX6_init_97 (by decide) ?_
  refine ev_iload_n dX6_init_75 rfl ?_
  refine ev_bipush (v := 7) dX6_init_76 (by decide) ?_
  refine ev_icmp_gt (tgt := 100) dX6_init_78 (by decide) (fun h => absurd h (by decide)) (fun _ => ?_)
  refine ev_aload_n dX6_init_81 rfl ?_
  refine bw_get (i := 12) (k := 4) hB (by decide) rfl dX6_init_82 flX6_25_6 rfl ?_
  refine ev_iload_n dX6_init_85 rfl ?_
  refine bw_new (ci := 10) (k := 6) (N := 24) (fs := [.int 0, .int 0, .int 0, .int 0, .int 0, .int 0]) hB dX6_init_86 rfl uwX10 tyX10_ok (mt1 112 rfl rfl) (mt1 79 rfl rfl) (mt1 3 rfl rfl) (fun j hj => by have q : j = 0 ∨ j = 1 ∨ j = 2 ∨ j = 3 ∨ j = 4 ∨ j = 5 := (by omega); rcases q with rfl | rfl | rfl | rfl | rfl | rfl <;> rfl) (N1 := 25) rfl (fun μ hB => ?_)
  refine ev_dup dX6_init_89 rfl ?_
  refine k_iN (c_iX10 (w := a + 24) ((hB.1 24 (by decide)).trans rfl)) (by decide) dX6_init_90 cbX10_init rfl (List.mem_of_getElem? (i := 2) rfl) (mt1 81 rfl rfl) (by decide) rfl rfl (Nat.le_of_ble_eq_true rfl) (fun v μ1 hq ↦ ?_)
  obtain ⟨rfl, hq⟩ := hq
  rename_i μz hBz
  have hB := BW.up hB (i := 24) (by decide) (obj 10 [.int 0, .int 0, .int 0, .int 0, .int 0, .int 1])
  rw [← hq] at hB
  clear hq
  simp only [Option.toList, List.cons_append, List.nil_append]
  refine bw_aast (i := 14) (j := 5) (v := 24) hB (by decide) (by decide) rfl rfl aok_w dX6_init_93 (ix_z (by decide) rfl) (Nat.le_of_ble_eq_true rfl) (fun μ hB => ?_)
  refine ev_iinc dX6_init_94 rfl (by decide) ?_
  dsimp only [List.set]
  rw [show (5 : Int32) + Int32.ofInt 1 = 6 by decide]
  refine ev_goto (tgt := 75) dX6_init_97 (by decide) ?_
  refine ev_iload_n dX6_init_75 rfl ?_
  refine ev_bipush (v := 7) dX6_init_76 (by decide) ?_
  refine ev_icmp_gt (tgt := 100) dX6_init_78 (by decide) (fun h => absurd h (by decide)) (fun _ => ?_)
  refine ev_aload_n dX6_init_81 rfl ?_
  refine bw_get (i := 12) (k := 4) hB (by decide) rfl dX6_init_82 flX6_25_6 rfl ?_
  refine ev_iload_n dX6_init_85 rfl ?_
  refine bw_new (ci := 10) (k := 6) (N := 25) (fs := [.int 0, .int 0, .int 0, .int 0, .int 0, .int 0]) hB dX6_init_86 rfl uwX10 tyX10_ok (mt1 112 rfl rfl) (mt1 79 rfl rfl) (mt1 3 rfl rfl) (fun j hj => by have q : j = 0 ∨ j = 1 ∨ j = 2 ∨ j = 3 ∨ j = 4 ∨ j = 5 := (by omega); rcases q with rfl | rfl | rfl | rfl | rfl | rfl <;> rfl) (N1 := 26) rfl (fun μ hB => ?_)
  refine ev_dup dX6_init_89 rfl ?_
  refine k_iN (c_iX10 (w := a + 25) ((hB.1 25 (by decide)).trans rfl)) (by decide) dX6_init_90 cbX10_init rfl (List.mem_of_getElem? (i := 2) rfl) (mt1 81 rfl rfl) (by decide) rfl rfl (Nat.le_of_ble_eq_true rfl) (fun v μ1 hq ↦ ?_)
  obtain ⟨rfl, hq⟩ := hq
  rename_i μz hBz
  have hB := BW.up hB (i := 25) (by decide) (obj 10 [.int 0, .int 0, .int 0, .int 0, .int 0, .int 1])
  rw [← hq] at hB
  clear hq
  simp only [Option.toList, List.cons_append, List.nil_append]
  refine bw_aast (i := 14) (j := 6) (v := 25) hB (by decide) (by decide) rfl rfl aok_w dX6_init_93 (ix_z (by decide) rfl) (Nat.le_of_ble_eq_true rfl) (fun μ hB => ?_)
  refine ev_iinc dX6_init_94 rfl (by decide) ?_
  dsimp only [List.set]
  rw [show (6 : Int32) + Int32.ofInt 1 = 7 by decide]
  refine ev_goto (tgt := 75) dX6_init_97 (by decide) ?_
  refine ev_iload_n dX6_init_75 rfl ?_
  refine ev_bipush (v := 7) dX6_init_76 (by decide) ?_
  refine ev_icmp_gt (tgt := 100) dX6_init_78 (by decide) (fun h => absurd h (by decide)) (fun _ => ?_)
  refine ev_aload_n dX6_init_81 rfl ?_
  refine bw_get (i := 12) (k := 4) hB (by decide) rfl dX6_init_82 flX6_25_6 rfl ?_
  refine ev_iload_n dX6_init_85 rfl ?_
  refine bw_new (ci := 10) (k := 6) (N := 26) (fs := [.int 0, .int 0, .int 0, .int 0, .int 0, .int 0]) hB dX6_init_86 rfl uwX10 tyX10_ok (mt1 112 rfl rfl) (mt1 79 rfl rfl) (mt1 3 rfl rfl) (fun j hj => by have q : j = 0 ∨ j = 1 ∨ j = 2 ∨ j = 3 ∨ j = 4 ∨ j = 5 := (by omega); rcases q with rfl | rfl | rfl | rfl | rfl | rfl <;> rfl) (N1 := 27) rfl (fun μ hB => ?_)
  refine ev_dup dX6_init_89 rfl ?_
  refine k_iN (c_iX10 (w := a + 26) ((hB.1 26 (by decide)).trans rfl)) (by decide) dX6_init_90 cbX10_init rfl (List.mem_of_getElem? (i := 2) rfl) (mt1 81 rfl rfl) (by decide) rfl rfl (Nat.le_of_ble_eq_true rfl) (fun v μ1 hq ↦ ?_)
  obtain ⟨rfl, hq⟩ := hq
  rename_i μz hBz
  have hB := BW.up hB (i := 26) (by decide) (obj 10 [.int 0, .int 0, .int 0, .int 0, .int 0, .int 1])
  rw [← hq] at hB
  clear hq
  simp only [Option.toList, List.cons_append, List.nil_append]
  refine bw_aast (i := 14) (j := 7) (v := 26) hB (by decide) (by decide) rfl rfl aok_w dX6_init_93 (ix_z (by decide) rfl) (Nat.le_of_ble_eq_true rfl) (fun μ hB => ?_)
  refine ev_iinc dX6_init_94 rfl (by decide) ?_
  dsimp only [List.set]
  rw [show (7 : Int32) + Int32.ofInt 1 = 8 by decide]
  refine ev_goto (tgt := 75) dX6_init_97 (by decide) ?_
  refine ev_iload_n dX6_init_75 rfl ?_
  refine ev_bipush (v := 7) dX6_init_76 (by decide) ?_
  refine ev_icmp_gt (tgt := 100) dX6_init_78 (by decide) (fun _ => ?_) (fun h => absurd (by decide) h)
  refine ev_iload_n dX6_init_100 rfl ?_
  refine ev_if_ne (tgt := 108) dX6_init_101 (by decide) (fun h => absurd (by decide) h) (fun _ => ?_)
  refine ev_iconst (v := 0) dX6_init_104 (by decide) ?_
  refine ev_goto (tgt := 111) dX6_init_105 (by decide) ?_
  refine ev_istore_n dX6_init_111 (by decide) ?_
  dsimp only [List.set]
  refine ev_aload_n dX6_init_112 rfl ?_
  refine ev_iload_n dX6_init_113 rfl ?_
  refine bw_newa (k := 0) (N := 27) hB dX6_init_114 (ix_z (by decide) rfl) (by decide) (N1 := 28) rfl (fun μ hB => ?_)
  refine bw_putF (i := 12) (k := 7) hB (by decide) rfl dX6_init_116 fpX6_51_6 rfl (Nat.le_of_ble_eq_true rfl) rfl rfl (fun μ hB => ?_)
  refine ev_aload_n dX6_init_119 rfl ?_
  refine ev_iload_n dX6_init_120 rfl ?_
  refine bw_newa (k := 0) (N := 28) hB dX6_init_121 (ix_z (by decide) rfl) (by decide) (N1 := 29) rfl (fun μ hB => ?_)
  refine bw_putF (i := 12) (k := 8) hB (by decide) rfl dX6_init_123 fpX6_54_6 rfl (Nat.le_of_ble_eq_true rfl) rfl rfl (fun μ hB => ?_)
  refine ev_vret dX6_init_126 rfl ?_
  refine ⟨rfl, _, fun j hj => ?_, hB⟩
  match j, hj with
    | 0, _ => rfl
    | 1, _ => rfl
    | 2, _ => rfl
    | 3, _ => rfl
    | 4, _ => rfl
    | 5, _ => rfl
    | 6, _ => rfl
    | 7, _ => rfl
    | 8, _ => rfl
    | 9, _ => rfl
    | 10, _ => rfl
    | 11, _ => rfl
    | 12, _ => rfl
    | 13, _ => rfl
    | 14, _ => rfl
    | 15, _ => rfl
    | 16, _ => rfl
    | 17, _ => rfl
    | 18, _ => rfl
    | 19, _ => rfl
    | 20, _ => rfl
    | 21, _ => rfl
    | 22, _ => rfl
    | 23, _ => rfl
    | 24, _ => rfl
    | 25, _ => rfl
    | 26, _ => rfl
    | 27, _ => rfl
    | 28, _ => rfl
    | k + 29, h => exact absurd h (by omega)
/-- the cells of a search at 29 -/
def c6_1 (a : Nat) (c : Nat → MC) : Nat → MC := fun j =>
  if j = 29 then obj 6 [.ref (a + 30), .int 0, .int 0, .int 1, .ref (a + 31), .ref (a + 32), .ref (a + 33), .ref (a + 44), .ref (a + 45), .ref (a + 34), .int 0, .ref (a + 35)]
  else if j = 30 then iar (List.replicate 7 0) else if j = 31 then rar 4 (kWl a 36) else if j = 32 then iar (List.replicate 7 0) else if j = 33 then iar (List.replicate 7 0) else if j = 34 then rar 1 [] else if j = 35 then iar (List.replicate 10 0)
  else if j = 44 then iar (List.replicate 756 0) else if j = 45 then iar (List.replicate 756 0) else if 36 ≤ j ∧ j < 44 then obj 10 [.int 0, .int 0, .int 0, .int 0, .int 0, .int 1] else c j
theorem c_iX6_1 (hB : BW a 30 (cst c 29 (obj 6 [.null, .int 0, .int 0, .int 0, .null, .null, .null, .null, .null, .null, .int 0, .null])) s μ0 μ) : Mt g 2 mX6_init [.ref (a + 29), .int 1] μ (fun v μ' => v = none ∧ ∃ c', (∀ j, j < 46 → c' j = c6_1 a c j) ∧ BW a 46 c' (s + 1599) μ0 μ') := by
  refine Mt.of0 (ls0 := [some (.ref (a + 29)), some (.int 1), none]) (by decide) (by simp [Value.category]) (Nat.le_of_ble_eq_true rfl) rfl ?_
  refine ev_aload_n dX6_init_0 rfl ?_
  refine ev_objInit dX6_init_1 (mt1 111 rfl rfl) (mt1 27 rfl rfl) (mt1 28 rfl rfl) (Nat.le_of_ble_eq_true rfl) ?_
  refine ev_aload_n dX6_init_4 rfl ?_
  refine ev_bipush (v := 7) dX6_init_5 (by decide) ?_
  refine bw_newa (k := 7) (N := 30) hB dX6_init_7 (ix_z (by decide) rfl) (by decide) (N1 := 31) rfl (fun μ hB => ?_)
  refine bw_putF (i := 29) (k := 0) hB (by decide) rfl dX6_init_9 fpX6_9_6 rfl (Nat.le_of_ble_eq_true rfl) rfl rfl (fun μ hB => ?_)
  refine ev_aload_n dX6_init_12 rfl ?_
  refine ev_iconst (v := 0) dX6_init_13 (by decide) ?_
  refine bw_put (i := 29) (k := 1) hB (by decide) rfl dX6_init_14 fpX6_15_6 (Nat.le_of_ble_eq_true rfl) rfl rfl (fun μ hB => ?_)
  refine ev_aload_n dX6_init_17 rfl ?_
  refine ev_iconst (v := 0) dX6_init_18 (by decide) ?_
  refine bw_put (i := 29) (k := 2) hB (by decide) rfl dX6_init_19 fpX6_19_6 (Nat.le_of_ble_eq_true rfl) rfl rfl (fun μ hB => ?_)
  refine ev_aload_n dX6_init_22 rfl ?_
  refine ev_bipush (v := 8) dX6_init_23 (by decide) ?_
  refine bw_anew (k := 8) (N := 31) (t := 4) (E := RX10) hB dX6_init_25 ⟨(mt1 112 rfl rfl), by decide, fun _ => rfl⟩ (ix_z (by decide) rfl) (by decide) (N1 := 32) rfl (fun μ hB => ?_)
  refine bw_putF (i := 29) (k := 4) hB (by decide) rfl dX6_init_28 fpX6_25_6 rfl (Nat.le_of_ble_eq_true rfl) rfl rfl (fun μ hB => ?_)
  refine ev_aload_n dX6_init_31 rfl ?_
  refine ev_bipush (v := 7) dX6_init_32 (by decide) ?_
  refine bw_newa (k := 7) (N := 32) hB dX6_init_34 (ix_z (by decide) rfl) (by decide) (N1 := 33) rfl (fun μ hB => ?_)
  refine bw_putF (i := 29) (k := 5) hB (by decide) rfl dX6_init_36 fpX6_29_6 rfl (Nat.le_of_ble_eq_true rfl) rfl rfl (fun μ hB => ?_)
  refine ev_aload_n dX6_init_39 rfl ?_
  refine ev_bipush (v := 7) dX6_init_40 (by decide) ?_
  refine bw_newa (k := 7) (N := 33) hB dX6_init_42 (ix_z (by decide) rfl) (by decide) (N1 := 34) rfl (fun μ hB => ?_)
  refine bw_putF (i := 29) (k := 6) hB (by decide) rfl dX6_init_44 fpX6_32_6 rfl (Nat.le_of_ble_eq_true rfl) rfl rfl (fun μ hB => ?_)
  refine ev_aload_n dX6_init_47 rfl ?_
  refine ev_iconst (v := 0) dX6_init_48 (by decide) ?_
  refine bw_anew (k := 0) (N := 34) (t := 1) (E := RX2) hB dX6_init_49 ⟨(mt1 114 rfl rfl), by decide, fun _ => rfl⟩ (ix_z (by decide) rfl) (by decide) (N1 := 35) rfl (fun μ hB => ?_)
  refine bw_put (i := 29) (k := 9) hB (by decide) rfl dX6_init_52 fpX6_37_6 (Nat.le_of_ble_eq_true rfl) rfl rfl (fun μ hB => ?_)
  refine ev_aload_n dX6_init_55 rfl ?_
  refine ev_iconst (v := 0) dX6_init_56 (by decide) ?_
  refine bw_put (i := 29) (k := 10) hB (by decide) rfl dX6_init_57 fpX6_41_6 (Nat.le_of_ble_eq_true rfl) rfl rfl (fun μ hB => ?_)
  refine ev_aload_n dX6_init_60 rfl ?_
  refine ev_bipush (v := 10) dX6_init_61 (by decide) ?_
  refine bw_newa (k := 10) (N := 35) hB dX6_init_63 (ix_z (by decide) rfl) (by decide) (N1 := 36) rfl (fun μ hB => ?_)
  refine bw_put (i := 29) (k := 11) hB (by decide) rfl dX6_init_65 fpX6_44_6 (Nat.le_of_ble_eq_true rfl) rfl rfl (fun μ hB => ?_)
  refine ev_aload_n dX6_init_68 rfl ?_
  refine ev_iload_n dX6_init_69 rfl ?_
  refine bw_putF (i := 29) (k := 3) hB (by decide) rfl dX6_init_70 fpX6_47_6 rfl (Nat.le_of_ble_eq_true rfl) rfl rfl (fun μ hB => ?_)
  refine ev_iconst (v := 0) dX6_init_73 (by decide) ?_
  refine ev_istore_n dX6_init_74 (by decide) ?_
  dsimp only [List.set]
  refine ev_iload_n dX6_init_75 rfl ?_
  refine ev_bipush (v := 7) dX6_init_76 (by decide) ?_
  refine ev_icmp_gt (tgt := 100) dX6_init_78 (by decide) (fun h => absurd h (by decide)) (fun _ => ?_)
  refine ev_aload_n dX6_init_81 rfl ?_
  refine bw_get (i := 29) (k := 4) hB (by decide) rfl dX6_init_82 flX6_25_6 rfl ?_
  refine ev_iload_n dX6_init_85 rfl ?_
  refine bw_new (ci := 10) (k := 6) (N := 36) (fs := [.int 0, .int 0, .int 0, .int 0, .int 0, .int 0]) hB dX6_init_86 rfl uwX10 tyX10_ok (mt1 112 rfl rfl) (mt1 79 rfl rfl) (mt1 3 rfl rfl) (fun j hj => by have q : j = 0 ∨ j = 1 ∨ j = 2 ∨ j = 3 ∨ j = 4 ∨ j = 5 := (by omega); rcases q with rfl | rfl | rfl | rfl | rfl | rfl <;> rfl) (N1 := 37) rfl (fun μ hB => ?_)
  refine ev_dup dX6_init_89 rfl ?_
  refine k_iN (c_iX10 (w := a + 36) ((hB.1 36 (by decide)).trans rfl)) (by decide) dX6_init_90 cbX10_init rfl (List.mem_of_getElem? (i := 2) rfl) (mt1 81 rfl rfl) (by decide) rfl rfl (Nat.le_of_ble_eq_true rfl) (fun v μ1 hq ↦ ?_)
  obtain ⟨rfl, hq⟩ := hq
  rename_i μz hBz
  have hB := BW.up hB (i := 36) (by decide) (obj 10 [.int 0, .int 0, .int 0, .int 0, .int 0, .int 1])
  rw [← hq] at hB
  clear hq
  simp only [Option.toList, List.cons_append, List.nil_append]
  refine bw_aast (i := 31) (j := 0) (v := 36) hB (by decide) (by decide) rfl rfl aok_w dX6_init_93 (ix_z (by decide) rfl) (Nat.le_of_ble_eq_true rfl) (fun μ hB => ?_)
  refine ev_iinc dX6_init_94 rfl (by decide) ?_
  dsimp only [List.set]
  rw [show (0 : Int32) + Int32.ofInt 1 = 1 by decide]
  refine ev_goto (tgt := 75) dX6_init_97 (by decide) ?_
  refine ev_iload_n dX6_init_75 rfl ?_
  refine ev_bipush (v := 7) dX6_init_76 (by decide) ?_
  refine ev_icmp_gt (tgt := 100) dX6_init_78 (by decide) (fun h => absurd h (by decide)) (fun _ => ?_)
  refine ev_aload_n dX6_init_81 rfl ?_
  refine bw_get (i := 29) (k := 4) hB (by decide) rfl dX6_init_82 flX6_25_6 rfl ?_
  refine ev_iload_n dX6_init_85 rfl ?_
  refine bw_new (ci := 10) (k := 6) (N := 37) (fs := [.int 0, .int 0, .int 0, .int 0, .int 0, .int 0]) hB dX6_init_86 rfl uwX10 tyX10_ok (mt1 112 rfl rfl) (mt1 79 rfl rfl) (mt1 3 rfl rfl) (fun j hj => by have q : j = 0 ∨ j = 1 ∨ j = 2 ∨ j = 3 ∨ j = 4 ∨ j = 5 := (by omega); rcases q with rfl | rfl | rfl | rfl | rfl | rfl <;> rfl) (N1 := 38) rfl (fun μ hB => ?_)
  refine ev_dup dX6_init_89 rfl ?_
  refine k_iN (c_iX10 (w := a + 37) ((hB.1 37 (by decide)).trans rfl)) (by decide) dX6_init_90 cbX10_init rfl (List.mem_of_getElem? (i := 2) rfl) (mt1 81 rfl rfl) (by decide) rfl rfl (Nat.le_of_ble_eq_true rfl) (fun v μ1 hq ↦ ?_)
  obtain ⟨rfl, hq⟩ := hq
  rename_i μz hBz
  have hB := BW.up hB (i := 37) (by decide) (obj 10 [.int 0, .int 0, .int 0, .int 0, .int 0, .int 1])
  rw [← hq] at hB
  clear hq
  simp only [Option.toList, List.cons_append, List.nil_append]
  refine bw_aast (i := 31) (j := 1) (v := 37) hB (by decide) (by decide) rfl rfl aok_w dX6_init_93 (ix_z (by decide) rfl) (Nat.le_of_ble_eq_true rfl) (fun μ hB => ?_)
  refine ev_iinc dX6_init_94 rfl (by decide) ?_
  dsimp only [List.set]
  rw [show (1 : Int32) + Int32.ofInt 1 = 2 by decide]
  refine ev_goto (tgt := 75) dX6_init_97 (by decide) ?_
  refine ev_iload_n dX6_init_75 rfl ?_
  refine ev_bipush (v := 7) dX6_init_76 (by decide) ?_
  refine ev_icmp_gt (tgt := 100) dX6_init_78 (by decide) (fun h => absurd h (by decide)) (fun _ => ?_)
  refine ev_aload_n dX6_init_81 rfl ?_
  refine bw_get (i := 29) (k := 4) hB (by decide) rfl dX6_init_82 flX6_25_6 rfl ?_
  refine ev_iload_n dX6_init_85 rfl ?_
  refine bw_new (ci := 10) (k := 6) (N := 38) (fs := [.int 0, .int 0, .int 0, .int 0, .int 0, .int 0]) hB dX6_init_86 rfl uwX10 tyX10_ok (mt1 112 rfl rfl) (mt1 79 rfl rfl) (mt1 3 rfl rfl) (fun j hj => by have q : j = 0 ∨ j = 1 ∨ j = 2 ∨ j = 3 ∨ j = 4 ∨ j = 5 := (by omega); rcases q with rfl | rfl | rfl | rfl | rfl | rfl <;> rfl) (N1 := 39) rfl (fun μ hB => ?_)
  refine ev_dup dX6_init_89 rfl ?_
  refine k_iN (c_iX10 (w := a + 38) ((hB.1 38 (by decide)).trans rfl)) (by decide) dX6_init_90 cbX10_init rfl (List.mem_of_getElem? (i := 2) rfl) (mt1 81 rfl rfl) (by decide) rfl rfl (Nat.le_of_ble_eq_true rfl) (fun v μ1 hq ↦ ?_)
  obtain ⟨rfl, hq⟩ := hq
  rename_i μz hBz
  have hB := BW.up hB (i := 38) (by decide) (obj 10 [.int 0, .int 0, .int 0, .int 0, .int 0, .int 1])
  rw [← hq] at hB
  clear hq
  simp only [Option.toList, List.cons_append, List.nil_append]
  refine bw_aast (i := 31) (j := 2) (v := 38) hB (by decide) (by decide) rfl rfl aok_w dX6_init_93 (ix_z (by decide) rfl) (Nat.le_of_ble_eq_true rfl) (fun μ hB => ?_)
  refine ev_iinc dX6_init_94 rfl (by decide) ?_
  dsimp only [List.set]
  rw [show (2 : Int32) + Int32.ofInt 1 = 3 by decide]
  refine ev_goto (tgt := 75) dX6_init_97 (by decide) ?_
  refine ev_iload_n dX6_init_75 rfl ?_
  refine ev_bipush (v := 7) dX6_init_76 (by decide) ?_
  refine ev_icmp_gt (tgt := 100) dX6_init_78 (by decide) (fun h => absurd h (by decide)) (fun _ => ?_)
  refine ev_aload_n dX6_init_81 rfl ?_
  refine bw_get (i := 29) (k := 4) hB (by decide) rfl dX6_init_82 flX6_25_6 rfl ?_
  refine ev_iload_n dX6_init_85 rfl ?_
  refine bw_new (ci := 10) (k := 6) (N := 39) (fs := [.int 0, .int 0, .int 0, .int 0, .int 0, .int 0]) hB dX6_init_86 rfl uwX10 tyX10_ok (mt1 112 rfl rfl) (mt1 79 rfl rfl) (mt1 3 rfl rfl) (fun j hj => by have q : j = 0 ∨ j = 1 ∨ j = 2 ∨ j = 3 ∨ j = 4 ∨ j = 5 := (by omega); rcases q with rfl | rfl | rfl | rfl | rfl | rfl <;> rfl) (N1 := 40) rfl (fun μ hB => ?_)
  refine ev_dup dX6_init_89 rfl ?_
  refine k_iN (c_iX10 (w := a + 39) ((hB.1 39 (by decide)).trans rfl)) (by decide) dX6_init_90 cbX10_init rfl (List.mem_of_getElem? (i := 2) rfl) (mt1 81 rfl rfl) (by decide) rfl rfl (Nat.le_of_ble_eq_true rfl) (fun v μ1 hq ↦ ?_)
  obtain ⟨rfl, hq⟩ := hq
  rename_i μz hBz
  have hB := BW.up hB (i := 39) (by decide) (obj 10 [.int 0, .int 0, .int 0, .int 0, .int 0, .int 1])
  rw [← hq] at hB
  clear hq
  simp only [Option.toList, List.cons_append, List.nil_append]
  refine bw_aast (i := 31) (j := 3) (v := 39) hB (by decide) (by decide) rfl rfl aok_w dX6_init_93 (ix_z (by decide) rfl) (Nat.le_of_ble_eq_true rfl) (fun μ hB => ?_)
  refine ev_iinc dX6_init_94 rfl (by decide) ?_
  dsimp only [List.set]
  rw [show (3 : Int32) + Int32.ofInt 1 = 4 by decide]
  refine ev_goto (tgt := 75) dX6_init_97 (by decide) ?_
  refine ev_iload_n dX6_init_75 rfl ?_
  refine ev_bipush (v := 7) dX6_init_76 (by decide) ?_
  refine ev_icmp_gt (tgt := 100) dX6_init_78 (by decide) (fun h => absurd h (by decide)) (fun _ => ?_)
  refine ev_aload_n dX6_init_81 rfl ?_
  refine bw_get (i := 29) (k := 4) hB (by decide) rfl dX6_init_82 flX6_25_6 rfl ?_
  refine ev_iload_n dX6_init_85 rfl ?_
  refine bw_new (ci := 10) (k := 6) (N := 40) (fs := [.int 0, .int 0, .int 0, .int 0, .int 0, .int 0]) hB dX6_init_86 rfl uwX10 tyX10_ok (mt1 112 rfl rfl) (mt1 79 rfl rfl) (mt1 3 rfl rfl) (fun j hj => by have q : j = 0 ∨ j = 1 ∨ j = 2 ∨ j = 3 ∨ j = 4 ∨ j = 5 := (by omega); rcases q with rfl | rfl | rfl | rfl | rfl | rfl <;> rfl) (N1 := 41) rfl (fun μ hB => ?_)
  refine ev_dup dX6_init_89 rfl ?_
  refine k_iN (c_iX10 (w := a + 40) ((hB.1 40 (by decide)).trans rfl)) (by decide) dX6_init_90 cbX10_init rfl (List.mem_of_getElem? (i := 2) rfl) (mt1 81 rfl rfl) (by decide) rfl rfl (Nat.le_of_ble_eq_true rfl) (fun v μ1 hq ↦ ?_)
  obtain ⟨rfl, hq⟩ := hq
  rename_i μz hBz
  have hB := BW.up hB (i := 40) (by decide) (obj 10 [.int 0, .int 0, .int 0, .int 0, .int 0, .int 1])
  rw [← hq] at hB
  clear hq
  simp only [Option.toList, List.cons_append, List.nil_append]
  refine bw_aast (i := 31) (j := 4) (v := 40) hB (by decide) (by decide) rfl rfl aok_w dX6_init_93 (ix_z (by decide) rfl) (Nat.le_of_ble_eq_true rfl) (fun μ hB => ?_)
  refine ev_iinc dX6_init_94 rfl (by decide) ?_
  dsimp only [List.set]
  rw [show (4 : Int32) + Int32.ofInt 1 = 5 by decide]
  refine ev_goto (tgt := 75) dX6_init_97 (by decide) ?_
  refine ev_iload_n dX6_init_75 rfl ?_
  refine ev_bipush (v := 7) dX6_init_76 (by decide) ?_
  refine ev_icmp_gt (tgt := 100) dX6_init_78 (by decide) (fun h => absurd h (by decide)) (fun _ => ?_)
  refine ev_aload_n dX6_init_81 rfl ?_
  refine bw_get (i := 29) (k := 4) hB (by decide) rfl dX6_init_82 flX6_25_6 rfl ?_
  refine ev_iload_n dX6_init_85 rfl ?_
  refine bw_new (ci := 10) (k := 6) (N := 41) (fs := [.int 0, .int 0, .int 0, .int 0, .int 0, .int 0]) hB dX6_init_86 rfl uwX10 tyX10_ok (mt1 112 rfl rfl) (mt1 79 rfl rfl) (mt1 3 rfl rfl) (fun j hj => by have q : j = 0 ∨ j = 1 ∨ j = 2 ∨ j = 3 ∨ j = 4 ∨ j = 5 := (by omega); rcases q with rfl | rfl | rfl | rfl | rfl | rfl <;> rfl) (N1 := 42) rfl (fun μ hB => ?_)
  refine ev_dup dX6_init_89 rfl ?_
  refine k_iN (c_iX10 (w := a + 41) ((hB.1 41 (by decide)).trans rfl)) (by decide) dX6_init_90 cbX10_init rfl (List.mem_of_getElem? (i := 2) rfl) (mt1 81 rfl rfl) (by decide) rfl rfl (Nat.le_of_ble_eq_true rfl) (fun v μ1 hq ↦ ?_)
  obtain ⟨rfl, hq⟩ := hq
  rename_i μz hBz
  have hB := BW.up hB (i := 41) (by decide) (obj 10 [.int 0, .int 0, .int 0, .int 0, .int 0, .int 1])
  rw [← hq] at hB
  clear hq
  simp only [Option.toList, List.cons_append, List.nil_append]
  refine bw_aast (i := 31) (j := 5) (v := 41) hB (by decide) (by decide) rfl rfl aok_w dX6_init_93 (ix_z (by decide) rfl) (Nat.le_of_ble_eq_true rfl) (fun μ hB => ?_)
  refine ev_iinc dX6_init_94 rfl (by decide) ?_
  dsimp only [List.set]
  rw [show (5 : Int32) + Int32.ofInt 1 = 6 by decide]
  refine ev_goto (tgt := 75) dX6_init_97 (by decide) ?_
  refine ev_iload_n dX6_init_75 rfl ?_
  refine ev_bipush (v := 7) dX6_init_76 (by decide) ?_
  refine ev_icmp_gt (tgt := 100) dX6_init_78 (by decide) (fun h => absurd h (by decide)) (fun _ => ?_)
  refine ev_aload_n dX6_init_81 rfl ?_
  refine bw_get (i := 29) (k := 4) hB (by decide) rfl dX6_init_82 flX6_25_6 rfl ?_
  refine ev_iload_n dX6_init_85 rfl ?_
  refine bw_new (ci := 10) (k := 6) (N := 42) (fs := [.int 0, .int 0, .int 0, .int 0, .int 0, .int 0]) hB dX6_init_86 rfl uwX10 tyX10_ok (mt1 112 rfl rfl) (mt1 79 rfl rfl) (mt1 3 rfl rfl) (fun j hj => by have q : j = 0 ∨ j = 1 ∨ j = 2 ∨ j = 3 ∨ j = 4 ∨ j = 5 := (by omega); rcases q with rfl | rfl | rfl | rfl | rfl | rfl <;> rfl) (N1 := 43) rfl (fun μ hB => ?_)
  refine ev_dup dX6_init_89 rfl ?_
  refine k_iN (c_iX10 (w := a + 42) ((hB.1 42 (by decide)).trans rfl)) (by decide) dX6_init_90 cbX10_init rfl (List.mem_of_getElem? (i := 2) rfl) (mt1 81 rfl rfl) (by decide) rfl rfl (Nat.le_of_ble_eq_true rfl) (fun v μ1 hq ↦ ?_)
  obtain ⟨rfl, hq⟩ := hq
  rename_i μz hBz
  have hB := BW.up hB (i := 42) (by decide) (obj 10 [.int 0, .int 0, .int 0, .int 0, .int 0, .int 1])
  rw [← hq] at hB
  clear hq
  simp only [Option.toList, List.cons_append, List.nil_append]
  refine bw_aast (i := 31) (j := 6) (v := 42) hB (by decide) (by decide) rfl rfl aok_w dX6_init_93 (ix_z (by decide) rfl) (Nat.le_of_ble_eq_true rfl) (fun μ hB => ?_)
  refine ev_iinc dX6_init_94 rfl (by decide) ?_
  dsimp only [List.set]
  rw [show (6 : Int32) + Int32.ofInt 1 = 7 by decide]
  refine ev_goto (tgt := 75) dX6_init_97 (by decide) ?_
  refine ev_iload_n dX6_init_75 rfl ?_
  refine ev_bipush (v := 7) dX6_init_76 (by decide) ?_
  refine ev_icmp_gt (tgt := 100) dX6_init_78 (by decide) (fun h => absurd h (by decide)) (fun _ => ?_)
  refine ev_aload_n dX6_init_81 rfl ?_
  refine bw_get (i := 29) (k := 4) hB (by decide) rfl dX6_init_82 flX6_25_6 rfl ?_
  refine ev_iload_n dX6_init_85 rfl ?_
  refine bw_new (ci := 10) (k := 6) (N := 43) (fs := [.int 0, .int 0, .int 0, .int 0, .int 0, .int 0]) hB dX6_init_86 rfl uwX10 tyX10_ok (mt1 112 rfl rfl) (mt1 79 rfl rfl) (mt1 3 rfl rfl) (fun j hj => by have q : j = 0 ∨ j = 1 ∨ j = 2 ∨ j = 3 ∨ j = 4 ∨ j = 5 := (by omega); rcases q with rfl | rfl | rfl | rfl | rfl | rfl <;> rfl) (N1 := 44) rfl (fun μ hB => ?_)
  refine ev_dup dX6_init_89 rfl ?_
  refine k_iN (c_iX10 (w := a + 43) ((hB.1 43 (by decide)).trans rfl)) (by decide) dX6_init_90 cbX10_init rfl (List.mem_of_getElem? (i := 2) rfl) (mt1 81 rfl rfl) (by decide) rfl rfl (Nat.le_of_ble_eq_true rfl) (fun v μ1 hq ↦ ?_)
  obtain ⟨rfl, hq⟩ := hq
  rename_i μz hBz
  have hB := BW.up hB (i := 43) (by decide) (obj 10 [.int 0, .int 0, .int 0, .int 0, .int 0, .int 1])
  rw [← hq] at hB
  clear hq
  simp only [Option.toList, List.cons_append, List.nil_append]
  refine bw_aast (i := 31) (j := 7) (v := 43) hB (by decide) (by decide) rfl rfl aok_w dX6_init_93 (ix_z (by decide) rfl) (Nat.le_of_ble_eq_true rfl) (fun μ hB => ?_)
  refine ev_iinc dX6_init_94 rfl (by decide) ?_
  dsimp only [List.set]
  rw [show (7 : Int32) + Int32.ofInt 1 = 8 by decide]
  refine ev_goto (tgt := 75) dX6_init_97 (by decide) ?_
  refine ev_iload_n dX6_init_75 rfl ?_
  refine ev_bipush (v := 7) dX6_init_76 (by decide) ?_
  refine ev_icmp_gt (tgt := 100) dX6_init_78 (by decide) (fun _ => ?_) (fun h => absurd (by decide) h)
  refine ev_iload_n dX6_init_100 rfl ?_
  refine ev_if_ne (tgt := 108) dX6_init_101 (by decide) (fun _ => ?_) (fun h => absurd h (by decide))
  refine ev_sipush (v := 756) dX6_init_108 (by decide) ?_
  refine ev_istore_n dX6_init_111 (by decide) ?_
  dsimp only [List.set]
  refine ev_aload_n dX6_init_112 rfl ?_
  refine ev_iload_n dX6_init_113 rfl ?_
  refine bw_newa (k := 756) (N := 44) hB dX6_init_114 (ix_z (by decide) rfl) (by decide) (N1 := 45) rfl (fun μ hB => ?_)
  refine bw_putF (i := 29) (k := 7) hB (by decide) rfl dX6_init_116 fpX6_51_6 rfl (Nat.le_of_ble_eq_true rfl) rfl rfl (fun μ hB => ?_)
  refine ev_aload_n dX6_init_119 rfl ?_
  refine ev_iload_n dX6_init_120 rfl ?_
  refine bw_newa (k := 756) (N := 45) hB dX6_init_121 (ix_z (by decide) rfl) (by decide) (N1 := 46) rfl (fun μ hB => ?_)
  refine bw_putF (i := 29) (k := 8) hB (by decide) rfl dX6_init_123 fpX6_54_6 rfl (Nat.le_of_ble_eq_true rfl) rfl rfl (fun μ hB => ?_)
  refine ev_vret dX6_init_126 rfl ?_
  refine ⟨rfl, _, fun j hj => ?_, hB⟩
  match j, hj with
    | 0, _ => rfl
    | 1, _ => rfl
    | 2, _ => rfl
    | 3, _ => rfl
    | 4, _ => rfl
    | 5, _ => rfl
    | 6, _ => rfl
    | 7, _ => rfl
    | 8, _ => rfl
    | 9, _ => rfl
    | 10, _ => rfl
    | 11, _ => rfl
    | 12, _ => rfl
    | 13, _ => rfl
    | 14, _ => rfl
    | 15, _ => rfl
    | 16, _ => rfl
    | 17, _ => rfl
    | 18, _ => rfl
    | 19, _ => rfl
    | 20, _ => rfl
    | 21, _ => rfl
    | 22, _ => rfl
    | 23, _ => rfl
    | 24, _ => rfl
    | 25, _ => rfl
    | 26, _ => rfl
    | 27, _ => rfl
    | 28, _ => rfl
    | 29, _ => rfl
    | 30, _ => rfl
    | 31, _ => rfl
    | 32, _ => rfl
    | 33, _ => rfl
    | 34, _ => rfl
    | 35, _ => rfl
    | 36, _ => rfl
    | 37, _ => rfl
    | 38, _ => rfl
    | 39, _ => rfl
    | 40, _ => rfl
    | 41, _ => rfl
    | 42, _ => rfl
    | 43, _ => rfl
    | 44, _ => rfl
    | 45, _ => rfl
    | k + 46, h => exact absurd h (by omega)
end KINIT6
