/-! ===== the reference: set, told, count, thrownBy ===== -/
def opSet (ρ : MS) (n : Nat) (h w v : Int32) : Int32 × MS :=
  if ((0 ≤ h ∧ h < nI n) ∧ 0 ≤ w ∧ w ≤ 3) ∧ 0 ≤ v ∧ v ≤ (if w = 0 then 9 else if w = 1 then 99 else if w = 2 then 1 else 3) then
    (if w = 0 then ((ρ.1 1).getD h.toInt.toNat 0, setA ρ 1 ((ρ.1 1).set h.toInt.toNat v)) else if w = 1 then ((ρ.1 2).getD h.toInt.toNat 0, setA ρ 2 ((ρ.1 2).set h.toInt.toNat v)) else if w = 2 then ((ρ.1 3).getD h.toInt.toNat 0, setA ρ 3 ((ρ.1 3).set h.toInt.toNat v)) else ((ρ.1 4).getD h.toInt.toNat 0, setA ρ 4 ((ρ.1 4).set h.toInt.toNat v)))
  else (-2, ρ)
/-- the first place of the list at which h stands -/
def plc (Lf : Nat → Nat) (h : Nat) : Nat → Nat → Nat
  | 0, k => k
  | m + 1, k => if Lf k = h then k else plc Lf h m (k + 1)
def ansTold (ρ : MS) (n t : Nat) (cd : Nat → List Int32) (Lf : Nat → Nat) (h w : Int32) : Int32 :=
  if 0 ≤ h ∧ h < nI n then (if w = 0 then (ρ.1 1).getD h.toInt.toNat 0 else if w = 1 then (ρ.1 2).getD h.toInt.toNat 0 else if w = 2 then (ρ.1 3).getD h.toInt.toNat 0 else if w = 3 then (ρ.1 4).getD h.toInt.toNat 0 else if w = 4 then (ρ.1 0).getD h.toInt.toNat 0 else if w = 5 then nI (plc Lf h.toInt.toNat n 0) else if w = 6 then tks (Fc ρ) (Se ρ) h.toInt.toNat else if w = 7 then byv (Fc ρ) (Se ρ) (cdt t cd) h.toInt.toNat else -2) else -2
def ansCount (ρ : MS) (w : Int32) : Int32 := if 4 ≤ w ∧ w ≤ 13 then (ρ.1 6).getD (w.toInt.toNat - 4) 0 else if w = 0 then ρ.2 7 else if w = 1 then ρ.2 16 else if w = 2 then ρ.2 15 else if w = 3 then ρ.2 8 else -2
def rgtK (odds : Int32) : Nat → Int32 → Int32 → Int32
  | 0, _, s => s
  | m + 1, z, s => rgtK odds m (z * 1103515245 + 12345) (s + b2i ((((z * 1103515245 + 12345).toUInt32 >>> ((10 : Int32).toUInt32 &&& Int32.toUInt32 31)).toInt32) - ((((z * 1103515245 + 12345).toUInt32 >>> ((10 : Int32).toUInt32 &&& Int32.toUInt32 31)).toInt32) / 10 * 10) < odds))
def ansThrown (n : Nat) (seed odds : Int32) : Int32 := if 0 ≤ odds ∧ odds ≤ 10 then rgtK odds n seed 0 else -2
section MTOLD
variable {g : Gl} {μ : Mm} {b : Nat} {ρ : MS}
theorem l_set0 {ρ0 : MS} (hM : RM b ρ0 μ) (hL : ML ρ0) (hE : EqC ρ0 ρ) {i : Nat} (hi : i < 7) (v : Int32) : Ev g 1 mX12_set 60 [some (.ref b), some (.int (nI i)), some (.int 0), some (.int v), none] [] μ (fun r μ' => r = some (.int ((ρ.1 1).getD i 0)) ∧ MW b (setA ρ 1 ((ρ.1 1).set i v)) μ' ∧ FM b μ μ') := by
  have hF : FM b μ μ := FM.rf
  refine ev_iload_n dX12_set_60 rfl ?_
  refine ev_if_ne (tgt := 73) dX12_set_61 (by decide) (fun h61 => absurd (rfl) h61) (fun _ => ?_)
  refine ev_aload_n dX12_set_64 rfl ?_
  refine ev_get dX12_set_65 flX12_13_12 hM.1 rfl ?_
  refine ev_iload_n dX12_set_68 rfl ?_
  refine ev_iald dX12_set_69 (hM.a 1 2 (by decide)) (ix_n (by omega)) (rd hL (n := 7) (by decide) hi) ?_
  refine ev_goto (tgt := 107) dX12_set_70 (by decide) ?_
  refine ev_istore dX12_set_107 (by decide) ?_
  dsimp only [List.set]
  refine ev_iload_n dX12_set_109 rfl ?_
  refine ev_if_ne (tgt := 120) dX12_set_110 (by decide) (fun h110 => absurd (rfl) h110) (fun _ => ?_)
  refine ev_aload_n dX12_set_113 rfl ?_
  refine ev_get dX12_set_114 flX12_13_12 hM.1 rfl ?_
  refine ev_iload_n dX12_set_117 rfl ?_
  refine ev_iload_n dX12_set_118 rfl ?_
  refine evM_iast hM hF (k := 1) (o := 2) (by decide) dX12_set_119 (ix_n (by omega)) (by rw [hL.at (k := 1) (n := 7) (by decide)]; exact hi) (fun μ hM hF => ?_)
  refine ev_iload_n dX12_set_120 rfl ?_
  refine ev_iconst (v := 1) dX12_set_121 (by decide) ?_
  refine ev_icmp_ne (tgt := 132) dX12_set_122 (by decide) (fun _ => ?_) (fun h122 => absurd h122 ((by decide)))
  refine ev_iload_n dX12_set_132 rfl ?_
  refine ev_iconst (v := 2) dX12_set_133 (by decide) ?_
  refine ev_icmp_ne (tgt := 144) dX12_set_134 (by decide) (fun _ => ?_) (fun h134 => absurd h134 ((by decide)))
  refine ev_iload_n dX12_set_144 rfl ?_
  refine ev_iconst (v := 3) dX12_set_145 (by decide) ?_
  refine ev_icmp_ne (tgt := 156) dX12_set_146 (by decide) (fun _ => ?_) (fun h146 => absurd h146 ((by decide)))
  refine ev_iload dX12_set_156 rfl ?_
  refine ev_iret dX12_set_158 rfl ?_
  refine ⟨?_, ⟨_, hM, ML.setA hL List.length_set, ?_⟩, hF⟩
  · rw [hE.1 1 (by decide)]
  · rw [hE.1 1 (by decide)]; exact hE.cA
theorem l_set1 {ρ0 : MS} (hM : RM b ρ0 μ) (hL : ML ρ0) (hE : EqC ρ0 ρ) {i : Nat} (hi : i < 7) (v : Int32) : Ev g 1 mX12_set 60 [some (.ref b), some (.int (nI i)), some (.int 1), some (.int v), none] [] μ (fun r μ' => r = some (.int ((ρ.1 2).getD i 0)) ∧ MW b (setA ρ 2 ((ρ.1 2).set i v)) μ' ∧ FM b μ μ') := by
  have hF : FM b μ μ := FM.rf
  refine ev_iload_n dX12_set_60 rfl ?_
  refine ev_if_ne (tgt := 73) dX12_set_61 (by decide) (fun _ => ?_) (fun h61 => absurd h61 ((by decide)))
  refine ev_iload_n dX12_set_73 rfl ?_
  refine ev_iconst (v := 1) dX12_set_74 (by decide) ?_
  refine ev_icmp_ne (tgt := 87) dX12_set_75 (by decide) (fun h75 => absurd (rfl) h75) (fun _ => ?_)
  refine ev_aload_n dX12_set_78 rfl ?_
  refine ev_get dX12_set_79 flX12_16_12 hM.1 rfl ?_
  refine ev_iload_n dX12_set_82 rfl ?_
  refine ev_iald dX12_set_83 (hM.a 2 3 (by decide)) (ix_n (by omega)) (rd hL (n := 7) (by decide) hi) ?_
  refine ev_goto (tgt := 107) dX12_set_84 (by decide) ?_
  refine ev_istore dX12_set_107 (by decide) ?_
  dsimp only [List.set]
  refine ev_iload_n dX12_set_109 rfl ?_
  refine ev_if_ne (tgt := 120) dX12_set_110 (by decide) (fun _ => ?_) (fun h110 => absurd h110 ((by decide)))
  refine ev_iload_n dX12_set_120 rfl ?_
  refine ev_iconst (v := 1) dX12_set_121 (by decide) ?_
  refine ev_icmp_ne (tgt := 132) dX12_set_122 (by decide) (fun h122 => absurd (rfl) h122) (fun _ => ?_)
  refine ev_aload_n dX12_set_125 rfl ?_
  refine ev_get dX12_set_126 flX12_16_12 hM.1 rfl ?_
  refine ev_iload_n dX12_set_129 rfl ?_
  refine ev_iload_n dX12_set_130 rfl ?_
  refine evM_iast hM hF (k := 2) (o := 3) (by decide) dX12_set_131 (ix_n (by omega)) (by rw [hL.at (k := 2) (n := 7) (by decide)]; exact hi) (fun μ hM hF => ?_)
  refine ev_iload_n dX12_set_132 rfl ?_
  refine ev_iconst (v := 2) dX12_set_133 (by decide) ?_
  refine ev_icmp_ne (tgt := 144) dX12_set_134 (by decide) (fun _ => ?_) (fun h134 => absurd h134 ((by decide)))
  refine ev_iload_n dX12_set_144 rfl ?_
  refine ev_iconst (v := 3) dX12_set_145 (by decide) ?_
  refine ev_icmp_ne (tgt := 156) dX12_set_146 (by decide) (fun _ => ?_) (fun h146 => absurd h146 ((by decide)))
  refine ev_iload dX12_set_156 rfl ?_
  refine ev_iret dX12_set_158 rfl ?_
  refine ⟨?_, ⟨_, hM, ML.setA hL List.length_set, ?_⟩, hF⟩
  · rw [hE.1 2 (by decide)]
  · rw [hE.1 2 (by decide)]; exact hE.cA
theorem l_set2 {ρ0 : MS} (hM : RM b ρ0 μ) (hL : ML ρ0) (hE : EqC ρ0 ρ) {i : Nat} (hi : i < 7) (v : Int32) : Ev g 1 mX12_set 60 [some (.ref b), some (.int (nI i)), some (.int 2), some (.int v), none] [] μ (fun r μ' => r = some (.int ((ρ.1 3).getD i 0)) ∧ MW b (setA ρ 3 ((ρ.1 3).set i v)) μ' ∧ FM b μ μ') := by
  have hF : FM b μ μ := FM.rf
  refine ev_iload_n dX12_set_60 rfl ?_
  refine ev_if_ne (tgt := 73) dX12_set_61 (by decide) (fun _ => ?_) (fun h61 => absurd h61 ((by decide)))
  refine ev_iload_n dX12_set_73 rfl ?_
  refine ev_iconst (v := 1) dX12_set_74 (by decide) ?_
  refine ev_icmp_ne (tgt := 87) dX12_set_75 (by decide) (fun _ => ?_) (fun h75 => absurd h75 ((by decide)))
  refine ev_iload_n dX12_set_87 rfl ?_
  refine ev_iconst (v := 2) dX12_set_88 (by decide) ?_
  refine ev_icmp_ne (tgt := 101) dX12_set_89 (by decide) (fun h89 => absurd (rfl) h89) (fun _ => ?_)
  refine ev_aload_n dX12_set_92 rfl ?_
  refine ev_get dX12_set_93 flX12_19_12 hM.1 rfl ?_
  refine ev_iload_n dX12_set_96 rfl ?_
  refine ev_iald dX12_set_97 (hM.a 3 4 (by decide)) (ix_n (by omega)) (rd hL (n := 7) (by decide) hi) ?_
  refine ev_goto (tgt := 107) dX12_set_98 (by decide) ?_
  refine ev_istore dX12_set_107 (by decide) ?_
  dsimp only [List.set]
  refine ev_iload_n dX12_set_109 rfl ?_
  refine ev_if_ne (tgt := 120) dX12_set_110 (by decide) (fun _ => ?_) (fun h110 => absurd h110 ((by decide)))
  refine ev_iload_n dX12_set_120 rfl ?_
  refine ev_iconst (v := 1) dX12_set_121 (by decide) ?_
  refine ev_icmp_ne (tgt := 132) dX12_set_122 (by decide) (fun _ => ?_) (fun h122 => absurd h122 ((by decide)))
  refine ev_iload_n dX12_set_132 rfl ?_
  refine ev_iconst (v := 2) dX12_set_133 (by decide) ?_
  refine ev_icmp_ne (tgt := 144) dX12_set_134 (by decide) (fun h134 => absurd (rfl) h134) (fun _ => ?_)
  refine ev_aload_n dX12_set_137 rfl ?_
  refine ev_get dX12_set_138 flX12_19_12 hM.1 rfl ?_
  refine ev_iload_n dX12_set_141 rfl ?_
  refine ev_iload_n dX12_set_142 rfl ?_
  refine evM_iast hM hF (k := 3) (o := 4) (by decide) dX12_set_143 (ix_n (by omega)) (by rw [hL.at (k := 3) (n := 7) (by decide)]; exact hi) (fun μ hM hF => ?_)
  refine ev_iload_n dX12_set_144 rfl ?_
  refine ev_iconst (v := 3) dX12_set_145 (by decide) ?_
  refine ev_icmp_ne (tgt := 156) dX12_set_146 (by decide) (fun _ => ?_) (fun h146 => absurd h146 ((by decide)))
  refine ev_iload dX12_set_156 rfl ?_
  refine ev_iret dX12_set_158 rfl ?_
  refine ⟨?_, ⟨_, hM, ML.setA hL List.length_set, ?_⟩, hF⟩
  · rw [hE.1 3 (by decide)]
  · rw [hE.1 3 (by decide)]; exact hE.cA
theorem l_set3 {ρ0 : MS} (hM : RM b ρ0 μ) (hL : ML ρ0) (hE : EqC ρ0 ρ) {i : Nat} (hi : i < 7) (v : Int32) : Ev g 1 mX12_set 60 [some (.ref b), some (.int (nI i)), some (.int 3), some (.int v), none] [] μ (fun r μ' => r = some (.int ((ρ.1 4).getD i 0)) ∧ MW b (setA ρ 4 ((ρ.1 4).set i v)) μ' ∧ FM b μ μ') := by
  have hF : FM b μ μ := FM.rf
  refine ev_iload_n dX12_set_60 rfl ?_
  refine ev_if_ne (tgt := 73) dX12_set_61 (by decide) (fun _ => ?_) (fun h61 => absurd h61 ((by decide)))
  refine ev_iload_n dX12_set_73 rfl ?_
  refine ev_iconst (v := 1) dX12_set_74 (by decide) ?_
  refine ev_icmp_ne (tgt := 87) dX12_set_75 (by decide) (fun _ => ?_) (fun h75 => absurd h75 ((by decide)))
  refine ev_iload_n dX12_set_87 rfl ?_
  refine ev_iconst (v := 2) dX12_set_88 (by decide) ?_
  refine ev_icmp_ne (tgt := 101) dX12_set_89 (by decide) (fun _ => ?_) (fun h89 => absurd h89 ((by decide)))
  refine ev_aload_n dX12_set_101 rfl ?_
  refine ev_get dX12_set_102 flX12_22_12 hM.1 rfl ?_
  refine ev_iload_n dX12_set_105 rfl ?_
  refine ev_iald dX12_set_106 (hM.a 4 5 (by decide)) (ix_n (by omega)) (rd hL (n := 7) (by decide) hi) ?_
  refine ev_istore dX12_set_107 (by decide) ?_
  dsimp only [List.set]
  refine ev_iload_n dX12_set_109 rfl ?_
  refine ev_if_ne (tgt := 120) dX12_set_110 (by decide) (fun _ => ?_) (fun h110 => absurd h110 ((by decide)))
  refine ev_iload_n dX12_set_120 rfl ?_
  refine ev_iconst (v := 1) dX12_set_121 (by decide) ?_
  refine ev_icmp_ne (tgt := 132) dX12_set_122 (by decide) (fun _ => ?_) (fun h122 => absurd h122 ((by decide)))
  refine ev_iload_n dX12_set_132 rfl ?_
  refine ev_iconst (v := 2) dX12_set_133 (by decide) ?_
  refine ev_icmp_ne (tgt := 144) dX12_set_134 (by decide) (fun _ => ?_) (fun h134 => absurd h134 ((by decide)))
  refine ev_iload_n dX12_set_144 rfl ?_
  refine ev_iconst (v := 3) dX12_set_145 (by decide) ?_
  refine ev_icmp_ne (tgt := 156) dX12_set_146 (by decide) (fun h146 => absurd (rfl) h146) (fun _ => ?_)
  refine ev_aload_n dX12_set_149 rfl ?_
  refine ev_get dX12_set_150 flX12_22_12 hM.1 rfl ?_
  refine ev_iload_n dX12_set_153 rfl ?_
  refine ev_iload_n dX12_set_154 rfl ?_
  refine evM_iast hM hF (k := 4) (o := 5) (by decide) dX12_set_155 (ix_n (by omega)) (by rw [hL.at (k := 4) (n := 7) (by decide)]; exact hi) (fun μ hM hF => ?_)
  refine ev_iload dX12_set_156 rfl ?_
  refine ev_iret dX12_set_158 rfl ?_
  refine ⟨?_, ⟨_, hM, ML.setA hL List.length_set, ?_⟩, hF⟩
  · rw [hE.1 4 (by decide)]
  · rw [hE.1 4 (by decide)]; exact hE.cA
theorem c_set (hW : MW b ρ μ) {n : Nat} (hN : ρ.2 7 = nI n) (hn : n ≤ 7) (h w v : Int32) : Mt g 1 mX12_set [.ref b, .int h, .int w, .int v] μ (fun r μ' => r = some (.int (opSet ρ n h w v).1) ∧ MW b (opSet ρ n h w v).2 μ' ∧ FM b μ μ') := by
  refine Mt.of0 (ls0 := [some (.ref b), some (.int h), some (.int w), some (.int v), none]) (by decide) (by simp [Value.category]) (Nat.le_of_ble_eq_true rfl) rfl ?_
  obtain ⟨ρ0, hM, hL, hE⟩ := id hW
  have hF : FM b μ μ := FM.rf
  have hN0 : ρ0.2 7 = nI n := (hE.2 7 (by decide)).trans hN
  rw [opSet]
  have l1 := hL.at (k := 1) (n := 7) (by decide)
  have l2 := hL.at (k := 2) (n := 7) (by decide)
  have l3 := hL.at (k := 3) (n := 7) (by decide)
  have l4 := hL.at (k := 4) (n := 7) (by decide)
  refine ev_aload_n dX12_set_0 rfl ?_
  refine ev_iload_n dX12_set_1 rfl ?_
  refine k_v (c_isHouse hM h) (by decide) dX12_set_2 cbX12_isHouse (mt5 199 rfl rfl) (mt5 201 rfl rfl) (ms0 57 rfl rfl) (ci := 12) rfl hM.1 rfl rfl (Nat.le_of_ble_eq_true rfl) (fun v μ1 hq => ?_)
  obtain ⟨rfl, hμ⟩ := hq
  have hμ := hμ.symm
  subst hμ
  simp only [Option.toList, List.cons_append, List.nil_append]
  rw [hN0]
  refine ev_if_eq (tgt := 17) dX12_set_5 (by decide) (fun h5 => ?_) (fun h5 => ?_)
  · refine ev_bipush (v := (-2)) dX12_set_17 (by decide) ?_
    refine ev_iret dX12_set_19 rfl ?_
    first
      | (rw [if_neg (fun q => b2i_eq h5 q.1.1)]; exact ⟨rfl, hW, hF⟩)
      | (rw [if_neg (fun q => b2i_eq h14 q.1.2)]; exact ⟨rfl, hW, hF⟩)
  · refine ev_iload_n dX12_set_8 rfl ?_
    refine ev_iconst (v := 0) dX12_set_9 (by decide) ?_
    refine ev_iconst (v := 3) dX12_set_10 (by decide) ?_
    refine k_s (c_isIn w 0 3) (by decide) dX12_set_11 cbX12_isIn (mt5 123 rfl rfl) (mt5 124 rfl rfl) rfl rfl (Nat.le_of_ble_eq_true rfl) (fun v μ1 hq => ?_)
    obtain ⟨rfl, hμ⟩ := hq
    have hμ := hμ.symm
    subst hμ
    simp only [Option.toList, List.cons_append, List.nil_append]
    refine ev_if_ne (tgt := 20) dX12_set_14 (by decide) (fun h14 => ?_) (fun h14 => ?_)
    · refine ev_iload_n dX12_set_20 rfl ?_
      refine ev_iconst (v := 0) dX12_set_21 (by decide) ?_
      refine ev_iload_n dX12_set_22 rfl ?_
      refine ev_if_ne (tgt := 31) dX12_set_23 (by decide) (fun h23 => ?_) (fun h23 => ?_)
      · refine ev_iload_n dX12_set_31 rfl ?_
        refine ev_iconst (v := 1) dX12_set_32 (by decide) ?_
        refine ev_icmp_ne (tgt := 41) dX12_set_33 (by decide) (fun h33 => ?_) (fun h33 => ?_)
        · refine ev_iload_n dX12_set_41 rfl ?_
          refine ev_iconst (v := 2) dX12_set_42 (by decide) ?_
          refine ev_icmp_ne (tgt := 50) dX12_set_43 (by decide) (fun h43 => ?_) (fun h43 => ?_)
          · refine ev_iconst (v := 3) dX12_set_50 (by decide) ?_
            first | rw [if_pos (c := w = 0) h23] | rw [if_neg (c := w = 0) h23, if_pos (c := w = 1) h33] | rw [if_neg (c := w = 0) h23, if_neg (c := w = 1) h33, if_pos (c := w = 2) h43] | rw [if_neg (c := w = 0) h23, if_neg (c := w = 1) h33, if_neg (c := w = 2) h43]
            refine k_s (c_isIn v 0 _) (by decide) dX12_set_51 cbX12_isIn (mt5 123 rfl rfl) (mt5 124 rfl rfl) rfl rfl (Nat.le_of_ble_eq_true rfl) (fun v μ1 hq => ?_)
            obtain ⟨rfl, hμ⟩ := hq
            have hμ := hμ.symm
            subst hμ
            simp only [Option.toList, List.cons_append, List.nil_append]
            refine ev_if_ne (tgt := 60) dX12_set_54 (by decide) (fun h54 => ?_) (fun h54 => ?_)
            · have h5 := b2i_ne h5
              have h14 := b2i_ne h14
              rw [if_pos ⟨⟨h5, h14⟩, b2i_ne h54⟩]
              obtain ⟨hi, ei⟩ := house_n hn h5.1 h5.2
              generalize h.toInt.toNat = i' at hi ei ⊢
              subst ei
              first
                | (subst h23; exact l_set0 hM hL hE (by omega) v)
                | (subst h33; exact l_set1 hM hL hE (by omega) v)
                | (subst h43; exact l_set2 hM hL hE (by omega) v)
                | (have h3 : w = 3 := by (simp only [Fc, Se, Nat.reduceLT, ↓reduceIte, ← Int32.toInt_inj, Int32.le_iff_toInt_le, Int32.lt_iff_toInt_lt, Int32.reduceToInt] at *; omega)
                   subst h3; exact l_set3 hM hL hE (by omega) v)
            · refine ev_bipush (v := (-2)) dX12_set_57 (by decide) ?_
              refine ev_iret dX12_set_59 rfl ?_
              rw [if_neg (fun q => b2i_eq h54 q.2)]
              exact ⟨rfl, hW, hF⟩
          · refine ev_iconst (v := 1) dX12_set_46 (by decide) ?_
            refine ev_goto (tgt := 51) dX12_set_47 (by decide) ?_
            first | rw [if_pos (c := w = 0) h23] | rw [if_neg (c := w = 0) h23, if_pos (c := w = 1) h33] | rw [if_neg (c := w = 0) h23, if_neg (c := w = 1) h33, if_pos (c := w = 2) h43] | rw [if_neg (c := w = 0) h23, if_neg (c := w = 1) h33, if_neg (c := w = 2) h43]
            refine k_s (c_isIn v 0 _) (by decide) dX12_set_51 cbX12_isIn (mt5 123 rfl rfl) (mt5 124 rfl rfl) rfl rfl (Nat.le_of_ble_eq_true rfl) (fun v μ1 hq => ?_)
            obtain ⟨rfl, hμ⟩ := hq
            have hμ := hμ.symm
            subst hμ
            simp only [Option.toList, List.cons_append, List.nil_append]
            refine ev_if_ne (tgt := 60) dX12_set_54 (by decide) (fun h54 => ?_) (fun h54 => ?_)
            · have h5 := b2i_ne h5
              have h14 := b2i_ne h14
              rw [if_pos ⟨⟨h5, h14⟩, b2i_ne h54⟩]
              obtain ⟨hi, ei⟩ := house_n hn h5.1 h5.2
              generalize h.toInt.toNat = i' at hi ei ⊢
              subst ei
              first
                | (subst h23; exact l_set0 hM hL hE (by omega) v)
                | (subst h33; exact l_set1 hM hL hE (by omega) v)
                | (subst h43; exact l_set2 hM hL hE (by omega) v)
                | (have h3 : w = 3 := by (simp only [Fc, Se, Nat.reduceLT, ↓reduceIte, ← Int32.toInt_inj, Int32.le_iff_toInt_le, Int32.lt_iff_toInt_lt, Int32.reduceToInt] at *; omega)
                   subst h3; exact l_set3 hM hL hE (by omega) v)
            · refine ev_bipush (v := (-2)) dX12_set_57 (by decide) ?_
              refine ev_iret dX12_set_59 rfl ?_
              rw [if_neg (fun q => b2i_eq h54 q.2)]
              exact ⟨rfl, hW, hF⟩
        · refine ev_bipush (v := 99) dX12_set_36 (by decide) ?_
          refine ev_goto (tgt := 51) dX12_set_38 (by decide) ?_
          first | rw [if_pos (c := w = 0) h23] | rw [if_neg (c := w = 0) h23, if_pos (c := w = 1) h33] | rw [if_neg (c := w = 0) h23, if_neg (c := w = 1) h33, if_pos (c := w = 2) h43] | rw [if_neg (c := w = 0) h23, if_neg (c := w = 1) h33, if_neg (c := w = 2) h43]
          refine k_s (c_isIn v 0 _) (by decide) dX12_set_51 cbX12_isIn (mt5 123 rfl rfl) (mt5 124 rfl rfl) rfl rfl (Nat.le_of_ble_eq_true rfl) (fun v μ1 hq => ?_)
          obtain ⟨rfl, hμ⟩ := hq
          have hμ := hμ.symm
          subst hμ
          simp only [Option.toList, List.cons_append, List.nil_append]
          refine ev_if_ne (tgt := 60) dX12_set_54 (by decide) (fun h54 => ?_) (fun h54 => ?_)
          · have h5 := b2i_ne h5
            have h14 := b2i_ne h14
            rw [if_pos ⟨⟨h5, h14⟩, b2i_ne h54⟩]
            obtain ⟨hi, ei⟩ := house_n hn h5.1 h5.2
            generalize h.toInt.toNat = i' at hi ei ⊢
            subst ei
            first
              | (subst h23; exact l_set0 hM hL hE (by omega) v)
              | (subst h33; exact l_set1 hM hL hE (by omega) v)
              | (subst h43; exact l_set2 hM hL hE (by omega) v)
              | (have h3 : w = 3 := by (simp only [Fc, Se, Nat.reduceLT, ↓reduceIte, ← Int32.toInt_inj, Int32.le_iff_toInt_le, Int32.lt_iff_toInt_lt, Int32.reduceToInt] at *; omega)
                 subst h3; exact l_set3 hM hL hE (by omega) v)
          · refine ev_bipush (v := (-2)) dX12_set_57 (by decide) ?_
            refine ev_iret dX12_set_59 rfl ?_
            rw [if_neg (fun q => b2i_eq h54 q.2)]
            exact ⟨rfl, hW, hF⟩
      · refine ev_bipush (v := 9) dX12_set_26 (by decide) ?_
        refine ev_goto (tgt := 51) dX12_set_28 (by decide) ?_
        first | rw [if_pos (c := w = 0) h23] | rw [if_neg (c := w = 0) h23, if_pos (c := w = 1) h33] | rw [if_neg (c := w = 0) h23, if_neg (c := w = 1) h33, if_pos (c := w = 2) h43] | rw [if_neg (c := w = 0) h23, if_neg (c := w = 1) h33, if_neg (c := w = 2) h43]
        refine k_s (c_isIn v 0 _) (by decide) dX12_set_51 cbX12_isIn (mt5 123 rfl rfl) (mt5 124 rfl rfl) rfl rfl (Nat.le_of_ble_eq_true rfl) (fun v μ1 hq => ?_)
        obtain ⟨rfl, hμ⟩ := hq
        have hμ := hμ.symm
        subst hμ
        simp only [Option.toList, List.cons_append, List.nil_append]
        refine ev_if_ne (tgt := 60) dX12_set_54 (by decide) (fun h54 => ?_) (fun h54 => ?_)
        · have h5 := b2i_ne h5
          have h14 := b2i_ne h14
          rw [if_pos ⟨⟨h5, h14⟩, b2i_ne h54⟩]
          obtain ⟨hi, ei⟩ := house_n hn h5.1 h5.2
          generalize h.toInt.toNat = i' at hi ei ⊢
          subst ei
          first
            | (subst h23; exact l_set0 hM hL hE (by omega) v)
            | (subst h33; exact l_set1 hM hL hE (by omega) v)
            | (subst h43; exact l_set2 hM hL hE (by omega) v)
            | (have h3 : w = 3 := by (simp only [Fc, Se, Nat.reduceLT, ↓reduceIte, ← Int32.toInt_inj, Int32.le_iff_toInt_le, Int32.lt_iff_toInt_lt, Int32.reduceToInt] at *; omega)
               subst h3; exact l_set3 hM hL hE (by omega) v)
        · refine ev_bipush (v := (-2)) dX12_set_57 (by decide) ?_
          refine ev_iret dX12_set_59 rfl ?_
          rw [if_neg (fun q => b2i_eq h54 q.2)]
          exact ⟨rfl, hW, hF⟩
    · refine ev_bipush (v := (-2)) dX12_set_17 (by decide) ?_
      refine ev_iret dX12_set_19 rfl ?_
      first
        | (rw [if_neg (fun q => b2i_eq h5 q.1.1)]; exact ⟨rfl, hW, hF⟩)
        | (rw [if_neg (fun q => b2i_eq h14 q.1.2)]; exact ⟨rfl, hW, hF⟩)
theorem l_placeInList (hM : RM b ρ μ) {n t tx : Nat} {cd : Nat → List Int32} {Lf : Nat → Nat} (hI : IM ρ n t tx cd Lf) {h : Nat} (hh : h < 7) : ∀ (m k : Nat), k + m = n → (∃ i, k ≤ i ∧ i < n ∧ Lf i = h) → Ev g 0 mX12_placeInList 2 [some (.ref b), some (.int (nI h)), some (.int (nI k))] [] μ (fun v μ' => v = some (.int (nI (plc Lf h m k))) ∧ μ' = μ) := by
  have hn7 := hI.2.2.1.2
  have hLs := hI.2.2.2.2.2.2.1
  intro m
  induction m with
  | zero => rintro k hk ⟨i, h1, h2, h3⟩; omega
  | succ m ih =>
    rintro k hk ⟨i, h1, h2, h3⟩
    have q := hLs k (by omega)
    have e1 : (nI (Lf k) = nI h) = (Lf k = h) := propext ⟨fun z => by have := congrArg Int32.toInt z; rw [nI_i (by omega), nI_i (by omega)] at this; omega, fun z => by rw [z]⟩
    rw [plc]
    refine ev_aload_n dX12_placeInList_2 rfl ?_
    refine ev_get dX12_placeInList_3 flX12_25_12 hM.1 rfl ?_
    refine ev_iload_n dX12_placeInList_6 rfl ?_
    refine ev_iald dX12_placeInList_7 (hM.a 5 6 (by decide)) (ix_n (by omega)) q.1 ?_
    refine ev_iload_n dX12_placeInList_8 rfl ?_
    refine ev_icmp_eq (tgt := 18) dX12_placeInList_9 (by decide) (fun h9 => ?_) (fun h9 => ?_)
    · refine ev_iload_n dX12_placeInList_18 rfl ?_
      refine ev_iret dX12_placeInList_19 rfl ?_
      rw [if_pos (e1.mp h9)]
      exact ⟨rfl, rfl⟩
    · refine ev_iinc dX12_placeInList_12 rfl (by decide) ?_
      dsimp only [List.set]
      refine ev_goto (tgt := 2) dX12_placeInList_15 (by decide) ?_
      rw [nI_inc, if_neg (fun z => h9 (e1.mpr z))]
      refine ih (k + 1) (by omega) ⟨i, ?_, h2, h3⟩
      rcases Nat.eq_or_lt_of_le h1 with z | z
      · subst z; exact absurd (e1.mpr h3) h9
      · exact z
theorem c_placeInList (hM : RM b ρ μ) {n t tx : Nat} {cd : Nat → List Int32} {Lf : Nat → Nat} (hI : IM ρ n t tx cd Lf) {h : Nat} (hh : h < n) : Pu g 0 mX12_placeInList [.ref b, .int (nI h)] μ (nI (plc Lf h n 0)) := by
  refine Mt.of0 (ls0 := [some (.ref b), some (.int (nI h)), none]) (by decide) (by simp [Value.category]) (Nat.le_of_ble_eq_true rfl) rfl ?_
  obtain ⟨i, h1, h2⟩ := hI.2.2.2.2.2.2.2 h hh
  have hn7 := hI.2.2.1.2
  refine ev_iconst (v := 0) dX12_placeInList_0 (by decide) ?_
  refine ev_istore_n dX12_placeInList_1 (by decide) ?_
  dsimp only [List.set]
  exact l_placeInList hM hI (by omega) n 0 (by omega) ⟨i, Nat.zero_le _, h1, h2⟩
theorem c_told (hW : MW b ρ μ) {n t tx : Nat} {cd : Nat → List Int32} {Lf : Nat → Nat} (hI : IM ρ n t tx cd Lf) (h w : Int32) : Mt g 3 mX12_told [.ref b, .int h, .int w] μ (fun v μ' => v = some (.int (ansTold ρ n t cd Lf h w)) ∧ MW b ρ μ' ∧ FM b μ μ') := by
  refine Mt.of0 (ls0 := [some (.ref b), some (.int h), some (.int w)]) (by decide) (by simp [Value.category]) (Nat.le_of_ble_eq_true rfl) rfl ?_
  obtain ⟨ρ0, hM, hL, hE⟩ := id hW
  have hF : FM b μ μ := FM.rf
  have hI0 := hI.eqc hE
  have hn7 := hI.2.2.1.2
  have hR := RS.of hL hM
  rw [ansTold]
  refine ev_aload_n dX12_told_0 rfl ?_
  refine ev_iload_n dX12_told_1 rfl ?_
  refine k_v (c_isHouse hM h) (by decide) dX12_told_2 cbX12_isHouse (mt5 199 rfl rfl) (mt5 201 rfl rfl) (ms0 57 rfl rfl) (ci := 12) rfl hM.1 rfl rfl (Nat.le_of_ble_eq_true rfl) (fun v μ1 hq => ?_)
  obtain ⟨rfl, hμ⟩ := hq
  have hμ := hμ.symm
  subst hμ
  simp only [Option.toList, List.cons_append, List.nil_append]
  rw [hI0.2.2.1.1]
  refine ev_if_ne (tgt := 11) dX12_told_5 (by decide) (fun h5 => ?_) (fun h5 => ?_)
  · have h5 := b2i_ne h5
    rw [if_pos h5]
    obtain ⟨hi, ei⟩ := house_n hn7 h5.1 h5.2
    generalize h.toInt.toNat = i' at hi ei ⊢
    subst ei
    refine ev_iload_n dX12_told_11 rfl ?_
    by_cases hs12 : (w).toInt < 0 ∨ 7 < (w).toInt
    · refine ev_tout (tgt := 113) dX12_told_12 hs12 (by decide) ?_
      have hn12_0 : ¬ (w) = 0 := fun q => by rw [q] at hs12; revert hs12; decide
      have hn12_1 : ¬ (w) = 1 := fun q => by rw [q] at hs12; revert hs12; decide
      have hn12_2 : ¬ (w) = 2 := fun q => by rw [q] at hs12; revert hs12; decide
      have hn12_3 : ¬ (w) = 3 := fun q => by rw [q] at hs12; revert hs12; decide
      have hn12_4 : ¬ (w) = 4 := fun q => by rw [q] at hs12; revert hs12; decide
      have hn12_5 : ¬ (w) = 5 := fun q => by rw [q] at hs12; revert hs12; decide
      have hn12_6 : ¬ (w) = 6 := fun q => by rw [q] at hs12; revert hs12; decide
      have hn12_7 : ¬ (w) = 7 := fun q => by rw [q] at hs12; revert hs12; decide
      refine ev_bipush (v := (-2)) dX12_told_113 (by decide) ?_
      refine ev_iret dX12_told_115 rfl ?_
      rw [if_neg hn12_0, if_neg hn12_1, if_neg hn12_2, if_neg hn12_3, if_neg hn12_4, if_neg hn12_5, if_neg hn12_6, if_neg hn12_7]
      exact ⟨rfl, hW, hF⟩
    have hs12 : (w).toInt = 0 ∨ (w).toInt = 1 ∨ (w).toInt = 2 ∨ (w).toInt = 3 ∨ (w).toInt = 4 ∨ (w).toInt = 5 ∨ (w).toInt = 6 ∨ (w).toInt = 7 := by omega
    rcases hs12 with hs12 | hs12 | hs12 | hs12 | hs12 | hs12 | hs12 | hs12
    · refine ev_tin (off := 48) (tgt := 60) dX12_told_12 (by omega) (by omega) (by rw [hs12]; rfl) (by decide) ?_
      have he12 : (w) = 0 := Int32.toInt_inj.mp (hs12.trans (by decide))
      refine ev_aload_n dX12_told_60 rfl ?_
      refine ev_get dX12_told_61 flX12_13_12 hM.1 rfl ?_
      refine ev_iload_n dX12_told_64 rfl ?_
      refine ev_iald dX12_told_65 (hM.a 1 2 (by decide)) (ix_n (by omega)) (rd hL (n := 7) (by decide) (by omega)) ?_
      refine ev_iret dX12_told_66 rfl ?_
      rw [he12, if_pos rfl, ← hE.1 1 (by decide)]
      exact ⟨rfl, hW, hF⟩
    · refine ev_tin (off := 55) (tgt := 67) dX12_told_12 (by omega) (by omega) (by rw [hs12]; rfl) (by decide) ?_
      have he12 : (w) = 1 := Int32.toInt_inj.mp (hs12.trans (by decide))
      refine ev_aload_n dX12_told_67 rfl ?_
      refine ev_get dX12_told_68 flX12_16_12 hM.1 rfl ?_
      refine ev_iload_n dX12_told_71 rfl ?_
      refine ev_iald dX12_told_72 (hM.a 2 3 (by decide)) (ix_n (by omega)) (rd hL (n := 7) (by decide) (by omega)) ?_
      refine ev_iret dX12_told_73 rfl ?_
      rw [he12, if_neg (by decide), if_pos rfl, ← hE.1 2 (by decide)]
      exact ⟨rfl, hW, hF⟩
    · refine ev_tin (off := 62) (tgt := 74) dX12_told_12 (by omega) (by omega) (by rw [hs12]; rfl) (by decide) ?_
      have he12 : (w) = 2 := Int32.toInt_inj.mp (hs12.trans (by decide))
      refine ev_aload_n dX12_told_74 rfl ?_
      refine ev_get dX12_told_75 flX12_19_12 hM.1 rfl ?_
      refine ev_iload_n dX12_told_78 rfl ?_
      refine ev_iald dX12_told_79 (hM.a 3 4 (by decide)) (ix_n (by omega)) (rd hL (n := 7) (by decide) (by omega)) ?_
      refine ev_iret dX12_told_80 rfl ?_
      rw [he12, if_neg (by decide), if_neg (by decide), if_pos rfl, ← hE.1 3 (by decide)]
      exact ⟨rfl, hW, hF⟩
    · refine ev_tin (off := 69) (tgt := 81) dX12_told_12 (by omega) (by omega) (by rw [hs12]; rfl) (by decide) ?_
      have he12 : (w) = 3 := Int32.toInt_inj.mp (hs12.trans (by decide))
      refine ev_aload_n dX12_told_81 rfl ?_
      refine ev_get dX12_told_82 flX12_22_12 hM.1 rfl ?_
      refine ev_iload_n dX12_told_85 rfl ?_
      refine ev_iald dX12_told_86 (hM.a 4 5 (by decide)) (ix_n (by omega)) (rd hL (n := 7) (by decide) (by omega)) ?_
      refine ev_iret dX12_told_87 rfl ?_
      rw [he12, if_neg (by decide), if_neg (by decide), if_neg (by decide), if_pos rfl, ← hE.1 4 (by decide)]
      exact ⟨rfl, hW, hF⟩
    · refine ev_tin (off := 76) (tgt := 88) dX12_told_12 (by omega) (by omega) (by rw [hs12]; rfl) (by decide) ?_
      have he12 : (w) = 4 := Int32.toInt_inj.mp (hs12.trans (by decide))
      refine ev_aload_n dX12_told_88 rfl ?_
      refine ev_get dX12_told_89 flX12_7_12 hM.1 rfl ?_
      refine ev_iload_n dX12_told_92 rfl ?_
      refine ev_iald dX12_told_93 (hM.a 0 1 (by decide)) (ix_n (by omega)) (rd hL (n := 7) (by decide) (by omega)) ?_
      refine ev_iret dX12_told_94 rfl ?_
      rw [he12, if_neg (by decide), if_neg (by decide), if_neg (by decide), if_neg (by decide), if_pos rfl, ← hE.1 0 (by decide)]
      exact ⟨rfl, hW, hF⟩
    · refine ev_tin (off := 83) (tgt := 95) dX12_told_12 (by omega) (by omega) (by rw [hs12]; rfl) (by decide) ?_
      have he12 : (w) = 5 := Int32.toInt_inj.mp (hs12.trans (by decide))
      refine ev_aload_n dX12_told_95 rfl ?_
      refine ev_iload_n dX12_told_96 rfl ?_
      refine k_v (c_placeInList hM hI0 hi) (by decide) dX12_told_97 cbX12_placeInList (mt5 215 rfl rfl) (mt5 217 rfl rfl) (ms0 58 rfl rfl) (ci := 12) rfl hM.1 rfl rfl (Nat.le_of_ble_eq_true rfl) (fun v μ1 hq => ?_)
      obtain ⟨rfl, hμ⟩ := hq
      have hμ := hμ.symm
      subst hμ
      simp only [Option.toList, List.cons_append, List.nil_append]
      refine ev_iret dX12_told_100 rfl ?_
      rw [he12, if_neg (by decide), if_neg (by decide), if_neg (by decide), if_neg (by decide), if_neg (by decide), if_pos rfl]
      exact ⟨rfl, hW, hF⟩
    · refine ev_tin (off := 89) (tgt := 101) dX12_told_12 (by omega) (by omega) (by rw [hs12]; rfl) (by decide) ?_
      have he12 : (w) = 6 := Int32.toInt_inj.mp (hs12.trans (by decide))
      refine ev_aload_n dX12_told_101 rfl ?_
      refine ev_iload_n dX12_told_102 rfl ?_
      refine k_v (c_takesOf hM hL hI0.1 (by omega)) (by decide) dX12_told_103 cbX12_takesOf (mt5 219 rfl rfl) (mt5 221 rfl rfl) (ms0 59 rfl rfl) (ci := 12) rfl hM.1 rfl rfl (Nat.le_of_ble_eq_true rfl) (fun v μ1 hq => ?_)
      obtain ⟨rfl, hμ⟩ := hq
      have hμ := hμ.symm
      subst hμ
      simp only [Option.toList, List.cons_append, List.nil_append]
      refine ev_iret dX12_told_106 rfl ?_
      rw [he12, if_neg (by decide), if_neg (by decide), if_neg (by decide), if_neg (by decide), if_neg (by decide), if_neg (by decide), if_pos rfl, ← hE.fc, ← hE.se]
      exact ⟨rfl, hW, hF⟩
    · refine ev_tin (off := 95) (tgt := 107) dX12_told_12 (by omega) (by omega) (by rw [hs12]; rfl) (by decide) ?_
      have he12 : (w) = 7 := Int32.toInt_inj.mp (hs12.trans (by decide))
      refine ev_aload_n dX12_told_107 rfl ?_
      refine ev_iload_n dX12_told_108 rfl ?_
      refine k_v (c_byOf hR hL hI0.ru (by omega)) (by decide) dX12_told_109 cbX12_byOf (mt5 227 rfl rfl) (mt5 229 rfl rfl) (ms0 61 rfl rfl) (ci := 12) rfl hM.1 rfl rfl (Nat.le_of_ble_eq_true rfl) (fun v μ1 hq => ?_)
      obtain ⟨rfl, hR, hF1⟩ := hq
      have hF := hF.tr hF1
      obtain ⟨l1, hl1, hM⟩ := id hR
      simp only [Option.toList, List.cons_append, List.nil_append]
      refine ev_iret dX12_told_112 rfl ?_
      rw [he12, if_neg (by decide), if_neg (by decide), if_neg (by decide), if_neg (by decide), if_neg (by decide), if_neg (by decide), if_neg (by decide), if_pos rfl, ← hE.fc, ← hE.se]
      exact ⟨rfl, hR.mw hL hE, hF⟩
  · refine ev_bipush (v := (-2)) dX12_told_8 (by decide) ?_
    refine ev_iret dX12_told_10 rfl ?_
    rw [if_neg (b2i_eq h5)]
    exact ⟨rfl, hW, hF⟩
theorem c_count (hW : MW b ρ μ) (w : Int32) : Mt g 1 mX12_count [.ref b, .int w] μ (fun v μ' => v = some (.int (ansCount ρ w)) ∧ MW b ρ μ' ∧ FM b μ μ') := by
  refine Mt.of0 (ls0 := [some (.ref b), some (.int w)]) (by decide) (by simp [Value.category]) (Nat.le_of_ble_eq_true rfl) rfl ?_
  obtain ⟨ρ0, hM, hL, hE⟩ := id hW
  have hF : FM b μ μ := FM.rf
  rw [ansCount]
  refine ev_iload_n dX12_count_0 rfl ?_
  refine ev_iconst (v := 4) dX12_count_1 (by decide) ?_
  refine ev_bipush (v := 13) dX12_count_2 (by decide) ?_
  refine k_s (c_isIn w 4 13) (by decide) dX12_count_4 cbX12_isIn (mt5 123 rfl rfl) (mt5 124 rfl rfl) rfl rfl (Nat.le_of_ble_eq_true rfl) (fun v μ1 hq => ?_)
  obtain ⟨rfl, hμ⟩ := hq
  have hμ := hμ.symm
  subst hμ
  simp only [Option.toList, List.cons_append, List.nil_append]
  refine ev_if_eq (tgt := 19) dX12_count_7 (by decide) (fun h7 => ?_) (fun h7 => ?_)
  · rw [if_neg (b2i_eq h7)]
    refine ev_iload_n dX12_count_19 rfl ?_
    by_cases hs20 : (w).toInt < 0 ∨ 3 < (w).toInt
    · refine ev_tout (tgt := 72) dX12_count_20 hs20 (by decide) ?_
      have hn20_0 : ¬ (w) = 0 := fun q => by rw [q] at hs20; revert hs20; decide
      have hn20_1 : ¬ (w) = 1 := fun q => by rw [q] at hs20; revert hs20; decide
      have hn20_2 : ¬ (w) = 2 := fun q => by rw [q] at hs20; revert hs20; decide
      have hn20_3 : ¬ (w) = 3 := fun q => by rw [q] at hs20; revert hs20; decide
      refine ev_bipush (v := (-2)) dX12_count_72 (by decide) ?_
      refine ev_iret dX12_count_74 rfl ?_
      rw [if_neg hn20_0, if_neg hn20_1, if_neg hn20_2, if_neg hn20_3]
      exact ⟨rfl, hW, hF⟩
    have hs20 : (w).toInt = 0 ∨ (w).toInt = 1 ∨ (w).toInt = 2 ∨ (w).toInt = 3 := by omega
    rcases hs20 with hs20 | hs20 | hs20 | hs20
    · refine ev_tin (off := 32) (tgt := 52) dX12_count_20 (by omega) (by omega) (by rw [hs20]; rfl) (by decide) ?_
      have he20 : (w) = 0 := Int32.toInt_inj.mp (hs20.trans (by decide))
      refine ev_aload_n dX12_count_52 rfl ?_
      refine ev_get dX12_count_53 flX12_82_12 hM.1 rfl ?_
      refine ev_iret dX12_count_56 rfl ?_
      rw [he20, if_pos rfl, ← hE.2 7 (by decide)]
      exact ⟨rfl, hW, hF⟩
    · refine ev_tin (off := 37) (tgt := 57) dX12_count_20 (by omega) (by omega) (by rw [hs20]; rfl) (by decide) ?_
      have he20 : (w) = 1 := Int32.toInt_inj.mp (hs20.trans (by decide))
      refine ev_aload_n dX12_count_57 rfl ?_
      refine ev_get dX12_count_58 flX12_51_12 hM.1 rfl ?_
      refine ev_iret dX12_count_61 rfl ?_
      rw [he20, if_neg (by decide), if_pos rfl, ← hE.2 16 (by decide)]
      exact ⟨rfl, hW, hF⟩
    · refine ev_tin (off := 42) (tgt := 62) dX12_count_20 (by omega) (by omega) (by rw [hs20]; rfl) (by decide) ?_
      have he20 : (w) = 2 := Int32.toInt_inj.mp (hs20.trans (by decide))
      refine ev_aload_n dX12_count_62 rfl ?_
      refine ev_get dX12_count_63 flX12_96_12 hM.1 rfl ?_
      refine ev_iret dX12_count_66 rfl ?_
      rw [he20, if_neg (by decide), if_neg (by decide), if_pos rfl, ← hE.2 15 (by decide)]
      exact ⟨rfl, hW, hF⟩
    · refine ev_tin (off := 47) (tgt := 67) dX12_count_20 (by omega) (by omega) (by rw [hs20]; rfl) (by decide) ?_
      have he20 : (w) = 3 := Int32.toInt_inj.mp (hs20.trans (by decide))
      refine ev_aload_n dX12_count_67 rfl ?_
      refine ev_get dX12_count_68 flX12_165_12 hM.1 rfl ?_
      refine ev_iret dX12_count_71 rfl ?_
      rw [he20, if_neg (by decide), if_neg (by decide), if_neg (by decide), if_pos rfl, ← hE.2 8 (by decide)]
      exact ⟨rfl, hW, hF⟩
  · have h7 := b2i_ne h7
    have hw : 4 ≤ w.toInt ∧ w.toInt ≤ 13 := by
      simp only [Int32.le_iff_toInt_le, Int32.reduceToInt] at h7; exact h7
    have e4 : (w - 4).toInt = w.toInt - 4 := by rw [sub_i (by rw [show (4 : Int32).toInt = 4 by decide]; omega) (by rw [show (4 : Int32).toInt = 4 by decide]; omega), show (4 : Int32).toInt = 4 by decide]
    have hix : ix (w - 4) (w.toInt.toNat - 4) := by
      have := ix_of (x := w - 4) (by omega)
      rw [e4, show (w.toInt - 4).toNat = w.toInt.toNat - 4 by omega] at this
      exact this
    refine ev_aload_n dX12_count_10 rfl ?_
    refine ev_get dX12_count_11 flX12_28_12 hM.1 rfl ?_
    refine ev_iload_n dX12_count_14 rfl ?_
    refine ev_iconst (v := 4) dX12_count_15 (by decide) ?_
    refine ev_isub dX12_count_16 ?_
    refine ev_iald dX12_count_17 (hM.a 6 7 (by decide)) hix (rd hL (n := 10) (by decide) (by omega)) ?_
    refine ev_iret dX12_count_18 rfl ?_
    rw [if_pos h7, ← hE.1 6 (by decide)]
    exact ⟨rfl, hW, hF⟩
theorem l_rightBy (hM : RM b ρ μ) {n : Nat} (hN : ρ.2 7 = nI n) (hn : n ≤ 7) {seed odds : Int32} : ∀ (m k : Nat) (z s : Int32), k + m = n → Ev g 0 mX12_rightBy 8 [some (.ref b), some (.int seed), some (.int odds), some (.int z), some (.int s), some (.int (nI k))] [] μ (fun v μ' => v = some (.int (rgtK odds m z s)) ∧ μ' = μ) := by
  intro m
  induction m with
  | zero =>
    intro k z s hk
    refine ev_iload dX12_rightBy_8 rfl ?_
    refine ev_aload_n dX12_rightBy_10 rfl ?_
    refine ev_get dX12_rightBy_11 flX12_82_12 hM.1 rfl ?_
    refine ev_icmp_ge (tgt := 54) dX12_rightBy_14 (by decide) (fun _ => ?_) (fun h14 => absurd ((show ρ.2 7 ≤ nI k by rw [hN]; exact nI_le (by omega) (by omega))) h14)
    refine ev_iload dX12_rightBy_54 rfl ?_
    refine ev_iret dX12_rightBy_56 rfl ?_
    exact ⟨rfl, rfl⟩
  | succ m ih =>
    intro k z s hk
    rw [rgtK]
    refine ev_iload dX12_rightBy_8 rfl ?_
    refine ev_aload_n dX12_rightBy_10 rfl ?_
    refine ev_get dX12_rightBy_11 flX12_82_12 hM.1 rfl ?_
    refine ev_icmp_ge (tgt := 54) dX12_rightBy_14 (by decide) (fun h14 => absurd h14 ((show ¬ ρ.2 7 ≤ nI k by rw [hN]; exact nI_ge (by omega) (by omega)))) (fun _ => ?_)
    refine ev_iload_n dX12_rightBy_17 rfl ?_
    refine ev_ldcw dX12_rightBy_18 (mt6 147 rfl rfl) ?_
    refine ev_imul dX12_rightBy_21 ?_
    refine ev_sipush (v := 12345) dX12_rightBy_22 (by decide) ?_
    refine ev_iadd dX12_rightBy_25 ?_
    refine ev_istore_n dX12_rightBy_26 (by decide) ?_
    dsimp only [List.set]
    refine ev_iload dX12_rightBy_27 rfl ?_
    refine ev_iload_n dX12_rightBy_29 rfl ?_
    refine ev_bipush (v := 10) dX12_rightBy_30 (by decide) ?_
    refine ev_iushr dX12_rightBy_32 ?_
    refine ev_bipush (v := 10) dX12_rightBy_33 (by decide) ?_
    refine ev_irem dX12_rightBy_35 (by decide) ?_
    refine ev_iload_n dX12_rightBy_36 rfl ?_
    refine ev_icmp_ge (tgt := 44) dX12_rightBy_37 (by decide) (fun h37 => ?_) (fun h37 => ?_)
    · refine ev_iconst (v := 0) dX12_rightBy_44 (by decide) ?_
      refine ev_iadd dX12_rightBy_45 ?_
      refine ev_istore dX12_rightBy_46 (by decide) ?_
      dsimp only [List.set]
      refine ev_iinc dX12_rightBy_48 rfl (by decide) ?_
      dsimp only [List.set]
      refine ev_goto (tgt := 8) dX12_rightBy_51 (by decide) ?_
      rw [nI_inc]
      first | rw [b2i_t (Int32.not_le.mp h37)] | rw [b2i_f (Int32.not_lt.mpr h37)]
      exact ih (k + 1) _ _ (by omega)
    · refine ev_iconst (v := 1) dX12_rightBy_40 (by decide) ?_
      refine ev_goto (tgt := 45) dX12_rightBy_41 (by decide) ?_
      refine ev_iadd dX12_rightBy_45 ?_
      refine ev_istore dX12_rightBy_46 (by decide) ?_
      dsimp only [List.set]
      refine ev_iinc dX12_rightBy_48 rfl (by decide) ?_
      dsimp only [List.set]
      refine ev_goto (tgt := 8) dX12_rightBy_51 (by decide) ?_
      rw [nI_inc]
      first | rw [b2i_t (Int32.not_le.mp h37)] | rw [b2i_f (Int32.not_lt.mpr h37)]
      exact ih (k + 1) _ _ (by omega)
theorem c_rightBy (hM : RM b ρ μ) {n : Nat} (hN : ρ.2 7 = nI n) (hn : n ≤ 7) (seed odds : Int32) : Pu g 0 mX12_rightBy [.ref b, .int seed, .int odds] μ (rgtK odds n seed 0) := by
  refine Mt.of0 (ls0 := [some (.ref b), some (.int seed), some (.int odds), none, none, none]) (by decide) (by simp [Value.category]) (Nat.le_of_ble_eq_true rfl) rfl ?_
  refine ev_iload_n dX12_rightBy_0 rfl ?_
  refine ev_istore_n dX12_rightBy_1 (by decide) ?_
  dsimp only [List.set]
  refine ev_iconst (v := 0) dX12_rightBy_2 (by decide) ?_
  refine ev_istore dX12_rightBy_3 (by decide) ?_
  dsimp only [List.set]
  refine ev_iconst (v := 0) dX12_rightBy_5 (by decide) ?_
  refine ev_istore dX12_rightBy_6 (by decide) ?_
  dsimp only [List.set]
  exact l_rightBy hM hN hn n 0 _ _ (by omega)
theorem c_thrownBy (hW : MW b ρ μ) {n : Nat} (hN : ρ.2 7 = nI n) (hn : n ≤ 7) (seed odds : Int32) : Mt g 1 mX12_thrownBy [.ref b, .int seed, .int odds] μ (fun v μ' => v = some (.int (ansThrown n seed odds)) ∧ MW b ρ μ' ∧ FM b μ μ') := by
  refine Mt.of0 (ls0 := [some (.ref b), some (.int seed), some (.int odds)]) (by decide) (by simp [Value.category]) (Nat.le_of_ble_eq_true rfl) rfl ?_
  obtain ⟨ρ0, hM, hL, hE⟩ := id hW
  have hF : FM b μ μ := FM.rf
  have hN0 : ρ0.2 7 = nI n := (hE.2 7 (by decide)).trans hN
  rw [ansThrown]
  refine ev_iload_n dX12_thrownBy_0 rfl ?_
  refine ev_iconst (v := 0) dX12_thrownBy_1 (by decide) ?_
  refine ev_bipush (v := 10) dX12_thrownBy_2 (by decide) ?_
  refine k_s (c_isIn odds 0 10) (by decide) dX12_thrownBy_4 cbX12_isIn (mt5 123 rfl rfl) (mt5 124 rfl rfl) rfl rfl (Nat.le_of_ble_eq_true rfl) (fun v μ1 hq => ?_)
  obtain ⟨rfl, hμ⟩ := hq
  have hμ := hμ.symm
  subst hμ
  simp only [Option.toList, List.cons_append, List.nil_append]
  refine ev_if_eq (tgt := 19) dX12_thrownBy_7 (by decide) (fun h7 => ?_) (fun h7 => ?_)
  · refine ev_bipush (v := (-2)) dX12_thrownBy_19 (by decide) ?_
    refine ev_iret dX12_thrownBy_21 rfl ?_
    first
      | (rw [if_neg (b2i_eq h7)]; exact ⟨rfl, hW, hF⟩)
      | (rw [if_pos (b2i_ne h7)]; exact ⟨rfl, hW, hF⟩)
  · refine ev_aload_n dX12_thrownBy_10 rfl ?_
    refine ev_iload_n dX12_thrownBy_11 rfl ?_
    refine ev_iload_n dX12_thrownBy_12 rfl ?_
    refine k_v (c_rightBy hM hN0 hn seed odds) (by decide) dX12_thrownBy_13 cbX12_rightBy (mt6 143 rfl rfl) (mt6 145 rfl rfl) (ms0 81 rfl rfl) (ci := 12) rfl hM.1 rfl rfl (Nat.le_of_ble_eq_true rfl) (fun v μ1 hq => ?_)
    obtain ⟨rfl, hμ⟩ := hq
    have hμ := hμ.symm
    subst hμ
    simp only [Option.toList, List.cons_append, List.nil_append]
    refine ev_goto (tgt := 21) dX12_thrownBy_16 (by decide) ?_
    refine ev_iret dX12_thrownBy_21 rfl ?_
    first
      | (rw [if_neg (b2i_eq h7)]; exact ⟨rfl, hW, hF⟩)
      | (rw [if_pos (b2i_ne h7)]; exact ⟨rfl, hW, hF⟩)
end MTOLD
