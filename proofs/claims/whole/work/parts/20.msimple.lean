/-! ===== the reference: house, set, bag, swap, taken, force, count, feed, told ===== -/
theorem rem_i (x : Int32) (h0 : 0 ≤ x.toInt) (h1 : x.toInt ≤ 1000) : (x / 10).toInt = x.toInt / 10 ∧ (x - x / 10 * 10).toInt = x.toInt % 10 := by
  have h10 : (10 : Int32).toInt = 10 := by decide
  have e1 : (x / 10).toInt = x.toInt / 10 := by
    rw [Int32.toInt_div_of_ne_right x 10 (by decide), h10, Int.tdiv_eq_ediv_of_nonneg h0]
  refine ⟨e1, ?_⟩
  have e2 : (x / 10 * 10).toInt = x.toInt / 10 * 10 := by rw [mul_i (by rw [e1, h10]; omega) (by rw [e1, h10]; omega), e1, h10]
  rw [sub_i (by rw [e2]; omega) (by rw [e2]; omega), e2]
  omega
/-- house(): answer and state -/
def opHouse (ρ : MS) (n : Nat) (k w p : Int32) : Int32 × MS :=
  if ((0 ≤ k ∧ k ≤ 5) ∧ (0 ≤ w ∧ w ≤ 99) ∧ w - w / 10 * 10 ≤ 3 ∧ (0 ≤ p ∧ p ≤ 999) ∧ p - p / 10 * 10 ≤ 1) then
    (if n = 7 then (-4, ρ) else (nI n, setI (setA (setA (setA (setA (setA (setA ρ 0 ((ρ.1 0).set n k)) 1 ((ρ.1 1).set n (w / 10))) 4 ((ρ.1 4).set n (w - w / 10 * 10))) 2 ((ρ.1 2).set n (p / 10))) 3 ((ρ.1 3).set n (p - p / 10 * 10))) 5 ((ρ.1 5).set n (nI n))) 7 (nI (n + 1))))
  else (-2, ρ)
def opSwap (ρ : MS) (n : Nat) (i j : Int32) : Int32 × MS :=
  if (0 ≤ i ∧ i < nI n) ∧ 0 ≤ j ∧ j < nI n then
    ((((ρ.1 5).set i.toInt.toNat ((ρ.1 5).getD j.toInt.toNat 0)).set j.toInt.toNat ((ρ.1 5).getD i.toInt.toNat 0)).getD i.toInt.toNat 0, setA ρ 5 (((ρ.1 5).set i.toInt.toNat ((ρ.1 5).getD j.toInt.toNat 0)).set j.toInt.toNat ((ρ.1 5).getD i.toInt.toNat 0)))
  else (-2, ρ)
def opForce (ρ : MS) (tx : Nat) (x : Int32) : Int32 × MS := if 0 ≤ x ∧ x ≤ nI tx - 1 then (ρ.2 8, setI ρ 8 x) else (-2, ρ)
def lstS : List Int32 := [4, 0, 0, 1, 0, 0, 1, 1, 1, 1]
def mstS : List Int32 := [60, 99, 999, 9, 9, 9, 9, 9, 9, 9]
def opBag (ρ : MS) (w v : Int32) : Int32 × MS := if (0 ≤ w ∧ w ≤ 9) ∧ lstS.getD w.toInt.toNat 0 ≤ v ∧ v ≤ mstS.getD w.toInt.toNat 0 then ((ρ.1 6).getD w.toInt.toNat 0, setA ρ 6 ((ρ.1 6).set w.toInt.toNat v)) else (-2, ρ)
def opFeed (ρ : MS) (x : Int32) : Int32 × MS := if 0 ≤ x ∧ x ≤ 255 then (if ρ.2 15 = 160 then (-4, ρ) else (ρ.2 15 + 1, setI (setA ρ 10 ((ρ.1 10).set (ρ.2 15).toInt.toNat x)) 15 (ρ.2 15 + 1))) else (-2, ρ)
def ansTaken (ρ : MS) (n : Nat) (h k : Int32) : Int32 := if 0 ≤ k ∧ k ≤ 5 then (if 0 ≤ h ∧ h < nI n then (if ((ρ.1 0).getD h.toInt.toNat 0 = k ∨ k = 0 ∨ (k = 1 ∧ ((ρ.1 0).getD h.toInt.toNat 0 = 3 ∨ (ρ.1 0).getD h.toInt.toNat 0 = 5)) ∨ (k = 2 ∧ (ρ.1 0).getD h.toInt.toNat 0 = 4)) then (ρ.1 1).getD h.toInt.toNat 0 else -13) else -11) else -2
theorem ix_r {x : Int32} (h : 0 ≤ x) : ix x x.toInt.toNat := ix_of (by rw [Int32.le_iff_toInt_le, Int32.toInt_zero] at h; exact h)
theorem setA_setA {ρ : MS} {k : Nat} {l l' : List Int32} : setA (setA ρ k l) k l' = setA ρ k l' := by
  simp only [setA]
  congr 1
  funext q
  split <;> rfl
theorem bag_lt {w : Int32} (h : 0 ≤ w ∧ w ≤ 9) : w.toInt.toNat < 10 := by
  have h1 := h.1
  have h2 := h.2
  simp only [Int32.le_iff_toInt_le, Int32.reduceToInt] at h1 h2
  omega
section MSIMPLE
variable {g : Gl} {μ : Mm} {b : Nat} {ρ : MS}
theorem MW.mk {ρ' : MS} (hM : RM b ρ' μ) (hL : ML ρ') (hE : EqC ρ' ρ) : MW b ρ μ := ⟨ρ', hM, hL, hE⟩
theorem c_comes (hW : MW b ρ μ) {n : Nat} (hN : ρ.2 7 = nI n) (hn : n ≤ 7) (k w p : Int32) : Mt g 1 mX12_comes [.ref b, .int k, .int w, .int p] μ (fun v μ' => v = some (.int (opHouse ρ n k w p).1) ∧ MW b (opHouse ρ n k w p).2 μ' ∧ FM b μ μ') := by
  refine Mt.of0 (ls0 := [some (.ref b), some (.int k), some (.int w), some (.int p)]) (by decide) (by simp [Value.category]) (Nat.le_of_ble_eq_true rfl) rfl ?_
  obtain ⟨ρ0, hM, hL, hE⟩ := id hW
  have hF : FM b μ μ := FM.rf
  have hN0 : ρ0.2 7 = nI n := (hE.2 7 (by decide)).trans hN
  rw [opHouse]
  refine ev_iload_n dX12_comes_0 rfl ?_
  refine ev_iconst (v := 0) dX12_comes_1 (by decide) ?_
  refine ev_iconst (v := 5) dX12_comes_2 (by decide) ?_
  refine k_s (c_isIn k 0 5) (by decide) dX12_comes_3 cbX12_isIn (mt5 123 rfl rfl) (mt5 124 rfl rfl) rfl rfl (Nat.le_of_ble_eq_true rfl) (fun v μ1 hq => ?_)
  obtain ⟨rfl, hμ⟩ := hq
  have hμ := hμ.symm
  subst hμ
  simp only [Option.toList, List.cons_append, List.nil_append]
  refine ev_if_eq (tgt := 46) dX12_comes_6 (by decide) (fun h6 => ?_) (fun h6 => ?_)
  · refine ev_bipush (v := (-2)) dX12_comes_46 (by decide) ?_
    refine ev_iret dX12_comes_48 rfl ?_
    first
      | (rw [if_neg (fun q => b2i_eq h6 q.1)]; exact ⟨rfl, ⟨ρ0, hM, hL, hE⟩, hF⟩)
      | (rw [if_neg (fun q => b2i_eq h16 q.2.1)]; exact ⟨rfl, ⟨ρ0, hM, hL, hE⟩, hF⟩)
      | (rw [if_neg (fun q => Int32.not_le.mpr h24 q.2.2.1)]; exact ⟨rfl, ⟨ρ0, hM, hL, hE⟩, hF⟩)
      | (rw [if_neg (fun q => b2i_eq h35 q.2.2.2.1)]; exact ⟨rfl, ⟨ρ0, hM, hL, hE⟩, hF⟩)
      | (rw [if_neg (fun q => h43 q.2.2.2.2)]; exact ⟨rfl, ⟨ρ0, hM, hL, hE⟩, hF⟩)
  · refine ev_iload_n dX12_comes_9 rfl ?_
    refine ev_iconst (v := 0) dX12_comes_10 (by decide) ?_
    refine ev_bipush (v := 99) dX12_comes_11 (by decide) ?_
    refine k_s (c_isIn w 0 99) (by decide) dX12_comes_13 cbX12_isIn (mt5 123 rfl rfl) (mt5 124 rfl rfl) rfl rfl (Nat.le_of_ble_eq_true rfl) (fun v μ1 hq => ?_)
    obtain ⟨rfl, hμ⟩ := hq
    have hμ := hμ.symm
    subst hμ
    simp only [Option.toList, List.cons_append, List.nil_append]
    refine ev_if_eq (tgt := 46) dX12_comes_16 (by decide) (fun h16 => ?_) (fun h16 => ?_)
    · refine ev_bipush (v := (-2)) dX12_comes_46 (by decide) ?_
      refine ev_iret dX12_comes_48 rfl ?_
      first
        | (rw [if_neg (fun q => b2i_eq h6 q.1)]; exact ⟨rfl, ⟨ρ0, hM, hL, hE⟩, hF⟩)
        | (rw [if_neg (fun q => b2i_eq h16 q.2.1)]; exact ⟨rfl, ⟨ρ0, hM, hL, hE⟩, hF⟩)
        | (rw [if_neg (fun q => Int32.not_le.mpr h24 q.2.2.1)]; exact ⟨rfl, ⟨ρ0, hM, hL, hE⟩, hF⟩)
        | (rw [if_neg (fun q => b2i_eq h35 q.2.2.2.1)]; exact ⟨rfl, ⟨ρ0, hM, hL, hE⟩, hF⟩)
        | (rw [if_neg (fun q => h43 q.2.2.2.2)]; exact ⟨rfl, ⟨ρ0, hM, hL, hE⟩, hF⟩)
    · refine ev_iload_n dX12_comes_19 rfl ?_
      refine ev_bipush (v := 10) dX12_comes_20 (by decide) ?_
      refine ev_irem dX12_comes_22 (by decide) ?_
      refine ev_iconst (v := 3) dX12_comes_23 (by decide) ?_
      refine ev_icmp_gt (tgt := 46) dX12_comes_24 (by decide) (fun h24 => ?_) (fun h24 => ?_)
      · refine ev_bipush (v := (-2)) dX12_comes_46 (by decide) ?_
        refine ev_iret dX12_comes_48 rfl ?_
        first
          | (rw [if_neg (fun q => b2i_eq h6 q.1)]; exact ⟨rfl, ⟨ρ0, hM, hL, hE⟩, hF⟩)
          | (rw [if_neg (fun q => b2i_eq h16 q.2.1)]; exact ⟨rfl, ⟨ρ0, hM, hL, hE⟩, hF⟩)
          | (rw [if_neg (fun q => Int32.not_le.mpr h24 q.2.2.1)]; exact ⟨rfl, ⟨ρ0, hM, hL, hE⟩, hF⟩)
          | (rw [if_neg (fun q => b2i_eq h35 q.2.2.2.1)]; exact ⟨rfl, ⟨ρ0, hM, hL, hE⟩, hF⟩)
          | (rw [if_neg (fun q => h43 q.2.2.2.2)]; exact ⟨rfl, ⟨ρ0, hM, hL, hE⟩, hF⟩)
      · refine ev_iload_n dX12_comes_27 rfl ?_
        refine ev_iconst (v := 0) dX12_comes_28 (by decide) ?_
        refine ev_sipush (v := 999) dX12_comes_29 (by decide) ?_
        refine k_s (c_isIn p 0 999) (by decide) dX12_comes_32 cbX12_isIn (mt5 123 rfl rfl) (mt5 124 rfl rfl) rfl rfl (Nat.le_of_ble_eq_true rfl) (fun v μ1 hq => ?_)
        obtain ⟨rfl, hμ⟩ := hq
        have hμ := hμ.symm
        subst hμ
        simp only [Option.toList, List.cons_append, List.nil_append]
        refine ev_if_eq (tgt := 46) dX12_comes_35 (by decide) (fun h35 => ?_) (fun h35 => ?_)
        · refine ev_bipush (v := (-2)) dX12_comes_46 (by decide) ?_
          refine ev_iret dX12_comes_48 rfl ?_
          first
            | (rw [if_neg (fun q => b2i_eq h6 q.1)]; exact ⟨rfl, ⟨ρ0, hM, hL, hE⟩, hF⟩)
            | (rw [if_neg (fun q => b2i_eq h16 q.2.1)]; exact ⟨rfl, ⟨ρ0, hM, hL, hE⟩, hF⟩)
            | (rw [if_neg (fun q => Int32.not_le.mpr h24 q.2.2.1)]; exact ⟨rfl, ⟨ρ0, hM, hL, hE⟩, hF⟩)
            | (rw [if_neg (fun q => b2i_eq h35 q.2.2.2.1)]; exact ⟨rfl, ⟨ρ0, hM, hL, hE⟩, hF⟩)
            | (rw [if_neg (fun q => h43 q.2.2.2.2)]; exact ⟨rfl, ⟨ρ0, hM, hL, hE⟩, hF⟩)
        · refine ev_iload_n dX12_comes_38 rfl ?_
          refine ev_bipush (v := 10) dX12_comes_39 (by decide) ?_
          refine ev_irem dX12_comes_41 (by decide) ?_
          refine ev_iconst (v := 1) dX12_comes_42 (by decide) ?_
          refine ev_icmp_le (tgt := 49) dX12_comes_43 (by decide) (fun h43 => ?_) (fun h43 => ?_)
          · rw [if_pos ⟨b2i_ne h6, b2i_ne h16, Int32.not_lt.mp h24, b2i_ne h35, h43⟩]
            have e7 : (ρ0.2 7 = 7) = (n = 7) := by
              rw [hN0]
              exact propext ⟨fun q => by have := nI_i (n := n) (by omega); rw [q] at this; simp at this; omega, fun q => by rw [q]; rfl⟩
            refine ev_aload_n dX12_comes_49 rfl ?_
            refine ev_get dX12_comes_50 flX12_82_12 hM.1 rfl ?_
            refine ev_bipush (v := 7) dX12_comes_53 (by decide) ?_
            refine ev_icmp_ne (tgt := 61) dX12_comes_55 (by decide) (fun h55 => ?_) (fun h55 => ?_)
            · have h55 : ¬ n = 7 := fun q => h55 (e7.mpr q)
              rw [if_neg h55]
              refine ev_aload_n dX12_comes_61 rfl ?_
              refine ev_get dX12_comes_62 flX12_7_12 hM.1 rfl ?_
              refine ev_aload_n dX12_comes_65 rfl ?_
              refine ev_get dX12_comes_66 flX12_82_12 hM.1 rfl ?_
              refine ev_iload_n dX12_comes_69 rfl ?_
              refine evM_iast hM hF (k := 0) (o := 1) (by decide) dX12_comes_70 (by show ix (ρ0.2 7) n; rw [hN0]; exact ix_n (by omega)) (by rw [hL.at (k := 0) (n := 7) (by decide)]; omega) (fun μ hM hF => ?_)
              refine ev_aload_n dX12_comes_71 rfl ?_
              refine ev_get dX12_comes_72 flX12_13_12 hM.1 rfl ?_
              refine ev_aload_n dX12_comes_75 rfl ?_
              refine ev_get dX12_comes_76 flX12_82_12 hM.1 rfl ?_
              refine ev_iload_n dX12_comes_79 rfl ?_
              refine ev_bipush (v := 10) dX12_comes_80 (by decide) ?_
              refine ev_idiv dX12_comes_82 (by decide) ?_
              refine evM_iast hM hF (k := 1) (o := 2) (by decide) dX12_comes_83 (by show ix (ρ0.2 7) n; rw [hN0]; exact ix_n (by omega)) (by show _ < (ρ0.1 1).length; rw [hL.at (k := 1) (n := 7) (by decide)]; omega) (fun μ hM hF => ?_)
              refine ev_aload_n dX12_comes_84 rfl ?_
              refine ev_get dX12_comes_85 flX12_22_12 hM.1 rfl ?_
              refine ev_aload_n dX12_comes_88 rfl ?_
              refine ev_get dX12_comes_89 flX12_82_12 hM.1 rfl ?_
              refine ev_iload_n dX12_comes_92 rfl ?_
              refine ev_bipush (v := 10) dX12_comes_93 (by decide) ?_
              refine ev_irem dX12_comes_95 (by decide) ?_
              refine evM_iast hM hF (k := 4) (o := 5) (by decide) dX12_comes_96 (by show ix (ρ0.2 7) n; rw [hN0]; exact ix_n (by omega)) (by show _ < (ρ0.1 4).length; rw [hL.at (k := 4) (n := 7) (by decide)]; omega) (fun μ hM hF => ?_)
              refine ev_aload_n dX12_comes_97 rfl ?_
              refine ev_get dX12_comes_98 flX12_16_12 hM.1 rfl ?_
              refine ev_aload_n dX12_comes_101 rfl ?_
              refine ev_get dX12_comes_102 flX12_82_12 hM.1 rfl ?_
              refine ev_iload_n dX12_comes_105 rfl ?_
              refine ev_bipush (v := 10) dX12_comes_106 (by decide) ?_
              refine ev_idiv dX12_comes_108 (by decide) ?_
              refine evM_iast hM hF (k := 2) (o := 3) (by decide) dX12_comes_109 (by show ix (ρ0.2 7) n; rw [hN0]; exact ix_n (by omega)) (by show _ < (ρ0.1 2).length; rw [hL.at (k := 2) (n := 7) (by decide)]; omega) (fun μ hM hF => ?_)
              refine ev_aload_n dX12_comes_110 rfl ?_
              refine ev_get dX12_comes_111 flX12_19_12 hM.1 rfl ?_
              refine ev_aload_n dX12_comes_114 rfl ?_
              refine ev_get dX12_comes_115 flX12_82_12 hM.1 rfl ?_
              refine ev_iload_n dX12_comes_118 rfl ?_
              refine ev_bipush (v := 10) dX12_comes_119 (by decide) ?_
              refine ev_irem dX12_comes_121 (by decide) ?_
              refine evM_iast hM hF (k := 3) (o := 4) (by decide) dX12_comes_122 (by show ix (ρ0.2 7) n; rw [hN0]; exact ix_n (by omega)) (by show _ < (ρ0.1 3).length; rw [hL.at (k := 3) (n := 7) (by decide)]; omega) (fun μ hM hF => ?_)
              refine ev_aload_n dX12_comes_123 rfl ?_
              refine ev_get dX12_comes_124 flX12_25_12 hM.1 rfl ?_
              refine ev_aload_n dX12_comes_127 rfl ?_
              refine ev_get dX12_comes_128 flX12_82_12 hM.1 rfl ?_
              refine ev_aload_n dX12_comes_131 rfl ?_
              refine ev_get dX12_comes_132 flX12_82_12 hM.1 rfl ?_
              refine evM_iast hM hF (k := 5) (o := 6) (by decide) dX12_comes_135 (by show ix (ρ0.2 7) n; rw [hN0]; exact ix_n (by omega)) (by show _ < (ρ0.1 5).length; rw [hL.at (k := 5) (n := 7) (by decide)]; omega) (fun μ hM hF => ?_)
              refine ev_aload_n dX12_comes_136 rfl ?_
              refine ev_dup dX12_comes_137 rfl ?_
              refine ev_get dX12_comes_138 flX12_82_12 hM.1 rfl ?_
              refine ev_iconst (v := 1) dX12_comes_141 (by decide) ?_
              refine ev_iadd dX12_comes_142 ?_
              refine evM_put hM hF (k := 7) (by decide) dX12_comes_143 fpX12_82_12 rfl rfl (fun μ hM hF => ?_)
              refine ev_aload_n dX12_comes_146 rfl ?_
              refine ev_get dX12_comes_147 flX12_82_12 hM.1 rfl ?_
              refine ev_iconst (v := 1) dX12_comes_150 (by decide) ?_
              refine ev_isub dX12_comes_151 ?_
              refine ev_iret dX12_comes_152 rfl ?_
              refine ⟨?_, ⟨_, hM, ?_, ?_⟩, hF⟩
              · show some (Value.int (ρ0.2 7 + 1 - 1)) = some (Value.int (nI n))
                rw [hN0, ← nI_succ, nI_pred]
              · refine ML.setI (ML.setA (ML.setA (ML.setA (ML.setA (ML.setA (ML.setA hL ?_) ?_) ?_) ?_) ?_) ?_) <;> rw [List.length_set]
              · show EqC (setI (setA (setA (setA (setA (setA (setA ρ0 0 ((ρ0.1 0).set n k)) 1 ((ρ0.1 1).set n (w / 10))) 4 ((ρ0.1 4).set n (w - w / 10 * 10))) 2 ((ρ0.1 2).set n (p / 10))) 3 ((ρ0.1 3).set n (p - p / 10 * 10))) 5 ((ρ0.1 5).set n (ρ0.2 7))) 7 (ρ0.2 7 + 1)) _
                rw [hE.1 0 (by decide), hE.1 1 (by decide), hE.1 2 (by decide), hE.1 3 (by decide), hE.1 4 (by decide), hE.1 5 (by decide), hN0, ← nI_succ]
                exact hE.cA.cA.cA.cA.cA.cA.cI
            · refine ev_bipush (v := (-4)) dX12_comes_58 (by decide) ?_
              refine ev_iret dX12_comes_60 rfl ?_
              rw [if_pos (e7.mp h55)]
              exact ⟨rfl, ⟨ρ0, hM, hL, hE⟩, hF⟩
          · refine ev_bipush (v := (-2)) dX12_comes_46 (by decide) ?_
            refine ev_iret dX12_comes_48 rfl ?_
            first
              | (rw [if_neg (fun q => b2i_eq h6 q.1)]; exact ⟨rfl, ⟨ρ0, hM, hL, hE⟩, hF⟩)
              | (rw [if_neg (fun q => b2i_eq h16 q.2.1)]; exact ⟨rfl, ⟨ρ0, hM, hL, hE⟩, hF⟩)
              | (rw [if_neg (fun q => Int32.not_le.mpr h24 q.2.2.1)]; exact ⟨rfl, ⟨ρ0, hM, hL, hE⟩, hF⟩)
              | (rw [if_neg (fun q => b2i_eq h35 q.2.2.2.1)]; exact ⟨rfl, ⟨ρ0, hM, hL, hE⟩, hF⟩)
              | (rw [if_neg (fun q => h43 q.2.2.2.2)]; exact ⟨rfl, ⟨ρ0, hM, hL, hE⟩, hF⟩)
theorem c_house (hW : MW b ρ μ) {n : Nat} (hN : ρ.2 7 = nI n) (hn : n ≤ 7) (k w p : Int32) : Mt g 2 mX12_house [.ref b, .int k, .int w, .int p] μ (fun v μ' => v = some (.int (opHouse ρ n k w p).1) ∧ MW b (opHouse ρ n k w p).2 μ' ∧ FM b μ μ') := by
  refine Mt.of0 (ls0 := [some (.ref b), some (.int k), some (.int w), some (.int p)]) (by decide) (by simp [Value.category]) (Nat.le_of_ble_eq_true rfl) rfl ?_
  obtain ⟨ρ0, hM, hL, hE⟩ := id hW
  refine ev_aload_n dX12_house_0 rfl ?_
  refine ev_iload_n dX12_house_1 rfl ?_
  refine ev_iload_n dX12_house_2 rfl ?_
  refine ev_iload_n dX12_house_3 rfl ?_
  refine k_v (c_comes hW hN hn k w p) (by decide) dX12_house_4 cbX12_comes (mt5 191 rfl rfl) (mt5 193 rfl rfl) (ms0 56 rfl rfl) (ci := 12) rfl hM.1 rfl rfl (Nat.le_of_ble_eq_true rfl) (fun v μ1 hq => ?_)
  obtain ⟨rfl, hW1, hF1⟩ := hq
  simp only [Option.toList, List.cons_append, List.nil_append]
  refine ev_iret dX12_house_7 rfl ?_
  exact ⟨rfl, hW1, hF1⟩
theorem c_swap (hW : MW b ρ μ) {n : Nat} (hN : ρ.2 7 = nI n) (hn : n ≤ 7) (i j : Int32) : Mt g 1 mX12_swap [.ref b, .int i, .int j] μ (fun v μ' => v = some (.int (opSwap ρ n i j).1) ∧ MW b (opSwap ρ n i j).2 μ' ∧ FM b μ μ') := by
  refine Mt.of0 (ls0 := [some (.ref b), some (.int i), some (.int j), none]) (by decide) (by simp [Value.category]) (Nat.le_of_ble_eq_true rfl) rfl ?_
  obtain ⟨ρ0, hM, hL, hE⟩ := id hW
  have hF : FM b μ μ := FM.rf
  have hN0 : ρ0.2 7 = nI n := (hE.2 7 (by decide)).trans hN
  have h57 := hL.at (k := 5) (n := 7) (by decide)
  rw [opSwap]
  refine ev_aload_n dX12_swap_0 rfl ?_
  refine ev_iload_n dX12_swap_1 rfl ?_
  refine k_v (c_isHouse hM i) (by decide) dX12_swap_2 cbX12_isHouse (mt5 199 rfl rfl) (mt5 201 rfl rfl) (ms0 57 rfl rfl) (ci := 12) rfl hM.1 rfl rfl (Nat.le_of_ble_eq_true rfl) (fun v μ1 hq => ?_)
  obtain ⟨rfl, hμ⟩ := hq
  have hμ := hμ.symm
  subst hμ
  simp only [Option.toList, List.cons_append, List.nil_append]
  rw [hN0]
  refine ev_if_eq (tgt := 16) dX12_swap_5 (by decide) (fun h5 => ?_) (fun h5 => ?_)
  · refine ev_bipush (v := (-2)) dX12_swap_16 (by decide) ?_
    refine ev_iret dX12_swap_18 rfl ?_
    first
      | (rw [if_neg (fun q => b2i_eq h5 q.1)]; exact ⟨rfl, ⟨ρ0, hM, hL, hE⟩, hF⟩)
      | (rw [if_neg (fun q => b2i_eq h13 q.2)]; exact ⟨rfl, ⟨ρ0, hM, hL, hE⟩, hF⟩)
  · refine ev_aload_n dX12_swap_8 rfl ?_
    refine ev_iload_n dX12_swap_9 rfl ?_
    refine k_v (c_isHouse hM j) (by decide) dX12_swap_10 cbX12_isHouse (mt5 199 rfl rfl) (mt5 201 rfl rfl) (ms0 57 rfl rfl) (ci := 12) rfl hM.1 rfl rfl (Nat.le_of_ble_eq_true rfl) (fun v μ1 hq => ?_)
    obtain ⟨rfl, hμ⟩ := hq
    have hμ := hμ.symm
    subst hμ
    simp only [Option.toList, List.cons_append, List.nil_append]
    rw [hN0]
    refine ev_if_ne (tgt := 19) dX12_swap_13 (by decide) (fun h13 => ?_) (fun h13 => ?_)
    · have h5 := b2i_ne h5
      have h13 := b2i_ne h13
      rw [if_pos ⟨h5, h13⟩]
      obtain ⟨hi, ei⟩ := house_n hn h5.1 h5.2
      obtain ⟨hj, ej⟩ := house_n hn h13.1 h13.2
      generalize i.toInt.toNat = i' at hi ei ⊢
      generalize j.toInt.toNat = j' at hj ej ⊢
      subst ei
      subst ej
      refine ev_aload_n dX12_swap_19 rfl ?_
      refine ev_get dX12_swap_20 flX12_25_12 hM.1 rfl ?_
      refine ev_iload_n dX12_swap_23 rfl ?_
      refine ev_iald dX12_swap_24 (hM.a 5 6 (by decide)) (ix_n (by omega)) (rd hL (n := 7) (by decide) (by omega)) ?_
      refine ev_istore_n dX12_swap_25 (by decide) ?_
      dsimp only [List.set]
      refine ev_aload_n dX12_swap_26 rfl ?_
      refine ev_get dX12_swap_27 flX12_25_12 hM.1 rfl ?_
      refine ev_iload_n dX12_swap_30 rfl ?_
      refine ev_aload_n dX12_swap_31 rfl ?_
      refine ev_get dX12_swap_32 flX12_25_12 hM.1 rfl ?_
      refine ev_iload_n dX12_swap_35 rfl ?_
      refine ev_iald dX12_swap_36 (hM.a 5 6 (by decide)) (ix_n (by omega)) (rd hL (n := 7) (by decide) (by omega)) ?_
      refine evM_iast hM hF (k := 5) (o := 6) (by decide) dX12_swap_37 (ix_n (by omega)) (by omega) (fun μ hM hF => ?_)
      refine ev_aload_n dX12_swap_38 rfl ?_
      refine ev_get dX12_swap_39 flX12_25_12 hM.1 rfl ?_
      refine ev_iload_n dX12_swap_42 rfl ?_
      refine ev_iload_n dX12_swap_43 rfl ?_
      refine evM_iast hM hF (k := 5) (o := 6) (by decide) dX12_swap_44 (ix_n (by omega)) (by rw [setA_at, List.length_set]; omega) (fun μ hM hF => ?_)
      refine ev_aload_n dX12_swap_45 rfl ?_
      refine ev_get dX12_swap_46 flX12_25_12 hM.1 rfl ?_
      refine ev_iload_n dX12_swap_49 rfl ?_
      refine ev_iald dX12_swap_50 (hM.a 5 6 (by decide)) (ix_n (by omega)) (gd (by rw [setA_at, List.length_set, setA_at, List.length_set]; omega)) ?_
      refine ev_iret dX12_swap_51 rfl ?_
      refine ⟨?_, ⟨_, hM, ?_, ?_⟩, hF⟩
      · rw [setA_at, setA_at, hE.1 5 (by decide)]
      · refine ML.setA (ML.setA hL ?_) ?_ <;> rw [List.length_set]
      · rw [setA_at, setA_setA, hE.1 5 (by decide)]
        exact hE.cA
    · refine ev_bipush (v := (-2)) dX12_swap_16 (by decide) ?_
      refine ev_iret dX12_swap_18 rfl ?_
      first
        | (rw [if_neg (fun q => b2i_eq h5 q.1)]; exact ⟨rfl, ⟨ρ0, hM, hL, hE⟩, hF⟩)
        | (rw [if_neg (fun q => b2i_eq h13 q.2)]; exact ⟨rfl, ⟨ρ0, hM, hL, hE⟩, hF⟩)
theorem c_force (hW : MW b ρ μ) {tx : Nat} (hT : ρ.2 16 = nI tx) (x : Int32) : Mt g 1 mX12_force [.ref b, .int x] μ (fun v μ' => v = some (.int (opForce ρ tx x).1) ∧ MW b (opForce ρ tx x).2 μ' ∧ FM b μ μ') := by
  refine Mt.of0 (ls0 := [some (.ref b), some (.int x), none]) (by decide) (by simp [Value.category]) (Nat.le_of_ble_eq_true rfl) rfl ?_
  obtain ⟨ρ0, hM, hL, hE⟩ := id hW
  have hF : FM b μ μ := FM.rf
  have hT0 : ρ0.2 16 = nI tx := (hE.2 16 (by decide)).trans hT
  rw [opForce]
  refine ev_iload_n dX12_force_0 rfl ?_
  refine ev_iconst (v := 0) dX12_force_1 (by decide) ?_
  refine ev_aload_n dX12_force_2 rfl ?_
  refine ev_get dX12_force_3 flX12_51_12 hM.1 rfl ?_
  refine ev_iconst (v := 1) dX12_force_6 (by decide) ?_
  refine ev_isub dX12_force_7 ?_
  refine k_s (c_isIn x 0 (ρ0.2 16 - 1)) (by decide) dX12_force_8 cbX12_isIn (mt5 123 rfl rfl) (mt5 124 rfl rfl) rfl rfl (Nat.le_of_ble_eq_true rfl) (fun v μ1 hq => ?_)
  obtain ⟨rfl, hμ⟩ := hq
  have hμ := hμ.symm
  subst hμ
  simp only [Option.toList, List.cons_append, List.nil_append]
  rw [hT0]
  refine ev_if_ne (tgt := 17) dX12_force_11 (by decide) (fun h11 => ?_) (fun h11 => ?_)
  · rw [if_pos (b2i_ne h11)]
    refine ev_aload_n dX12_force_17 rfl ?_
    refine ev_get dX12_force_18 flX12_165_12 hM.1 rfl ?_
    refine ev_istore_n dX12_force_21 (by decide) ?_
    dsimp only [List.set]
    refine ev_aload_n dX12_force_22 rfl ?_
    refine ev_iload_n dX12_force_23 rfl ?_
    refine evM_put hM hF (k := 8) (by decide) dX12_force_24 fpX12_165_12 rfl rfl (fun μ hM hF => ?_)
    refine ev_iload_n dX12_force_27 rfl ?_
    refine ev_iret dX12_force_28 rfl ?_
    refine ⟨?_, ⟨_, hM, ML.setI hL, hE.cI⟩, hF⟩
    rw [hE.2 8 (by decide)]
  · refine ev_bipush (v := (-2)) dX12_force_14 (by decide) ?_
    refine ev_iret dX12_force_16 rfl ?_
    rw [if_neg (b2i_eq h11)]
    exact ⟨rfl, ⟨ρ0, hM, hL, hE⟩, hF⟩
theorem c_bag (hW : MW b ρ μ) (w v : Int32) : Mt g 1 mX12_bag [.ref b, .int w, .int v] μ (fun r μ' => r = some (.int (opBag ρ w v).1) ∧ MW b (opBag ρ w v).2 μ' ∧ FM b μ μ') := by
  refine Mt.of0 (ls0 := [some (.ref b), some (.int w), some (.int v), none]) (by decide) (by simp [Value.category]) (Nat.le_of_ble_eq_true rfl) rfl ?_
  obtain ⟨ρ0, hM, hL, hE⟩ := id hW
  have hF : FM b μ μ := FM.rf
  rw [opBag]
  refine ev_iload_n dX12_bag_0 rfl ?_
  refine ev_iconst (v := 0) dX12_bag_1 (by decide) ?_
  refine ev_bipush (v := 9) dX12_bag_2 (by decide) ?_
  refine k_s (c_isIn w 0 9) (by decide) dX12_bag_4 cbX12_isIn (mt5 123 rfl rfl) (mt5 124 rfl rfl) rfl rfl (Nat.le_of_ble_eq_true rfl) (fun v μ1 hq => ?_)
  obtain ⟨rfl, hμ⟩ := hq
  have hμ := hμ.symm
  subst hμ
  simp only [Option.toList, List.cons_append, List.nil_append]
  refine ev_if_eq (tgt := 27) dX12_bag_7 (by decide) (fun h7 => ?_) (fun h7 => ?_)
  · refine ev_bipush (v := (-2)) dX12_bag_27 (by decide) ?_
    refine ev_iret dX12_bag_29 rfl ?_
    first
      | (rw [if_neg (fun q => b2i_eq h7 q.1)]; exact ⟨rfl, ⟨ρ0, hM, hL, hE⟩, hF⟩)
      | (rw [if_neg (fun q => b2i_eq h24 q.2)]; exact ⟨rfl, ⟨ρ0, hM, hL, hE⟩, hF⟩)
  · refine ev_iload_n dX12_bag_10 rfl ?_
    refine ev_gets (k := 4) dX12_bag_11 rfl (mt5 207 rfl rfl) ?_
    refine ev_iload_n dX12_bag_14 rfl ?_
    refine ev_stald dX12_bag_15 rfl (ix_r (b2i_ne h7).1) (show (saT.getD 4 ("", "", [])).2.2[w.toInt.toNat]? = some (lstS.getD w.toInt.toNat 0) from gd (bag_lt (b2i_ne h7))) ?_
    refine ev_gets (k := 5) dX12_bag_16 rfl (mt5 209 rfl rfl) ?_
    refine ev_iload_n dX12_bag_19 rfl ?_
    refine ev_stald dX12_bag_20 rfl (ix_r (b2i_ne h7).1) (show (saT.getD 5 ("", "", [])).2.2[w.toInt.toNat]? = some (mstS.getD w.toInt.toNat 0) from gd (bag_lt (b2i_ne h7))) ?_
    refine k_s (c_isIn v _ _) (by decide) dX12_bag_21 cbX12_isIn (mt5 123 rfl rfl) (mt5 124 rfl rfl) rfl rfl (Nat.le_of_ble_eq_true rfl) (fun v μ1 hq => ?_)
    obtain ⟨rfl, hμ⟩ := hq
    have hμ := hμ.symm
    subst hμ
    simp only [Option.toList, List.cons_append, List.nil_append]
    refine ev_if_ne (tgt := 30) dX12_bag_24 (by decide) (fun h24 => ?_) (fun h24 => ?_)
    · rw [if_pos ⟨b2i_ne h7, b2i_ne h24⟩]
      refine ev_aload_n dX12_bag_30 rfl ?_
      refine ev_get dX12_bag_31 flX12_28_12 hM.1 rfl ?_
      refine ev_iload_n dX12_bag_34 rfl ?_
      refine ev_iald dX12_bag_35 (hM.a 6 7 (by decide)) (ix_r (b2i_ne h7).1) (rd hL (n := 10) (by decide) (bag_lt (b2i_ne h7))) ?_
      refine ev_istore_n dX12_bag_36 (by decide) ?_
      dsimp only [List.set]
      refine ev_aload_n dX12_bag_37 rfl ?_
      refine ev_get dX12_bag_38 flX12_28_12 hM.1 rfl ?_
      refine ev_iload_n dX12_bag_41 rfl ?_
      refine ev_iload_n dX12_bag_42 rfl ?_
      refine evM_iast hM hF (k := 6) (o := 7) (by decide) dX12_bag_43 (ix_r (b2i_ne h7).1) (by rw [hL.at (k := 6) (n := 10) (by decide)]; exact bag_lt (b2i_ne h7)) (fun μ hM hF => ?_)
      refine ev_iload_n dX12_bag_44 rfl ?_
      refine ev_iret dX12_bag_45 rfl ?_
      refine ⟨?_, ⟨_, hM, ML.setA hL (List.length_set), ?_⟩, hF⟩
      · rw [hE.1 6 (by decide)]
      · rw [hE.1 6 (by decide)]; exact hE.cA
    · refine ev_bipush (v := (-2)) dX12_bag_27 (by decide) ?_
      refine ev_iret dX12_bag_29 rfl ?_
      first
        | (rw [if_neg (fun q => b2i_eq h7 q.1)]; exact ⟨rfl, ⟨ρ0, hM, hL, hE⟩, hF⟩)
        | (rw [if_neg (fun q => b2i_eq h24 q.2)]; exact ⟨rfl, ⟨ρ0, hM, hL, hE⟩, hF⟩)
theorem c_taken (hW : MW b ρ μ) {n : Nat} (hN : ρ.2 7 = nI n) (hn : n ≤ 7) (h k : Int32) : Mt g 1 mX12_taken [.ref b, .int h, .int k] μ (fun v μ' => v = some (.int (ansTaken ρ n h k)) ∧ MW b ρ μ' ∧ FM b μ μ') := by
  refine Mt.of0 (ls0 := [some (.ref b), some (.int h), some (.int k)]) (by decide) (by simp [Value.category]) (Nat.le_of_ble_eq_true rfl) rfl ?_
  obtain ⟨ρ0, hM, hL, hE⟩ := id hW
  have hF : FM b μ μ := FM.rf
  have hN0 : ρ0.2 7 = nI n := (hE.2 7 (by decide)).trans hN
  rw [ansTaken]
  refine ev_iload_n dX12_taken_0 rfl ?_
  refine ev_iconst (v := 0) dX12_taken_1 (by decide) ?_
  refine ev_iconst (v := 5) dX12_taken_2 (by decide) ?_
  refine k_s (c_isIn k 0 5) (by decide) dX12_taken_3 cbX12_isIn (mt5 123 rfl rfl) (mt5 124 rfl rfl) rfl rfl (Nat.le_of_ble_eq_true rfl) (fun v μ1 hq => ?_)
  obtain ⟨rfl, hμ⟩ := hq
  have hμ := hμ.symm
  subst hμ
  simp only [Option.toList, List.cons_append, List.nil_append]
  refine ev_if_ne (tgt := 12) dX12_taken_6 (by decide) (fun h6 => ?_) (fun h6 => ?_)
  · refine ev_aload_n dX12_taken_12 rfl ?_
    refine ev_iload_n dX12_taken_13 rfl ?_
    refine k_v (c_isHouse hM h) (by decide) dX12_taken_14 cbX12_isHouse (mt5 199 rfl rfl) (mt5 201 rfl rfl) (ms0 57 rfl rfl) (ci := 12) rfl hM.1 rfl rfl (Nat.le_of_ble_eq_true rfl) (fun v μ1 hq => ?_)
    obtain ⟨rfl, hμ⟩ := hq
    have hμ := hμ.symm
    subst hμ
    simp only [Option.toList, List.cons_append, List.nil_append]
    rw [hN0]
    refine ev_if_ne (tgt := 23) dX12_taken_17 (by decide) (fun h17 => ?_) (fun h17 => ?_)
    · have h17 := b2i_ne h17
      rw [if_pos (b2i_ne h6), if_pos h17]
      obtain ⟨hi, ei⟩ := house_n hn h17.1 h17.2
      generalize h.toInt.toNat = i' at hi ei ⊢
      subst ei
      rw [← hE.1 0 (by decide), ← hE.1 1 (by decide)]
      refine ev_aload_n dX12_taken_23 rfl ?_
      refine ev_get dX12_taken_24 flX12_7_12 hM.1 rfl ?_
      refine ev_iload_n dX12_taken_27 rfl ?_
      refine ev_iald dX12_taken_28 (hM.a 0 1 (by decide)) (ix_n (by omega)) (rd hL (n := 7) (by decide) (by omega)) ?_
      refine ev_iload_n dX12_taken_29 rfl ?_
      refine k_s (c_isUnder _ _) (by decide) dX12_taken_30 cbX12_isUnder (mt6 13 rfl rfl) (mt6 14 rfl rfl) rfl rfl (Nat.le_of_ble_eq_true rfl) (fun v μ1 hq => ?_)
      obtain ⟨rfl, hμ⟩ := hq
      have hμ := hμ.symm
      subst hμ
      simp only [Option.toList, List.cons_append, List.nil_append]
      refine ev_if_eq (tgt := 45) dX12_taken_33 (by decide) (fun h33 => ?_) (fun h33 => ?_)
      · refine ev_bipush (v := (-13)) dX12_taken_45 (by decide) ?_
        refine ev_iret dX12_taken_47 rfl ?_
        first
          | (rw [if_pos (b2i_ne h33)]; exact ⟨rfl, hW, hF⟩)
          | (rw [if_neg (b2i_eq h33)]; exact ⟨rfl, hW, hF⟩)
      · refine ev_aload_n dX12_taken_36 rfl ?_
        refine ev_get dX12_taken_37 flX12_13_12 hM.1 rfl ?_
        refine ev_iload_n dX12_taken_40 rfl ?_
        refine ev_iald dX12_taken_41 (hM.a 1 2 (by decide)) (ix_n (by omega)) (rd hL (n := 7) (by decide) (by omega)) ?_
        refine ev_goto (tgt := 47) dX12_taken_42 (by decide) ?_
        refine ev_iret dX12_taken_47 rfl ?_
        first
          | (rw [if_pos (b2i_ne h33)]; exact ⟨rfl, hW, hF⟩)
          | (rw [if_neg (b2i_eq h33)]; exact ⟨rfl, hW, hF⟩)
    · refine ev_bipush (v := (-11)) dX12_taken_20 (by decide) ?_
      refine ev_iret dX12_taken_22 rfl ?_
      rw [if_pos (b2i_ne h6), if_neg (b2i_eq h17)]
      exact ⟨rfl, hW, hF⟩
  · refine ev_bipush (v := (-2)) dX12_taken_9 (by decide) ?_
    refine ev_iret dX12_taken_11 rfl ?_
    rw [if_neg (b2i_eq h6)]
    exact ⟨rfl, hW, hF⟩
theorem c_feed (hW : MW b ρ μ) (hT : 0 ≤ (ρ.2 15).toInt ∧ (ρ.2 15).toInt ≤ 160) (x : Int32) : Mt g 1 mX12_feed [.ref b, .int x] μ (fun v μ' => v = some (.int (opFeed ρ x).1) ∧ MW b (opFeed ρ x).2 μ' ∧ FM b μ μ') := by
  refine Mt.of0 (ls0 := [some (.ref b), some (.int x)]) (by decide) (by simp [Value.category]) (Nat.le_of_ble_eq_true rfl) rfl ?_
  obtain ⟨ρ0, hM, hL, hE⟩ := id hW
  have hF : FM b μ μ := FM.rf
  have e15 : ρ0.2 15 = ρ.2 15 := hE.2 15 (by decide)
  rw [opFeed]
  refine ev_iload_n dX12_feed_0 rfl ?_
  refine ev_iconst (v := 0) dX12_feed_1 (by decide) ?_
  refine ev_sipush (v := 255) dX12_feed_2 (by decide) ?_
  refine k_s (c_isIn x 0 255) (by decide) dX12_feed_5 cbX12_isIn (mt5 123 rfl rfl) (mt5 124 rfl rfl) rfl rfl (Nat.le_of_ble_eq_true rfl) (fun v μ1 hq => ?_)
  obtain ⟨rfl, hμ⟩ := hq
  have hμ := hμ.symm
  subst hμ
  simp only [Option.toList, List.cons_append, List.nil_append]
  refine ev_if_ne (tgt := 14) dX12_feed_8 (by decide) (fun h8 => ?_) (fun h8 => ?_)
  · rw [if_pos (b2i_ne h8), ← e15]
    refine ev_aload_n dX12_feed_14 rfl ?_
    refine ev_get dX12_feed_15 flX12_96_12 hM.1 rfl ?_
    refine ev_sipush (v := 160) dX12_feed_18 (by decide) ?_
    refine ev_icmp_ne (tgt := 27) dX12_feed_21 (by decide) (fun h21 => ?_) (fun h21 => ?_)
    · rw [if_neg h21]
      have hlt : (ρ0.2 15).toInt.toNat < 160 := by
        have h21' : ¬ (ρ0.2 15).toInt = (160 : Int32).toInt := fun q => h21 (Int32.toInt_inj.mp q)
        rw [show (160 : Int32).toInt = 160 by decide, e15] at h21'
        rw [e15]; omega
      refine ev_aload_n dX12_feed_27 rfl ?_
      refine ev_get dX12_feed_28 flX12_36_12 hM.1 rfl ?_
      refine ev_aload_n dX12_feed_31 rfl ?_
      refine ev_get dX12_feed_32 flX12_96_12 hM.1 rfl ?_
      refine ev_iload_n dX12_feed_35 rfl ?_
      refine evM_iast hM hF (k := 10) (o := 21) (by decide) dX12_feed_36 (ix_of (by rw [e15]; exact hT.1)) (by rw [hL.at (k := 10) (n := 160) (by decide)]; exact hlt) (fun μ hM hF => ?_)
      refine ev_aload_n dX12_feed_37 rfl ?_
      refine ev_dup dX12_feed_38 rfl ?_
      refine ev_get dX12_feed_39 flX12_96_12 hM.1 rfl ?_
      refine ev_iconst (v := 1) dX12_feed_42 (by decide) ?_
      refine ev_iadd dX12_feed_43 ?_
      refine evM_put hM hF (k := 15) (by decide) dX12_feed_44 fpX12_96_12 rfl rfl (fun μ hM hF => ?_)
      refine ev_aload_n dX12_feed_47 rfl ?_
      refine ev_get dX12_feed_48 flX12_96_12 hM.1 rfl ?_
      refine ev_iret dX12_feed_51 rfl ?_
      refine ⟨rfl, ⟨_, hM, ML.setI (ML.setA hL List.length_set), ?_⟩, hF⟩
      rw [hE.1 10 (by decide)]
      exact hE.cA.cI
    · refine ev_bipush (v := (-4)) dX12_feed_24 (by decide) ?_
      refine ev_iret dX12_feed_26 rfl ?_
      rw [if_pos h21]
      exact ⟨rfl, hW, hF⟩
  · refine ev_bipush (v := (-2)) dX12_feed_11 (by decide) ?_
    refine ev_iret dX12_feed_13 rfl ?_
    rw [if_neg (b2i_eq h8)]
    exact ⟨rfl, hW, hF⟩
end MSIMPLE
