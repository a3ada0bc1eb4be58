/-! ===== the reference: copy, image, back ===== -/
def cpK (l0 : List Int32) (p q : Nat) : Nat → Nat → List Int32 → List Int32
  | 0, _, l => l
  | m + 1, k, l => cpK l0 p q m (k + 1) (l.set (q + k) (l0.getD (p + k) 0))
def opCopy (ρ : MS) (s i o j n : Int32) : Int32 × MS :=
  if (0 ≤ s ∧ s < 4) ∧ 0 ≤ o ∧ o < 4 then
    (if (ρ.1 33).getD s.toInt.toNat 0 < 0 ∨ (ρ.1 33).getD o.toInt.toNat 0 < 0 then (-11, ρ) else
     if ¬ (ρ.1 33).getD s.toInt.toNat 0 = (ρ.1 33).getD o.toInt.toNat 0 then (-13, ρ) else
     if 0 ≤ n ∧ (0 ≤ i ∧ i ≤ (ρ.1 34).getD s.toInt.toNat 0 ∧ n ≤ (ρ.1 34).getD s.toInt.toNat 0 - i) ∧ (0 ≤ j ∧ j ≤ (ρ.1 34).getD o.toInt.toNat 0 ∧ n ≤ (ρ.1 34).getD o.toInt.toNat 0 - j) then
       (n, setA ρ 35 (cpK (ρ.1 35) (40 * s.toInt.toNat + i.toInt.toNat) (40 * o.toInt.toNat + j.toInt.toNat) n.toInt.toNat 0 (ρ.1 35)))
     else (-12, ρ)) else (-2, ρ)
theorem cpK_len {l0 : List Int32} {p q : Nat} : ∀ (m k : Nat) (l : List Int32), (cpK l0 p q m k l).length = l.length := by
  intro m
  induction m with
  | zero => intro k l; rfl
  | succ m ih => intro k l; rw [cpK, ih, List.length_set]
theorem in_n {i z n : Int32} {z' : Nat} (hz : z = nI z') (h4 : z' ≤ 40) (h : 0 ≤ i ∧ i ≤ z ∧ n ≤ z - i) (hn : 0 ≤ n) : ∃ i' n', i = nI i' ∧ n = nI n' ∧ i' + n' ≤ z' ∧ i.toInt.toNat = i' ∧ n.toInt.toNat = n' := by
  obtain ⟨h1, h2, h3⟩ := h
  subst hz
  simp only [Int32.le_iff_toInt_le, Int32.reduceToInt] at h1 h2 hn
  rw [nI_i (by omega)] at h2
  rw [Int32.le_iff_toInt_le, sub_i (by rw [nI_i (by omega)]; omega) (by rw [nI_i (by omega)]; omega), nI_i (by omega)] at h3
  refine ⟨i.toInt.toNat, n.toInt.toNat, ?_, ?_, by omega, rfl, rfl⟩
  · apply Int32.toInt_inj.mp; rw [nI_i (by omega)]; omega
  · apply Int32.toInt_inj.mp; rw [nI_i (by omega)]; omega
section MIMAGE
variable {g : Gl} {b : Nat} {ρ : MS}
theorem l_copy1 {ρ0 : MS} (hL : ML ρ0) {s i o n : Nat} {jj : Int32} (hs : s < 4) (hn : i + n ≤ 40) {μ0 : Mm} {Q : Option Value → Mm → Prop} (go : ∀ (mv : List Int32) (μ : Mm), mv.length = 40 → (∀ q, q < n → mv[q]? = some ((ρ0.1 35).getD (40 * s + i + q) 0)) → RM b (setA ρ0 36 mv) μ → FM b μ0 μ → Ev g 1 mX12_copy 124 [some (.ref b), some (.int (nI s)), some (.int (nI i)), some (.int (nI o)), some (.int jj), some (.int (nI n)), some (.int (nI n))] [] μ Q) : ∀ (m k : Nat) (mv : List Int32) (μ : Mm), k + m = n → mv.length = 40 → (∀ q, q < k → mv[q]? = some ((ρ0.1 35).getD (40 * s + i + q) 0)) → RM b (setA ρ0 36 mv) μ → FM b μ0 μ → Ev g 1 mX12_copy 90 [some (.ref b), some (.int (nI s)), some (.int (nI i)), some (.int (nI o)), some (.int jj), some (.int (nI n)), some (.int (nI k))] [] μ Q := by
  intro m
  induction m with
  | zero =>
    intro k mv μ hk hl hq hM hF
    have hk' : k = n := by omega
    subst hk'
    refine ev_iload dX12_copy_90 rfl ?_
    refine ev_iload dX12_copy_92 rfl ?_
    refine ev_icmp_ge (tgt := 124) dX12_copy_94 (by decide) (fun _ => ?_) (fun h94 => absurd ((nI_le (by omega) (by omega))) h94)
    exact go mv μ hl hq hM hF
  | succ m ih =>
    intro k mv μ hk hl hq hM hF
    refine ev_iload dX12_copy_90 rfl ?_
    refine ev_iload dX12_copy_92 rfl ?_
    refine ev_icmp_ge (tgt := 124) dX12_copy_94 (by decide) (fun h94 => absurd h94 ((nI_ge (by omega) (by omega)))) (fun _ => ?_)
    refine ev_aload_n dX12_copy_97 rfl ?_
    refine ev_get dX12_copy_98 flX12_76_12 hM.1 rfl ?_
    refine ev_iload dX12_copy_101 rfl ?_
    refine ev_aload_n dX12_copy_103 rfl ?_
    refine ev_get dX12_copy_104 flX12_73_12 hM.1 rfl ?_
    refine ev_bipush (v := 40) dX12_copy_107 (by decide) ?_
    refine ev_iload_n dX12_copy_109 rfl ?_
    refine ev_imul dX12_copy_110 ?_
    refine ev_iload_n dX12_copy_111 rfl ?_
    refine ev_iadd dX12_copy_112 ?_
    refine ev_iload dX12_copy_113 rfl ?_
    refine ev_iadd dX12_copy_115 ?_
    refine ev_iald dX12_copy_116 (hM.a 35 32 (by decide)) (by rw [mul40, nI_add]; exact ix_n (by omega)) (rd hL (k := 35) (n := 160) (by decide) (by omega)) ?_
    refine evM_iast hM hF (k := 36) (o := 33) (by decide) dX12_copy_117 (ix_n (by omega)) (show k < ((setA ρ0 36 mv).1 36).length by rw [setA_at, hl]; omega) (fun μ hM hF => ?_)
    rw [setA_at, setA_setA] at hM
    refine ev_iinc dX12_copy_118 rfl (by decide) ?_
    dsimp only [List.set]
    refine ev_goto (tgt := 90) dX12_copy_121 (by decide) ?_
    rw [nI_inc]
    refine ih (k + 1) _ μ (by omega) (by rw [List.length_set]; exact hl) (fun q h => ?_) hM hF
    rw [List.getElem?_set]
    split
    · rename_i e; subst e; rw [if_pos (by omega)]
    · exact hq q (by omega)
theorem l_copy2 {ρ0 : MS} (hL : ML ρ0) (hE : EqC ρ0 ρ) {s i o j n : Nat} (ho : o < 4) (hs : s < 4) (hi : i + n ≤ 40) (hn : j + n ≤ 40) {mv : List Int32} (hmv : ∀ q, q < n → mv[q]? = some ((ρ0.1 35).getD (40 * s + i + q) 0)) (hml : mv.length = 40) {μ0 : Mm} : ∀ (m k : Nat) (l : List Int32) (μ : Mm), k + m = n → l.length = 160 → RM b (setA (setA ρ0 36 mv) 35 l) μ → FM b μ0 μ → Ev g 1 mX12_copy 127 [some (.ref b), some (.int (nI s)), some (.int (nI i)), some (.int (nI o)), some (.int (nI j)), some (.int (nI n)), some (.int (nI k))] [] μ (fun r μ' => r = some (.int (nI n)) ∧ MW b (setA ρ 35 (cpK (ρ0.1 35) (40 * s + i) (40 * o + j) m k l)) μ' ∧ FM b μ0 μ') := by
  intro m
  induction m with
  | zero =>
    intro k l μ hk hl hM hF
    refine ev_iload dX12_copy_127 rfl ?_
    refine ev_iload dX12_copy_129 rfl ?_
    refine ev_icmp_ge (tgt := 162) dX12_copy_131 (by decide) (fun _ => ?_) (fun h131 => absurd ((nI_le (by omega) (by omega))) h131)
    refine ev_iload dX12_copy_162 rfl ?_
    refine ev_iret dX12_copy_164 rfl ?_
    exact ⟨rfl, ⟨_, hM, ML.setA (ML.setA hL (by rw [hml]; exact (hL.at (k := 36) (n := 40) (by decide)).symm)) (by rw [hl]; exact (hL.at (k := 35) (n := 160) (by decide)).symm), (hE.sA (by decide)).cA⟩, hF⟩
  | succ m ih =>
    intro k l μ hk hl hM hF
    rw [cpK]
    refine ev_iload dX12_copy_127 rfl ?_
    refine ev_iload dX12_copy_129 rfl ?_
    refine ev_icmp_ge (tgt := 162) dX12_copy_131 (by decide) (fun h131 => absurd h131 ((nI_ge (by omega) (by omega)))) (fun _ => ?_)
    refine ev_aload_n dX12_copy_134 rfl ?_
    refine ev_get dX12_copy_135 flX12_73_12 hM.1 rfl ?_
    refine ev_bipush (v := 40) dX12_copy_138 (by decide) ?_
    refine ev_iload_n dX12_copy_140 rfl ?_
    refine ev_imul dX12_copy_141 ?_
    refine ev_iload dX12_copy_142 rfl ?_
    refine ev_iadd dX12_copy_144 ?_
    refine ev_iload dX12_copy_145 rfl ?_
    refine ev_iadd dX12_copy_147 ?_
    refine ev_aload_n dX12_copy_148 rfl ?_
    refine ev_get dX12_copy_149 flX12_76_12 hM.1 rfl ?_
    refine ev_iload dX12_copy_152 rfl ?_
    refine ev_iald dX12_copy_154 (hM.a 36 33 (by decide)) (ix_n (by omega)) (hmv k (by omega)) ?_
    refine evM_iast hM hF (k := 35) (o := 32) (by decide) dX12_copy_155 (by rw [mul40, nI_add]; exact ix_n (by omega)) (show 40 * o + j + k < ((setA (setA ρ0 36 mv) 35 l).1 35).length by rw [setA_at, hl]; omega) (fun μ hM hF => ?_)
    rw [setA_at, setA_setA] at hM
    refine ev_iinc dX12_copy_156 rfl (by decide) ?_
    dsimp only [List.set]
    refine ev_goto (tgt := 127) dX12_copy_159 (by decide) ?_
    rw [nI_inc]
    exact ih (k + 1) _ μ (by omega) (by rw [List.length_set]; exact hl) hM hF
theorem c_copy {μ0 : Mm} (hW : MW b ρ μ0) (hS : SH ρ) (s i o j n : Int32) : Mt g 1 mX12_copy [.ref b, .int s, .int i, .int o, .int j, .int n] μ0 (fun r μ' => r = some (.int (opCopy ρ s i o j n).1) ∧ MW b (opCopy ρ s i o j n).2 μ' ∧ FM b μ0 μ') := by
  refine Mt.of0 (ls0 := [some (.ref b), some (.int s), some (.int i), some (.int o), some (.int j), some (.int n), none]) (by decide) (by simp [Value.category]) (Nat.le_of_ble_eq_true rfl) rfl ?_
  obtain ⟨ρ0, hM, hL, hE⟩ := id hW
  have hF : FM b μ0 μ0 := FM.rf
  rw [opCopy]
  refine ev_iload_n dX12_copy_0 rfl ?_
  refine k_s (c_isSheet s) (by decide) dX12_copy_1 cbX12_isSheet (mt6 72 rfl rfl) (mt6 73 rfl rfl) rfl rfl (Nat.le_of_ble_eq_true rfl) (fun v μ1 hq => ?_)
  obtain ⟨rfl, hμ⟩ := hq
  have hμ := hμ.symm
  subst hμ
  simp only [Option.toList, List.cons_append, List.nil_append]
  refine ev_if_eq (tgt := 14) dX12_copy_4 (by decide) (fun h4 => ?_) (fun h4 => ?_)
  · refine ev_bipush (v := (-2)) dX12_copy_14 (by decide) ?_
    refine ev_iret dX12_copy_16 rfl ?_
    first
      | (rw [if_neg (fun q => b2i_eq h4 q.1)]; exact ⟨rfl, hW, hF⟩)
      | (rw [if_neg (fun q => b2i_eq h11 q.2)]; exact ⟨rfl, hW, hF⟩)
  · refine ev_iload_n dX12_copy_7 rfl ?_
    refine k_s (c_isSheet o) (by decide) dX12_copy_8 cbX12_isSheet (mt6 72 rfl rfl) (mt6 73 rfl rfl) rfl rfl (Nat.le_of_ble_eq_true rfl) (fun v μ1 hq => ?_)
    obtain ⟨rfl, hμ⟩ := hq
    have hμ := hμ.symm
    subst hμ
    simp only [Option.toList, List.cons_append, List.nil_append]
    refine ev_if_ne (tgt := 17) dX12_copy_11 (by decide) (fun h11 => ?_) (fun h11 => ?_)
    · have h4' := b2i_ne h4
      have h11' := b2i_ne h11
      rw [if_pos ⟨h4', h11'⟩]
      obtain ⟨hi, ei⟩ := sheet_n h4'.1 h4'.2
      obtain ⟨ho, eo⟩ := sheet_n h11'.1 h11'.2
      generalize s.toInt.toNat = s' at hi ei ⊢
      generalize o.toInt.toNat = o' at ho eo ⊢
      subst ei
      subst eo
      obtain ⟨z, hz, ez⟩ := size_n (hS s' hi).2
      obtain ⟨z2, hz2, ez2⟩ := size_n (hS o' ho).2
      rw [← hE.1 33 (by decide), ← hE.1 34 (by decide)]
      rw [← hE.1 34 (by decide)] at ez ez2
      refine ev_aload_n dX12_copy_17 rfl ?_
      refine ev_get dX12_copy_18 flX12_67_12 hM.1 rfl ?_
      refine ev_iload_n dX12_copy_21 rfl ?_
      refine ev_iald dX12_copy_22 (hM.a 33 30 (by decide)) (ix_n (by omega)) (rd hL (k := 33) (n := 4) (by decide) hi) ?_
      refine ev_if_lt (tgt := 35) dX12_copy_23 (by decide) (fun h23 => ?_) (fun h23 => ?_)
      · refine ev_bipush (v := (-11)) dX12_copy_35 (by decide) ?_
        refine ev_iret dX12_copy_37 rfl ?_
        first
          | (rw [if_pos (Or.inl h23)]; exact ⟨rfl, hW, hF⟩)
          | (rw [if_pos (Or.inr (Int32.not_le.mp h32))]; exact ⟨rfl, hW, hF⟩)
      · refine ev_aload_n dX12_copy_26 rfl ?_
        refine ev_get dX12_copy_27 flX12_67_12 hM.1 rfl ?_
        refine ev_iload_n dX12_copy_30 rfl ?_
        refine ev_iald dX12_copy_31 (hM.a 33 30 (by decide)) (ix_n (by omega)) (rd hL (k := 33) (n := 4) (by decide) ho) ?_
        refine ev_if_ge (tgt := 38) dX12_copy_32 (by decide) (fun h32 => ?_) (fun h32 => ?_)
        · rw [if_neg (fun q => q.elim (fun z => h23 z) (fun z => Int32.not_lt.mpr h32 z))]
          refine ev_aload_n dX12_copy_38 rfl ?_
          refine ev_get dX12_copy_39 flX12_67_12 hM.1 rfl ?_
          refine ev_iload_n dX12_copy_42 rfl ?_
          refine ev_iald dX12_copy_43 (hM.a 33 30 (by decide)) (ix_n (by omega)) (rd hL (k := 33) (n := 4) (by decide) hi) ?_
          refine ev_aload_n dX12_copy_44 rfl ?_
          refine ev_get dX12_copy_45 flX12_67_12 hM.1 rfl ?_
          refine ev_iload_n dX12_copy_48 rfl ?_
          refine ev_iald dX12_copy_49 (hM.a 33 30 (by decide)) (ix_n (by omega)) (rd hL (k := 33) (n := 4) (by decide) ho) ?_
          refine ev_icmp_eq (tgt := 56) dX12_copy_50 (by decide) (fun h50 => ?_) (fun h50 => ?_)
          · rw [if_neg (fun z => z h50)]
            refine ev_iload dX12_copy_56 rfl ?_
            refine ev_if_lt (tgt := 84) dX12_copy_58 (by decide) (fun h58 => ?_) (fun h58 => ?_)
            · refine ev_bipush (v := (-12)) dX12_copy_84 (by decide) ?_
              refine ev_iret dX12_copy_86 rfl ?_
              first
                | (rw [if_neg (fun q => Int32.not_lt.mpr q.1 h58)]; exact ⟨rfl, hW, hF⟩)
                | (rw [if_neg (fun q => b2i_eq h69 q.2.1)]; exact ⟨rfl, hW, hF⟩)
                | (rw [if_neg (fun q => b2i_eq h81 q.2.2)]; exact ⟨rfl, hW, hF⟩)
            · refine ev_aload_n dX12_copy_61 rfl ?_
              refine ev_iload_n dX12_copy_62 rfl ?_
              refine ev_iload_n dX12_copy_63 rfl ?_
              refine ev_iload dX12_copy_64 rfl ?_
              refine k_v (c_hasCells hM hL hi i n) (by decide) dX12_copy_66 cbX12_hasCells (mt6 192 rfl rfl) (mt6 194 rfl rfl) (ms0 85 rfl rfl) (ci := 12) rfl hM.1 rfl rfl (Nat.le_of_ble_eq_true rfl) (fun v μ1 hq => ?_)
              obtain ⟨rfl, hμ⟩ := hq
              have hμ := hμ.symm
              subst hμ
              simp only [Option.toList, List.cons_append, List.nil_append]
              refine ev_if_eq (tgt := 84) dX12_copy_69 (by decide) (fun h69 => ?_) (fun h69 => ?_)
              · refine ev_bipush (v := (-12)) dX12_copy_84 (by decide) ?_
                refine ev_iret dX12_copy_86 rfl ?_
                first
                  | (rw [if_neg (fun q => Int32.not_lt.mpr q.1 h58)]; exact ⟨rfl, hW, hF⟩)
                  | (rw [if_neg (fun q => b2i_eq h69 q.2.1)]; exact ⟨rfl, hW, hF⟩)
                  | (rw [if_neg (fun q => b2i_eq h81 q.2.2)]; exact ⟨rfl, hW, hF⟩)
              · refine ev_aload_n dX12_copy_72 rfl ?_
                refine ev_iload_n dX12_copy_73 rfl ?_
                refine ev_iload dX12_copy_74 rfl ?_
                refine ev_iload dX12_copy_76 rfl ?_
                refine k_v (c_hasCells hM hL ho j n) (by decide) dX12_copy_78 cbX12_hasCells (mt6 192 rfl rfl) (mt6 194 rfl rfl) (ms0 85 rfl rfl) (ci := 12) rfl hM.1 rfl rfl (Nat.le_of_ble_eq_true rfl) (fun v μ1 hq => ?_)
                obtain ⟨rfl, hμ⟩ := hq
                have hμ := hμ.symm
                subst hμ
                simp only [Option.toList, List.cons_append, List.nil_append]
                refine ev_if_ne (tgt := 87) dX12_copy_81 (by decide) (fun h81 => ?_) (fun h81 => ?_)
                · have h58 := Int32.not_lt.mp h58
                  rw [if_pos ⟨h58, b2i_ne h69, b2i_ne h81⟩]
                  obtain ⟨i', n', e1, e2, e3, e4, e5⟩ := in_n ez hz (b2i_ne h69) h58
                  obtain ⟨j', n2, f1, f2, f3, f4, f5⟩ := in_n ez2 hz2 (b2i_ne h81) h58
                  have hnn : n2 = n' := f5.symm.trans e5
                  subst hnn
                  rw [e4, e5, f4]
                  subst e1
                  subst f1
                  subst e2
                  refine ev_iconst (v := 0) dX12_copy_87 (by decide) ?_
                  refine ev_istore dX12_copy_88 (by decide) ?_
                  dsimp only [List.set]
                  rw [← hE.1 35 (by decide)]
                  refine l_copy1 hL hi (by omega) ?_ n2 0 (ρ0.1 36) μ0 (by omega) (hL.at (by decide)) (fun q h => absurd h (by omega)) (by rw [setA_self]; exact hM) hF
                  intro mv μ hml hmv hM hF
                  refine ev_iconst (v := 0) dX12_copy_124 (by decide) ?_
                  refine ev_istore dX12_copy_125 (by decide) ?_
                  exact l_copy2 hL hE ho hi (by omega) (by omega) hmv hml n2 0 (ρ0.1 35) μ (by omega) (hL.at (by decide)) (by have e : setA (setA ρ0 36 mv) 35 (ρ0.1 35) = setA ρ0 36 mv := setA_self; rw [e]; exact hM) hF
                · refine ev_bipush (v := (-12)) dX12_copy_84 (by decide) ?_
                  refine ev_iret dX12_copy_86 rfl ?_
                  first
                    | (rw [if_neg (fun q => Int32.not_lt.mpr q.1 h58)]; exact ⟨rfl, hW, hF⟩)
                    | (rw [if_neg (fun q => b2i_eq h69 q.2.1)]; exact ⟨rfl, hW, hF⟩)
                    | (rw [if_neg (fun q => b2i_eq h81 q.2.2)]; exact ⟨rfl, hW, hF⟩)
          · refine ev_bipush (v := (-13)) dX12_copy_53 (by decide) ?_
            refine ev_iret dX12_copy_55 rfl ?_
            rw [if_pos h50]
            exact ⟨rfl, hW, hF⟩
        · refine ev_bipush (v := (-11)) dX12_copy_35 (by decide) ?_
          refine ev_iret dX12_copy_37 rfl ?_
          first
            | (rw [if_pos (Or.inl h23)]; exact ⟨rfl, hW, hF⟩)
            | (rw [if_pos (Or.inr (Int32.not_le.mp h32))]; exact ⟨rfl, hW, hF⟩)
    · refine ev_bipush (v := (-2)) dX12_copy_14 (by decide) ?_
      refine ev_iret dX12_copy_16 rfl ?_
      first
        | (rw [if_neg (fun q => b2i_eq h4 q.1)]; exact ⟨rfl, hW, hF⟩)
        | (rw [if_neg (fun q => b2i_eq h11 q.2)]; exact ⟨rfl, hW, hF⟩)
end MIMAGE
