/-! ===== the reference: houses ===== -/
def nh (ρ : MS) : Nat := (ρ.2 7).toInt.toNat
theorem nh_of {ρ : MS} {n : Nat} (h : ρ.2 7 = nI n) (hn : n ≤ 7) : nh ρ = n := by
  rw [nh, h, nI_i (by omega)]; omega
theorem opHouse_row {ρ : MS} {n : Nat} {k w p : Int32} {j : Nat} (hj : 6 ≤ j) : (opHouse ρ n k w p).2.1 j = ρ.1 j := by
  unfold opHouse
  split
  · split
    · rfl
    · show (if j = 5 then _ else if j = 3 then _ else if j = 2 then _ else if j = 4 then _ else if j = 1 then _ else if j = 0 then _ else ρ.1 j) = ρ.1 j
      rw [if_neg (by omega), if_neg (by omega), if_neg (by omega), if_neg (by omega), if_neg (by omega), if_neg (by omega)]
  · rfl
theorem opHouse_n {ρ : MS} {n : Nat} {k w p : Int32} (h : ρ.2 7 = nI n) (hn : n ≤ 7) : ∃ n', (opHouse ρ n k w p).2.2 7 = nI n' ∧ n' ≤ 7 := by
  unfold opHouse
  split
  · split
    · exact ⟨n, h, hn⟩
    · rename_i hne
      exact ⟨n + 1, rfl, by omega⟩
  · exact ⟨n, h, hn⟩
def hsK (sz fr : Int32) (c0 : List Int32) (s f : Nat) : Nat → Nat → Nat → MS → Int32 × MS
  | 0, _, many, ρ => (nI many, ρ)
  | m + 1, k, many, ρ => if fr < 0 ∨ ¬ fr < sz - 2 - nI (3 * k) then (-12, ρ) else
      hsK sz fr c0 s f m (k + 1) (if (opHouse ρ (nh ρ) (c0.getD (40 * s + (f + 3 * k)) 0) (c0.getD (40 * s + (f + 3 * k) + 1) 0) (c0.getD (40 * s + (f + 3 * k) + 2) 0)).1 < 0 then many else many + 1) (opHouse ρ (nh ρ) (c0.getD (40 * s + (f + 3 * k)) 0) (c0.getD (40 * s + (f + 3 * k) + 1) 0) (c0.getD (40 * s + (f + 3 * k) + 2) 0)).2
def opHouses (ρ : MS) (s so fr n : Int32) : Int32 × MS :=
  if (0 ≤ s ∧ s < 4) ∧ (0 ≤ so ∧ so ≤ 2) ∧ 0 ≤ n ∧ n ≤ 7 then (if (ρ.1 33).getD s.toInt.toNat 0 < 0 then (-11, ρ) else if ¬ (ρ.1 33).getD s.toInt.toNat 0 = so then (-13, ρ) else
    hsK ((ρ.1 34).getD s.toInt.toNat 0) fr (ρ.1 35) s.toInt.toNat fr.toInt.toNat n.toInt.toNat 0 0 ρ) else (-2, ρ)
section MHOUSES
variable {g : Gl} {b : Nat}
theorem l_houses {s : Nat} (hs : s < 4) {so fr : Int32} {c0 : List Int32} {z : Nat} (hz : z ≤ 40) {c : Nat} (hc : c ≤ 7) {μ0 : Mm} : ∀ (m k many : Nat) (o7 o8 : Option Value) (ρ : MS) (μ : Mm), k + m = c → many ≤ k → MW b ρ μ → (∃ n', ρ.2 7 = nI n' ∧ n' ≤ 7) → ρ.1 35 = c0 → (ρ.1 34).getD s 0 = nI z → FM b μ0 μ →
    Ev g 2 mX12_houses 61 [some (.ref b), some (.int (nI s)), some (.int so), some (.int fr), some (.int (nI c)), some (.int (nI many)), some (.int (nI k)), o7, o8] [] μ (fun v μ' => v = some (.int (hsK (nI z) fr c0 s fr.toInt.toNat m k many ρ).1) ∧ MW b (hsK (nI z) fr c0 s fr.toInt.toNat m k many ρ).2 μ' ∧ FM b μ0 μ') := by
  intro m
  induction m with
  | zero =>
    intro k many o7 o8 ρ μ hk hmk hW hN h35 h34 hF
    obtain ⟨ρ0, hM, hL, hE⟩ := id hW
    refine ev_iload dX12_houses_61 rfl ?_
    refine ev_iload dX12_houses_63 rfl ?_
    refine ev_icmp_ge (tgt := 150) dX12_houses_65 (by decide) (fun _ => ?_) (fun h65 => absurd ((show nI c ≤ nI k from nI_le (by omega) (by omega))) h65)
    refine ev_iload dX12_houses_150 rfl ?_
    refine ev_iret dX12_houses_152 rfl ?_
    exact ⟨rfl, hW, hF⟩
  | succ m ih =>
    intro k many o7 o8 ρ μ hk hmk hW hN h35 h34 hF
    obtain ⟨ρ0, hM, hL, hE⟩ := id hW
    obtain ⟨n', hn', h7⟩ := id hN
    have e34 : (ρ0.1 34).getD s 0 = nI z := by rw [hE.1 34 (by decide)]; exact h34
    have e35 : ρ0.1 35 = c0 := (hE.1 35 (by decide)).trans h35
    have e3 : (3 : Int32) * nI k = nI (3 * k) := (Int32.ofNat_mul 3 k).symm
    rw [hsK]
    refine ev_iload dX12_houses_61 rfl ?_
    refine ev_iload dX12_houses_63 rfl ?_
    refine ev_icmp_ge (tgt := 150) dX12_houses_65 (by decide) (fun h65 => absurd h65 ((show ¬ nI c ≤ nI k from nI_ge (by omega) (by omega)))) (fun _ => ?_)
    refine ev_iload_n dX12_houses_68 rfl ?_
    refine ev_iconst (v := 3) dX12_houses_69 (by decide) ?_
    refine ev_iload dX12_houses_70 rfl ?_
    refine ev_imul dX12_houses_72 ?_
    refine ev_iadd dX12_houses_73 ?_
    refine ev_istore dX12_houses_74 (by decide) ?_
    dsimp only [List.set]
    refine ev_iload_n dX12_houses_76 rfl ?_
    refine ev_if_lt (tgt := 97) dX12_houses_77 (by decide) (fun h77 => ?_) (fun h77 => ?_)
    · refine ev_bipush (v := (-12)) dX12_houses_97 (by decide) ?_
      refine ev_iret dX12_houses_99 rfl ?_
      first
        | (rw [if_pos (Or.inl h77)]; exact ⟨rfl, hW, hF⟩)
        | (rw [if_pos (Or.inr h94)]; exact ⟨rfl, hW, hF⟩)
    · refine ev_iload_n dX12_houses_80 rfl ?_
      refine ev_aload_n dX12_houses_81 rfl ?_
      refine ev_get dX12_houses_82 flX12_70_12 hM.1 rfl ?_
      refine ev_iload_n dX12_houses_85 rfl ?_
      refine ev_iald dX12_houses_86 (hM.a 34 31 (by decide)) (ix_n (by omega)) (rd hL (k := 34) (n := 4) (by decide) hs) ?_
      rw [e34]
      refine ev_iconst (v := 2) dX12_houses_87 (by decide) ?_
      refine ev_isub dX12_houses_88 ?_
      refine ev_iconst (v := 3) dX12_houses_89 (by decide) ?_
      refine ev_iload dX12_houses_90 rfl ?_
      refine ev_imul dX12_houses_92 ?_
      rw [e3]
      refine ev_isub dX12_houses_93 ?_
      refine ev_icmp_lt (tgt := 100) dX12_houses_94 (by decide) (fun h94 => ?_) (fun h94 => ?_)
      · rw [if_neg (fun q => q.elim h77 (fun q => q h94))]
        have hfr : fr.toInt.toNat + 3 * k + 3 ≤ z ∧ fr = nI fr.toInt.toNat := by
          have h77' := h77
          have h94' := h94
          rw [Int32.lt_iff_toInt_lt, Int32.toInt_zero] at h77'
          have e1 : (nI z - 2 - nI (3 * k)).toInt = (z : Int) - 2 - 3 * k := by
            have e0 : (nI z - 2).toInt = (z : Int) - 2 := by rw [sub_i (by rw [nI_i (by omega)]; simp; omega) (by rw [nI_i (by omega)]; simp; omega), nI_i (by omega)]; rfl
            rw [sub_i (by rw [e0, nI_i (by omega)]; omega) (by rw [e0, nI_i (by omega)]; omega), e0, nI_i (by omega)]
            omega
          rw [Int32.lt_iff_toInt_lt, e1] at h94'
          refine ⟨by omega, ?_⟩
          apply Int32.toInt_inj.mp
          rw [nI_i (by omega)]
          omega
        obtain ⟨hf1, hf2⟩ := hfr
        have ei : (40 : Int32) * nI s + (fr + nI (3 * k)) = nI (40 * s + (fr.toInt.toNat + 3 * k)) := by
          rw [hf2, nI_add, mul40, ← hf2]
        refine ev_bipush (v := 40) dX12_houses_100 (by decide) ?_
        refine ev_iload_n dX12_houses_102 rfl ?_
        refine ev_imul dX12_houses_103 ?_
        refine ev_iload dX12_houses_104 rfl ?_
        refine ev_iadd dX12_houses_106 ?_
        rw [ei]
        refine ev_istore dX12_houses_107 (by decide) ?_
        dsimp only [List.set]
        refine ev_aload_n dX12_houses_109 rfl ?_
        refine ev_aload_n dX12_houses_110 rfl ?_
        refine ev_get dX12_houses_111 flX12_73_12 hM.1 rfl ?_
        refine ev_iload dX12_houses_114 rfl ?_
        refine ev_iald dX12_houses_116 (hM.a 35 32 (by decide)) (ix_n (by omega)) (rd hL (k := 35) (n := 160) (by decide) (by omega)) ?_
        refine ev_aload_n dX12_houses_117 rfl ?_
        refine ev_get dX12_houses_118 flX12_73_12 hM.1 rfl ?_
        refine ev_iload dX12_houses_121 rfl ?_
        refine ev_iconst (v := 1) dX12_houses_123 (by decide) ?_
        refine ev_iadd dX12_houses_124 ?_
        rw [nI_1]
        refine ev_iald dX12_houses_125 (hM.a 35 32 (by decide)) (ix_n (by omega)) (rd hL (k := 35) (n := 160) (by decide) (by omega)) ?_
        refine ev_aload_n dX12_houses_126 rfl ?_
        refine ev_get dX12_houses_127 flX12_73_12 hM.1 rfl ?_
        refine ev_iload dX12_houses_130 rfl ?_
        refine ev_iconst (v := 2) dX12_houses_132 (by decide) ?_
        refine ev_iadd dX12_houses_133 ?_
        rw [show nI (40 * s + (fr.toInt.toNat + 3 * k)) + 2 = nI (40 * s + (fr.toInt.toNat + 3 * k) + 2) from nI_add _ 2]
        refine ev_iald dX12_houses_134 (hM.a 35 32 (by decide)) (ix_n (by omega)) (rd hL (k := 35) (n := 160) (by decide) (by omega)) ?_
        rw [e35]
        refine k_v (c_comes hW hn' h7 _ _ _) (by decide) dX12_houses_135 cbX12_comes (mt5 191 rfl rfl) (mt5 193 rfl rfl) (ms0 56 rfl rfl) (ci := 12) rfl hM.1 rfl rfl (Nat.le_of_ble_eq_true rfl) (fun v μ1 hq => ?_)
        obtain ⟨rfl, hW1, hF1⟩ := hq; have hF := hF.tr hF1; rw [← nh_of hn' h7] at hW1 ⊢
        simp only [Option.toList, List.cons_append, List.nil_append]
        refine ev_if_lt (tgt := 144) dX12_houses_138 (by decide) (fun h138 => ?_) (fun h138 => ?_)
        · refine ev_iinc dX12_houses_144 rfl (by decide) ?_
          dsimp only [List.set]
          refine ev_goto (tgt := 61) dX12_houses_147 (by decide) ?_
          rw [nI_inc]
          have hN1 := opHouse_n (k := c0.getD (40 * s + (fr.toInt.toNat + 3 * k)) 0) (w := c0.getD (40 * s + (fr.toInt.toNat + 3 * k) + 1) 0) (p := c0.getD (40 * s + (fr.toInt.toNat + 3 * k) + 2) 0) hn' h7
          rw [← nh_of hn' h7] at hN1
          first
            | (rw [if_pos h138]; exact ih (k + 1) many _ _ _ _ (by omega) (by omega) hW1 hN1 (by rw [opHouse_row (by omega)]; exact h35) (by rw [opHouse_row (by omega)]; exact h34) hF)
            | (rw [if_neg h138, nI_inc]; exact ih (k + 1) (many + 1) _ _ _ _ (by omega) (by omega) hW1 hN1 (by rw [opHouse_row (by omega)]; exact h35) (by rw [opHouse_row (by omega)]; exact h34) hF)
        · refine ev_iinc dX12_houses_141 rfl (by decide) ?_
          dsimp only [List.set]
          refine ev_iinc dX12_houses_144 rfl (by decide) ?_
          dsimp only [List.set]
          refine ev_goto (tgt := 61) dX12_houses_147 (by decide) ?_
          rw [nI_inc]
          have hN1 := opHouse_n (k := c0.getD (40 * s + (fr.toInt.toNat + 3 * k)) 0) (w := c0.getD (40 * s + (fr.toInt.toNat + 3 * k) + 1) 0) (p := c0.getD (40 * s + (fr.toInt.toNat + 3 * k) + 2) 0) hn' h7
          rw [← nh_of hn' h7] at hN1
          first
            | (rw [if_pos h138]; exact ih (k + 1) many _ _ _ _ (by omega) (by omega) hW1 hN1 (by rw [opHouse_row (by omega)]; exact h35) (by rw [opHouse_row (by omega)]; exact h34) hF)
            | (rw [if_neg h138, nI_inc]; exact ih (k + 1) (many + 1) _ _ _ _ (by omega) (by omega) hW1 hN1 (by rw [opHouse_row (by omega)]; exact h35) (by rw [opHouse_row (by omega)]; exact h34) hF)
      · refine ev_bipush (v := (-12)) dX12_houses_97 (by decide) ?_
        refine ev_iret dX12_houses_99 rfl ?_
        first
          | (rw [if_pos (Or.inl h77)]; exact ⟨rfl, hW, hF⟩)
          | (rw [if_pos (Or.inr h94)]; exact ⟨rfl, hW, hF⟩)
theorem c_houses {ρ : MS} {μ : Mm} (hW : MW b ρ μ) (hS : SH ρ) {n' : Nat} (hN : ρ.2 7 = nI n') (h7 : n' ≤ 7) (s so fr n : Int32) : Mt g 2 mX12_houses [.ref b, .int s, .int so, .int fr, .int n] μ (fun v μ' => v = some (.int (opHouses ρ s so fr n).1) ∧ MW b (opHouses ρ s so fr n).2 μ' ∧ FM b μ μ') := by
  refine Mt.of0 (ls0 := [some (.ref b), some (.int s), some (.int so), some (.int fr), some (.int n), none, none, none, none]) (by decide) (by simp [Value.category]) (Nat.le_of_ble_eq_true rfl) rfl ?_
  obtain ⟨ρ0, hM, hL, hE⟩ := id hW
  have hF : FM b μ μ := FM.rf
  rw [opHouses]
  refine ev_iload_n dX12_houses_0 rfl ?_
  refine k_s (c_isSheet s) (by decide) dX12_houses_1 cbX12_isSheet (mt6 72 rfl rfl) (mt6 73 rfl rfl) rfl rfl (Nat.le_of_ble_eq_true rfl) (fun v μ1 hq => ?_)
  obtain ⟨rfl, hμ⟩ := hq
  have hμ := hμ.symm
  subst hμ
  simp only [Option.toList, List.cons_append, List.nil_append]
  refine ev_if_eq (tgt := 27) dX12_houses_4 (by decide) (fun h4 => ?_) (fun h4 => ?_)
  · refine ev_bipush (v := (-2)) dX12_houses_27 (by decide) ?_
    refine ev_iret dX12_houses_29 rfl ?_
    first
      | (rw [if_neg (fun q => b2i_eq h4 q.1)]; exact ⟨rfl, hW, hF⟩)
      | (rw [if_neg (fun q => b2i_eq h13 q.2.1)]; exact ⟨rfl, hW, hF⟩)
      | (rw [if_neg (fun q => b2i_eq h24 q.2.2)]; exact ⟨rfl, hW, hF⟩)
  · refine ev_iload_n dX12_houses_7 rfl ?_
    refine ev_iconst (v := 0) dX12_houses_8 (by decide) ?_
    refine ev_iconst (v := 2) dX12_houses_9 (by decide) ?_
    refine k_s (c_isIn so 0 2) (by decide) dX12_houses_10 cbX12_isIn (mt5 123 rfl rfl) (mt5 124 rfl rfl) rfl rfl (Nat.le_of_ble_eq_true rfl) (fun v μ1 hq => ?_)
    obtain ⟨rfl, hμ⟩ := hq
    have hμ := hμ.symm
    subst hμ
    simp only [Option.toList, List.cons_append, List.nil_append]
    refine ev_if_eq (tgt := 27) dX12_houses_13 (by decide) (fun h13 => ?_) (fun h13 => ?_)
    · refine ev_bipush (v := (-2)) dX12_houses_27 (by decide) ?_
      refine ev_iret dX12_houses_29 rfl ?_
      first
        | (rw [if_neg (fun q => b2i_eq h4 q.1)]; exact ⟨rfl, hW, hF⟩)
        | (rw [if_neg (fun q => b2i_eq h13 q.2.1)]; exact ⟨rfl, hW, hF⟩)
        | (rw [if_neg (fun q => b2i_eq h24 q.2.2)]; exact ⟨rfl, hW, hF⟩)
    · refine ev_iload dX12_houses_16 rfl ?_
      refine ev_iconst (v := 0) dX12_houses_18 (by decide) ?_
      refine ev_bipush (v := 7) dX12_houses_19 (by decide) ?_
      refine k_s (c_isIn n 0 7) (by decide) dX12_houses_21 cbX12_isIn (mt5 123 rfl rfl) (mt5 124 rfl rfl) rfl rfl (Nat.le_of_ble_eq_true rfl) (fun v μ1 hq => ?_)
      obtain ⟨rfl, hμ⟩ := hq
      have hμ := hμ.symm
      subst hμ
      simp only [Option.toList, List.cons_append, List.nil_append]
      refine ev_if_ne (tgt := 30) dX12_houses_24 (by decide) (fun h24 => ?_) (fun h24 => ?_)
      · have h4' := b2i_ne h4
        have h24' := b2i_ne h24
        rw [if_pos ⟨h4', b2i_ne h13, h24'⟩]
        obtain ⟨hi, ei⟩ := sheet_n h4'.1 h4'.2
        generalize s.toInt.toNat = s' at hi ei ⊢
        subst ei
        have hnn : n.toInt.toNat ≤ 7 ∧ n = nI n.toInt.toNat := by
          have q1 := h24'.1
          have q2 := h24'.2
          simp only [Int32.le_iff_toInt_le, Int32.reduceToInt] at q1 q2
          refine ⟨by omega, ?_⟩
          apply Int32.toInt_inj.mp
          rw [nI_i (by omega)]
          omega
        obtain ⟨hn1, hn2⟩ := hnn
        generalize n.toInt.toNat = c at hn1 hn2 ⊢
        subst hn2
        obtain ⟨z, hz, ez⟩ := size_n (hS s' hi).2
        refine ev_aload_n dX12_houses_30 rfl ?_
        refine ev_get dX12_houses_31 flX12_67_12 hM.1 rfl ?_
        refine ev_iload_n dX12_houses_34 rfl ?_
        refine ev_iald dX12_houses_35 (hM.a 33 30 (by decide)) (ix_n (by omega)) (rd hL (k := 33) (n := 4) (by decide) hi) ?_
        rw [hE.1 33 (by decide)]
        refine ev_if_ge (tgt := 42) dX12_houses_36 (by decide) (fun h36 => ?_) (fun h36 => ?_)
        · refine ev_aload_n dX12_houses_42 rfl ?_
          refine ev_get dX12_houses_43 flX12_67_12 hM.1 rfl ?_
          refine ev_iload_n dX12_houses_46 rfl ?_
          refine ev_iald dX12_houses_47 (hM.a 33 30 (by decide)) (ix_n (by omega)) (rd hL (k := 33) (n := 4) (by decide) hi) ?_
          rw [hE.1 33 (by decide)]
          refine ev_iload_n dX12_houses_48 rfl ?_
          refine ev_icmp_eq (tgt := 55) dX12_houses_49 (by decide) (fun h49 => ?_) (fun h49 => ?_)
          · refine ev_iconst (v := 0) dX12_houses_55 (by decide) ?_
            refine ev_istore dX12_houses_56 (by decide) ?_
            dsimp only [List.set]
            refine ev_iconst (v := 0) dX12_houses_58 (by decide) ?_
            refine ev_istore dX12_houses_59 (by decide) ?_
            dsimp only [List.set]
            rw [if_neg (Int32.not_lt.mpr h36), if_neg (fun q => q h49), ez]
            exact l_houses hi hz hn1 c 0 0 _ _ ρ _ (by omega) (by omega) hW ⟨n', hN, h7⟩ rfl ez hF
          · refine ev_bipush (v := (-13)) dX12_houses_52 (by decide) ?_
            refine ev_iret dX12_houses_54 rfl ?_
            rw [if_neg (Int32.not_lt.mpr h36), if_pos h49]
            exact ⟨rfl, hW, hF⟩
        · refine ev_bipush (v := (-11)) dX12_houses_39 (by decide) ?_
          refine ev_iret dX12_houses_41 rfl ?_
          rw [if_pos (Int32.not_le.mp h36)]
          exact ⟨rfl, hW, hF⟩
      · refine ev_bipush (v := (-2)) dX12_houses_27 (by decide) ?_
        refine ev_iret dX12_houses_29 rfl ?_
        first
          | (rw [if_neg (fun q => b2i_eq h4 q.1)]; exact ⟨rfl, hW, hF⟩)
          | (rw [if_neg (fun q => b2i_eq h13 q.2.1)]; exact ⟨rfl, hW, hF⟩)
          | (rw [if_neg (fun q => b2i_eq h24 q.2.2)]; exact ⟨rfl, hW, hF⟩)
end MHOUSES
