/-! ===== the class's reader: words, numbers, advance ===== -/
def EqR (I : List Nat) (f' f : Nat → Int32) : Prop := ∀ k, k ∉ I → f' k = f k
theorem EqR.rf {I : List Nat} {f : Nat → Int32} : EqR I f f := fun _ _ => rfl
theorem EqR.tr {I : List Nat} {a b c : Nat → Int32} (h : EqR I a b) (k : EqR I b c) : EqR I a c := fun q hq => (h q hq).trans (k q hq)
theorem EqR.wd {I J : List Nat} {a b : Nat → Int32} (h : EqR I a b) (hI : ∀ k ∈ I, k ∈ J) : EqR J a b := fun q hq => h q (fun n => hq (hI q n))
theorem EqR.s {I : List Nat} {a b : Nat → Int32} (h : EqR I a b) {k : Nat} {v : Int32} (hk : k ∈ I) : EqR I (rset a k v) b := by
  intro q hq
  show (if q = k then v else a q) = _
  rw [if_neg (fun e : q = k => hq (e ▸ hk))]
  exact h q hq
theorem wk_of {run w : List Int32} {i : Nat} (h : run = w) (hw : mWd[i]? = some w) : wKd (wIx run) = wKd i := by
  rw [(mWd_ix (l := run) hw).mp h]
theorem isLt_b {c : Int32} : b2i (97 ≤ c ∧ c ≤ 122) = b2i (isLt c = true) := by
  by_cases h : isLt c = true
  · rw [b2i_t h, b2i_t (isLt_spec.mp h)]
  · rw [b2i_f h, b2i_f (fun q => h (isLt_spec.mpr q))]
theorem isDg_b {c : Int32} : b2i (48 ≤ c ∧ c ≤ 57) = b2i (isDg c = true) := by
  by_cases h : isDg c = true
  · rw [b2i_t h, b2i_t (isDg_spec.mp h)]
  · rw [b2i_f h, b2i_f (fun q => h (isDg_spec.mpr q))]
section KADV
variable {g : Gl} {r : Nat} {T C tp : List Int32} {f : Nat → Int32}
theorem c_wordKind {μ : Mm} (hO : RDo r f T C μ) (hT : RT T tp) {run rest : List Int32} (hs : Sfx tp (run ++ rest)) (h1 : f 1 = nI (psn tp (run ++ rest))) (h5 : f 5 = nI (psn tp rest)) : Pu g 5 mX4_wordKind [.ref r] μ (wKd (wIx run)) := by
  refine Mt.of0 (ls0 := [some (.ref r)]) (by decide) (by simp [Value.category]) (Nat.le_of_ble_eq_true rfl) rfl ?_
  refine ev_aload_n dX4_wordKind_0 rfl ?_
  refine ev_ldcS (k := 1) dX4_wordKind_1 rfl rfl rfl ?_
  refine k_v (c_spells hO hT hs h1 h5 (k := 1) (by decide)) (by decide) dX4_wordKind_3 cbX4_spells (mt2 3 rfl rfl) (mt2 5 rfl rfl) (ms0 2 rfl rfl) (ci := 4) rfl hO.1 rfl rfl (Nat.le_of_ble_eq_true rfl) (fun v μ1 hq => ?_)
  obtain ⟨rfl, hμ⟩ := hq
  have hμ := hμ.symm
  subst hμ
  simp only [Option.toList, List.cons_append, List.nil_append]
  refine ev_if_eq (tgt := 11) dX4_wordKind_6 (by decide) (fun h6 => ?_) (fun h6 => ?_)
  · refine ev_aload_n dX4_wordKind_11 rfl ?_
    refine ev_ldcS (k := 2) dX4_wordKind_12 rfl rfl rfl ?_
    refine k_v (c_spells hO hT hs h1 h5 (k := 2) (by decide)) (by decide) dX4_wordKind_14 cbX4_spells (mt2 3 rfl rfl) (mt2 5 rfl rfl) (ms0 2 rfl rfl) (ci := 4) rfl hO.1 rfl rfl (Nat.le_of_ble_eq_true rfl) (fun v μ1 hq => ?_)
    obtain ⟨rfl, hμ⟩ := hq
    have hμ := hμ.symm
    subst hμ
    simp only [Option.toList, List.cons_append, List.nil_append]
    refine ev_if_eq (tgt := 22) dX4_wordKind_17 (by decide) (fun h17 => ?_) (fun h17 => ?_)
    · refine ev_aload_n dX4_wordKind_22 rfl ?_
      refine ev_ldcS (k := 3) dX4_wordKind_23 rfl rfl rfl ?_
      refine k_v (c_spells hO hT hs h1 h5 (k := 3) (by decide)) (by decide) dX4_wordKind_25 cbX4_spells (mt2 3 rfl rfl) (mt2 5 rfl rfl) (ms0 2 rfl rfl) (ci := 4) rfl hO.1 rfl rfl (Nat.le_of_ble_eq_true rfl) (fun v μ1 hq => ?_)
      obtain ⟨rfl, hμ⟩ := hq
      have hμ := hμ.symm
      subst hμ
      simp only [Option.toList, List.cons_append, List.nil_append]
      refine ev_if_eq (tgt := 33) dX4_wordKind_28 (by decide) (fun h28 => ?_) (fun h28 => ?_)
      · refine ev_aload_n dX4_wordKind_33 rfl ?_
        refine ev_ldcS (k := 4) dX4_wordKind_34 rfl rfl rfl ?_
        refine k_v (c_spells hO hT hs h1 h5 (k := 4) (by decide)) (by decide) dX4_wordKind_36 cbX4_spells (mt2 3 rfl rfl) (mt2 5 rfl rfl) (ms0 2 rfl rfl) (ci := 4) rfl hO.1 rfl rfl (Nat.le_of_ble_eq_true rfl) (fun v μ1 hq => ?_)
        obtain ⟨rfl, hμ⟩ := hq
        have hμ := hμ.symm
        subst hμ
        simp only [Option.toList, List.cons_append, List.nil_append]
        refine ev_if_eq (tgt := 45) dX4_wordKind_39 (by decide) (fun h39 => ?_) (fun h39 => ?_)
        · refine ev_aload_n dX4_wordKind_45 rfl ?_
          refine ev_ldcS (k := 5) dX4_wordKind_46 rfl rfl rfl ?_
          refine k_v (c_spells hO hT hs h1 h5 (k := 5) (by decide)) (by decide) dX4_wordKind_48 cbX4_spells (mt2 3 rfl rfl) (mt2 5 rfl rfl) (ms0 2 rfl rfl) (ci := 4) rfl hO.1 rfl rfl (Nat.le_of_ble_eq_true rfl) (fun v μ1 hq => ?_)
          obtain ⟨rfl, hμ⟩ := hq
          have hμ := hμ.symm
          subst hμ
          simp only [Option.toList, List.cons_append, List.nil_append]
          refine ev_if_eq (tgt := 57) dX4_wordKind_51 (by decide) (fun h51 => ?_) (fun h51 => ?_)
          · refine ev_aload_n dX4_wordKind_57 rfl ?_
            refine ev_ldcS (k := 6) dX4_wordKind_58 rfl rfl rfl ?_
            refine k_v (c_spells hO hT hs h1 h5 (k := 6) (by decide)) (by decide) dX4_wordKind_60 cbX4_spells (mt2 3 rfl rfl) (mt2 5 rfl rfl) (ms0 2 rfl rfl) (ci := 4) rfl hO.1 rfl rfl (Nat.le_of_ble_eq_true rfl) (fun v μ1 hq => ?_)
            obtain ⟨rfl, hμ⟩ := hq
            have hμ := hμ.symm
            subst hμ
            simp only [Option.toList, List.cons_append, List.nil_append]
            refine ev_if_eq (tgt := 69) dX4_wordKind_63 (by decide) (fun h63 => ?_) (fun h63 => ?_)
            · refine ev_aload_n dX4_wordKind_69 rfl ?_
              refine ev_ldcS (k := 7) dX4_wordKind_70 rfl rfl rfl ?_
              refine k_v (c_spells hO hT hs h1 h5 (k := 7) (by decide)) (by decide) dX4_wordKind_72 cbX4_spells (mt2 3 rfl rfl) (mt2 5 rfl rfl) (ms0 2 rfl rfl) (ci := 4) rfl hO.1 rfl rfl (Nat.le_of_ble_eq_true rfl) (fun v μ1 hq => ?_)
              obtain ⟨rfl, hμ⟩ := hq
              have hμ := hμ.symm
              subst hμ
              simp only [Option.toList, List.cons_append, List.nil_append]
              refine ev_if_eq (tgt := 81) dX4_wordKind_75 (by decide) (fun h75 => ?_) (fun h75 => ?_)
              · refine ev_aload_n dX4_wordKind_81 rfl ?_
                refine ev_ldcS (k := 8) dX4_wordKind_82 rfl rfl rfl ?_
                refine k_v (c_spells hO hT hs h1 h5 (k := 8) (by decide)) (by decide) dX4_wordKind_84 cbX4_spells (mt2 3 rfl rfl) (mt2 5 rfl rfl) (ms0 2 rfl rfl) (ci := 4) rfl hO.1 rfl rfl (Nat.le_of_ble_eq_true rfl) (fun v μ1 hq => ?_)
                obtain ⟨rfl, hμ⟩ := hq
                have hμ := hμ.symm
                subst hμ
                simp only [Option.toList, List.cons_append, List.nil_append]
                refine ev_if_eq (tgt := 93) dX4_wordKind_87 (by decide) (fun h87 => ?_) (fun h87 => ?_)
                · refine ev_aload_n dX4_wordKind_93 rfl ?_
                  refine ev_ldcS (k := 9) dX4_wordKind_94 rfl rfl rfl ?_
                  refine k_v (c_spells hO hT hs h1 h5 (k := 9) (by decide)) (by decide) dX4_wordKind_96 cbX4_spells (mt2 3 rfl rfl) (mt2 5 rfl rfl) (ms0 2 rfl rfl) (ci := 4) rfl hO.1 rfl rfl (Nat.le_of_ble_eq_true rfl) (fun v μ1 hq => ?_)
                  obtain ⟨rfl, hμ⟩ := hq
                  have hμ := hμ.symm
                  subst hμ
                  simp only [Option.toList, List.cons_append, List.nil_append]
                  refine ev_if_eq (tgt := 105) dX4_wordKind_99 (by decide) (fun h99 => ?_) (fun h99 => ?_)
                  · refine ev_aload_n dX4_wordKind_105 rfl ?_
                    refine ev_ldcS (k := 10) dX4_wordKind_106 rfl rfl rfl ?_
                    refine k_v (c_spells hO hT hs h1 h5 (k := 10) (by decide)) (by decide) dX4_wordKind_108 cbX4_spells (mt2 3 rfl rfl) (mt2 5 rfl rfl) (ms0 2 rfl rfl) (ci := 4) rfl hO.1 rfl rfl (Nat.le_of_ble_eq_true rfl) (fun v μ1 hq => ?_)
                    obtain ⟨rfl, hμ⟩ := hq
                    have hμ := hμ.symm
                    subst hμ
                    simp only [Option.toList, List.cons_append, List.nil_append]
                    refine ev_if_eq (tgt := 117) dX4_wordKind_111 (by decide) (fun h111 => ?_) (fun h111 => ?_)
                    · refine ev_aload_n dX4_wordKind_117 rfl ?_
                      refine ev_ldcS (k := 11) dX4_wordKind_118 rfl rfl rfl ?_
                      refine k_v (c_spells hO hT hs h1 h5 (k := 11) (by decide)) (by decide) dX4_wordKind_120 cbX4_spells (mt2 3 rfl rfl) (mt2 5 rfl rfl) (ms0 2 rfl rfl) (ci := 4) rfl hO.1 rfl rfl (Nat.le_of_ble_eq_true rfl) (fun v μ1 hq => ?_)
                      obtain ⟨rfl, hμ⟩ := hq
                      have hμ := hμ.symm
                      subst hμ
                      simp only [Option.toList, List.cons_append, List.nil_append]
                      refine ev_if_eq (tgt := 129) dX4_wordKind_123 (by decide) (fun h123 => ?_) (fun h123 => ?_)
                      · refine ev_aload_n dX4_wordKind_129 rfl ?_
                        refine ev_ldcS (k := 12) dX4_wordKind_130 rfl rfl rfl ?_
                        refine k_v (c_spells hO hT hs h1 h5 (k := 12) (by decide)) (by decide) dX4_wordKind_132 cbX4_spells (mt2 3 rfl rfl) (mt2 5 rfl rfl) (ms0 2 rfl rfl) (ci := 4) rfl hO.1 rfl rfl (Nat.le_of_ble_eq_true rfl) (fun v μ1 hq => ?_)
                        obtain ⟨rfl, hμ⟩ := hq
                        have hμ := hμ.symm
                        subst hμ
                        simp only [Option.toList, List.cons_append, List.nil_append]
                        refine ev_if_eq (tgt := 143) dX4_wordKind_135 (by decide) (fun h135 => ?_) (fun h135 => ?_)
                        · refine ev_iconst (v := 1) dX4_wordKind_143 (by decide) ?_
                          refine ev_iret dX4_wordKind_144 rfl ?_
                          first
                            | (have q := b2i_ne h135
                               exact ⟨by rw [wk_of q (i := 5) rfl]; rfl, rfl⟩)
                            | (have n12 := wIx_12 run
                               have a6 : ¬ wIx run = 6 := fun q => b2i_eq h6 ((mWd_ix rfl).mpr q)
                               have a7 : ¬ wIx run = 7 := fun q => b2i_eq h17 ((mWd_ix rfl).mpr q)
                               have a8 : ¬ wIx run = 8 := fun q => b2i_eq h28 ((mWd_ix rfl).mpr q)
                               have a9 : ¬ wIx run = 9 := fun q => b2i_eq h39 ((mWd_ix rfl).mpr q)
                               have a10 : ¬ wIx run = 10 := fun q => b2i_eq h51 ((mWd_ix rfl).mpr q)
                               have a11 : ¬ wIx run = 11 := fun q => b2i_eq h63 ((mWd_ix rfl).mpr q)
                               have a0 : ¬ wIx run = 0 := fun q => b2i_eq h75 ((mWd_ix rfl).mpr q)
                               have a1 : ¬ wIx run = 1 := fun q => b2i_eq h87 ((mWd_ix rfl).mpr q)
                               have a2 : ¬ wIx run = 2 := fun q => b2i_eq h99 ((mWd_ix rfl).mpr q)
                               have a3 : ¬ wIx run = 3 := fun q => b2i_eq h111 ((mWd_ix rfl).mpr q)
                               have a4 : ¬ wIx run = 4 := fun q => b2i_eq h123 ((mWd_ix rfl).mpr q)
                               have a5 : ¬ wIx run = 5 := fun q => b2i_eq h135 ((mWd_ix rfl).mpr q)
                               have e12 : wIx run = 12 := by omega
                               exact ⟨by rw [e12]; rfl, rfl⟩)
                        · refine ev_bipush (v := 15) dX4_wordKind_138 (by decide) ?_
                          refine ev_goto (tgt := 144) dX4_wordKind_140 (by decide) ?_
                          refine ev_iret dX4_wordKind_144 rfl ?_
                          first
                            | (have q := b2i_ne h135
                               exact ⟨by rw [wk_of q (i := 5) rfl]; rfl, rfl⟩)
                            | (have n12 := wIx_12 run
                               have a6 : ¬ wIx run = 6 := fun q => b2i_eq h6 ((mWd_ix rfl).mpr q)
                               have a7 : ¬ wIx run = 7 := fun q => b2i_eq h17 ((mWd_ix rfl).mpr q)
                               have a8 : ¬ wIx run = 8 := fun q => b2i_eq h28 ((mWd_ix rfl).mpr q)
                               have a9 : ¬ wIx run = 9 := fun q => b2i_eq h39 ((mWd_ix rfl).mpr q)
                               have a10 : ¬ wIx run = 10 := fun q => b2i_eq h51 ((mWd_ix rfl).mpr q)
                               have a11 : ¬ wIx run = 11 := fun q => b2i_eq h63 ((mWd_ix rfl).mpr q)
                               have a0 : ¬ wIx run = 0 := fun q => b2i_eq h75 ((mWd_ix rfl).mpr q)
                               have a1 : ¬ wIx run = 1 := fun q => b2i_eq h87 ((mWd_ix rfl).mpr q)
                               have a2 : ¬ wIx run = 2 := fun q => b2i_eq h99 ((mWd_ix rfl).mpr q)
                               have a3 : ¬ wIx run = 3 := fun q => b2i_eq h111 ((mWd_ix rfl).mpr q)
                               have a4 : ¬ wIx run = 4 := fun q => b2i_eq h123 ((mWd_ix rfl).mpr q)
                               have a5 : ¬ wIx run = 5 := fun q => b2i_eq h135 ((mWd_ix rfl).mpr q)
                               have e12 : wIx run = 12 := by omega
                               exact ⟨by rw [e12]; rfl, rfl⟩)
                      · refine ev_bipush (v := 14) dX4_wordKind_126 (by decide) ?_
                        refine ev_iret dX4_wordKind_128 rfl ?_
                        exact ⟨by rw [wk_of (b2i_ne h123) (i := 4) rfl]; rfl, rfl⟩
                    · refine ev_bipush (v := 13) dX4_wordKind_114 (by decide) ?_
                      refine ev_iret dX4_wordKind_116 rfl ?_
                      exact ⟨by rw [wk_of (b2i_ne h111) (i := 3) rfl]; rfl, rfl⟩
                  · refine ev_bipush (v := 12) dX4_wordKind_102 (by decide) ?_
                    refine ev_iret dX4_wordKind_104 rfl ?_
                    exact ⟨by rw [wk_of (b2i_ne h99) (i := 2) rfl]; rfl, rfl⟩
                · refine ev_bipush (v := 11) dX4_wordKind_90 (by decide) ?_
                  refine ev_iret dX4_wordKind_92 rfl ?_
                  exact ⟨by rw [wk_of (b2i_ne h87) (i := 1) rfl]; rfl, rfl⟩
              · refine ev_bipush (v := 10) dX4_wordKind_78 (by decide) ?_
                refine ev_iret dX4_wordKind_80 rfl ?_
                exact ⟨by rw [wk_of (b2i_ne h75) (i := 0) rfl]; rfl, rfl⟩
            · refine ev_bipush (v := 8) dX4_wordKind_66 (by decide) ?_
              refine ev_iret dX4_wordKind_68 rfl ?_
              exact ⟨by rw [wk_of (b2i_ne h63) (i := 11) rfl]; rfl, rfl⟩
          · refine ev_bipush (v := 7) dX4_wordKind_54 (by decide) ?_
            refine ev_iret dX4_wordKind_56 rfl ?_
            exact ⟨by rw [wk_of (b2i_ne h51) (i := 10) rfl]; rfl, rfl⟩
        · refine ev_bipush (v := 6) dX4_wordKind_42 (by decide) ?_
          refine ev_iret dX4_wordKind_44 rfl ?_
          exact ⟨by rw [wk_of (b2i_ne h39) (i := 9) rfl]; rfl, rfl⟩
      · refine ev_iconst (v := 5) dX4_wordKind_31 (by decide) ?_
        refine ev_iret dX4_wordKind_32 rfl ?_
        exact ⟨by rw [wk_of (b2i_ne h28) (i := 8) rfl]; rfl, rfl⟩
    · refine ev_iconst (v := 4) dX4_wordKind_20 (by decide) ?_
      refine ev_iret dX4_wordKind_21 rfl ?_
      exact ⟨by rw [wk_of (b2i_ne h17) (i := 7) rfl]; rfl, rfl⟩
  · refine ev_iconst (v := 3) dX4_wordKind_9 (by decide) ?_
    refine ev_iret dX4_wordKind_10 rfl ?_
    exact ⟨by rw [wk_of (b2i_ne h6) (i := 6) rfl]; rfl, rfl⟩
theorem l_digits {μ0 : Mm} {f0 : Nat → Int32} (hT : RT T tp) (h0 : f0 0 = nI tp.length) {s1 dg1 : List Int32} {Q : Option Value → Mm → Prop} (go : ∀ (f : Nat → Int32) (μ : Mm), RDo r f T C μ → FR r μ0 μ → EqR [5, 7] f f0 → f 5 = nI (psn tp s1) → Sfx tp s1 → f 7 = dvl 0 dg1 → Ev g 1 mX4_readDigits 68 [some (.ref r)] [] μ Q) : ∀ (s dg : List Int32) (f : Nat → Int32) (μ : Mm), RDo r f T C μ → FR r μ0 μ → EqR [5, 7] f f0 → f 5 = nI (psn tp s) → Sfx tp s → f 7 = dvl 0 dg → s.dropWhile isDg = s1 → dg ++ s.takeWhile isDg = dg1 → Ev g 1 mX4_readDigits 5 [some (.ref r)] [] μ Q := by
  have h160 := hT.1
  intro s
  induction s with
  | nil =>
    intro dg f μ hO hF hE h5 hs h7 e1 e2
    have f0e : f 0 = nI tp.length := (hE 0 (by decide)).trans h0
    subst e1
    rw [List.takeWhile_nil, List.append_nil] at e2
    subst e2
    refine ev_aload_n dX4_readDigits_5 rfl ?_
    refine ev_get dX4_readDigits_6 flX4_28_4 hO.1 rfl ?_
    refine ev_aload_n dX4_readDigits_9 rfl ?_
    refine ev_get dX4_readDigits_10 flX4_9_4 hO.1 rfl ?_
    refine ev_icmp_ge (tgt := 68) dX4_readDigits_13 (by decide) (fun _ => ?_) (fun h13 => absurd ((show f 0 ≤ f 5 by rw [f0e, h5]; exact nI_le (by simp [psn]) (by simp only [psn]; omega))) h13)
    exact go f μ hO hF hE h5 hs h7
  | cons c r' ih =>
    intro dg f μ hO hF hE h5 hs h7 e1 e2
    have f0e : f 0 = nI tp.length := (hE 0 (by decide)).trans h0
    have hps := hs.ps
    refine ev_aload_n dX4_readDigits_5 rfl ?_
    refine ev_get dX4_readDigits_6 flX4_28_4 hO.1 rfl ?_
    refine ev_aload_n dX4_readDigits_9 rfl ?_
    refine ev_get dX4_readDigits_10 flX4_9_4 hO.1 rfl ?_
    refine ev_icmp_ge (tgt := 68) dX4_readDigits_13 (by decide) (fun h13 => absurd h13 ((show ¬ f 0 ≤ f 5 by rw [f0e, h5]; exact nI_ge hps.2 (by omega)))) (fun _ => ?_)
    refine ev_aload_n dX4_readDigits_16 rfl ?_
    refine ev_get dX4_readDigits_17 flX4_18_4 hO.1 rfl ?_
    refine ev_aload_n dX4_readDigits_20 rfl ?_
    refine ev_get dX4_readDigits_21 flX4_28_4 hO.1 rfl ?_
    rw [h5]
    refine ev_iald dX4_readDigits_24 hO.2.1 (ix_n (by omega)) (hT.2 _ _ hs.hd) ?_
    refine k_s (c_kDigit c) (by decide) dX4_readDigits_25 cbX4_isDigit (mt2 20 rfl rfl) (mt2 21 rfl rfl) rfl rfl (Nat.le_of_ble_eq_true rfl) (fun v μ1 hq => ?_)
    obtain ⟨rfl, hμ⟩ := hq
    have hμ := hμ.symm
    subst hμ
    simp only [Option.toList, List.cons_append, List.nil_append]
    rw [isDg_b]
    refine ev_if_eq (tgt := 68) dX4_readDigits_28 (by decide) (fun h28 => ?_) (fun h28 => ?_)
    · have hd : ¬ isDg c = true := b2i_eq h28
      rw [List.dropWhile_cons_of_neg hd] at e1
      rw [List.takeWhile_cons_of_neg hd, List.append_nil] at e2
      subst e1
      subst e2
      exact go f μ hO hF hE h5 hs h7
    · refine ev_aload_n dX4_readDigits_31 rfl ?_
      refine ev_aload_n dX4_readDigits_32 rfl ?_
      refine ev_get dX4_readDigits_33 flX4_34_4 hO.1 rfl ?_
      rw [h7]
      refine ev_bipush (v := 10) dX4_readDigits_36 (by decide) ?_
      refine ev_imul dX4_readDigits_38 ?_
      refine ev_aload_n dX4_readDigits_39 rfl ?_
      refine ev_get dX4_readDigits_40 flX4_18_4 hO.1 rfl ?_
      refine ev_aload_n dX4_readDigits_43 rfl ?_
      refine ev_get dX4_readDigits_44 flX4_28_4 hO.1 rfl ?_
      rw [h5]
      refine ev_iald dX4_readDigits_47 hO.2.1 (ix_n (by omega)) (hT.2 _ _ hs.hd) ?_
      refine ev_iadd dX4_readDigits_48 ?_
      refine ev_bipush (v := 48) dX4_readDigits_49 (by decide) ?_
      refine ev_isub dX4_readDigits_51 ?_
      refine evR_put hO hF (k := 7) (by decide) dX4_readDigits_52 fpX4_34_4 (fun μ hO hF => ?_)
      refine ev_aload_n dX4_readDigits_55 rfl ?_
      refine ev_dup dX4_readDigits_56 rfl ?_
      refine ev_get dX4_readDigits_57 flX4_28_4 hO.1 rfl ?_
      refine ev_iconst (v := 1) dX4_readDigits_60 (by decide) ?_
      refine ev_iadd dX4_readDigits_61 ?_
      refine evR_put hO hF (k := 5) (by decide) dX4_readDigits_62 fpX4_28_4 (fun μ hO hF => ?_)
      refine ev_goto (tgt := 5) dX4_readDigits_65 (by decide) ?_
      have hd : isDg c = true := b2i_ne h28
      rw [List.dropWhile_cons_of_pos hd] at e1
      rw [List.takeWhile_cons_of_pos hd] at e2
      refine ih (dg ++ [c]) _ _ hO hF ((hE.s (by decide)).s (by decide)) ?_ hs.tl ?_ e1 (by rw [← e2]; simp)
      · show f 5 + 1 = _
        rw [h5, nI_1, hps.1]
      · rw [dvl_app]
        rfl
theorem c_readDigits {μ : Mm} (hO : RDo r f T C μ) (hT : RT T tp) (h0 : f 0 = nI tp.length) {s : List Int32} (hs : Sfx tp s) (h1 : f 1 = nI (psn tp s)) (h5 : f 5 = nI (psn tp s)) : Mt g 1 mX4_readDigits [.ref r] μ (fun v μ' => v = none ∧ (∃ f', RDo r f' T C μ' ∧ EqR [5, 6, 7] f' f ∧ f' 5 = nI (psn tp (s.dropWhile isDg)) ∧ f' 7 = dvl 0 (s.takeWhile isDg) ∧ f' 6 = (if (s.takeWhile isDg).length ≤ 4 then 2 else 1)) ∧ FR r μ μ') := by
  refine Mt.of0 (ls0 := [some (.ref r)]) (by decide) (by simp [Value.category]) (Nat.le_of_ble_eq_true rfl) rfl ?_
  have hF : FR r μ μ := FR.rf
  have h160 := hT.1
  have fin : ∀ (f1 : Nat → Int32) (μ1 : Mm), RDo r f1 T C μ1 → FR r μ μ1 → EqR [5, 7] f1 (rset f 7 0) → f1 5 = nI (psn tp (s.dropWhile isDg)) → Sfx tp (s.dropWhile isDg) → f1 7 = dvl 0 (s.takeWhile isDg) → Ev g 1 mX4_readDigits 68 [some (.ref r)] [] μ1 (fun v μ' => v = none ∧ (∃ f', RDo r f' T C μ' ∧ EqR [5, 6, 7] f' f ∧ f' 5 = nI (psn tp (s.dropWhile isDg)) ∧ f' 7 = dvl 0 (s.takeWhile isDg) ∧ f' 6 = (if (s.takeWhile isDg).length ≤ 4 then 2 else 1)) ∧ FR r μ μ') := by
    intro f1 μ1 hO hF hE g5 hs1 g7
    have g1 : f1 1 = nI (psn tp s) := (hE 1 (by decide)).trans h1
    have hlen : (s.takeWhile isDg).length + (s.dropWhile isDg).length = s.length := by
      have := congrArg List.length (List.takeWhile_append_dropWhile (p := isDg) (l := s))
      rw [List.length_append] at this
      exact this
    have hle := hs.le
    have e5 : f1 5 - f1 1 = nI (s.takeWhile isDg).length := by
      rw [g5, g1, nI_sub (by simp only [psn]; omega)]
      congr 1
      simp only [psn]
      omega
    have h4 := nI_leI (a := (s.takeWhile isDg).length) (b := 4) (by omega) (by decide)
    have hE2 : EqR [5, 6, 7] f1 f := (hE.wd (J := [5, 6, 7]) (by decide)).tr (EqR.rf.s (by decide))
    refine ev_aload_n dX4_readDigits_68 rfl ?_
    refine ev_aload_n dX4_readDigits_69 rfl ?_
    refine ev_get dX4_readDigits_70 flX4_28_4 hO.1 rfl ?_
    refine ev_aload_n dX4_readDigits_73 rfl ?_
    refine ev_get dX4_readDigits_74 flX4_15_4 hO.1 rfl ?_
    refine ev_isub dX4_readDigits_77 ?_
    rw [e5]
    refine ev_iconst (v := 4) dX4_readDigits_78 (by decide) ?_
    refine ev_icmp_le (tgt := 86) dX4_readDigits_79 (by decide) (fun h79 => ?_) (fun h79 => ?_)
    · refine ev_iconst (v := 2) dX4_readDigits_86 (by decide) ?_
      refine evR_put hO hF (k := 6) (by decide) dX4_readDigits_87 fpX4_31_4 (fun μ hO hF => ?_)
      refine ev_vret dX4_readDigits_90 rfl ?_
      refine ⟨rfl, ⟨_, hO, hE2.s (by decide), g5, g7, ?_⟩, hF⟩
      first
        | (rw [if_pos (h4.mp h79)]; rfl)
        | (rw [if_neg (fun q => h79 (h4.mpr q))]; rfl)
    · refine ev_iconst (v := 1) dX4_readDigits_82 (by decide) ?_
      refine ev_goto (tgt := 87) dX4_readDigits_83 (by decide) ?_
      refine evR_put hO hF (k := 6) (by decide) dX4_readDigits_87 fpX4_31_4 (fun μ hO hF => ?_)
      refine ev_vret dX4_readDigits_90 rfl ?_
      refine ⟨rfl, ⟨_, hO, hE2.s (by decide), g5, g7, ?_⟩, hF⟩
      first
        | (rw [if_pos (h4.mp h79)]; rfl)
        | (rw [if_neg (fun q => h79 (h4.mpr q))]; rfl)
  refine ev_aload_n dX4_readDigits_0 rfl ?_
  refine ev_iconst (v := 0) dX4_readDigits_1 (by decide) ?_
  refine evR_put hO hF (k := 7) (by decide) dX4_readDigits_2 fpX4_34_4 (fun μ hO hF => ?_)
  exact l_digits hT (f0 := rset f 7 0) h0 fin s [] _ _ hO hF EqR.rf h5 hs rfl rfl rfl
theorem l_advBl {μ0 : Mm} {f0 : Nat → Int32} (hT : RT T tp) (h0 : f0 0 = nI tp.length) {s1 : List Int32} {Q : Option Value → Mm → Prop} (go : ∀ (f : Nat → Int32) (μ : Mm), RDo r f T C μ → FR r μ0 μ → EqR [5] f f0 → f 5 = nI (psn tp s1) → Sfx tp s1 → Ev g 6 mX4_advance 52 [some (.ref r)] [] μ Q) : ∀ (s : List Int32) (f : Nat → Int32) (μ : Mm), RDo r f T C μ → FR r μ0 μ → EqR [5] f f0 → f 5 = nI (psn tp s) → Sfx tp s → skp s = s1 → Ev g 6 mX4_advance 0 [some (.ref r)] [] μ Q := by
  have h160 := hT.1
  intro s
  induction s with
  | nil =>
    intro f μ hO hF hE h5 hs e
    have f0e : f 0 = nI tp.length := (hE 0 (by decide)).trans h0
    subst e
    refine ev_aload_n dX4_advance_0 rfl ?_
    refine ev_get dX4_advance_1 flX4_28_4 hO.1 rfl ?_
    refine ev_aload_n dX4_advance_4 rfl ?_
    refine ev_get dX4_advance_5 flX4_9_4 hO.1 rfl ?_
    refine ev_icmp_ge (tgt := 52) dX4_advance_8 (by decide) (fun _ => ?_) (fun h8 => absurd ((show f 0 ≤ f 5 by rw [f0e, h5]; exact nI_le (by simp [psn]) (by simp only [psn]; omega))) h8)
    exact go f μ hO hF hE h5 hs
  | cons c r' ih =>
    intro f μ hO hF hE h5 hs e
    have f0e : f 0 = nI tp.length := (hE 0 (by decide)).trans h0
    have hps := hs.ps
    refine ev_aload_n dX4_advance_0 rfl ?_
    refine ev_get dX4_advance_1 flX4_28_4 hO.1 rfl ?_
    refine ev_aload_n dX4_advance_4 rfl ?_
    refine ev_get dX4_advance_5 flX4_9_4 hO.1 rfl ?_
    refine ev_icmp_ge (tgt := 52) dX4_advance_8 (by decide) (fun h8 => absurd h8 ((show ¬ f 0 ≤ f 5 by rw [f0e, h5]; exact nI_ge hps.2 (by omega)))) (fun _ => ?_)
    refine ev_aload_n dX4_advance_11 rfl ?_
    refine ev_get dX4_advance_12 flX4_18_4 hO.1 rfl ?_
    refine ev_aload_n dX4_advance_15 rfl ?_
    refine ev_get dX4_advance_16 flX4_28_4 hO.1 rfl ?_
    rw [h5]
    refine ev_iald dX4_advance_19 hO.2.1 (ix_n (by omega)) (hT.2 _ _ hs.hd) ?_
    refine ev_bipush (v := 32) dX4_advance_20 (by decide) ?_
    refine ev_icmp_eq (tgt := 39) dX4_advance_22 (by decide) (fun h22 => ?_) (fun h22 => ?_)
    · refine ev_aload_n dX4_advance_39 rfl ?_
      refine ev_dup dX4_advance_40 rfl ?_
      refine ev_get dX4_advance_41 flX4_28_4 hO.1 rfl ?_
      refine ev_iconst (v := 1) dX4_advance_44 (by decide) ?_
      refine ev_iadd dX4_advance_45 ?_
      refine evR_put hO hF (k := 5) (by decide) dX4_advance_46 fpX4_28_4 (fun μ hO hF => ?_)
      refine ev_goto (tgt := 0) dX4_advance_49 (by decide) ?_
      have hb : isBl c = true := by
        rw [isBl_spec]
        first
          | exact Or.inl h22
          | exact Or.inr h36
      refine ih _ _ hO hF (hE.s (by decide)) ?_ hs.tl (by rw [← e, skp, skp, List.dropWhile_cons_of_pos hb])
      show f 5 + 1 = _
      rw [h5, nI_1, hps.1]
    · refine ev_aload_n dX4_advance_25 rfl ?_
      refine ev_get dX4_advance_26 flX4_18_4 hO.1 rfl ?_
      refine ev_aload_n dX4_advance_29 rfl ?_
      refine ev_get dX4_advance_30 flX4_28_4 hO.1 rfl ?_
      rw [h5]
      refine ev_iald dX4_advance_33 hO.2.1 (ix_n (by omega)) (hT.2 _ _ hs.hd) ?_
      refine ev_bipush (v := 10) dX4_advance_34 (by decide) ?_
      refine ev_icmp_ne (tgt := 52) dX4_advance_36 (by decide) (fun h36 => ?_) (fun h36 => ?_)
      · have hb : ¬ isBl c = true := by
          rw [isBl_spec]
          exact fun q => q.elim h22 h36
        have e3 : s1 = c :: r' := by rw [← e, skp, List.dropWhile_cons_of_neg hb]
        rw [e3] at go
        exact go f μ hO hF hE h5 hs
      · refine ev_aload_n dX4_advance_39 rfl ?_
        refine ev_dup dX4_advance_40 rfl ?_
        refine ev_get dX4_advance_41 flX4_28_4 hO.1 rfl ?_
        refine ev_iconst (v := 1) dX4_advance_44 (by decide) ?_
        refine ev_iadd dX4_advance_45 ?_
        refine evR_put hO hF (k := 5) (by decide) dX4_advance_46 fpX4_28_4 (fun μ hO hF => ?_)
        refine ev_goto (tgt := 0) dX4_advance_49 (by decide) ?_
        have hb : isBl c = true := by
          rw [isBl_spec]
          first
            | exact Or.inl h22
            | exact Or.inr h36
        refine ih _ _ hO hF (hE.s (by decide)) ?_ hs.tl (by rw [← e, skp, skp, List.dropWhile_cons_of_pos hb])
        show f 5 + 1 = _
        rw [h5, nI_1, hps.1]
theorem l_advLt {μ0 : Mm} {f0 : Nat → Int32} (hT : RT T tp) (h0 : f0 0 = nI tp.length) {s1 : List Int32} {Q : Option Value → Mm → Prop} (go : ∀ (f : Nat → Int32) (μ : Mm), RDo r f T C μ → FR r μ0 μ → EqR [5] f f0 → f 5 = nI (psn tp s1) → Sfx tp s1 → Ev g 6 mX4_advance 133 [some (.ref r)] [] μ Q) : ∀ (s : List Int32) (f : Nat → Int32) (μ : Mm), RDo r f T C μ → FR r μ0 μ → EqR [5] f f0 → f 5 = nI (psn tp s) → Sfx tp s → s.dropWhile isLt = s1 → Ev g 6 mX4_advance 94 [some (.ref r)] [] μ Q := by
  have h160 := hT.1
  intro s
  induction s with
  | nil =>
    intro f μ hO hF hE h5 hs e
    have f0e : f 0 = nI tp.length := (hE 0 (by decide)).trans h0
    subst e
    refine ev_aload_n dX4_advance_94 rfl ?_
    refine ev_get dX4_advance_95 flX4_28_4 hO.1 rfl ?_
    refine ev_aload_n dX4_advance_98 rfl ?_
    refine ev_get dX4_advance_99 flX4_9_4 hO.1 rfl ?_
    refine ev_icmp_ge (tgt := 133) dX4_advance_102 (by decide) (fun _ => ?_) (fun h102 => absurd ((show f 0 ≤ f 5 by rw [f0e, h5]; exact nI_le (by simp [psn]) (by simp only [psn]; omega))) h102)
    exact go f μ hO hF hE h5 hs
  | cons c r' ih =>
    intro f μ hO hF hE h5 hs e
    have f0e : f 0 = nI tp.length := (hE 0 (by decide)).trans h0
    have hps := hs.ps
    refine ev_aload_n dX4_advance_94 rfl ?_
    refine ev_get dX4_advance_95 flX4_28_4 hO.1 rfl ?_
    refine ev_aload_n dX4_advance_98 rfl ?_
    refine ev_get dX4_advance_99 flX4_9_4 hO.1 rfl ?_
    refine ev_icmp_ge (tgt := 133) dX4_advance_102 (by decide) (fun h102 => absurd h102 ((show ¬ f 0 ≤ f 5 by rw [f0e, h5]; exact nI_ge hps.2 (by omega)))) (fun _ => ?_)
    refine ev_aload_n dX4_advance_105 rfl ?_
    refine ev_get dX4_advance_106 flX4_18_4 hO.1 rfl ?_
    refine ev_aload_n dX4_advance_109 rfl ?_
    refine ev_get dX4_advance_110 flX4_28_4 hO.1 rfl ?_
    rw [h5]
    refine ev_iald dX4_advance_113 hO.2.1 (ix_n (by omega)) (hT.2 _ _ hs.hd) ?_
    refine k_s (c_kLetter c) (by decide) dX4_advance_114 cbX4_isLetter (mt1 235 rfl rfl) (mt1 236 rfl rfl) rfl rfl (Nat.le_of_ble_eq_true rfl) (fun v μ1 hq => ?_)
    obtain ⟨rfl, hμ⟩ := hq
    have hμ := hμ.symm
    subst hμ
    simp only [Option.toList, List.cons_append, List.nil_append]
    rw [isLt_b]
    refine ev_if_eq (tgt := 133) dX4_advance_117 (by decide) (fun h117 => ?_) (fun h117 => ?_)
    · have hb : ¬ isLt c = true := b2i_eq h117
      have e3 : s1 = c :: r' := by rw [← e, List.dropWhile_cons_of_neg hb]
      rw [e3] at go
      exact go f μ hO hF hE h5 hs
    · refine ev_aload_n dX4_advance_120 rfl ?_
      refine ev_dup dX4_advance_121 rfl ?_
      refine ev_get dX4_advance_122 flX4_28_4 hO.1 rfl ?_
      refine ev_iconst (v := 1) dX4_advance_125 (by decide) ?_
      refine ev_iadd dX4_advance_126 ?_
      refine evR_put hO hF (k := 5) (by decide) dX4_advance_127 fpX4_28_4 (fun μ hO hF => ?_)
      refine ev_goto (tgt := 94) dX4_advance_130 (by decide) ?_
      have hb : isLt c = true := b2i_ne h117
      refine ih _ _ hO hF (hE.s (by decide)) ?_ hs.tl (by rw [← e, List.dropWhile_cons_of_pos hb])
      show f 5 + 1 = _
      rw [h5, nI_1, hps.1]
abbrev AdvQ (r : Nat) (T C tp x : List Int32) (f : Nat → Int32) (μ : Mm) : Option Value → Mm → Prop := fun v μ' => v = none ∧ (∃ f', RDo r f' T C μ' ∧ EqR [1, 5, 6, 7] f' f ∧ RTok f' tp (skp x)) ∧ FR r μ μ'
theorem c_advance {μ : Mm} (hO : RDo r f T C μ) (hT : RT T tp) (h0 : f 0 = nI tp.length) {x : List Int32} (hx : Sfx tp x) (h5 : f 5 = nI (psn tp x)) : Mt g 6 mX4_advance [.ref r] μ (AdvQ r T C tp x f μ) := by
  refine Mt.of0 (ls0 := [some (.ref r)]) (by decide) (by simp [Value.category]) (Nat.le_of_ble_eq_true rfl) rfl ?_
  have h160 := hT.1
  refine l_advBl hT h0 (s1 := skp x) ?_ x f μ hO FR.rf EqR.rf h5 hx rfl
  clear hO h5
  intro f1 μ1 hO hF hE h5 hs
  have f0e : f1 0 = nI tp.length := (hE 0 (by decide)).trans h0
  have hE1 : EqR [1, 5, 6, 7] f1 f := hE.wd (by decide)
  unfold AdvQ
  generalize skp x = s at hs h5 ⊢
  cases s with
  | nil =>
    refine ev_aload_n dX4_advance_52 rfl ?_
    refine ev_aload_n dX4_advance_53 rfl ?_
    refine ev_get dX4_advance_54 flX4_28_4 hO.1 rfl ?_
    refine evR_put hO hF (k := 1) (by decide) dX4_advance_57 fpX4_15_4 (fun μ hO hF => ?_)
    refine ev_aload_n dX4_advance_60 rfl ?_
    refine ev_get dX4_advance_61 flX4_28_4 hO.1 rfl ?_
    refine ev_aload_n dX4_advance_64 rfl ?_
    refine ev_get dX4_advance_65 flX4_9_4 hO.1 rfl ?_
    refine ev_icmp_lt (tgt := 79) dX4_advance_68 (by decide) (fun h68 => absurd h68 ((show ¬ f1 5 < f1 0 by rw [f0e, h5]; exact nI_nlt (by simp [psn]) (by simp only [psn]; omega)))) (fun _ => ?_)
    refine ev_aload_n dX4_advance_71 rfl ?_
    refine ev_iconst (v := 0) dX4_advance_72 (by decide) ?_
    refine evR_put hO hF (k := 6) (by decide) dX4_advance_73 fpX4_31_4 (fun μ hO hF => ?_)
    refine ev_goto (tgt := 192) dX4_advance_76 (by decide) ?_
    refine ev_vret dX4_advance_192 rfl ?_
    exact ⟨rfl, ⟨_, hO, (hE1.s (by decide)).s (by decide), hs, h5, rfl, fun q => absurd q (by decide), h5⟩, hF⟩
  | cons c r' =>
    have hps := hs.ps
    have hlt : f1 5 < f1 0 := by rw [f0e, h5]; exact nI_lt hps.2 (by omega)
    refine ev_aload_n dX4_advance_52 rfl ?_
    refine ev_aload_n dX4_advance_53 rfl ?_
    refine ev_get dX4_advance_54 flX4_28_4 hO.1 rfl ?_
    refine evR_put hO hF (k := 1) (by decide) dX4_advance_57 fpX4_15_4 (fun μ hO hF => ?_)
    refine ev_aload_n dX4_advance_60 rfl ?_
    refine ev_get dX4_advance_61 flX4_28_4 hO.1 rfl ?_
    refine ev_aload_n dX4_advance_64 rfl ?_
    refine ev_get dX4_advance_65 flX4_9_4 hO.1 rfl ?_
    refine ev_icmp_lt (tgt := 79) dX4_advance_68 (by decide) (fun _ => ?_) (fun h68 => absurd (hlt) h68)
    refine ev_aload_n dX4_advance_79 rfl ?_
    refine ev_get dX4_advance_80 flX4_18_4 hO.1 rfl ?_
    refine ev_aload_n dX4_advance_83 rfl ?_
    refine ev_get dX4_advance_84 flX4_28_4 hO.1 rfl ?_
    rw [show (rset f1 1 (f1 5)) 5 = nI (psn tp (c :: r')) from h5]
    refine ev_iald dX4_advance_87 hO.2.1 (ix_n (by omega)) (hT.2 _ _ hs.hd) ?_
    refine k_s (c_kLetter c) (by decide) dX4_advance_88 cbX4_isLetter (mt1 235 rfl rfl) (mt1 236 rfl rfl) rfl rfl (Nat.le_of_ble_eq_true rfl) (fun v μ1 hq => ?_)
    obtain ⟨rfl, hμ⟩ := hq
    have hμ := hμ.symm
    subst hμ
    simp only [Option.toList, List.cons_append, List.nil_append]
    rw [isLt_b]
    refine ev_if_eq (tgt := 144) dX4_advance_91 (by decide) (fun h91 => ?_) (fun h91 => ?_)
    · refine ev_aload_n dX4_advance_144 rfl ?_
      refine ev_get dX4_advance_145 flX4_18_4 hO.1 rfl ?_
      refine ev_aload_n dX4_advance_148 rfl ?_
      refine ev_get dX4_advance_149 flX4_28_4 hO.1 rfl ?_
      rw [show (rset f1 1 (f1 5)) 5 = nI (psn tp (c :: r')) from h5]
      refine ev_iald dX4_advance_152 hO.2.1 (ix_n (by omega)) (hT.2 _ _ hs.hd) ?_
      refine k_s (c_kDigit c) (by decide) dX4_advance_153 cbX4_isDigit (mt2 20 rfl rfl) (mt2 21 rfl rfl) rfl rfl (Nat.le_of_ble_eq_true rfl) (fun v μ1 hq => ?_)
      obtain ⟨rfl, hμ⟩ := hq
      have hμ := hμ.symm
      subst hμ
      simp only [Option.toList, List.cons_append, List.nil_append]
      rw [isDg_b]
      refine ev_if_eq (tgt := 166) dX4_advance_156 (by decide) (fun h156 => ?_) (fun h156 => ?_)
      · refine ev_aload_n dX4_advance_166 rfl ?_
        refine ev_aload_n dX4_advance_167 rfl ?_
        refine ev_get dX4_advance_168 flX4_18_4 hO.1 rfl ?_
        refine ev_aload_n dX4_advance_171 rfl ?_
        refine ev_get dX4_advance_172 flX4_28_4 hO.1 rfl ?_
        rw [show (rset f1 1 (f1 5)) 5 = nI (psn tp (c :: r')) from h5]
        refine ev_iald dX4_advance_175 hO.2.1 (ix_n (by omega)) (hT.2 _ _ hs.hd) ?_
        refine k_s (c_kSign c) (by decide) dX4_advance_176 cbX4_signKind (mt2 27 rfl rfl) (mt2 28 rfl rfl) rfl rfl (Nat.le_of_ble_eq_true rfl) (fun v μ1 hq => ?_)
        obtain ⟨rfl, hμ⟩ := hq
        have hμ := hμ.symm
        subst hμ
        simp only [Option.toList, List.cons_append, List.nil_append]
        refine evR_put hO hF (k := 6) (by decide) dX4_advance_179 fpX4_31_4 (fun μ hO hF => ?_)
        refine ev_aload_n dX4_advance_182 rfl ?_
        refine ev_dup dX4_advance_183 rfl ?_
        refine ev_get dX4_advance_184 flX4_28_4 hO.1 rfl ?_
        refine ev_iconst (v := 1) dX4_advance_187 (by decide) ?_
        refine ev_iadd dX4_advance_188 ?_
        refine evR_put hO hF (k := 5) (by decide) dX4_advance_189 fpX4_28_4 (fun μ hO hF => ?_)
        refine ev_vret dX4_advance_192 rfl ?_
        first
          | (have hl : ¬ isLt c = true := b2i_eq h91
             have hd : isDg c = true := b2i_ne h156
             have eK : tkK (c :: r') = if ((c :: r').takeWhile isDg).length ≤ 4 then 2 else 1 := by rw [tkK, if_neg hl, if_pos hd]
             have eR : tkR (c :: r') = (c :: r').dropWhile isDg := by rw [tkR, if_neg hl, if_pos hd]
             exact ⟨rfl, ⟨f2, hO, (hE2.wd (by decide)).tr (hE1.s (by decide)), hs, (hE2 1 (by decide)).trans h5, g6.trans eK.symm, fun _ => g7, by rw [eR]; exact g5⟩, hF⟩)
          | (have hl : ¬ isLt c = true := b2i_eq h91
             have hd : ¬ isDg c = true := b2i_eq h156
             have eR : tkR (c :: r') = r' := by rw [tkR, if_neg hl, if_neg hd]
             have eK : tkK (c :: r') = if isSg c = true then c else 1 := by rw [tkK, if_neg hl, if_neg hd]
             refine ⟨rfl, ⟨_, hO, ((hE1.s (by decide)).s (by decide)).s (by decide), hs, h5, eK.symm, fun q => ?_, ?_⟩, hF⟩
             · exfalso
               rw [eK] at q
               split at q
               · rename_i h; rw [isSg_spec] at h; rw [q] at h; revert h; decide
               · exact absurd q (by decide)
             · rw [eR]
               show f1 5 + 1 = _
               rw [h5, nI_1, hps.1])
      · refine ev_aload_n dX4_advance_159 rfl ?_
        refine k_v (c_readDigits hO hT (show (rset f1 1 (f1 5)) 0 = _ from f0e) hs (show (rset f1 1 (f1 5)) 1 = _ from h5) (show (rset f1 1 (f1 5)) 5 = _ from h5)) (by decide) dX4_advance_160 cbX4_readDigits (mt2 23 rfl rfl) (mt2 25 rfl rfl) (ms0 3 rfl rfl) (ci := 4) rfl hO.1 rfl rfl (Nat.le_of_ble_eq_true rfl) (fun v μ1 hq => ?_)
        obtain ⟨rfl, ⟨f2, hO, hE2, g5, g7, g6⟩, hF2⟩ := hq; have hF := hF.tr hF2
        simp only [Option.toList, List.cons_append, List.nil_append]
        refine ev_goto (tgt := 192) dX4_advance_163 (by decide) ?_
        refine ev_vret dX4_advance_192 rfl ?_
        first
          | (have hl : ¬ isLt c = true := b2i_eq h91
             have hd : isDg c = true := b2i_ne h156
             have eK : tkK (c :: r') = if ((c :: r').takeWhile isDg).length ≤ 4 then 2 else 1 := by rw [tkK, if_neg hl, if_pos hd]
             have eR : tkR (c :: r') = (c :: r').dropWhile isDg := by rw [tkR, if_neg hl, if_pos hd]
             exact ⟨rfl, ⟨f2, hO, (hE2.wd (by decide)).tr (hE1.s (by decide)), hs, (hE2 1 (by decide)).trans h5, g6.trans eK.symm, fun _ => g7, by rw [eR]; exact g5⟩, hF⟩)
          | (have hl : ¬ isLt c = true := b2i_eq h91
             have hd : ¬ isDg c = true := b2i_eq h156
             have eR : tkR (c :: r') = r' := by rw [tkR, if_neg hl, if_neg hd]
             have eK : tkK (c :: r') = if isSg c = true then c else 1 := by rw [tkK, if_neg hl, if_neg hd]
             refine ⟨rfl, ⟨_, hO, ((hE1.s (by decide)).s (by decide)).s (by decide), hs, h5, eK.symm, fun q => ?_, ?_⟩, hF⟩
             · exfalso
               rw [eK] at q
               split at q
               · rename_i h; rw [isSg_spec] at h; rw [q] at h; revert h; decide
               · exact absurd q (by decide)
             · rw [eR]
               show f1 5 + 1 = _
               rw [h5, nI_1, hps.1])
    · have hl : isLt c = true := b2i_ne h91
      refine l_advLt hT (f0 := rset f1 1 (f1 5)) f0e (s1 := (c :: r').dropWhile isLt) ?_ (c :: r') _ _ hO hF EqR.rf h5 hs rfl
      clear hO hF
      intro f2 μ2 hO hF hE2 g5 hs2
      have hrun : (c :: r').takeWhile isLt ++ (c :: r').dropWhile isLt = c :: r' := List.takeWhile_append_dropWhile
      have g1 : f2 1 = nI (psn tp ((c :: r').takeWhile isLt ++ (c :: r').dropWhile isLt)) := by rw [hrun]; exact (hE2 1 (by decide)).trans h5
      have eK : tkK (c :: r') = wKd (wIx ((c :: r').takeWhile isLt)) := by rw [tkK, if_pos hl]
      have eR : tkR (c :: r') = (c :: r').dropWhile isLt := by rw [tkR, if_pos hl]
      have h12 : ∀ i, i ≤ 12 → ¬ wKd i = 2 := by decide
      refine ev_aload_n dX4_advance_133 rfl ?_
      refine ev_aload_n dX4_advance_134 rfl ?_
      refine k_v (c_wordKind hO hT (by rw [hrun]; exact hs) g1 g5) (by decide) dX4_advance_135 cbX4_wordKind (mt1 238 rfl rfl) (mt2 0 rfl rfl) (ms0 1 rfl rfl) (ci := 4) rfl hO.1 rfl rfl (Nat.le_of_ble_eq_true rfl) (fun v μ1 hq => ?_)
      obtain ⟨rfl, hμ⟩ := hq
      have hμ := hμ.symm
      subst hμ
      simp only [Option.toList, List.cons_append, List.nil_append]
      refine evR_put hO hF (k := 6) (by decide) dX4_advance_138 fpX4_31_4 (fun μ hO hF => ?_)
      refine ev_goto (tgt := 192) dX4_advance_141 (by decide) ?_
      refine ev_vret dX4_advance_192 rfl ?_
      exact ⟨rfl, ⟨_, hO, ((hE2.wd (by decide)).tr (hE1.s (by decide))).s (by decide), hs, g1.trans (by rw [hrun]), eK.symm, fun q => absurd (eK.symm.trans q) (h12 _ (wIx_12 _)), by rw [eR]; exact g5⟩, hF⟩
end KADV
