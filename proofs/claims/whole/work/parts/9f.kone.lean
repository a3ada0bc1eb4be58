/-! ===== the class's reader: one, and all levels ===== -/
section KONE
variable {g : Gl} {r : Nat} {T tp : List Int32}
theorem lc_one {q : Nat} (hq5 : q ≤ 5) (hT : RT T tp) (hone : ∀ q', q = q' + 1 → LvC g mX4_one (10 * q' + 8) r T tp q' 7 (1 + 5 * q') NxO preO) (heit : ∀ q', q = q' + 1 → LvC g mX4_either (10 * q' + 14) r T tp q' 1 (6 + 5 * q') NxE preE) : LvC g mX4_one (10 * q + 8) r T tp q 7 (1 + 5 * q) NxO preO := by
  intro s D H C μ hS hD hp
  have hF : FR r μ μ := FR.rf
  have hss := hS.sfx
  have h160 := hT.1
  have hkd := kds s
  obtain ⟨f, C1, hO, hC, h0, hK, h4, hc4⟩ := id hS
  refine Mt.of0 (ls0 := [some (.ref r), some (.int (nI (5 - q)))]) (by decide) (by simp [Value.category]) (Nat.le_of_ble_eq_true rfl) rfl ?_
  by_cases k2 : tkK s = 2
  · have hk0 : ¬ tkK s = 0 := by rw [k2]; decide
    have hnx := psn_nx hss hk0
    have hp0 := psn_lt0 hss hk0
    have hen := en_v k2
    refine ev_aload_n dX4_one_0 rfl ?_
    refine ev_get dX4_one_1 flX4_31_4 hO.1 rfl ?_
    rw [hK.2.2.1]
    refine ev_iconst (v := 2) dX4_one_4 (by decide) ?_
    refine ev_icmp_ne (tgt := 28) dX4_one_5 (by decide) (fun h5 => absurd (k2) h5) (fun _ => ?_)
    refine ev_aload_n dX4_one_8 rfl ?_
    refine ev_iconst (v := 2) dX4_one_9 (by decide) ?_
    refine ev_aload_n dX4_one_10 rfl ?_
    refine ev_get dX4_one_11 flX4_34_4 hO.1 rfl ?_
    rw [hK.2.2.2.1 k2]
    refine ev_bipush (v := 6) dX4_one_14 (by decide) ?_
    refine ev_ishl dX4_one_16 ?_
    refine ev_iadd dX4_one_17 ?_
    refine k_v (c_emit hS (by omega) (c := tkV s) hen.1.symm) (by omega) dX4_one_18 cbX4_emit (mt2 66 rfl rfl) (mt2 68 rfl rfl) (ms0 13 rfl rfl) (ci := 4) rfl hO.1 rfl rfl (Nat.le_of_ble_eq_true rfl) (fun v μ1 hq => ?_)
    obtain ⟨rfl, hS, hF2⟩ := hq; have hF := hF.tr hF2; clear hF2; obtain ⟨f, C1, hO, hC, h0, hK, h4, hc4⟩ := id hS
    simp only [Option.toList, List.cons_append, List.nil_append]
    refine ev_pop dX4_one_21 rfl ?_
    refine ev_aload_n dX4_one_22 rfl ?_
    refine ev_iconst (v := 2) dX4_one_23 (by decide) ?_
    refine k_v (c_passed hS hT 2) (by omega) dX4_one_24 cbX4_passed (mt2 34 rfl rfl) (mt2 36 rfl rfl) (ms0 5 rfl rfl) (ci := 4) rfl hO.1 rfl rfl (Nat.le_of_ble_eq_true rfl) (fun v μ1 hq => ?_)
    obtain ⟨hF2, z, rfl, hz⟩ := hq; have hF := hF.tr hF2; clear hF2
    simp only [Option.toList, List.cons_append, List.nil_append]
    refine ev_zret dX4_one_27 rfl (LvQ.nar (hz.imp (fun q => ⟨q.1, trivial⟩) (fun q => ⟨q.1, trivial⟩))) ?_
    obtain ⟨rfl, -, hS⟩ := hz.resolve_right (fun q => q.2.1 k2)
    exact ⟨hF, 1, rfl, Or.inl ⟨rfl, nxT s, [tkV s], _, hS, rw_num k2, Rd.rf, trivial, (Hk.one hen.2.1 hen.2.2).mono (by omega), by rw [List.length_singleton]; omega⟩⟩
  · by_cases k10 : 10 ≤ tkK s ∧ tkK s ≤ 15
    · have hk0 : ¬ tkK s = 0 := by intro q; rw [q] at k10; exact absurd k10 (by decide)
      have hnx := psn_nx hss hk0
      have hp0 := psn_lt0 hss hk0
      have hen := en_nam _ hkd k10
      refine ev_aload_n dX4_one_0 rfl ?_
      refine ev_get dX4_one_1 flX4_31_4 hO.1 rfl ?_
      rw [hK.2.2.1]
      refine ev_iconst (v := 2) dX4_one_4 (by decide) ?_
      refine ev_icmp_ne (tgt := 28) dX4_one_5 (by decide) (fun _ => ?_) (fun h5 => absurd h5 (k2))
      refine ev_aload_n dX4_one_28 rfl ?_
      refine ev_get dX4_one_29 flX4_31_4 hO.1 rfl ?_
      rw [hK.2.2.1]
      refine ev_bipush (v := 10) dX4_one_32 (by decide) ?_
      refine ev_icmp_lt (tgt := 64) dX4_one_34 (by decide) (fun h34 => absurd h34 ((show ¬ tkK s < 10 from Int32.not_lt.mpr k10.1))) (fun _ => ?_)
      refine ev_aload_n dX4_one_37 rfl ?_
      refine ev_get dX4_one_38 flX4_31_4 hO.1 rfl ?_
      rw [hK.2.2.1]
      refine ev_bipush (v := 15) dX4_one_41 (by decide) ?_
      refine ev_icmp_gt (tgt := 64) dX4_one_43 (by decide) (fun h43 => absurd h43 ((show ¬ (15 : Int32) < tkK s from Int32.not_lt.mpr k10.2))) (fun _ => ?_)
      refine ev_aload_n dX4_one_46 rfl ?_
      refine ev_aload_n dX4_one_47 rfl ?_
      refine ev_get dX4_one_48 flX4_31_4 hO.1 rfl ?_
      rw [hK.2.2.1]
      refine k_v (c_emit hS (by omega) (c := 20000 + (tkK s - 10)) hen.1.symm) (by omega) dX4_one_51 cbX4_emit (mt2 66 rfl rfl) (mt2 68 rfl rfl) (ms0 13 rfl rfl) (ci := 4) rfl hO.1 rfl rfl (Nat.le_of_ble_eq_true rfl) (fun v μ1 hq => ?_)
      obtain ⟨rfl, hS, hF2⟩ := hq; have hF := hF.tr hF2; clear hF2; obtain ⟨f, C1, hO, hC, h0, hK, h4, hc4⟩ := id hS
      simp only [Option.toList, List.cons_append, List.nil_append]
      refine ev_pop dX4_one_54 rfl ?_
      refine ev_aload_n dX4_one_55 rfl ?_
      refine ev_aload_n dX4_one_56 rfl ?_
      refine ev_get dX4_one_57 flX4_31_4 hO.1 rfl ?_
      rw [hK.2.2.1]
      refine k_v ((c_passed hS hT (tkK s))) (by omega) dX4_one_60 cbX4_passed (mt2 34 rfl rfl) (mt2 36 rfl rfl) (ms0 5 rfl rfl) (ci := 4) rfl hO.1 rfl rfl (Nat.le_of_ble_eq_true rfl) (fun v μ1 hq => ?_)
      obtain ⟨hF2, z, rfl, hz⟩ := hq; have hF := hF.tr hF2; clear hF2
      simp only [Option.toList, List.cons_append, List.nil_append]
      refine ev_zret dX4_one_63 rfl (LvQ.nar (hz.imp (fun q => ⟨q.1, trivial⟩) (fun q => ⟨q.1, trivial⟩))) ?_
      obtain ⟨rfl, -, hS⟩ := hz.resolve_right (fun q => q.2.1 rfl)
      exact ⟨hF, 1, rfl, Or.inl ⟨rfl, nxT s, [20000 + (tkK s - 10)], _, hS, rw_nam k10, Rd.rf, trivial, (Hk.one hen.2.1 (vc_nam hkd k10)).mono (by omega), by rw [List.length_singleton]; omega⟩⟩
    · have no : ∀ (hb : ahD (tkK s) H = 0 ∨ nI (5 - q) = 5), LvQ r T tp 7 (1 + 5 * q) NxO s D H C (nI (5 - q)) μ (some (.int 0)) μ := fun hb => ⟨FR.rf, 0, rfl, Or.inr ⟨rfl, LvF.of hS (rw_bad k2 k10 hb)⟩⟩
      have a0 : ¬ tkK s = 45 → ¬ tkK s = 40 → ahD (tkK s) H = 0 := fun n1 n2 => by rw [ahD, if_neg hp, if_neg n1, if_neg n2]
      cases q with
      | zero =>
        refine ev_aload_n dX4_one_0 rfl ?_
        refine ev_get dX4_one_1 flX4_31_4 hO.1 rfl ?_
        rw [hK.2.2.1]
        refine ev_iconst (v := 2) dX4_one_4 (by decide) ?_
        refine ev_icmp_ne (tgt := 28) dX4_one_5 (by decide) (fun _ => ?_) (fun h5 => absurd h5 (k2))
        refine ev_aload_n dX4_one_28 rfl ?_
        refine ev_get dX4_one_29 flX4_31_4 hO.1 rfl ?_
        rw [hK.2.2.1]
        refine ev_bipush (v := 10) dX4_one_32 (by decide) ?_
        refine ev_icmp_lt (tgt := 64) dX4_one_34 (by decide) (fun h34 => ?_) (fun h34 => ?_)
        · refine ev_aload_n dX4_one_64 rfl ?_
          refine ev_get dX4_one_65 flX4_31_4 hO.1 rfl ?_
          rw [hK.2.2.1]
          refine ev_bipush (v := 45) dX4_one_68 (by decide) ?_
          refine ev_icmp_eq (tgt := 82) dX4_one_70 (by decide) (fun h70 => ?_) (fun h70 => ?_)
          · refine ev_iload_n dX4_one_82 rfl ?_
            refine ev_iconst (v := 5) dX4_one_83 (by decide) ?_
            refine ev_icmp_lt (tgt := 89) dX4_one_84 (by decide) (fun h84 => absurd h84 ((show ¬ nI (5 - 0) < 5 by decide))) (fun _ => ?_)
            refine ev_iconst (v := 0) dX4_one_87 (by decide) ?_
            refine ev_zret dX4_one_88 rfl (by decide) ?_
            exact no (Or.inr rfl)
          · refine ev_aload_n dX4_one_73 rfl ?_
            refine ev_get dX4_one_74 flX4_31_4 hO.1 rfl ?_
            rw [hK.2.2.1]
            refine ev_bipush (v := 40) dX4_one_77 (by decide) ?_
            refine ev_icmp_ne (tgt := 87) dX4_one_79 (by decide) (fun h79 => ?_) (fun h79 => ?_)
            · refine ev_iconst (v := 0) dX4_one_87 (by decide) ?_
              refine ev_zret dX4_one_88 rfl (by decide) ?_
              exact no (Or.inr rfl)
            · refine ev_iload_n dX4_one_82 rfl ?_
              refine ev_iconst (v := 5) dX4_one_83 (by decide) ?_
              refine ev_icmp_lt (tgt := 89) dX4_one_84 (by decide) (fun h84 => absurd h84 ((show ¬ nI (5 - 0) < 5 by decide))) (fun _ => ?_)
              refine ev_iconst (v := 0) dX4_one_87 (by decide) ?_
              refine ev_zret dX4_one_88 rfl (by decide) ?_
              exact no (Or.inr rfl)
        · refine ev_aload_n dX4_one_37 rfl ?_
          refine ev_get dX4_one_38 flX4_31_4 hO.1 rfl ?_
          rw [hK.2.2.1]
          refine ev_bipush (v := 15) dX4_one_41 (by decide) ?_
          refine ev_icmp_gt (tgt := 64) dX4_one_43 (by decide) (fun h43 => ?_) (fun h43 => ?_)
          · refine ev_aload_n dX4_one_64 rfl ?_
            refine ev_get dX4_one_65 flX4_31_4 hO.1 rfl ?_
            rw [hK.2.2.1]
            refine ev_bipush (v := 45) dX4_one_68 (by decide) ?_
            refine ev_icmp_eq (tgt := 82) dX4_one_70 (by decide) (fun h70 => ?_) (fun h70 => ?_)
            · refine ev_iload_n dX4_one_82 rfl ?_
              refine ev_iconst (v := 5) dX4_one_83 (by decide) ?_
              refine ev_icmp_lt (tgt := 89) dX4_one_84 (by decide) (fun h84 => absurd h84 ((show ¬ nI (5 - 0) < 5 by decide))) (fun _ => ?_)
              refine ev_iconst (v := 0) dX4_one_87 (by decide) ?_
              refine ev_zret dX4_one_88 rfl (by decide) ?_
              exact no (Or.inr rfl)
            · refine ev_aload_n dX4_one_73 rfl ?_
              refine ev_get dX4_one_74 flX4_31_4 hO.1 rfl ?_
              rw [hK.2.2.1]
              refine ev_bipush (v := 40) dX4_one_77 (by decide) ?_
              refine ev_icmp_ne (tgt := 87) dX4_one_79 (by decide) (fun h79 => ?_) (fun h79 => ?_)
              · refine ev_iconst (v := 0) dX4_one_87 (by decide) ?_
                refine ev_zret dX4_one_88 rfl (by decide) ?_
                exact no (Or.inr rfl)
              · refine ev_iload_n dX4_one_82 rfl ?_
                refine ev_iconst (v := 5) dX4_one_83 (by decide) ?_
                refine ev_icmp_lt (tgt := 89) dX4_one_84 (by decide) (fun h84 => absurd h84 ((show ¬ nI (5 - 0) < 5 by decide))) (fun _ => ?_)
                refine ev_iconst (v := 0) dX4_one_87 (by decide) ?_
                refine ev_zret dX4_one_88 rfl (by decide) ?_
                exact no (Or.inr rfl)
          · exact absurd ⟨Int32.not_lt.mp h34, Int32.not_lt.mp h43⟩ k10
      | succ q' =>
        have e1 : nI (5 - (q' + 1)) + 1 = nI (5 - q') := by rw [nI_1]; congr 1; omega
        have ho : ¬ nI (5 - (q' + 1)) = 5 := fun q => absurd ((nI_eq (b := 5) (by omega) (by decide)).mp q) (by omega)
        have hlt5 : nI (5 - (q' + 1)) < nI 5 := nI_lt (by omega) (by decide)
        have H1 := hone q' rfl
        have H2 := heit q' rfl
        have sub1 : ∀ x : Int32, x + 1 - 1 = x := fun x => Int32.add_sub_cancel x 1
        by_cases k45 : tkK s = 45
        · have hk0 : ¬ tkK s = 0 := by rw [k45]; decide
          have hnx := psn_nx hss hk0
          have hp0 := psn_lt0 hss hk0
          have eR2 := rw_opn (C := C) (show ahD (tkK s) H = 9 by rw [ahD, if_neg hp, if_pos k45]) (by decide) k2 k10 ho
          rw [e1] at eR2
          refine ev_aload_n dX4_one_0 rfl ?_
          refine ev_get dX4_one_1 flX4_31_4 hO.1 rfl ?_
          rw [hK.2.2.1]
          refine ev_iconst (v := 2) dX4_one_4 (by decide) ?_
          refine ev_icmp_ne (tgt := 28) dX4_one_5 (by decide) (fun _ => ?_) (fun h5 => absurd h5 (k2))
          refine ev_aload_n dX4_one_28 rfl ?_
          refine ev_get dX4_one_29 flX4_31_4 hO.1 rfl ?_
          rw [hK.2.2.1]
          refine ev_bipush (v := 10) dX4_one_32 (by decide) ?_
          refine ev_icmp_lt (tgt := 64) dX4_one_34 (by decide) (fun h34 => ?_) (fun h34 => ?_)
          · refine ev_aload_n dX4_one_64 rfl ?_
            refine ev_get dX4_one_65 flX4_31_4 hO.1 rfl ?_
            rw [hK.2.2.1]
            refine ev_bipush (v := 45) dX4_one_68 (by decide) ?_
            refine ev_icmp_eq (tgt := 82) dX4_one_70 (by decide) (fun _ => ?_) (fun h70 => absurd (k45) h70)
            refine ev_iload_n dX4_one_82 rfl ?_
            refine ev_iconst (v := 5) dX4_one_83 (by decide) ?_
            refine ev_icmp_lt (tgt := 89) dX4_one_84 (by decide) (fun _ => ?_) (fun h84 => absurd (hlt5) h84)
            refine ev_aload_n dX4_one_89 rfl ?_
            refine ev_bipush (v := 45) dX4_one_90 (by decide) ?_
            refine k_v ((c_passed hS hT 45)) (by omega) dX4_one_92 cbX4_passed (mt2 34 rfl rfl) (mt2 36 rfl rfl) (ms0 5 rfl rfl) (ci := 4) rfl hO.1 rfl rfl (Nat.le_of_ble_eq_true rfl) (fun v μ1 hq => ?_)
            obtain ⟨hF2, z, rfl, hz⟩ := hq; have hF := hF.tr hF2; clear hF2; obtain ⟨rfl, -, hS⟩ := hz.resolve_right (fun q => q.2.1 k45); obtain ⟨f, C1, hO, hC, h0, hK, h4, hc4⟩ := id hS
            simp only [Option.toList, List.cons_append, List.nil_append]
            refine ev_if_eq (tgt := 106) dX4_one_95 (by decide) (fun h95 => absurd h95 ((show ¬ (1 : Int32) = 0 by decide))) (fun _ => ?_)
            refine ev_aload_n dX4_one_98 rfl ?_
            refine ev_iload_n dX4_one_99 rfl ?_
            refine ev_iconst (v := 1) dX4_one_100 (by decide) ?_
            refine ev_iadd dX4_one_101 ?_
            rw [e1]
            refine k_v (c_behindMinus (H := H) (C := C) hT H1 hS (by omega)) (by omega) dX4_one_102 cbX4_behindMinus (mt2 70 rfl rfl) (mt2 72 rfl rfl) (ms0 14 rfl rfl) (ci := 4) rfl hO.1 rfl rfl (Nat.le_of_ble_eq_true rfl) (fun v μ1 hq => ?_)
            obtain ⟨hF2, z, rfl, hz⟩ := hq; have hF := hF.tr hF2; clear hF2
            simp only [Option.toList, List.cons_append, List.nil_append]
            refine ev_zret dX4_one_105 rfl (LvQ.nar hz) ?_
            rcases hz with ⟨rfl, s3, E2, P3, hS3, eR3, hRd3, hNx3, hH3, hlen3⟩ | ⟨rfl, q37⟩
            · have eP := hRd3.push (by decide)
              rw [if_pos (Or.inr rfl), ← e1, sub1] at eP
              exact ⟨hF, 1, rfl, Or.inl ⟨rfl, s3, E2 ++ [30000 + 9], P3, hS3, eR2.trans eR3, by rw [← List.append_assoc]; exact eP, trivial, (hH3.mono (by omega)).un (Or.inr (by decide)), by simp only [List.length_append, List.length_singleton]; omega⟩⟩
            · exact ⟨hF, 0, rfl, Or.inr ⟨rfl, q37.eq eR2⟩⟩
          · refine ev_aload_n dX4_one_37 rfl ?_
            refine ev_get dX4_one_38 flX4_31_4 hO.1 rfl ?_
            rw [hK.2.2.1]
            refine ev_bipush (v := 15) dX4_one_41 (by decide) ?_
            refine ev_icmp_gt (tgt := 64) dX4_one_43 (by decide) (fun h43 => ?_) (fun h43 => ?_)
            · refine ev_aload_n dX4_one_64 rfl ?_
              refine ev_get dX4_one_65 flX4_31_4 hO.1 rfl ?_
              rw [hK.2.2.1]
              refine ev_bipush (v := 45) dX4_one_68 (by decide) ?_
              refine ev_icmp_eq (tgt := 82) dX4_one_70 (by decide) (fun _ => ?_) (fun h70 => absurd (k45) h70)
              refine ev_iload_n dX4_one_82 rfl ?_
              refine ev_iconst (v := 5) dX4_one_83 (by decide) ?_
              refine ev_icmp_lt (tgt := 89) dX4_one_84 (by decide) (fun _ => ?_) (fun h84 => absurd (hlt5) h84)
              refine ev_aload_n dX4_one_89 rfl ?_
              refine ev_bipush (v := 45) dX4_one_90 (by decide) ?_
              refine k_v ((c_passed hS hT 45)) (by omega) dX4_one_92 cbX4_passed (mt2 34 rfl rfl) (mt2 36 rfl rfl) (ms0 5 rfl rfl) (ci := 4) rfl hO.1 rfl rfl (Nat.le_of_ble_eq_true rfl) (fun v μ1 hq => ?_)
              obtain ⟨hF2, z, rfl, hz⟩ := hq; have hF := hF.tr hF2; clear hF2; obtain ⟨rfl, -, hS⟩ := hz.resolve_right (fun q => q.2.1 k45); obtain ⟨f, C1, hO, hC, h0, hK, h4, hc4⟩ := id hS
              simp only [Option.toList, List.cons_append, List.nil_append]
              refine ev_if_eq (tgt := 106) dX4_one_95 (by decide) (fun h95 => absurd h95 ((show ¬ (1 : Int32) = 0 by decide))) (fun _ => ?_)
              refine ev_aload_n dX4_one_98 rfl ?_
              refine ev_iload_n dX4_one_99 rfl ?_
              refine ev_iconst (v := 1) dX4_one_100 (by decide) ?_
              refine ev_iadd dX4_one_101 ?_
              rw [e1]
              refine k_v (c_behindMinus (H := H) (C := C) hT H1 hS (by omega)) (by omega) dX4_one_102 cbX4_behindMinus (mt2 70 rfl rfl) (mt2 72 rfl rfl) (ms0 14 rfl rfl) (ci := 4) rfl hO.1 rfl rfl (Nat.le_of_ble_eq_true rfl) (fun v μ1 hq => ?_)
              obtain ⟨hF2, z, rfl, hz⟩ := hq; have hF := hF.tr hF2; clear hF2
              simp only [Option.toList, List.cons_append, List.nil_append]
              refine ev_zret dX4_one_105 rfl (LvQ.nar hz) ?_
              rcases hz with ⟨rfl, s3, E2, P3, hS3, eR3, hRd3, hNx3, hH3, hlen3⟩ | ⟨rfl, q37⟩
              · have eP := hRd3.push (by decide)
                rw [if_pos (Or.inr rfl), ← e1, sub1] at eP
                exact ⟨hF, 1, rfl, Or.inl ⟨rfl, s3, E2 ++ [30000 + 9], P3, hS3, eR2.trans eR3, by rw [← List.append_assoc]; exact eP, trivial, (hH3.mono (by omega)).un (Or.inr (by decide)), by simp only [List.length_append, List.length_singleton]; omega⟩⟩
              · exact ⟨hF, 0, rfl, Or.inr ⟨rfl, q37.eq eR2⟩⟩
            · exact absurd ⟨Int32.not_lt.mp h34, Int32.not_lt.mp h43⟩ k10
        · by_cases k40 : tkK s = 40
          · have hk0 : ¬ tkK s = 0 := by rw [k40]; decide
            have hnx := psn_nx hss hk0
            have hp0 := psn_lt0 hss hk0
            have eR2 := rw_opn (C := C) (show ahD (tkK s) H = 10 by rw [ahD, if_neg hp, if_neg k45, if_pos k40]) (by decide) k2 k10 ho
            rw [e1] at eR2
            refine ev_aload_n dX4_one_0 rfl ?_
            refine ev_get dX4_one_1 flX4_31_4 hO.1 rfl ?_
            rw [hK.2.2.1]
            refine ev_iconst (v := 2) dX4_one_4 (by decide) ?_
            refine ev_icmp_ne (tgt := 28) dX4_one_5 (by decide) (fun _ => ?_) (fun h5 => absurd h5 (k2))
            refine ev_aload_n dX4_one_28 rfl ?_
            refine ev_get dX4_one_29 flX4_31_4 hO.1 rfl ?_
            rw [hK.2.2.1]
            refine ev_bipush (v := 10) dX4_one_32 (by decide) ?_
            refine ev_icmp_lt (tgt := 64) dX4_one_34 (by decide) (fun h34 => ?_) (fun h34 => ?_)
            · refine ev_aload_n dX4_one_64 rfl ?_
              refine ev_get dX4_one_65 flX4_31_4 hO.1 rfl ?_
              rw [hK.2.2.1]
              refine ev_bipush (v := 45) dX4_one_68 (by decide) ?_
              refine ev_icmp_eq (tgt := 82) dX4_one_70 (by decide) (fun h70 => absurd h70 (k45)) (fun _ => ?_)
              refine ev_aload_n dX4_one_73 rfl ?_
              refine ev_get dX4_one_74 flX4_31_4 hO.1 rfl ?_
              rw [hK.2.2.1]
              refine ev_bipush (v := 40) dX4_one_77 (by decide) ?_
              refine ev_icmp_ne (tgt := 87) dX4_one_79 (by decide) (fun h79 => absurd (k40) h79) (fun _ => ?_)
              refine ev_iload_n dX4_one_82 rfl ?_
              refine ev_iconst (v := 5) dX4_one_83 (by decide) ?_
              refine ev_icmp_lt (tgt := 89) dX4_one_84 (by decide) (fun _ => ?_) (fun h84 => absurd (hlt5) h84)
              refine ev_aload_n dX4_one_89 rfl ?_
              refine ev_bipush (v := 45) dX4_one_90 (by decide) ?_
              refine k_v ((c_passed hS hT 45)) (by omega) dX4_one_92 cbX4_passed (mt2 34 rfl rfl) (mt2 36 rfl rfl) (ms0 5 rfl rfl) (ci := 4) rfl hO.1 rfl rfl (Nat.le_of_ble_eq_true rfl) (fun v μ1 hq => ?_)
              obtain ⟨hF2, z, rfl, hz⟩ := hq; clear hF2; obtain ⟨rfl, -, hμ⟩ := hz.resolve_left (fun q => k45 q.2.1); subst hμ
              simp only [Option.toList, List.cons_append, List.nil_append]
              refine ev_if_eq (tgt := 106) dX4_one_95 (by decide) (fun _ => ?_) (fun h95 => absurd (rfl) h95)
              refine ev_aload_n dX4_one_106 rfl ?_
              refine ev_bipush (v := 40) dX4_one_107 (by decide) ?_
              refine k_v ((c_passed hS hT 40)) (by omega) dX4_one_109 cbX4_passed (mt2 34 rfl rfl) (mt2 36 rfl rfl) (ms0 5 rfl rfl) (ci := 4) rfl hO.1 rfl rfl (Nat.le_of_ble_eq_true rfl) (fun v μ1 hq => ?_)
              obtain ⟨hF2, z, rfl, hz⟩ := hq; have hF := hF.tr hF2; clear hF2; obtain ⟨rfl, -, hS⟩ := hz.resolve_right (fun q => q.2.1 k40); obtain ⟨f, C1, hO, hC, h0, hK, h4, hc4⟩ := id hS
              simp only [Option.toList, List.cons_append, List.nil_append]
              refine ev_if_eq (tgt := 138) dX4_one_112 (by decide) (fun h112 => absurd h112 ((show ¬ (1 : Int32) = 0 by decide))) (fun _ => ?_)
              refine ev_aload_n dX4_one_115 rfl ?_
              refine ev_iload_n dX4_one_116 rfl ?_
              refine ev_iconst (v := 1) dX4_one_117 (by decide) ?_
              refine ev_iadd dX4_one_118 ?_
              rw [e1]
              refine k_v (H2 (nxT s) D (10 :: H) C _ hS (by omega) (Tp.cons (by decide))) (by omega) dX4_one_119 cbX4_either (mt2 38 rfl rfl) (mt2 40 rfl rfl) (ms0 6 rfl rfl) (ci := 4) rfl hO.1 rfl rfl (Nat.le_of_ble_eq_true rfl) (fun v μ1 hq => ?_)
              obtain ⟨hF2, z, rfl, hz⟩ := hq; have hF := hF.tr hF2; clear hF2
              simp only [Option.toList, List.cons_append, List.nil_append]
              refine ev_if_eq (tgt := 138) dX4_one_122 (by decide) (fun h122 => ?_) (fun h122 => ?_)
              · refine ev_iconst (v := 0) dX4_one_138 (by decide) ?_
                refine ev_zret dX4_one_139 rfl (by decide) ?_
                first
                  | (have q37 := hz.resolve_left (fun q => by rw [q.1] at h122; exact absurd h122 (by decide))
                     exact ⟨hF, 0, rfl, Or.inr ⟨rfl, q37.2.eq eR2⟩⟩)
                  | (have q38 := hz4.resolve_left (fun q => by rw [q.1] at h131; exact absurd h131 (by decide))
                     obtain ⟨-, n41, hμ⟩ := q38
                     subst hμ
                     exact ⟨hF, 0, rfl, Or.inr ⟨rfl, (LvF.of hS (rw_fail (nxE_shutF (kds s3) hNx3 hRd3 n41))).eq (eR2.trans eR3)⟩⟩)
                  | (have q39 := hz4.resolve_right (fun q => h131 q.1)
                     obtain ⟨-, e41, hS⟩ := q39
                     have eR4 := rw_shut e41 hRd3
                     rw [← e1, sub1] at eR4
                     rw [← e1] at eR2
                     rw [← e1] at eR3
                     have hn3 := psn_nx hs3 (by rw [e41]; decide)
                     exact ⟨hF, 1, rfl, Or.inl ⟨rfl, nxT s3, E2, _, hS, (eR2.trans eR3).trans eR4, Rd.rf, trivial, hH3.mono (by omega), by omega⟩⟩)
              · obtain ⟨-, s3, E2, P3, hS, eR3, hRd3, hNx3, hH3, hlen3⟩ := hz.resolve_right (fun q => h122 q.1); obtain ⟨f, C1, hO, hC, h0, hK, h4, hc4⟩ := id hS
                have hs3 := hS.sfx
                have hp3 : psn tp s3 ≤ tp.length := psn_le
                refine ev_aload_n dX4_one_125 rfl ?_
                refine ev_bipush (v := 41) dX4_one_126 (by decide) ?_
                refine k_v ((c_passed hS hT 41)) (by omega) dX4_one_128 cbX4_passed (mt2 34 rfl rfl) (mt2 36 rfl rfl) (ms0 5 rfl rfl) (ci := 4) rfl hO.1 rfl rfl (Nat.le_of_ble_eq_true rfl) (fun v μ1 hq => ?_)
                obtain ⟨hF2, z4, rfl, hz4⟩ := hq; have hF := hF.tr hF2; clear hF2
                simp only [Option.toList, List.cons_append, List.nil_append]
                refine ev_if_eq (tgt := 138) dX4_one_131 (by decide) (fun h131 => ?_) (fun h131 => ?_)
                · refine ev_iconst (v := 0) dX4_one_138 (by decide) ?_
                  refine ev_zret dX4_one_139 rfl (by decide) ?_
                  first
                    | (have q37 := hz.resolve_left (fun q => by rw [q.1] at h122; exact absurd h122 (by decide))
                       exact ⟨hF, 0, rfl, Or.inr ⟨rfl, q37.2.eq eR2⟩⟩)
                    | (have q38 := hz4.resolve_left (fun q => by rw [q.1] at h131; exact absurd h131 (by decide))
                       obtain ⟨-, n41, hμ⟩ := q38
                       subst hμ
                       exact ⟨hF, 0, rfl, Or.inr ⟨rfl, (LvF.of hS (rw_fail (nxE_shutF (kds s3) hNx3 hRd3 n41))).eq (eR2.trans eR3)⟩⟩)
                    | (have q39 := hz4.resolve_right (fun q => h131 q.1)
                       obtain ⟨-, e41, hS⟩ := q39
                       have eR4 := rw_shut e41 hRd3
                       rw [← e1, sub1] at eR4
                       rw [← e1] at eR2
                       rw [← e1] at eR3
                       have hn3 := psn_nx hs3 (by rw [e41]; decide)
                       exact ⟨hF, 1, rfl, Or.inl ⟨rfl, nxT s3, E2, _, hS, (eR2.trans eR3).trans eR4, Rd.rf, trivial, hH3.mono (by omega), by omega⟩⟩)
                · refine ev_iconst (v := 1) dX4_one_134 (by decide) ?_
                  refine ev_goto (tgt := 139) dX4_one_135 (by decide) ?_
                  refine ev_zret dX4_one_139 rfl (by decide) ?_
                  first
                    | (have q37 := hz.resolve_left (fun q => by rw [q.1] at h122; exact absurd h122 (by decide))
                       exact ⟨hF, 0, rfl, Or.inr ⟨rfl, q37.2.eq eR2⟩⟩)
                    | (have q38 := hz4.resolve_left (fun q => by rw [q.1] at h131; exact absurd h131 (by decide))
                       obtain ⟨-, n41, hμ⟩ := q38
                       subst hμ
                       exact ⟨hF, 0, rfl, Or.inr ⟨rfl, (LvF.of hS (rw_fail (nxE_shutF (kds s3) hNx3 hRd3 n41))).eq (eR2.trans eR3)⟩⟩)
                    | (have q39 := hz4.resolve_right (fun q => h131 q.1)
                       obtain ⟨-, e41, hS⟩ := q39
                       have eR4 := rw_shut e41 hRd3
                       rw [← e1, sub1] at eR4
                       rw [← e1] at eR2
                       rw [← e1] at eR3
                       have hn3 := psn_nx hs3 (by rw [e41]; decide)
                       exact ⟨hF, 1, rfl, Or.inl ⟨rfl, nxT s3, E2, _, hS, (eR2.trans eR3).trans eR4, Rd.rf, trivial, hH3.mono (by omega), by omega⟩⟩)
            · refine ev_aload_n dX4_one_37 rfl ?_
              refine ev_get dX4_one_38 flX4_31_4 hO.1 rfl ?_
              rw [hK.2.2.1]
              refine ev_bipush (v := 15) dX4_one_41 (by decide) ?_
              refine ev_icmp_gt (tgt := 64) dX4_one_43 (by decide) (fun h43 => ?_) (fun h43 => ?_)
              · refine ev_aload_n dX4_one_64 rfl ?_
                refine ev_get dX4_one_65 flX4_31_4 hO.1 rfl ?_
                rw [hK.2.2.1]
                refine ev_bipush (v := 45) dX4_one_68 (by decide) ?_
                refine ev_icmp_eq (tgt := 82) dX4_one_70 (by decide) (fun h70 => absurd h70 (k45)) (fun _ => ?_)
                refine ev_aload_n dX4_one_73 rfl ?_
                refine ev_get dX4_one_74 flX4_31_4 hO.1 rfl ?_
                rw [hK.2.2.1]
                refine ev_bipush (v := 40) dX4_one_77 (by decide) ?_
                refine ev_icmp_ne (tgt := 87) dX4_one_79 (by decide) (fun h79 => absurd (k40) h79) (fun _ => ?_)
                refine ev_iload_n dX4_one_82 rfl ?_
                refine ev_iconst (v := 5) dX4_one_83 (by decide) ?_
                refine ev_icmp_lt (tgt := 89) dX4_one_84 (by decide) (fun _ => ?_) (fun h84 => absurd (hlt5) h84)
                refine ev_aload_n dX4_one_89 rfl ?_
                refine ev_bipush (v := 45) dX4_one_90 (by decide) ?_
                refine k_v ((c_passed hS hT 45)) (by omega) dX4_one_92 cbX4_passed (mt2 34 rfl rfl) (mt2 36 rfl rfl) (ms0 5 rfl rfl) (ci := 4) rfl hO.1 rfl rfl (Nat.le_of_ble_eq_true rfl) (fun v μ1 hq => ?_)
                obtain ⟨hF2, z, rfl, hz⟩ := hq; clear hF2; obtain ⟨rfl, -, hμ⟩ := hz.resolve_left (fun q => k45 q.2.1); subst hμ
                simp only [Option.toList, List.cons_append, List.nil_append]
                refine ev_if_eq (tgt := 106) dX4_one_95 (by decide) (fun _ => ?_) (fun h95 => absurd (rfl) h95)
                refine ev_aload_n dX4_one_106 rfl ?_
                refine ev_bipush (v := 40) dX4_one_107 (by decide) ?_
                refine k_v ((c_passed hS hT 40)) (by omega) dX4_one_109 cbX4_passed (mt2 34 rfl rfl) (mt2 36 rfl rfl) (ms0 5 rfl rfl) (ci := 4) rfl hO.1 rfl rfl (Nat.le_of_ble_eq_true rfl) (fun v μ1 hq => ?_)
                obtain ⟨hF2, z, rfl, hz⟩ := hq; have hF := hF.tr hF2; clear hF2; obtain ⟨rfl, -, hS⟩ := hz.resolve_right (fun q => q.2.1 k40); obtain ⟨f, C1, hO, hC, h0, hK, h4, hc4⟩ := id hS
                simp only [Option.toList, List.cons_append, List.nil_append]
                refine ev_if_eq (tgt := 138) dX4_one_112 (by decide) (fun h112 => absurd h112 ((show ¬ (1 : Int32) = 0 by decide))) (fun _ => ?_)
                refine ev_aload_n dX4_one_115 rfl ?_
                refine ev_iload_n dX4_one_116 rfl ?_
                refine ev_iconst (v := 1) dX4_one_117 (by decide) ?_
                refine ev_iadd dX4_one_118 ?_
                rw [e1]
                refine k_v (H2 (nxT s) D (10 :: H) C _ hS (by omega) (Tp.cons (by decide))) (by omega) dX4_one_119 cbX4_either (mt2 38 rfl rfl) (mt2 40 rfl rfl) (ms0 6 rfl rfl) (ci := 4) rfl hO.1 rfl rfl (Nat.le_of_ble_eq_true rfl) (fun v μ1 hq => ?_)
                obtain ⟨hF2, z, rfl, hz⟩ := hq; have hF := hF.tr hF2; clear hF2
                simp only [Option.toList, List.cons_append, List.nil_append]
                refine ev_if_eq (tgt := 138) dX4_one_122 (by decide) (fun h122 => ?_) (fun h122 => ?_)
                · refine ev_iconst (v := 0) dX4_one_138 (by decide) ?_
                  refine ev_zret dX4_one_139 rfl (by decide) ?_
                  first
                    | (have q37 := hz.resolve_left (fun q => by rw [q.1] at h122; exact absurd h122 (by decide))
                       exact ⟨hF, 0, rfl, Or.inr ⟨rfl, q37.2.eq eR2⟩⟩)
                    | (have q38 := hz4.resolve_left (fun q => by rw [q.1] at h131; exact absurd h131 (by decide))
                       obtain ⟨-, n41, hμ⟩ := q38
                       subst hμ
                       exact ⟨hF, 0, rfl, Or.inr ⟨rfl, (LvF.of hS (rw_fail (nxE_shutF (kds s3) hNx3 hRd3 n41))).eq (eR2.trans eR3)⟩⟩)
                    | (have q39 := hz4.resolve_right (fun q => h131 q.1)
                       obtain ⟨-, e41, hS⟩ := q39
                       have eR4 := rw_shut e41 hRd3
                       rw [← e1, sub1] at eR4
                       rw [← e1] at eR2
                       rw [← e1] at eR3
                       have hn3 := psn_nx hs3 (by rw [e41]; decide)
                       exact ⟨hF, 1, rfl, Or.inl ⟨rfl, nxT s3, E2, _, hS, (eR2.trans eR3).trans eR4, Rd.rf, trivial, hH3.mono (by omega), by omega⟩⟩)
                · obtain ⟨-, s3, E2, P3, hS, eR3, hRd3, hNx3, hH3, hlen3⟩ := hz.resolve_right (fun q => h122 q.1); obtain ⟨f, C1, hO, hC, h0, hK, h4, hc4⟩ := id hS
                  have hs3 := hS.sfx
                  have hp3 : psn tp s3 ≤ tp.length := psn_le
                  refine ev_aload_n dX4_one_125 rfl ?_
                  refine ev_bipush (v := 41) dX4_one_126 (by decide) ?_
                  refine k_v ((c_passed hS hT 41)) (by omega) dX4_one_128 cbX4_passed (mt2 34 rfl rfl) (mt2 36 rfl rfl) (ms0 5 rfl rfl) (ci := 4) rfl hO.1 rfl rfl (Nat.le_of_ble_eq_true rfl) (fun v μ1 hq => ?_)
                  obtain ⟨hF2, z4, rfl, hz4⟩ := hq; have hF := hF.tr hF2; clear hF2
                  simp only [Option.toList, List.cons_append, List.nil_append]
                  refine ev_if_eq (tgt := 138) dX4_one_131 (by decide) (fun h131 => ?_) (fun h131 => ?_)
                  · refine ev_iconst (v := 0) dX4_one_138 (by decide) ?_
                    refine ev_zret dX4_one_139 rfl (by decide) ?_
                    first
                      | (have q37 := hz.resolve_left (fun q => by rw [q.1] at h122; exact absurd h122 (by decide))
                         exact ⟨hF, 0, rfl, Or.inr ⟨rfl, q37.2.eq eR2⟩⟩)
                      | (have q38 := hz4.resolve_left (fun q => by rw [q.1] at h131; exact absurd h131 (by decide))
                         obtain ⟨-, n41, hμ⟩ := q38
                         subst hμ
                         exact ⟨hF, 0, rfl, Or.inr ⟨rfl, (LvF.of hS (rw_fail (nxE_shutF (kds s3) hNx3 hRd3 n41))).eq (eR2.trans eR3)⟩⟩)
                      | (have q39 := hz4.resolve_right (fun q => h131 q.1)
                         obtain ⟨-, e41, hS⟩ := q39
                         have eR4 := rw_shut e41 hRd3
                         rw [← e1, sub1] at eR4
                         rw [← e1] at eR2
                         rw [← e1] at eR3
                         have hn3 := psn_nx hs3 (by rw [e41]; decide)
                         exact ⟨hF, 1, rfl, Or.inl ⟨rfl, nxT s3, E2, _, hS, (eR2.trans eR3).trans eR4, Rd.rf, trivial, hH3.mono (by omega), by omega⟩⟩)
                  · refine ev_iconst (v := 1) dX4_one_134 (by decide) ?_
                    refine ev_goto (tgt := 139) dX4_one_135 (by decide) ?_
                    refine ev_zret dX4_one_139 rfl (by decide) ?_
                    first
                      | (have q37 := hz.resolve_left (fun q => by rw [q.1] at h122; exact absurd h122 (by decide))
                         exact ⟨hF, 0, rfl, Or.inr ⟨rfl, q37.2.eq eR2⟩⟩)
                      | (have q38 := hz4.resolve_left (fun q => by rw [q.1] at h131; exact absurd h131 (by decide))
                         obtain ⟨-, n41, hμ⟩ := q38
                         subst hμ
                         exact ⟨hF, 0, rfl, Or.inr ⟨rfl, (LvF.of hS (rw_fail (nxE_shutF (kds s3) hNx3 hRd3 n41))).eq (eR2.trans eR3)⟩⟩)
                      | (have q39 := hz4.resolve_right (fun q => h131 q.1)
                         obtain ⟨-, e41, hS⟩ := q39
                         have eR4 := rw_shut e41 hRd3
                         rw [← e1, sub1] at eR4
                         rw [← e1] at eR2
                         rw [← e1] at eR3
                         have hn3 := psn_nx hs3 (by rw [e41]; decide)
                         exact ⟨hF, 1, rfl, Or.inl ⟨rfl, nxT s3, E2, _, hS, (eR2.trans eR3).trans eR4, Rd.rf, trivial, hH3.mono (by omega), by omega⟩⟩)
              · exact absurd ⟨Int32.not_lt.mp h34, Int32.not_lt.mp h43⟩ k10
          · skip
            refine ev_aload_n dX4_one_0 rfl ?_
            refine ev_get dX4_one_1 flX4_31_4 hO.1 rfl ?_
            rw [hK.2.2.1]
            refine ev_iconst (v := 2) dX4_one_4 (by decide) ?_
            refine ev_icmp_ne (tgt := 28) dX4_one_5 (by decide) (fun _ => ?_) (fun h5 => absurd h5 (k2))
            refine ev_aload_n dX4_one_28 rfl ?_
            refine ev_get dX4_one_29 flX4_31_4 hO.1 rfl ?_
            rw [hK.2.2.1]
            refine ev_bipush (v := 10) dX4_one_32 (by decide) ?_
            refine ev_icmp_lt (tgt := 64) dX4_one_34 (by decide) (fun h34 => ?_) (fun h34 => ?_)
            · refine ev_aload_n dX4_one_64 rfl ?_
              refine ev_get dX4_one_65 flX4_31_4 hO.1 rfl ?_
              rw [hK.2.2.1]
              refine ev_bipush (v := 45) dX4_one_68 (by decide) ?_
              refine ev_icmp_eq (tgt := 82) dX4_one_70 (by decide) (fun h70 => absurd h70 (k45)) (fun _ => ?_)
              refine ev_aload_n dX4_one_73 rfl ?_
              refine ev_get dX4_one_74 flX4_31_4 hO.1 rfl ?_
              rw [hK.2.2.1]
              refine ev_bipush (v := 40) dX4_one_77 (by decide) ?_
              refine ev_icmp_ne (tgt := 87) dX4_one_79 (by decide) (fun _ => ?_) (fun h79 => absurd h79 (k40))
              refine ev_iconst (v := 0) dX4_one_87 (by decide) ?_
              refine ev_zret dX4_one_88 rfl (by decide) ?_
              exact no (Or.inl (a0 k45 k40))
            · refine ev_aload_n dX4_one_37 rfl ?_
              refine ev_get dX4_one_38 flX4_31_4 hO.1 rfl ?_
              rw [hK.2.2.1]
              refine ev_bipush (v := 15) dX4_one_41 (by decide) ?_
              refine ev_icmp_gt (tgt := 64) dX4_one_43 (by decide) (fun h43 => ?_) (fun h43 => ?_)
              · refine ev_aload_n dX4_one_64 rfl ?_
                refine ev_get dX4_one_65 flX4_31_4 hO.1 rfl ?_
                rw [hK.2.2.1]
                refine ev_bipush (v := 45) dX4_one_68 (by decide) ?_
                refine ev_icmp_eq (tgt := 82) dX4_one_70 (by decide) (fun h70 => absurd h70 (k45)) (fun _ => ?_)
                refine ev_aload_n dX4_one_73 rfl ?_
                refine ev_get dX4_one_74 flX4_31_4 hO.1 rfl ?_
                rw [hK.2.2.1]
                refine ev_bipush (v := 40) dX4_one_77 (by decide) ?_
                refine ev_icmp_ne (tgt := 87) dX4_one_79 (by decide) (fun _ => ?_) (fun h79 => absurd h79 (k40))
                refine ev_iconst (v := 0) dX4_one_87 (by decide) ?_
                refine ev_zret dX4_one_88 rfl (by decide) ?_
                exact no (Or.inl (a0 k45 k40))
              · exact absurd ⟨Int32.not_lt.mp h34, Int32.not_lt.mp h43⟩ k10
theorem lv_all (hT : RT T tp) : ∀ q, q ≤ 5 → LvC g mX4_one (10 * q + 8) r T tp q 7 (1 + 5 * q) NxO preO ∧ LvC g mX4_negated (10 * q + 12) r T tp q 3 (4 + 5 * q) NxC preN ∧ LvC g mX4_either (10 * q + 14) r T tp q 1 (6 + 5 * q) NxE preE := by
  have up : ∀ q, q ≤ 5 → LvC g mX4_one (10 * q + 8) r T tp q 7 (1 + 5 * q) NxO preO → (∀ q', q = q' + 1 → LvC g mX4_negated (10 * q' + 12) r T tp q' 3 (4 + 5 * q') NxC preN) → LvC g mX4_one (10 * q + 8) r T tp q 7 (1 + 5 * q) NxO preO ∧ LvC g mX4_negated (10 * q + 12) r T tp q 3 (4 + 5 * q) NxC preN ∧ LvC g mX4_either (10 * q + 14) r T tp q 1 (6 + 5 * q) NxE preE := by
    intro q hq h1 hn
    have h2 := lc_negated hq hT (lc_compared hT (lc_sum hT (lc_term hT h1))) hn
    exact ⟨h1, h2, lc_either hT (lc_both hT h2)⟩
  intro q
  induction q with
  | zero =>
    intro hq
    exact up 0 hq (lc_one hq hT (fun q' e => absurd e (by omega)) (fun q' e => absurd e (by omega))) (fun q' e => absurd e (by omega))
  | succ q ih =>
    intro hq
    obtain ⟨i1, i2, i3⟩ := ih (by omega)
    refine up (q + 1) hq (lc_one hq hT (fun q' e => ?_) (fun q' e => ?_)) (fun q' e => ?_)
    · have e : q = q' := by omega
      rw [← e]; exact i1
    · have e : q = q' := by omega
      rw [← e]; exact i3
    · have e : q = q' := by omega
      rw [← e]; exact i2
/-- the key, a row and its ; -/
theorem c_part {s D : List Int32} {μ : Mm} (hS : RdS r T tp s D μ) (hT : RT T tp) (hD : D.length ≤ psn tp s) (k : Int32) (hk0 : ¬ k = 0) : Mt g 65 mX4_part [.ref r, .int k] μ (fun v μ' => FR r μ μ' ∧ ∃ z, v = some (.int z) ∧ ((z = 1 ∧ tkK s = k ∧ (rowR true (nxT s) ([], [], 0)).1 = true ∧ RdS r T tp (rowR true (nxT s) ([], [], 0)).2.1 (D ++ (rowR true (nxT s) ([], [], 0)).2.2.2.1) μ' ∧ HB (rowR true (nxT s) ([], [], 0)).2.2.2.1 ∧ (D ++ (rowR true (nxT s) ([], [], 0)).2.2.2.1).length < psn tp (rowR true (nxT s) ([], [], 0)).2.1) ∨ (z = 0 ∧ ¬ tkK s = k ∧ LvF r T tp (false, (s, ([], [], 0))) μ') ∨ (z = 0 ∧ tkK s = k ∧ LvF r T tp (rowR true (nxT s) ([], [], 0)) μ'))) := by
  refine Mt.of0 (ls0 := [some (.ref r), some (.int k)]) (by decide) (by simp [Value.category]) (Nat.le_of_ble_eq_true rfl) rfl ?_
  have hF : FR r μ μ := FR.rf
  have hss := hS.sfx
  have H := (lv_all (g := g) (r := r) hT 5 (Nat.le_refl _)).2.2
  obtain ⟨f, C1, hO, hC, h0, hK, h4, hc4⟩ := id hS
  by_cases hk : tkK s = k
  · have hnx := psn_nx hss (by rw [hk]; exact hk0)
    refine ev_aload_n dX4_part_0 rfl ?_
    refine ev_iload_n dX4_part_1 rfl ?_
    refine k_v (c_passed hS hT k) (by decide) dX4_part_2 cbX4_passed (mt2 34 rfl rfl) (mt2 36 rfl rfl) (ms0 5 rfl rfl) (ci := 4) rfl hO.1 rfl rfl (Nat.le_of_ble_eq_true rfl) (fun v μ1 hq => ?_)
    obtain ⟨hF2, z, rfl, hz⟩ := hq; have hF := hF.tr hF2; clear hF2; obtain ⟨rfl, -, hS⟩ := hz.resolve_right (fun q => q.2.1 hk); obtain ⟨f, C1, hO, hC, h0, hK, h4, hc4⟩ := id hS
    simp only [Option.toList, List.cons_append, List.nil_append]
    refine ev_if_eq (tgt := 29) dX4_part_5 (by decide) (fun h5 => absurd h5 ((show ¬ (1 : Int32) = 0 by decide))) (fun _ => ?_)
    refine ev_aload_n dX4_part_8 rfl ?_
    refine ev_iconst (v := 0) dX4_part_9 (by decide) ?_
    refine k_v (show Mt g 64 mX4_either [.ref r, .int 0] _ (LvQ r T tp 1 31 NxE (nxT s) D [] [] 0 _) from H (nxT s) D [] [] _ hS (by omega) (Or.inl rfl)) (by decide) dX4_part_10 cbX4_either (mt2 38 rfl rfl) (mt2 40 rfl rfl) (ms0 6 rfl rfl) (ci := 4) rfl hO.1 rfl rfl (Nat.le_of_ble_eq_true rfl) (fun v μ1 hq => ?_)
    obtain ⟨hF2, z, rfl, hz⟩ := hq; have hF := hF.tr hF2; clear hF2
    simp only [Option.toList, List.cons_append, List.nil_append]
    refine ev_if_eq (tgt := 29) dX4_part_13 (by decide) (fun h13 => ?_) (fun h13 => ?_)
    · refine ev_iconst (v := 0) dX4_part_29 (by decide) ?_
      refine ev_zret dX4_part_30 rfl (by decide) ?_
      first
        | (have q37 := hz.resolve_left (fun q => by rw [q.1] at h13; exact absurd h13 (by decide))
           exact ⟨hF, 0, rfl, Or.inr (Or.inr ⟨rfl, hk, q37.2⟩)⟩)
        | (have q38 := hz4.resolve_left (fun q => by rw [q.1] at h22; exact absurd h22 (by decide))
           obtain ⟨-, n59, hμ⟩ := q38
           subst hμ
           exact ⟨hF, 0, rfl, Or.inr (Or.inr ⟨rfl, hk, (LvF.of hS (rw_fail (nxE_endF (kds s3) hNx3 hRd3 n59))).eq eR3⟩)⟩)
        | (have q39 := hz4.resolve_right (fun q => h22 q.1)
           obtain ⟨-, e59, hS⟩ := q39
           have eR4 := eR3.trans (rw_end e59 hRd3)
           have hn3 := psn_nx hs3 (by rw [e59]; decide)
           rw [List.nil_append] at eR4
           refine ⟨hF, 1, rfl, Or.inl ⟨rfl, hk, ?_⟩⟩
           rw [eR4]
           exact ⟨rfl, hS, hH3.hb (by decide), by simp only [List.length_append]; omega⟩)
    · obtain ⟨-, s3, E2, P3, hS, eR3, hRd3, hNx3, hH3, hlen3⟩ := hz.resolve_right (fun q => h13 q.1); obtain ⟨f, C1, hO, hC, h0, hK, h4, hc4⟩ := id hS
      have hs3 := hS.sfx
      refine ev_aload_n dX4_part_16 rfl ?_
      refine ev_bipush (v := 59) dX4_part_17 (by decide) ?_
      refine k_v (c_passed hS hT 59) (by decide) dX4_part_19 cbX4_passed (mt2 34 rfl rfl) (mt2 36 rfl rfl) (ms0 5 rfl rfl) (ci := 4) rfl hO.1 rfl rfl (Nat.le_of_ble_eq_true rfl) (fun v μ1 hq => ?_)
      obtain ⟨hF2, z4, rfl, hz4⟩ := hq; have hF := hF.tr hF2; clear hF2
      simp only [Option.toList, List.cons_append, List.nil_append]
      refine ev_if_eq (tgt := 29) dX4_part_22 (by decide) (fun h22 => ?_) (fun h22 => ?_)
      · refine ev_iconst (v := 0) dX4_part_29 (by decide) ?_
        refine ev_zret dX4_part_30 rfl (by decide) ?_
        first
          | (have q37 := hz.resolve_left (fun q => by rw [q.1] at h13; exact absurd h13 (by decide))
             exact ⟨hF, 0, rfl, Or.inr (Or.inr ⟨rfl, hk, q37.2⟩)⟩)
          | (have q38 := hz4.resolve_left (fun q => by rw [q.1] at h22; exact absurd h22 (by decide))
             obtain ⟨-, n59, hμ⟩ := q38
             subst hμ
             exact ⟨hF, 0, rfl, Or.inr (Or.inr ⟨rfl, hk, (LvF.of hS (rw_fail (nxE_endF (kds s3) hNx3 hRd3 n59))).eq eR3⟩)⟩)
          | (have q39 := hz4.resolve_right (fun q => h22 q.1)
             obtain ⟨-, e59, hS⟩ := q39
             have eR4 := eR3.trans (rw_end e59 hRd3)
             have hn3 := psn_nx hs3 (by rw [e59]; decide)
             rw [List.nil_append] at eR4
             refine ⟨hF, 1, rfl, Or.inl ⟨rfl, hk, ?_⟩⟩
             rw [eR4]
             exact ⟨rfl, hS, hH3.hb (by decide), by simp only [List.length_append]; omega⟩)
      · refine ev_iconst (v := 1) dX4_part_25 (by decide) ?_
        refine ev_goto (tgt := 30) dX4_part_26 (by decide) ?_
        refine ev_zret dX4_part_30 rfl (by decide) ?_
        first
          | (have q37 := hz.resolve_left (fun q => by rw [q.1] at h13; exact absurd h13 (by decide))
             exact ⟨hF, 0, rfl, Or.inr (Or.inr ⟨rfl, hk, q37.2⟩)⟩)
          | (have q38 := hz4.resolve_left (fun q => by rw [q.1] at h22; exact absurd h22 (by decide))
             obtain ⟨-, n59, hμ⟩ := q38
             subst hμ
             exact ⟨hF, 0, rfl, Or.inr (Or.inr ⟨rfl, hk, (LvF.of hS (rw_fail (nxE_endF (kds s3) hNx3 hRd3 n59))).eq eR3⟩)⟩)
          | (have q39 := hz4.resolve_right (fun q => h22 q.1)
             obtain ⟨-, e59, hS⟩ := q39
             have eR4 := eR3.trans (rw_end e59 hRd3)
             have hn3 := psn_nx hs3 (by rw [e59]; decide)
             rw [List.nil_append] at eR4
             refine ⟨hF, 1, rfl, Or.inl ⟨rfl, hk, ?_⟩⟩
             rw [eR4]
             exact ⟨rfl, hS, hH3.hb (by decide), by simp only [List.length_append]; omega⟩)
  · skip
    refine ev_aload_n dX4_part_0 rfl ?_
    refine ev_iload_n dX4_part_1 rfl ?_
    refine k_v (c_passed hS hT k) (by decide) dX4_part_2 cbX4_passed (mt2 34 rfl rfl) (mt2 36 rfl rfl) (ms0 5 rfl rfl) (ci := 4) rfl hO.1 rfl rfl (Nat.le_of_ble_eq_true rfl) (fun v μ1 hq => ?_)
    obtain ⟨hF2, z, rfl, hz⟩ := hq; have hF := hF.tr hF2; clear hF2; obtain ⟨rfl, -, hμ⟩ := hz.resolve_left (fun q => hk q.2.1); subst hμ
    simp only [Option.toList, List.cons_append, List.nil_append]
    refine ev_if_eq (tgt := 29) dX4_part_5 (by decide) (fun _ => ?_) (fun h5 => absurd (rfl) h5)
    refine ev_iconst (v := 0) dX4_part_29 (by decide) ?_
    refine ev_zret dX4_part_30 rfl (by decide) ?_
    exact ⟨hF, 0, rfl, Or.inr (Or.inl ⟨rfl, hk, LvF.of hS ⟨rfl, rfl⟩⟩)⟩
end KONE
