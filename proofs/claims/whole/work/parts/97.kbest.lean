/-! ===== the class: best ===== -/
section KBEST
variable {g : Gl} {a m tx n t : Nat} {ρ : MS} {cd : Nat → List Int32} {Lf : Nat → Nat} {σ : KS} {μ : Mm}
theorem c_kSearchOf (hM : KM a m tx σ μ) {so' : Nat} (hso : so' < 2) : Mt g 0 mX11_searchOf [.ref a, .int (nI so')] μ (fun v μ' => v = some (.ref (a + (12 + 17 * so'))) ∧ μ' = μ) := by
  refine Mt.of0 (ls0 := [some (.ref a), some (.int (nI so'))]) (by decide) (by simp [Value.category]) (Nat.le_of_ble_eq_true rfl) rfl ?_
  have e : so' = 0 ∨ so' = 1 := by omega
  rcases e with rfl | rfl
  · skip
    refine ev_iload_n dX11_searchOf_0 rfl ?_
    refine ev_if_ne (tgt := 11) dX11_searchOf_1 (by decide) (fun h1 => absurd ((show nI 0 = 0 from rfl)) h1) (fun _ => ?_)
    refine ev_aload_n dX11_searchOf_4 rfl ?_
    refine ev_get dX11_searchOf_5 flX11_77_11 (hM.o 0 11 (by decide)) rfl ?_
    refine ev_goto (tgt := 15) dX11_searchOf_8 (by decide) ?_
    refine ev_aret dX11_searchOf_15 rfl (by simp) (Or.inr ⟨_, rfl⟩) ?_
    exact ⟨rfl, rfl⟩
  · skip
    refine ev_iload_n dX11_searchOf_0 rfl ?_
    refine ev_if_ne (tgt := 11) dX11_searchOf_1 (by decide) (fun _ => ?_) (fun h1 => absurd h1 ((show ¬ nI 1 = 0 by decide)))
    refine ev_aload_n dX11_searchOf_11 rfl ?_
    refine ev_get dX11_searchOf_12 flX11_81_11 (hM.o 0 11 (by decide)) rfl ?_
    refine ev_aret dX11_searchOf_15 rfl (by simp) (Or.inr ⟨_, rfl⟩) ?_
    exact ⟨rfl, rfl⟩
theorem gst_bst (hG : GI ρ) (so : Int32) : bst (gst ρ) n t cd so = bst ρ n t cd so := by
  have : gst ρ = ρ := by
    unfold gst
    rw [show ρ.1 99 = ρ.1 6 from hG]
    exact setA_self
  rw [this]
theorem c_kBest (hG : GI ρ) (hI : IM ρ n t tx cd Lf) (hM : KM a m tx σ μ) (hT : KTie ρ n t tx cd Lf m σ) (so p : Int32) : Mt g 22 mX11_best [.ref a, .int so, .int p] μ (fun v μ' => v = some (.int (ansBest ρ n t cd so p)) ∧ KV a ρ n t tx cd Lf m μ' ∧ FC a μ μ') := by
  refine Mt.of0 (ls0 := [some (.ref a), some (.int so), some (.int p), none]) (by decide) (by simp [Value.category]) (Nat.le_of_ble_eq_true rfl) rfl ?_
  have hn7 := hI.2.2.1.2
  have htx := hI.2.2.2.1.2
  have h6 := hM.ad.2.2.2.2.2.2.2
  have hF : FC a μ μ := FC.rf
  have en : (-1 : Int32).toInt = -1 := by decide
  have e1 : (1 : Int32).toInt = 1 := by decide
  have enn : (nI n).toInt = n := nI_i (by omega)
  have en1 : (nI n - 1).toInt = (n : Int) - 1 := by rw [sub_i (by omega) (by omega), enn, e1]
  rw [ansBest]
  by_cases hc : (0 ≤ so ∧ so ≤ 1) ∧ -1 ≤ p ∧ p ≤ nI n - 1
  · rw [if_pos hc]
    obtain ⟨⟨s0, s1⟩, p0, p1⟩ := hc
    have plt : p < nI n := by
      rw [Int32.le_iff_toInt_le, en1] at p1
      rw [Int32.lt_iff_toInt_lt, enn]; omega
    obtain ⟨so', hso, eso⟩ : ∃ so' : Nat, so' < 2 ∧ so = nI so' := by
      rw [Int32.le_iff_toInt_le, Int32.toInt_zero] at s0
      rw [Int32.le_iff_toInt_le, e1] at s1
      refine ⟨so.toInt.toNat, by omega, ?_⟩
      apply Int32.toInt_inj.mp
      rw [nI_i (by omega)]; omega
    subst eso
    have hul := kUl_at htx h6 (σ := σ)
    refine ev_iload_n dX11_best_0 rfl ?_
    refine ev_if_lt (tgt := 22) dX11_best_1 (by decide) (fun h1 => absurd h1 ((Int32.not_lt.mpr s0))) (fun _ => ?_)
    refine ev_iload_n dX11_best_4 rfl ?_
    refine ev_iconst (v := 1) dX11_best_5 (by decide) ?_
    refine ev_icmp_gt (tgt := 22) dX11_best_6 (by decide) (fun h6 => absurd h6 ((Int32.not_lt.mpr s1))) (fun _ => ?_)
    refine ev_iload_n dX11_best_9 rfl ?_
    refine ev_iconst (v := (-1)) dX11_best_10 (by decide) ?_
    refine ev_icmp_lt (tgt := 22) dX11_best_11 (by decide) (fun h11 => absurd h11 ((Int32.not_lt.mpr p0))) (fun _ => ?_)
    refine ev_iload_n dX11_best_14 rfl ?_
    refine ev_aload_n dX11_best_15 rfl ?_
    refine ev_get dX11_best_16 flX11_15_11 (hM.o 0 11 (by decide)) rfl ?_
    rw [show kI σ 0 1 = nI n from hT.hc]
    refine ev_icmp_lt (tgt := 25) dX11_best_19 (by decide) (fun _ => ?_) (fun h19 => absurd (plt) h19)
    refine ev_aload_n dX11_best_25 rfl ?_
    refine ev_iload_n dX11_best_26 rfl ?_
    refine k_v (c_kSearchOf hM hso) (by decide) dX11_best_27 cbX11_searchOf (mt4 76 rfl rfl) (mt4 78 rfl rfl) (ms0 33 rfl rfl) (ci := 11) rfl (hM.o 0 11 (by decide)) rfl rfl (Nat.le_of_ble_eq_true rfl) (fun v μ1 hq => ?_)
    obtain ⟨rfl, hμ⟩ := hq; have hμ := hμ.symm; subst hμ
    simp only [Option.toList, List.cons_append, List.nil_append]
    refine ev_astore_n dX11_best_30 (by decide) ?_
    dsimp only [List.set]
    refine ev_aload_n dX11_best_31 rfl ?_
    refine ev_aload_n dX11_best_32 rfl ?_
    refine ev_get dX11_best_33 flX11_11_11 (hM.o 0 11 (by decide)) rfl ?_
    refine ev_aload_n dX11_best_36 rfl ?_
    refine ev_get dX11_best_37 flX11_15_11 (hM.o 0 11 (by decide)) rfl ?_
    rw [show kI σ 0 1 = nI n from hT.hc]
    refine ev_aload_n dX11_best_40 rfl ?_
    refine ev_get dX11_best_41 flX11_31_11 (hM.o 0 11 (by decide)) rfl ?_
    refine ev_aload_n dX11_best_44 rfl ?_
    refine ev_get dX11_best_45 flX11_43_11 (hM.o 0 11 (by decide)) rfl ?_
    refine ev_aload_n dX11_best_48 rfl ?_
    refine ev_get dX11_best_49 flX11_50_11 (hM.o 0 11 (by decide)) rfl ?_
    rw [show kI σ 0 7 = nI t from hT.ru.2.1]
    refine ev_aald dX11_best_52 hM.ul (by decide) (by decide) (ix_n (by omega)) hul ?_
    have hobj := hM.o (12 + 17 * so') 6 (by have e : so' = 0 ∨ so' = 1 := (by omega); rcases e with rfl | rfl <;> decide)
    refine k_v (c_kFind hG hI hM hT hso rfl) (by decide) dX11_best_53 cbX6_find (mt4 80 rfl rfl) (mt4 81 rfl rfl) (mt4 82 rfl rfl) (ci := 6) rfl hobj rfl rfl (Nat.le_of_ble_eq_true rfl) (fun v μ1 hq => ?_)
    obtain ⟨rfl, ⟨σ', hM', hT', hk2⟩, hF'⟩ := hq
    obtain ⟨b3, bk⟩ := hT'.bs so' hso
    have hkn := bk.resolve_left (fun z => by rw [hk2] at z; exact absurd z (by decide))
    obtain ⟨-, b1, b2⟩ := hkn
    rw [gst_bst hG, gst_bst hG] at b1
    have hobj := hM'.o (12 + 17 * so') 6 (by have e : so' = 0 ∨ so' = 1 := (by omega); rcases e with rfl | rfl <;> decide)
    have hor := hM'.r (12 + 17 * so' + 1) (by have e : so' = 0 ∨ so' = 1 := (by omega); rcases e with rfl | rfl <;> decide)
    simp only [Option.toList, List.cons_append, List.nil_append]
    refine ev_iload_n dX11_best_56 rfl ?_
    refine ev_iconst (v := (-1)) dX11_best_57 (by decide) ?_
    refine ev_icmp_ne (tgt := 78) dX11_best_58 (by decide) (fun h58 => ?_) (fun h58 => ?_)
    · have hp0 : ∃ p' : Nat, p' < n ∧ p = nI p' := by
        have q0 := p0
        have q1 := plt
        rw [Int32.le_iff_toInt_le, en] at q0
        rw [Int32.lt_iff_toInt_lt, enn] at q1
        have q2 : p.toInt ≠ -1 := fun z => h58 (Int32.toInt_inj.mp (z.trans en.symm))
        refine ⟨p.toInt.toNat, by omega, ?_⟩
        apply Int32.toInt_inj.mp
        rw [nI_i (by omega)]; omega
      obtain ⟨p', hp', ep⟩ := hp0
      have hb2 := b2 p' hp'
      rw [gst_bst hG] at hb2
      have eix : p.toInt.toNat = p' := by rw [ep, nI_i (by omega)]; omega
      refine ev_aload_n dX11_best_78 rfl ?_
      refine ev_get dX11_best_79 flX11_225_6 hobj rfl ?_
      refine ev_iload_n dX11_best_82 rfl ?_
      refine ev_iald dX11_best_83 hor (by rw [ep]; exact ix_n (by omega)) hb2 ?_
      refine ev_iret dX11_best_84 rfl ?_
      rw [if_neg h58, eix]
      exact ⟨rfl, ⟨σ', hM', hT'⟩, hF'⟩
    · refine ev_iload_n dX11_best_61 rfl ?_
      refine ev_if_ne (tgt := 73) dX11_best_62 (by decide) (fun h62 => ?_) (fun h62 => ?_)
      · refine ev_aload_n dX11_best_73 rfl ?_
        refine ev_get dX11_best_74 flX11_222_6 hobj rfl ?_
        rw [b1]
        refine ev_iret dX11_best_77 rfl ?_
        rw [if_pos h58]
        have e : so' = 0 ∨ so' = 1 := by omega
        rcases e with rfl | rfl
        · first
          | exact absurd rfl h62
          | (rw [if_pos rfl, Int32.zero_sub, Int32.neg_neg]; exact ⟨rfl, ⟨σ', hM', hT'⟩, hF'⟩)
        · first
          | (have z : (nI 1 : Int32) = 0 := h62; exact absurd z (by decide))
          | exact ⟨rfl, ⟨σ', hM', hT'⟩, hF'⟩
      · refine ev_aload_n dX11_best_65 rfl ?_
        refine ev_get dX11_best_66 flX11_222_6 hobj rfl ?_
        rw [b1]
        refine ev_ineg dX11_best_69 ?_
        refine ev_goto (tgt := 77) dX11_best_70 (by decide) ?_
        refine ev_iret dX11_best_77 rfl ?_
        rw [if_pos h58]
        have e : so' = 0 ∨ so' = 1 := by omega
        rcases e with rfl | rfl
        · first
          | exact absurd rfl h62
          | (rw [if_pos rfl, Int32.zero_sub, Int32.neg_neg]; exact ⟨rfl, ⟨σ', hM', hT'⟩, hF'⟩)
        · first
          | (have z : (nI 1 : Int32) = 0 := h62; exact absurd z (by decide))
          | exact ⟨rfl, ⟨σ', hM', hT'⟩, hF'⟩
  · rw [if_neg hc]
    refine ev_iload_n dX11_best_0 rfl ?_
    refine ev_if_lt (tgt := 22) dX11_best_1 (by decide) (fun h1 => ?_) (fun h1 => ?_)
    · refine ev_bipush (v := (-2)) dX11_best_22 (by decide) ?_
      refine ev_iret dX11_best_24 rfl ?_
      exact ⟨rfl, ⟨σ, hM, hT⟩, hF⟩
    · refine ev_iload_n dX11_best_4 rfl ?_
      refine ev_iconst (v := 1) dX11_best_5 (by decide) ?_
      refine ev_icmp_gt (tgt := 22) dX11_best_6 (by decide) (fun h6 => ?_) (fun h6 => ?_)
      · refine ev_bipush (v := (-2)) dX11_best_22 (by decide) ?_
        refine ev_iret dX11_best_24 rfl ?_
        exact ⟨rfl, ⟨σ, hM, hT⟩, hF⟩
      · refine ev_iload_n dX11_best_9 rfl ?_
        refine ev_iconst (v := (-1)) dX11_best_10 (by decide) ?_
        refine ev_icmp_lt (tgt := 22) dX11_best_11 (by decide) (fun h11 => ?_) (fun h11 => ?_)
        · refine ev_bipush (v := (-2)) dX11_best_22 (by decide) ?_
          refine ev_iret dX11_best_24 rfl ?_
          exact ⟨rfl, ⟨σ, hM, hT⟩, hF⟩
        · refine ev_iload_n dX11_best_14 rfl ?_
          refine ev_aload_n dX11_best_15 rfl ?_
          refine ev_get dX11_best_16 flX11_15_11 (hM.o 0 11 (by decide)) rfl ?_
          rw [show kI σ 0 1 = nI n from hT.hc]
          refine ev_icmp_lt (tgt := 25) dX11_best_19 (by decide) (fun h19 => ?_) (fun h19 => ?_)
          · have z : p ≤ nI n - 1 := by
              have q := h19
              rw [Int32.lt_iff_toInt_lt, enn] at q
              rw [Int32.le_iff_toInt_le, en1]; omega
            exact absurd ⟨⟨Int32.not_lt.mp h1, Int32.not_lt.mp h6⟩, Int32.not_lt.mp h11, z⟩ hc
          · refine ev_bipush (v := (-2)) dX11_best_22 (by decide) ?_
            refine ev_iret dX11_best_24 rfl ?_
            exact ⟨rfl, ⟨σ, hM, hT⟩, hF⟩
end KBEST
