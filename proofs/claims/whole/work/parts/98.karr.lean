/-! ===== the class: arrange ===== -/
section KARR
variable {g : Gl} {a m tx n t : Nat} {ρ : MS} {cd : Nat → List Int32} {Lf : Nat → Nat} {σ : KS} {μ : Mm}
theorem lsO_self {bo : List Nat} (h : bo.length = n) : lsO n (fun i => bo.getD i 0) = bo := by
  apply List.ext_getElem?
  intro i
  unfold lsO
  by_cases hi : i < n
  · rw [List.getElem?_map, List.getElem?_range hi, List.getElem?_eq_getElem (by omega)]
    simp [List.getD_eq_getElem?_getD, List.getElem?_eq_getElem (show i < bo.length by omega)]
  · rw [List.getElem?_eq_none (by simp; omega), List.getElem?_eq_none (by omega)]
theorem c_kArrange (hG : GI ρ) (hC : CLn ρ) (hI : IM ρ n t tx cd Lf) (hM : KM a m tx σ μ) (hT : KTie ρ n t tx cd Lf m σ) (so : Int32) : Mt g 22 mX11_arrange [.ref a, .int so] μ (fun v μ' => v = some (.int (opArrange ρ n t cd so).1) ∧ (∃ Lf', IM (opArrange ρ n t cd so).2 n t tx cd Lf' ∧ KV a (opArrange ρ n t cd so).2 n t tx cd Lf' m μ') ∧ FC a μ μ') := by
  refine Mt.of0 (ls0 := [some (.ref a), some (.int so), none]) (by decide) (by simp [Value.category]) (Nat.le_of_ble_eq_true rfl) rfl ?_
  have hn7 := hI.2.2.1.2
  have htx := hI.2.2.2.1.2
  have h6 := hM.ad.2.2.2.2.2.2.2
  have hF : FC a μ μ := FC.rf
  have e1 : (1 : Int32).toInt = 1 := by decide
  have l5 : (ρ.1 5).length = 7 := hC (5, 7) (by decide) (by decide)
  rw [opArrange]
  by_cases hc : 0 ≤ so ∧ so ≤ 1
  · rw [if_pos hc]
    obtain ⟨s0, s1⟩ := hc
    obtain ⟨so', hso, eso⟩ : ∃ so' : Nat, so' < 2 ∧ so = nI so' := by
      have q0 := s0
      have q1 := s1
      rw [Int32.le_iff_toInt_le, Int32.toInt_zero] at q0
      rw [Int32.le_iff_toInt_le, e1] at q1
      refine ⟨so.toInt.toNat, by omega, ?_⟩
      apply Int32.toInt_inj.mp
      rw [nI_i (by omega)]; omega
    subst eso
    have hul := kUl_at htx h6 (σ := σ)
    have hkO : (12 + 17 * so', 6) ∈ kO := by have e : so' = 0 ∨ so' = 1 := (by omega); rcases e with rfl | rfl <;> decide
    have hkR : 12 + 17 * so' + 1 ∈ kRo := by have e : so' = 0 ∨ so' = 1 := (by omega); rcases e with rfl | rfl <;> decide
    have hbp := bst_pm (ρ := ρ) (t := t) (cd := cd) (so := nI so') hn7
    have hbl := bst_len (ρ := ρ) (t := t) (cd := cd) hn7 (so := nI so')
    have hIa := hI.arr hbp (l := arK (bst ρ n t cd (nI so')).2 n 0 (ρ.1 5)) (fun i hi => by rw [arK_at _ _ _ _ (by omega), if_pos (by omega)])
    have erd : (rd0 (Fc (setA ρ 5 (arK (bst ρ n t cd (nI so')).2 n 0 (ρ.1 5)))) (Se (setA ρ 5 (arK (bst ρ n t cd (nI so')).2 n 0 (ρ.1 5)))) (lsO n (fun i => (bst ρ n t cd (nI so')).2.getD i 0))).1 = (rd0 (Fc ρ) (Se ρ) (bst ρ n t cd (nI so')).2).1 := by
      rw [lsO_self hbl, Fc_set5]; rfl
    generalize hbo : (bst ρ n t cd (nI so')).2 = bo at *
    refine ev_iload_n dX11_arrange_0 rfl ?_
    refine ev_if_lt (tgt := 9) dX11_arrange_1 (by decide) (fun h1 => absurd h1 ((Int32.not_lt.mpr s0))) (fun _ => ?_)
    refine ev_iload_n dX11_arrange_4 rfl ?_
    refine ev_iconst (v := 1) dX11_arrange_5 (by decide) ?_
    refine ev_icmp_le (tgt := 12) dX11_arrange_6 (by decide) (fun _ => ?_) (fun h6 => absurd (s1) h6)
    refine ev_aload_n dX11_arrange_12 rfl ?_
    refine ev_iload_n dX11_arrange_13 rfl ?_
    refine k_v (c_kSearchOf hM hso) (by decide) dX11_arrange_14 cbX11_searchOf (mt4 76 rfl rfl) (mt4 78 rfl rfl) (ms0 33 rfl rfl) (ci := 11) rfl (hM.o 0 11 (by decide)) rfl rfl (Nat.le_of_ble_eq_true rfl) (fun v μ1 hq => ?_)
    obtain ⟨rfl, hμ⟩ := hq; have hμ := hμ.symm; subst hμ
    simp only [Option.toList, List.cons_append, List.nil_append]
    refine ev_astore_n dX11_arrange_17 (by decide) ?_
    dsimp only [List.set]
    refine ev_aload_n dX11_arrange_18 rfl ?_
    refine ev_aload_n dX11_arrange_19 rfl ?_
    refine ev_get dX11_arrange_20 flX11_11_11 (hM.o 0 11 (by decide)) rfl ?_
    refine ev_aload_n dX11_arrange_23 rfl ?_
    refine ev_get dX11_arrange_24 flX11_15_11 (hM.o 0 11 (by decide)) rfl ?_
    rw [show kI σ 0 1 = nI n from hT.hc]
    refine ev_aload_n dX11_arrange_27 rfl ?_
    refine ev_get dX11_arrange_28 flX11_31_11 (hM.o 0 11 (by decide)) rfl ?_
    refine ev_aload_n dX11_arrange_31 rfl ?_
    refine ev_get dX11_arrange_32 flX11_43_11 (hM.o 0 11 (by decide)) rfl ?_
    refine ev_aload_n dX11_arrange_35 rfl ?_
    refine ev_get dX11_arrange_36 flX11_50_11 (hM.o 0 11 (by decide)) rfl ?_
    rw [show kI σ 0 7 = nI t from hT.ru.2.1]
    refine ev_aald dX11_arrange_39 hM.ul (by decide) (by decide) (ix_n (by omega)) hul ?_
    have hobj := hM.o (12 + 17 * so') 6 hkO
    refine k_v (c_kFind hG hI hM hT hso rfl) (by decide) dX11_arrange_40 cbX6_find (mt4 80 rfl rfl) (mt4 81 rfl rfl) (mt4 82 rfl rfl) (ci := 6) rfl hobj rfl rfl (Nat.le_of_ble_eq_true rfl) (fun v μ1 hq => ?_)
    obtain ⟨rfl, ⟨σ', hM', hT', hk2⟩, hF'⟩ := hq
    obtain ⟨b3, bk⟩ := hT'.bs so' hso
    have hkn := bk.resolve_left (fun z => by rw [hk2] at z; exact absurd z (by decide))
    obtain ⟨-, b1, b2⟩ := hkn
    have hobj := hM'.o (12 + 17 * so') 6 hkO
    have ll : (σ'.1 2).length = 7 := hT'.ln (k := 2) (by decide)
    have lo : (σ'.1 (12 + 17 * so' + 1)).length = 7 := by have e : so' = 0 ∨ so' = 1 := (by omega); rcases e with rfl | rfl <;> exact hT'.ln (z := 7) (by decide)
    have hM := hM'
    simp only [Option.toList, List.cons_append, List.nil_append]
    refine ev_aload_n dX11_arrange_43 rfl ?_
    refine ev_get dX11_arrange_44 flX11_225_6 hobj rfl ?_
    refine ev_iconst (v := 0) dX11_arrange_47 (by decide) ?_
    refine ev_aload_n dX11_arrange_48 rfl ?_
    refine ev_get dX11_arrange_49 flX11_19_11 (hM.o 0 11 (by decide)) rfl ?_
    refine ev_iconst (v := 0) dX11_arrange_52 (by decide) ?_
    refine ev_aload_n dX11_arrange_53 rfl ?_
    refine ev_get dX11_arrange_54 flX11_15_11 (hM.o 0 11 (by decide)) rfl ?_
    rw [show kI σ' 0 1 = nI n from hT'.hc]
    refine ev_copyi dX11_arrange_57 (mt4 123 rfl rfl) (hM'.r (12 + 17 * so' + 1) hkR) (hM'.r 2 (by decide)) (s' := 0) (d' := 0) (n' := n) ixl0 ixl0 (ix_n (by omega)) (by omega) (by omega) (Nat.le_of_ble_eq_true rfl) ?_
    have hM2 := hM'.setR (k := 2) (by decide) (cpyL (σ'.1 (12 + 17 * so' + 1)) (σ'.1 2) 0 0 n)
    have hF2 := hF'.upd (c := a + 2) (e := iar (cpyL (σ'.1 (12 + 17 * so' + 1)) (σ'.1 2) 0 0 n)) (by omega)
    generalize mupd μ1 (a + 2) (iar (cpyL (σ'.1 (12 + 17 * so' + 1)) (σ'.1 2) 0 0 n)) = μ2 at hM2 hF2 ⊢
    have hT2 := hT'.list (l := arK bo n 0 (ρ.1 5)) (l' := cpyL (σ'.1 (12 + 17 * so' + 1)) (σ'.1 2) 0 0 n) (Lf' := fun i => bo.getD i 0) (by rw [cpyL_len]; exact ll) (fun i hi => by
      have q := b2 i hi
      rw [gst_bst hG, hbo] at q
      rw [gd (by omega)] at q
      rw [gd (by rw [cpyL_len]; omega), cpyL_D (by omega), if_pos ⟨Nat.zero_le _, by omega⟩, Nat.zero_add, Nat.sub_zero]
      exact q)
    have hM := hM2
    refine ev_aload_n dX11_arrange_60 rfl ?_
    refine k_v (c_kGoList hIa hM2 hT2) (by decide) dX11_arrange_61 cbX11_goList (mt3 190 rfl rfl) (mt3 192 rfl rfl) (ms0 21 rfl rfl) (ci := 11) rfl (hM.o 0 11 (by decide)) rfl rfl (Nat.le_of_ble_eq_true rfl) (fun v μ1 hq => ?_)
    obtain ⟨rfl, ⟨σ4, hM4, hE4, -, -⟩, hF4⟩ := hq
    simp only [Option.toList, List.cons_append, List.nil_append]
    refine ev_iret dX11_arrange_64 rfl ?_
    rw [erd]
    exact ⟨rfl, ⟨_, hIa, ⟨σ4, hM4, hT2.sc hE4⟩⟩, hF2.tr hF4⟩
  · rw [if_neg hc]
    refine ev_iload_n dX11_arrange_0 rfl ?_
    refine ev_if_lt (tgt := 9) dX11_arrange_1 (by decide) (fun h1 => ?_) (fun h1 => ?_)
    · refine ev_bipush (v := (-2)) dX11_arrange_9 (by decide) ?_
      refine ev_iret dX11_arrange_11 rfl ?_
      exact ⟨rfl, ⟨Lf, hI, ⟨σ, hM, hT⟩⟩, hF⟩
    · refine ev_iload_n dX11_arrange_4 rfl ?_
      refine ev_iconst (v := 1) dX11_arrange_5 (by decide) ?_
      refine ev_icmp_le (tgt := 12) dX11_arrange_6 (by decide) (fun h6 => ?_) (fun h6 => ?_)
      · exact absurd ⟨Int32.not_lt.mp h1, by assumption⟩ hc
      · refine ev_bipush (v := (-2)) dX11_arrange_9 (by decide) ?_
        refine ev_iret dX11_arrange_11 rfl ?_
        exact ⟨rfl, ⟨Lf, hI, ⟨σ, hM, hT⟩⟩, hF⟩
end KARR
