/-! ===== the class's search: find, from the score on ===== -/
section KFIND2
variable {g : Gl} {a m tx n t o so' : Nat} {ρ : MS} {cd : Nat → List Int32} {Lf : Nat → Nat} {σ : KS} {μ μ0 : Mm}
theorem l_find42 (hG : GI ρ) (hI : IM ρ n t tx cd Lf) (hM : KM a m tx σ μ) (hT : KTie ρ n t tx cd Lf m σ) (hX : SX a ρ n t cd so' o σ) (hF : FC a μ0 μ) : Ev g 21 mX6_find 42 [some (.ref (a + o)), some (.ref (a + 1)), some (.int (nI n)), some (.ref (a + 3)), some (.ref (kU σ t))] [] μ (fun v μ' => v = none ∧ (∃ σ', KM a m tx σ' μ' ∧ KTie ρ n t tx cd Lf m σ' ∧ kI σ' o 2 = 1) ∧ FC a μ0 μ') := by
  have hV := hI.1
  have hS := hI.2.1
  have hn7 := hI.2.2.1.2
  have ho := hX.so
  have ho2 : o = 12 ∨ o = 29 := ho
  have hobj := hM.srch ho hX.2.2.2.2.1
  have e3 : σ.1 3 = ρ.1 6 := hT.tm
  have hl3 : (σ.1 3).length = 10 := hT.ln (k := 3) (by decide)
  have l1 : (σ.1 (o + 1)).length = 7 := by rcases ho2 with rfl | rfl <;> exact hT.ln (z := 7) (by decide)
  have l3 : (σ.1 (o + 3)).length = 7 := by rcases ho2 with rfl | rfl <;> exact hT.ln (z := 7) (by decide)
  refine ev_aload_n dX6_find_42 rfl ?_
  refine ev_ldc dX6_find_43 (mt4 93 rfl rfl) ?_
  refine evK_put hM hF (o := o) (ci := 6) (k := 1) ho.k (by decide) dX6_find_45 fpX6_15_6 rfl rfl (fun μ hM hF => ?_)
  have hobj := hM.srch ho (show kT (ksI σ o 1 (-1000000)) o = (a + 1, a + 3) from hX.2.2.2.2.1)
  have hwl := kWl_at hM ho
  have hz0 : μ.1 (a + (o + 7 + 0)) = some (obj 10 (wkF (w6o (ksI σ o 1 (-1000000)) (o + 7 + 0)))) := hM.o _ 10 (ho.w (by decide))
  refine ev_aload_n dX6_find_48 rfl ?_
  refine ev_get dX6_find_49 flX6_25_6 hobj rfl ?_
  refine ev_iconst (v := 0) dX6_find_52 (by decide) ?_
  refine ev_aald dX6_find_53 hwl (by decide) (by decide) ixl0 (kWl_i (by decide)) ?_
  refine ev_aload_n dX6_find_54 rfl ?_
  refine ev_get dX6_find_55 flX6_44_6 hobj rfl ?_
  refine k_v (c_start (z := w6o (ksI σ o 1 (-1000000)) (o + 7 + 0)) (T := σ.1 3) hz0 (hM.r 3 (by decide)) hl3 (by omega)) (by omega) dX6_find_58 cbX10_start (mt4 94 rfl rfl) (mt3 199 rfl rfl) (mt3 200 rfl rfl) (ci := 10) rfl hz0 rfl rfl (Nat.le_of_ble_eq_true rfl) (fun v μ1 hq => ?_)
  obtain ⟨rfl, hμ⟩ := hq
  obtain ⟨σ2, hM2, r2, ei2, d2, hz2, hs2⟩ : ∃ σ2, KM a m tx σ2 μ1 ∧ σ2.1 = σ.1 ∧ (∀ p k, (p ≠ o ∨ k ≠ 1) → p ≠ o + 7 → kI σ2 p k = kI σ p k) ∧ σ2.2.2 = σ.2.2 ∧ w6o σ2 (o + 7 + 0) = zS (Se ρ) ∧ kI σ2 o 1 = -1000000 := by
    refine ⟨_, hM.walk (o := o + 7 + 0) (ho.w (by decide)) hμ, rfl, fun p k h1 h2 => ?_, rfl, ?_, ?_⟩
    · refine (ksO_ne (by omega)).trans ?_
      by_cases e : p = o
      · rw [e]; exact ksI_ne2 (h1.resolve_left (fun z => z e))
      · exact ksI_ne e
    · unfold w6o
      rw [ksO_eq, e3]; rfl
    · exact (ksO_ne (by omega)).trans ksI_eq
  have hF2 : FC a μ0 μ1 := by rw [hμ]; exact hF.upd (by omega)
  clear hobj hwl hz0 hμ hM hF
  have hM := hM2
  have hF := hF2
  have hX2 : SX a ρ n t cd so' o σ2 := by
    obtain ⟨y1, y2, y3, y4, y5, y6, y7, y8⟩ := hX
    refine ⟨y1, y2, (ei2 o 3 (Or.inr (by decide)) (by omega)).trans y3, (ei2 o 10 (Or.inr (by decide)) (by omega)).trans y4, ?_, by rw [r2]; exact y6, by rw [r2]; exact y7, by rw [r2]; exact y8⟩
    show σ2.2.2.2.2 o = _
    rw [d2]; exact y5
  have hobj := hM.srch ho hX2.2.2.2.2.1
  have t8 := hT.t8.srch (σ' := σ2) hn7 ho (fun k _ _ => by rw [r2]) (by rw [r2]) (by rw [r2]) (fun p k hp => ei2 p k (Or.inl (by omega)) (by omega)) (by show σ2.2.2.1 = σ.2.2.1; rw [d2])
  have eus : usd 0 n 0 = List.range n := by rw [usd_all n 0 (by omega), List.range_eq_range']
  have hz2i := hS.2.2.1
  simp only [Option.toList, List.cons_append, List.nil_append]
  refine ev_aload_n dX6_find_61 rfl ?_
  refine ev_iconst (v := 0) dX6_find_62 (by decide) ?_
  refine ev_iconst (v := 0) dX6_find_63 (by decide) ?_
  refine ev_iconst (v := 0) dX6_find_64 (by decide) ?_
  refine k_v (c_grow hV hS hn7 (by rw [← e3]; exact hl3) n 0 0 [] [] (zS (Se ρ)) 0 (-1000000) σ2 _ t8.2.2.1 (by rw [r2]; exact e3) hX2 ⟨rfl, by omega, by decide, by rw [eus]; simp, hz2, ⟨by have := hz2i.1; show 0 ≤ (Se ρ 2).toInt; omega, hS.2.1, Or.inr rfl⟩, by have := hz2i.2; show (Se ρ 2).toInt + _ ≤ _; omega, Int.le_refl _, by rw [Int32.toInt_zero]; omega, fun i x hx => by simp at hx, hM, hs2, fun i x hx => by simp at hx, by rw [r2]; exact l1, by rw [r2]; exact l3⟩) (by omega) dX6_find_65 cbX6_grow (mt4 95 rfl rfl) (mt4 97 rfl rfl) (ms0 35 rfl rfl) (ci := 6) rfl hobj rfl rfl (Nat.le_of_ble_eq_true rfl) (fun v μ1 hq => ?_)
  obtain ⟨rfl, ⟨σ3, hM3, hE3, hs3, hb3⟩, hF3⟩ := hq
  have hF := hF.tr hF3
  have hM := hM3
  rw [eus] at hs3 hb3
  have hb := srK_bst (t := t) (cd := cd) hV hS hn7 hX.1
  have hpm : pmK n (List.range n) = pm n := rfl
  rw [hpm, hb] at hs3 hb3
  have hX3 := hX2.eqD hE3
  have hobj := hM.srch ho hX3.2.2.2.2.1
  simp only [Option.toList, List.cons_append, List.nil_append]
  refine ev_aload_n dX6_find_68 rfl ?_
  refine ev_iconst (v := 1) dX6_find_69 (by decide) ?_
  refine evK_put hM hF (o := o) (ci := 6) (k := 2) ho.k (by decide) dX6_find_70 fpX6_19_6 (by decide) (by decide) (fun μ hM hF => ?_)
  refine ev_vret dX6_find_73 rfl ?_
  have er : ∀ k, k ≠ o + 1 → k ≠ o + 3 → (ksI σ3 o 2 1).1 k = σ.1 k := fun k h1 h2 => (hE3.2.1 k h1 h2).trans (by rw [r2])
  have ei : ∀ p k, (p < o ∨ o + 15 ≤ p) → kI (ksI σ3 o 2 1) p k = kI σ p k := fun p k hp => (ksI_ne (by omega)).trans ((hE3.1 p k (Or.inl (by omega)) (by omega)).trans (ei2 p k (Or.inl (by omega)) (by omega)))
  have q1 : ((ksI σ3 o 2 1).1 (o + 1)).length = (σ.1 (o + 1)).length := hE3.2.2.2.1.trans (by rw [r2])
  have q3 : ((ksI σ3 o 2 1).1 (o + 3)).length = (σ.1 (o + 3)).length := hE3.2.2.2.2.1.trans (by rw [r2])
  have eD : kD (ksI σ3 o 2 1) = kD σ := by show σ3.2.2.1 = σ.2.2.1; rw [hE3.2.2.1, d2]
  refine ⟨rfl, ⟨_, hM, (hT.t8.srch hn7 ho er q1 q3 ei eD).tie (hT.bs.srch hG hX.1 hX.2.1 er ei ?_ ksI_eq ?_ hb3 (bst_len hn7)), ksI_eq⟩, hF⟩
  · exact (ksI_ne2 (by decide)).trans hX3.2.2.1
  · exact (ksI_ne2 (by decide)).trans hs3
end KFIND2
