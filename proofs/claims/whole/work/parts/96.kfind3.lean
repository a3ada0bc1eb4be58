/-! ===== the class's search: find ===== -/
section KFIND3
variable {g : Gl} {a m tx n t o so' : Nat} {ρ : MS} {cd : Nat → List Int32} {Lf : Nat → Nat} {σ : KS} {μ : Mm}
theorem l_find36 {μ0 : Mm} (hG : GI ρ) (hI : IM ρ n t tx cd Lf) (hM : KM a m tx σ μ) (hT : KTie ρ n t tx cd Lf m σ) (k3 : kI σ 29 3 = nI 1) (h10 : kI σ 29 10 = nI n) (hk : kT σ 29 = (a + 1, a + 3)) (hF : FC a μ0 μ) : Ev g 21 mX6_find 36 [some (.ref (a + 29)), some (.ref (a + 1)), some (.int (nI n)), some (.ref (a + 3)), some (.ref (kU σ t))] [] μ (fun v μ' => v = none ∧ (∃ σ', KM a m tx σ' μ' ∧ KTie ρ n t tx cd Lf m σ' ∧ kI σ' 29 2 = 1) ∧ FC a μ0 μ') := by
  have hn7 := hI.2.2.1.2
  have htx := hI.2.2.2.1.2
  have hobj0 := hM.o 29 6 (by decide)
  refine ev_aload_n dX6_find_36 rfl ?_
  refine ev_aload dX6_find_37 rfl ?_
  refine k_v (c_fillGifts hn7 htx hM hT hk h10) (by decide) dX6_find_39 cbX6_fillGifts (mt4 85 rfl rfl) (mt4 87 rfl rfl) (ms0 34 rfl rfl) (ci := 6) rfl hobj0 rfl rfl (Nat.le_of_ble_eq_true rfl) (fun v μ1 hq => ?_)
  obtain ⟨rfl, ⟨σ', hM', hE', hGF, hGW⟩, hF'⟩ := hq
  have eU : kU σ' = kU σ := by show σ'.2.2.2.1 = _; rw [hE'.1.2.2]
  have hT' := hT.f hE' htx
  obtain ⟨eT', e10'⟩ := f29 hE' hk h10
  have hX' : SX a ρ n t cd 1 29 σ' := by
    refine ⟨by decide, rfl, (hE'.1.2.1 29 (by simp) 3).trans k3, e10', eT', hT'.ln (k := 33) (by decide), fun q => absurd q (by decide), fun _ => ⟨hT'.ln (k := 44) (by decide), hT'.ln (k := 45) (by decide), fun h hh => ⟨hGW h hh, fun l hl => hGF h l hl (Or.inl hh)⟩⟩⟩
  rw [← eU]
  simp only [Option.toList, List.cons_append, List.nil_append]
  exact l_find42 hG hI hM' hT' hX' (hF.tr hF')
theorem c_kFind (hG : GI ρ) (hI : IM ρ n t tx cd Lf) (hM : KM a m tx σ μ) (hT : KTie ρ n t tx cd Lf m σ) (hso : so' < 2) (ho' : o = 12 + 17 * so') : Mt g 21 mX6_find [.ref (a + o), .ref (a + 1), .int (nI n), .ref (a + 3), .ref (kU σ t)] μ (fun v μ' => v = none ∧ (∃ σ', KM a m tx σ' μ' ∧ KTie ρ n t tx cd Lf m σ' ∧ kI σ' o 2 = 1) ∧ FC a μ μ') := by
  refine Mt.of0 (ls0 := [some (.ref (a + o)), some (.ref (a + 1)), some (.int (nI n)), some (.ref (a + 3)), some (.ref (kU σ t))]) (by decide) (by simp [Value.category]) (Nat.le_of_ble_eq_true rfl) rfl ?_
  have hn7 := hI.2.2.1.2
  have htx := hI.2.2.2.1.2
  have ho : SO o := by unfold SO; omega
  have ho2 : o = 12 ∨ o = 29 := ho
  have hF : FC a μ μ := FC.rf
  have hobj0 := hM.o o 6 ho.k
  obtain ⟨k3, hkn⟩ := hT.bs so' hso
  rw [← ho'] at k3 hkn
  rcases hkn with k2 | ⟨k2, -⟩
  · have h7 : ¬ (7 : Int32) < nI n := Int32.not_lt.mpr (nI_le (b := 7) (by omega) (by decide))
    have l4 : (σ.1 (o + 4)).length = 7 := by rcases ho2 with rfl | rfl <;> exact hT.ln (z := 7) (by decide)
    refine ev_aload_n dX6_find_0 rfl ?_
    refine ev_get dX6_find_1 flX6_19_6 hobj0 rfl ?_
    rw [k2]
    refine ev_if_eq (tgt := 8) dX6_find_4 (by decide) (fun _ => ?_) (fun h4 => absurd (rfl) h4)
    refine ev_aload_n dX6_find_8 rfl ?_
    refine ev_aload_n dX6_find_9 rfl ?_
    refine ev_put dX6_find_10 fpX6_37_6 hobj0 (Nat.le_of_ble_eq_true rfl) rfl rfl ?_
    rw [kf_T9]
    have hM1 := hM.setT ho.k (a + 1, (kT σ o).2)
    have hF1 := hF.upd (c := a + o) (e := obj 6 (kf 6 a (ksT σ o (a + 1, (kT σ o).2)) o)) (by omega)
    generalize mupd μ (a + o) (obj 6 (kf 6 a (ksT σ o (a + 1, (kT σ o).2)) o)) = μ1 at hM1 hF1 ⊢
    clear hM hF hobj0
    have hM := hM1
    have hF := hF1
    refine ev_aload_n dX6_find_13 rfl ?_
    refine ev_iload_n dX6_find_14 rfl ?_
    refine ev_bipush (v := 7) dX6_find_15 (by decide) ?_
    refine ev_mmin dX6_find_17 (mt4 84 rfl rfl) (Nat.le_of_ble_eq_true rfl) ?_
    rw [if_neg h7]
    refine evK_put hM hF (o := o) (ci := 6) (k := 10) ho.k (by decide) dX6_find_20 fpX6_41_6 rfl rfl (fun μ hM hF => ?_)
    have hobj0 := hM.o o 6 ho.k
    refine ev_aload_n dX6_find_23 rfl ?_
    refine ev_aload_n dX6_find_24 rfl ?_
    refine ev_put dX6_find_25 fpX6_44_6 hobj0 (Nat.le_of_ble_eq_true rfl) rfl rfl ?_
    rw [kf_T11]
    have hM1 := hM.setT ho.k ((kT (ksI (ksT σ o (a + 1, (kT σ o).2)) o 10 (nI n)) o).1, a + 3)
    have hF1 := hF.upd (c := a + o) (e := obj 6 (kf 6 a (ksT (ksI (ksT σ o (a + 1, (kT σ o).2)) o 10 (nI n)) o ((kT (ksI (ksT σ o (a + 1, (kT σ o).2)) o 10 (nI n)) o).1, a + 3)) o)) (by omega)
    generalize mupd μ (a + o) (obj 6 (kf 6 a (ksT (ksI (ksT σ o (a + 1, (kT σ o).2)) o 10 (nI n)) o ((kT (ksI (ksT σ o (a + 1, (kT σ o).2)) o 10 (nI n)) o).1, a + 3)) o)) = μ3 at hM1 hF1 ⊢
    obtain ⟨σ3, hM3, r3, ei3, e10, eD3, eU3, eT3⟩ : ∃ σ3, KM a m tx σ3 μ3 ∧ σ3.1 = σ.1 ∧ (∀ p k, (p ≠ o ∨ k ≠ 10) → kI σ3 p k = kI σ p k) ∧ kI σ3 o 10 = nI n ∧ kD σ3 = kD σ ∧ kU σ3 = kU σ ∧ kT σ3 o = (a + 1, a + 3) := by
      refine ⟨_, hM1, rfl, fun p k h => ?_, ksI_eq, rfl, rfl, ?_⟩
      · show kI (ksI (ksT σ o (a + 1, (kT σ o).2)) o 10 (nI n)) p k = _
        by_cases e : p = o
        · rw [e]; exact ksI_ne2 (h.resolve_left (fun z => z e))
        · exact ksI_ne e
      · simp [ksT, ksI, kT]
    have hT3 : KTie ρ n t tx cd Lf m σ3 := (hT.t8.srch hn7 ho (fun k _ _ => by rw [r3]) (by rw [r3]) (by rw [r3]) (fun p k hp => ei3 p k (Or.inl (by omega))) eD3).tie (fun so2 hs2 => by
      have := hT.bs so2 hs2
      rw [ei3 _ _ (Or.inr (by decide)), ei3 _ _ (Or.inr (by decide)), ei3 _ _ (Or.inr (by decide)), r3]
      exact this)
    have k33 : kI σ3 o 3 = nI so' := (ei3 o 3 (Or.inr (by decide))).trans k3
    rw [← eU3]
    have hobj0 := hM3.o o 6 ho.k
    clear hM hF hM1
    have hMz := hM3
    have hFz := hF1
    refine ev_aload_n dX6_find_28 rfl ?_
    refine ev_get dX6_find_29 flX6_47_6 hobj0 rfl ?_
    rw [k33]
    refine ev_iconst (v := 1) dX6_find_32 (by decide) ?_
    refine ev_icmp_ne (tgt := 42) dX6_find_33 (by decide) (fun h33 => ?_) (fun h33 => ?_)
    · have e1 : so' = 0 := by
        have e : so' = 0 ∨ so' = 1 := by omega
        rcases e with rfl | rfl
        · rfl
        · exact absurd rfl h33
      subst e1
      have e12 : o = 12 := ho'
      subst e12
      exact l_find42 hG hI hMz hT3 ⟨hso, rfl, k33, e10, eT3, by rw [r3]; exact l4, fun _ => ⟨List.length_eq_zero_iff.mp (hT3.ln (k := 27) (by decide)), List.length_eq_zero_iff.mp (hT3.ln (k := 28) (by decide))⟩, fun q => absurd q (by decide)⟩ hFz
    · have e1 : so' = 1 := by
        have e : so' = 0 ∨ so' = 1 := by omega
        rcases e with rfl | rfl
        · exact absurd h33 (by decide)
        · rfl
      subst e1
      have e29 : o = 29 := ho'
      subst e29
      exact l_find36 hG hI hMz hT3 k33 e10 eT3 hFz
  · skip
    refine ev_aload_n dX6_find_0 rfl ?_
    refine ev_get dX6_find_1 flX6_19_6 hobj0 rfl ?_
    rw [k2]
    refine ev_if_eq (tgt := 8) dX6_find_4 (by decide) (fun h4 => absurd h4 ((show ¬ (1 : Int32) = 0 by decide))) (fun _ => ?_)
    refine ev_vret dX6_find_7 rfl ?_
    exact ⟨rfl, ⟨σ, hM, hT, k2⟩, hF⟩
end KFIND3
