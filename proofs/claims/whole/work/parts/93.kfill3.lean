/-! ===== the class's search: fillGifts, all houses ===== -/
section KFILL3
variable {g : Gl} {a m tx n t : Nat} {ρ : MS} {cd : Nat → List Int32} {Lf : Nat → Nat}
theorem GF.up {h : Nat} {σ : KS} (hG : GF ρ t cd h 0 σ) : GF ρ t cd (h + 1) 108 σ := fun x y hy hxy => hG x y hy (by omega)
theorem GF.dn {h : Nat} {σ σ' : KS} (hG : GF ρ t cd h 108 σ) (e44 : σ'.1 44 = σ.1 44) (e45 : σ'.1 45 = σ.1 45) : GF ρ t cd h 108 σ' := fun x y hy hxy => by
  rw [e44, e45]; exact hG x y hy hxy
theorem GW.step {h : Nat} {σ σ' : KS} (hW : GW ρ t cd h σ) (e33 : σ'.1 33 = (σ.1 33).set h (byv (Fc ρ) (Se ρ) (cdt t cd) h)) (hl : h < (σ.1 33).length) : GW ρ t cd (h + 1) σ' := by
  intro x hx
  rw [e33, List.getElem?_set]
  by_cases e : h = x
  · rw [if_pos e, if_pos (by omega), e]
  · rw [if_neg e]; exact hW x (by omega)
theorem l_fillG (hn7 : n ≤ 7) (ht : t < tx) {σ0 : KS} {μ0 : Mm} (hT0 : KTie ρ n t tx cd Lf m σ0) (hk0 : kT σ0 29 = (a + 1, a + 3)) (h10 : kI σ0 29 10 = nI n) : ∀ (f k : Nat) (o4 o5 o6 o7 : Option Value) (σ : KS) (μ : Mm), k + f = n → KM a m tx σ μ → EqF t σ σ0 → GF ρ t cd k 108 σ → GW ρ t cd k σ → FC a μ0 μ → Ev g 6 mX6_fillGifts 9 [some (.ref (a + 29)), some (.ref (kU σ0 t)), some (.int (Se ρ 5)), some (.int (nI k)), o4, o5, o6, o7] [] μ (fun v μ' => v = none ∧ (∃ σ', KM a m tx σ' μ' ∧ EqF t σ' σ0 ∧ GF ρ t cd n 108 σ' ∧ GW ρ t cd n σ') ∧ FC a μ0 μ') := by
  intro f
  induction f with
  | zero =>
    intro k o4 o5 o6 o7 σ μ hk hM hE hG hW hF
    have e : k = n := by omega
    subst e
    have hobj := hM.srch (Or.inr rfl) (f29 hE hk0 h10).1
    rw [(f29 hE hk0 h10).2] at hobj
    refine ev_iload_n dX6_fillGifts_9 rfl ?_
    refine ev_aload_n dX6_fillGifts_10 rfl ?_
    refine ev_get dX6_fillGifts_11 flX6_41_6 hobj rfl ?_
    refine ev_icmp_ge (tgt := 126) dX6_fillGifts_14 (by decide) (fun _ => ?_) (fun h14 => absurd ((Int32.le_refl _)) h14)
    refine ev_vret dX6_fillGifts_126 rfl ?_
    exact ⟨rfl, ⟨σ, hM, hE, hG, hW⟩, hF⟩
  | succ f ih =>
    intro k o4 o5 o6 o7 σ μ hk hM hE hG hW hF
    have hkn : k < n := by omega
    have hobj := hM.srch (Or.inr rfl) (f29 hE hk0 h10).1
    rw [(f29 hE hk0 h10).2] at hobj
    have hm7 := hM.ad.2.2.2.2.2.2.1
    have hT := hT0.f hE ht
    have hnm := hT.nm
    have eU : kU σ = kU σ0 := by show σ.2.2.2.1 = _; rw [hE.1.2.2]
    have eD : kD σ = kD σ0 := by show σ.2.2.1 = _; rw [hE.1.2.2]
    have hR := hT.rw1 hM ht
    obtain ⟨hd, hkc⟩ := hT.door hM hkn
    have hne := hT.dne hM hkn ht
    have hB := (hT.ru.2.2 t ht).2.2.2.2.2
    have hl32 := (hT.ru.2.2 t ht).2.2.2.1
    rw [eU] at hR hne
    rw [eD] at hd hkc hne
    have hdl : (kDl m σ)[k]? = some (some (kD σ0 k).1) := by rw [← eD]; exact kDl_at (by omega) hm7
    have l33 : (σ0.1 33).length = 7 := hT0.ln (k := 33) (by decide)
    have m33 : (σ.1 33).length = 7 := hE.2.1.trans l33
    have back : ∀ (σ : KS) (μ : Mm) (v5 v6 : Int32) (o7 : Option Value), KM a m tx σ μ → EqF t σ σ0 → GF ρ t cd k 0 σ → GW ρ t cd (k + 1) σ → FC a μ0 μ → Ev g 6 mX6_fillGifts 120 [some (.ref (a + 29)), some (.ref (kU σ0 t)), some (.int (Se ρ 5)), some (.int (nI k)), some (.ref (kD σ0 k).1), some (.int v5), some (.int v6), o7] [] μ (fun v μ' => v = none ∧ (∃ σ', KM a m tx σ' μ' ∧ EqF t σ' σ0 ∧ GF ρ t cd n 108 σ' ∧ GW ρ t cd n σ') ∧ FC a μ0 μ') := by
      intro σ μ v5 v6 o7 hM hE hG hW hF
      refine ev_iinc dX6_fillGifts_120 rfl (by decide) ?_
      dsimp only [List.set]
      refine ev_goto (tgt := 9) dX6_fillGifts_123 (by decide) ?_
      rw [nI_inc]
      exact ih (k + 1) _ _ _ _ σ μ (by omega) hM hE hG.up hW hF
    refine ev_iload_n dX6_fillGifts_9 rfl ?_
    refine ev_aload_n dX6_fillGifts_10 rfl ?_
    refine ev_get dX6_fillGifts_11 flX6_41_6 hobj rfl ?_
    refine ev_icmp_ge (tgt := 126) dX6_fillGifts_14 (by decide) (fun h14 => absurd h14 ((show ¬ nI n ≤ nI k from nI_ge (by omega) (by omega)))) (fun _ => ?_)
    refine ev_aload_n dX6_fillGifts_17 rfl ?_
    refine ev_get dX6_fillGifts_18 flX6_37_6 hobj rfl ?_
    refine ev_iload_n dX6_fillGifts_21 rfl ?_
    refine ev_aald dX6_fillGifts_22 hM.dl (by decide) (by decide) (ix_n (by omega)) hdl ?_
    refine ev_astore dX6_fillGifts_23 (by decide) ?_
    dsimp only [List.set]
    refine ev_aload_n dX6_fillGifts_25 rfl ?_
    refine ev_get dX6_fillGifts_26 flX6_32_6 hobj rfl ?_
    refine ev_iload_n dX6_fillGifts_29 rfl ?_
    refine ev_aload_n dX6_fillGifts_30 rfl ?_
    refine ev_aload dX6_fillGifts_31 rfl ?_
    refine ev_iload_n dX6_fillGifts_33 rfl ?_
    refine k_v (c_kBy (S := Se ρ) hR hkc.1 hd hne (hB 0 (by decide))) (by decide) dX6_fillGifts_34 cbX5_wantedBy (mt4 89 rfl rfl) (mt3 144 rfl rfl) (mt3 145 rfl rfl) (ci := 5) rfl hR.1 rfl rfl (Nat.le_of_ble_eq_true rfl) (fun v μ1 hq => ?_)
    obtain ⟨rfl, hS⟩ := hq
    rw [← eU] at hS
    obtain ⟨⟨σ1, hM1, hE1⟩, hF1⟩ := hM.stq ht hl32 hS
    have hF := hF.tr hF1
    have e33 : σ1.1 33 = σ.1 33 := hE1.1.1 33 (by simp; omega)
    have e44 : σ1.1 44 = σ.1 44 := hE1.1.1 44 (by simp; omega)
    have e45 : σ1.1 45 = σ.1 45 := hE1.1.1 45 (by simp; omega)
    have hM := hM1
    simp only [Option.toList, List.cons_append, List.nil_append]
    refine evK_iast hM hF (k := 33) (by decide) dX6_fillGifts_37 (ix_n (by omega)) (show k < (σ1.1 33).length by rw [e33, m33]; omega) (fun μ hM hF => ?_)
    refine ev_iconst (v := 0) dX6_fillGifts_38 (by decide) ?_
    refine ev_istore dX6_fillGifts_39 (by decide) ?_
    dsimp only [List.set]
    refine ev_bipush (v := 107) dX6_fillGifts_41 (by decide) ?_
    refine ev_istore dX6_fillGifts_43 (by decide) ?_
    dsimp only [List.set]
    have q := l_fill2 (g := g) (Q := fun v μ' => v = none ∧ (∃ σ', KM a m tx σ' μ' ∧ EqF t σ' σ0 ∧ GF ρ t cd n 108 σ' ∧ GW ρ t cd n σ') ∧ FC a μ0 μ') hn7 ht hT0 hk0 h10 hkn back 108 107 o7 _ _ (Nat.le_refl _) (by decide) hM ((EqF.row (t := t) (k := 33) (Or.inl rfl) (by rw [List.length_set])).tr (hE1.f.tr hE)) (hG.dn e44 e45) (hW.step (by rw [← e33]; rfl) (by omega)) hF
    rw [show hmx (gfT (Fc ρ) (Se ρ) (cdt t cd) k) (108 - 108) = 0 from rfl] at q
    exact q
theorem c_fillGifts (hn7 : n ≤ 7) (ht : t < tx) {σ : KS} {μ : Mm} (hM : KM a m tx σ μ) (hT : KTie ρ n t tx cd Lf m σ) (hk : kT σ 29 = (a + 1, a + 3)) (h10 : kI σ 29 10 = nI n) : Mt g 6 mX6_fillGifts [.ref (a + 29), .ref (kU σ t)] μ (fun v μ' => v = none ∧ (∃ σ', KM a m tx σ' μ' ∧ EqF t σ' σ ∧ GF ρ t cd n 108 σ' ∧ GW ρ t cd n σ') ∧ FC a μ μ') := by
  refine Mt.of0 (ls0 := [some (.ref (a + 29)), some (.ref (kU σ t)), none, none, none, none, none, none]) (by decide) (by simp [Value.category]) (Nat.le_of_ble_eq_true rfl) rfl ?_
  have hobj := hM.srch (Or.inr rfl) hk
  have hl3 : (σ.1 3).length = 10 := hT.ln (k := 3) (by decide)
  have hF : FC a μ μ := FC.rf
  refine ev_aload_n dX6_fillGifts_0 rfl ?_
  refine ev_get dX6_fillGifts_1 flX6_44_6 hobj rfl ?_
  refine ev_iconst (v := 5) dX6_fillGifts_4 (by decide) ?_
  refine ev_iald dX6_fillGifts_5 (hM.r 3 (by decide)) ixl5 (gd (by omega)) ?_
  rw [show (σ.1 3).getD 5 0 = Se ρ 5 by rw [hT.tm]]
  refine ev_istore_n dX6_fillGifts_6 (by decide) ?_
  dsimp only [List.set]
  refine ev_iconst (v := 0) dX6_fillGifts_7 (by decide) ?_
  refine ev_istore_n dX6_fillGifts_8 (by decide) ?_
  dsimp only [List.set]
  exact l_fillG hn7 ht hT hk h10 n 0 none none none none σ μ (by omega) hM EqF.rf (fun x y hy hxy => absurd hxy (by omega)) (fun x hx => absurd hx (by omega)) hF
end KFILL3
