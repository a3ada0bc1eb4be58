/-! ===== the class's search: fillGifts, the loops ===== -/
section KFILL2
variable {g : Gl} {a m tx n t : Nat} {ρ : MS} {cd : Nat → List Int32} {Lf : Nat → Nat}
theorem f29 {σ0 σ : KS} {t : Nat} (hE : EqF t σ σ0) (hk : kT σ0 29 = (a + 1, a + 3)) (h10 : kI σ0 29 10 = nI n) : kT σ 29 = (a + 1, a + 3) ∧ kI σ 29 10 = nI n := by
  obtain ⟨⟨r, i, d⟩, -⟩ := hE
  exact ⟨by show σ.2.2.2.2 29 = _; rw [d]; exact hk, (i 29 (by simp) 10).trans h10⟩
theorem GF.step {h f : Nat} {σ σ1 : KS} {v w : Int32} (hG : GF ρ t cd h (f + 1) σ) (hf : f ≤ 107) (hh : h < 7) (e44 : σ1.1 44 = σ.1 44) (e45 : σ1.1 45 = σ.1 45) (m44 : (σ1.1 44).length = 756) (m45 : (σ1.1 45).length = 756) (hv : v = gfT (Fc ρ) (Se ρ) (cdt t cd) h f) (hw : w = hpT (Fc ρ) (Se ρ) (cdt t cd) h f) : GF ρ t cd h f (ksR (ksR σ1 44 ((σ1.1 44).set (108 * h + f) v)) 45 ((σ1.1 45).set (108 * h + f) w)) := by
  have hlt : 108 * h + f < 756 := by omega
  generalize hq : 108 * h + f = q at hlt ⊢
  intro x y hy hxy
  have c1 : (ksR (ksR σ1 44 ((σ1.1 44).set q v)) 45 ((σ1.1 45).set q w)).1 44 = (σ1.1 44).set q v := rfl
  have c2 : (ksR (ksR σ1 44 ((σ1.1 44).set q v)) 45 ((σ1.1 45).set q w)).1 45 = (σ1.1 45).set q w := rfl
  rw [c1, c2]
  by_cases e : x = h ∧ y = f
  · have eq : 108 * x + y = q := by rw [← hq, e.1, e.2]
    rw [eq, setD_eq (by rw [m44]; exact hlt), setD_eq (by rw [m45]; exact hlt), e.1, e.2]
    exact ⟨hv, hw⟩
  · have ne : 108 * x + y ≠ q := by omega
    rw [setD_ne ne, setD_ne ne, e44, e45]
    exact hG x y hy (by omega)
theorem EqF.step {σ1 : KS} {j : Nat} {v w : Int32} : EqF t (ksR (ksR σ1 44 ((σ1.1 44).set j v)) 45 ((σ1.1 45).set j w)) σ1 :=
  (EqF.row (σ := ksR σ1 44 ((σ1.1 44).set j v)) (k := 45) (Or.inr (Or.inr rfl)) (by show ((σ1.1 45).set j w).length = (σ1.1 45).length; rw [List.length_set])).tr (EqF.row (k := 44) (Or.inr (Or.inl rfl)) (by rw [List.length_set]))
theorem x_step {f : Nat} (hf : f ≤ 107) : (nI f + -1).toInt = (f : Int) - 1 := by
  have en : (-1 : Int32).toInt = -1 := by decide
  have ef : (nI f).toInt = f := nI_i (by omega)
  rw [add_i (by omega) (by omega), ef, en]; omega
theorem l_fill2 (hn7 : n ≤ 7) (ht : t < tx) {σ0 : KS} {μ0 : Mm} (hT0 : KTie ρ n t tx cd Lf m σ0) (hk0 : kT σ0 29 = (a + 1, a + 3)) (h10 : kI σ0 29 10 = nI n) {h : Nat} (hh : h < n) {Q : Option Value → Mm → Prop} (go : ∀ (σ : KS) (μ : Mm) (v5 v6 : Int32) (o7 : Option Value), KM a m tx σ μ → EqF t σ σ0 → GF ρ t cd h 0 σ → GW ρ t cd (h + 1) σ → FC a μ0 μ → Ev g 6 mX6_fillGifts 120 [some (.ref (a + 29)), some (.ref (kU σ0 t)), some (.int (Se ρ 5)), some (.int (nI h)), some (.ref (kD σ0 h).1), some (.int v5), some (.int v6), o7] [] μ Q) : ∀ (f : Nat) (x : Int32) (o7 : Option Value) (σ : KS) (μ : Mm), f ≤ 108 → x.toInt = (f : Int) - 1 → KM a m tx σ μ → EqF t σ σ0 → GF ρ t cd h f σ → GW ρ t cd (h + 1) σ → FC a μ0 μ → Ev g 6 mX6_fillGifts 45 [some (.ref (a + 29)), some (.ref (kU σ0 t)), some (.int (Se ρ 5)), some (.int (nI h)), some (.ref (kD σ0 h).1), some (.int (hmx (gfT (Fc ρ) (Se ρ) (cdt t cd) h) (108 - f))), some (.int x), o7] [] μ Q := by
  intro f
  induction f with
  | zero =>
    intro x o7 σ μ hf hx hM hE hG hW hF
    have hx0 : x < 0 := by rw [Int32.lt_iff_toInt_lt, hx, Int32.toInt_zero]; omega
    refine ev_iload dX6_fillGifts_45 rfl ?_
    refine ev_if_lt (tgt := 120) dX6_fillGifts_47 (by decide) (fun _ => ?_) (fun h47 => absurd (hx0) h47)
    exact go σ _ _ _ o7 hM hE hG hW hF
  | succ f ih =>
    intro x o7 σ μ hf hx hM hE hG hW hF
    have ex : x = nI f := by apply Int32.toInt_inj.mp; rw [hx, nI_i (by omega)]; omega
    subst ex
    have hT := hT0.f hE ht
    have eU : kU σ = kU σ0 := by show σ.2.2.2.1 = _; rw [hE.1.2.2]
    have eD : kD σ = kD σ0 := by show σ.2.2.1 = _; rw [hE.1.2.2]
    have hR := hT.rw1 hM ht
    obtain ⟨hd, hkc⟩ := hT.door hM hh
    have hne := hT.dne hM hh ht
    have hB := (hT.ru.2.2 t ht).2.2.2.2.2
    have hl32 := (hT.ru.2.2 t ht).2.2.2.1
    rw [eU] at hR hne
    rw [eD] at hd hkc hne
    have l44 : (σ0.1 44).length = 756 := hT0.ln (k := 44) (by decide)
    have l45 : (σ0.1 45).length = 756 := hT0.ln (k := 45) (by decide)
    have fin : ∀ (σ1 : KS) (μ1 : Mm) (v : Int32), KM a m tx σ1 μ1 → EqS t σ1 σ → FC a μ0 μ1 → v = gfT (Fc ρ) (Se ρ) (cdt t cd) h f → Ev g 6 mX6_fillGifts 75 [some (.ref (a + 29)), some (.ref (kU σ0 t)), some (.int (Se ρ 5)), some (.int (nI h)), some (.ref (kD σ0 h).1), some (.int (hmx (gfT (Fc ρ) (Se ρ) (cdt t cd) h) (108 - (f + 1)))), some (.int (nI f)), o7] [.int v] μ1 Q := by
      intro σ1 μ1 v hM hE1 hF hv
      have hE2 := hE1.f.tr hE
      have hobj := hM.srch (Or.inr rfl) (f29 hE2 hk0 h10).1
      have e44 : σ1.1 44 = σ.1 44 := hE1.1.1 44 (by simp; omega)
      have e45 : σ1.1 45 = σ.1 45 := hE1.1.1 45 (by simp; omega)
      have e33 : σ1.1 33 = σ.1 33 := hE1.1.1 33 (by simp; omega)
      have m44 : (σ1.1 44).length = 756 := hE2.2.2.1.trans l44
      have m45 : (σ1.1 45).length = 756 := hE2.2.2.2.1.trans l45
      have hf107 : f ≤ 108 := Nat.le_of_succ_le hf
      have hf107' : f ≤ 107 := Nat.le_of_succ_le_succ hf
      have hh7 : h < 7 := by omega
      have hpe : hmx (gfT (Fc ρ) (Se ρ) (cdt t cd) h) (108 - f) = hpT (Fc ρ) (Se ρ) (cdt t cd) h f := by unfold hpT; with_reducible rfl
      have ehx : (if hmx (gfT (Fc ρ) (Se ρ) (cdt t cd) h) (108 - (f + 1)) < v then v else hmx (gfT (Fc ρ) (Se ρ) (cdt t cd) h) (108 - (f + 1))) = hmx (gfT (Fc ρ) (Se ρ) (cdt t cd) h) (108 - f) := by
        rw [show 108 - f = (108 - (f + 1)) + 1 by omega, hmx, show 107 - (108 - (f + 1)) = f by omega, hv]
      have mulh : nI h * (108 : Int32) + nI f = nI (108 * h + f) := by
        rw [show nI h * (108 : Int32) = nI (h * 108) from (Int32.ofNat_mul h 108).symm, nI_add]; congr 1; omega
      refine ev_istore dX6_fillGifts_75 (by decide) ?_
      dsimp only [List.set]
      refine ev_iload dX6_fillGifts_77 rfl ?_
      refine ev_iload dX6_fillGifts_79 rfl ?_
      refine ev_mmax dX6_fillGifts_81 (mt4 92 rfl rfl) (Nat.le_of_ble_eq_true rfl) ?_
      rw [ehx]
      refine ev_istore dX6_fillGifts_84 (by decide) ?_
      dsimp only [List.set]
      refine ev_aload_n dX6_fillGifts_86 rfl ?_
      refine ev_get dX6_fillGifts_87 flX6_51_6 (hM.o 29 6 (by decide)) rfl ?_
      refine ev_iload_n dX6_fillGifts_90 rfl ?_
      refine ev_bipush (v := 108) dX6_fillGifts_91 (by decide) ?_
      refine ev_imul dX6_fillGifts_93 ?_
      refine ev_iload dX6_fillGifts_94 rfl ?_
      refine ev_iadd dX6_fillGifts_96 ?_
      rw [mulh]
      refine ev_iload dX6_fillGifts_97 rfl ?_
      refine evK_iast hM hF (k := 44) (by decide) dX6_fillGifts_99 (ix_n (by omega)) (show 108 * h + f < (σ1.1 44).length by omega) (fun μ hM hF => ?_)
      refine ev_aload_n dX6_fillGifts_100 rfl ?_
      refine ev_get dX6_fillGifts_101 flX6_54_6 (hM.o 29 6 (by decide)) rfl ?_
      refine ev_iload_n dX6_fillGifts_104 rfl ?_
      refine ev_bipush (v := 108) dX6_fillGifts_105 (by decide) ?_
      refine ev_imul dX6_fillGifts_107 ?_
      refine ev_iload dX6_fillGifts_108 rfl ?_
      refine ev_iadd dX6_fillGifts_110 ?_
      rw [mulh]
      refine ev_iload dX6_fillGifts_111 rfl ?_
      refine evK_iast hM hF (k := 45) (by decide) dX6_fillGifts_113 (ix_n (by omega)) (show 108 * h + f < (σ1.1 45).length by omega) (fun μ hM hF => ?_)
      refine ev_iinc dX6_fillGifts_114 rfl (by decide) ?_
      dsimp only [List.set]
      refine ev_goto (tgt := 45) dX6_fillGifts_117 (by decide) ?_
      exact ih _ _ _ _ hf107 (x_step hf107') hM (EqF.step.tr hE2) (hG.step hf107' hh7 e44 e45 m44 m45 hv hpe) (fun x hx => by rw [← hW x hx, ← e33]; rfl) hF
    refine ev_iload dX6_fillGifts_45 rfl ?_
    refine ev_if_lt (tgt := 120) dX6_fillGifts_47 (by decide) (fun h47 => absurd h47 ((show ¬ nI f < 0 from nI_pos (by omega)))) (fun _ => ?_)
    refine ev_aload_n dX6_fillGifts_50 rfl ?_
    refine ev_aload dX6_fillGifts_51 rfl ?_
    refine ev_iload dX6_fillGifts_53 rfl ?_
    refine ev_iload_n dX6_fillGifts_55 rfl ?_
    refine k_v (c_kRings (S := Se ρ) hR hkc.1 hd hne (hB 1 (by decide)) (nI f)) (by decide) dX6_fillGifts_56 cbX5_rings (mt4 90 rfl rfl) (mt4 30 rfl rfl) (mt4 31 rfl rfl) (ci := 5) rfl hR.1 rfl rfl (Nat.le_of_ble_eq_true rfl) (fun v μ1 hq => ?_)
    obtain ⟨rfl, hS⟩ := hq
    rw [← eU] at hS
    obtain ⟨⟨σ1, hM1, hE1⟩, hF1⟩ := hM.stq ht hl32 hS
    have hF1 := hF.tr hF1
    simp only [Option.toList, List.cons_append, List.nil_append]
    refine ev_if_eq (tgt := 66) dX6_fillGifts_59 (by decide) (fun h59 => ?_) (fun h59 => ?_)
    · have hring0 : vl (Fc ρ) (Se ρ) h (nI f) (cd (3 * t + 1)) = 0 := Decidable.not_not.mp (b2i_eq h59)
      have hT1 := hT.f hE1.f ht
      have eU1 : kU σ1 = kU σ0 := by show σ1.2.2.2.1 = _; rw [hE1.1.2.2]; exact eU
      have eD1 : kD σ1 = kD σ0 := by show σ1.2.2.1 = _; rw [hE1.1.2.2]; exact eD
      have hR1 := hT1.rw1 hM1 ht
      obtain ⟨hd1, hkc1⟩ := hT1.door hM1 hh
      have hl32' := (hT1.ru.2.2 t ht).2.2.2.1
      rw [eU1] at hR1
      rw [eD1] at hd1
      have hR := hR1
      refine ev_aload_n dX6_fillGifts_66 rfl ?_
      refine ev_aload dX6_fillGifts_67 rfl ?_
      refine ev_iload dX6_fillGifts_69 rfl ?_
      refine ev_iload_n dX6_fillGifts_71 rfl ?_
      refine k_v (c_kGift (S := Se ρ) hR1 hkc hd1 hne (hB 2 (by decide)) (nI f)) (by decide) dX6_fillGifts_72 cbX5_gift (mt4 91 rfl rfl) (mt3 230 rfl rfl) (mt3 231 rfl rfl) (ci := 5) rfl hR.1 rfl rfl (Nat.le_of_ble_eq_true rfl) (fun v μ1 hq => ?_)
      obtain ⟨rfl, hS2⟩ := hq
      rw [← eU1] at hS2
      obtain ⟨⟨σ2, hM2, hE2⟩, hF2⟩ := hM1.stq ht hl32' hS2
      have hF2 := hF1.tr hF2
      have hgift : (if tpq (Fc ρ) (Se ρ) h (nI f) (bnd (vl (Fc ρ) (Se ρ) h (nI f) (cd (3 * t + 2))) 0 99 - nI f) < 0 then 0 else tpq (Fc ρ) (Se ρ) h (nI f) (bnd (vl (Fc ρ) (Se ρ) h (nI f) (cd (3 * t + 2))) 0 99 - nI f)) = gfT (Fc ρ) (Se ρ) (cdt t cd) h f := by
        have c1 : cdt t cd 1 = cd (3 * t + 1) := rfl
        have c2 : cdt t cd 2 = cd (3 * t + 2) := rfl
        unfold gfT gfv tpv tpd
        rw [c1, c2, if_pos hring0]
      simp only [Option.toList, List.cons_append, List.nil_append]
      first
      | exact fin _ _ _ hM2 (hE2.tr hE1) hF2 hgift
      | exact fin σ1 _ 0 hM1 hE1 hF1 hring.symm
    · have hring : gfT (Fc ρ) (Se ρ) (cdt t cd) h f = 0 := by
        unfold gfT gfv
        rw [if_neg (b2i_ne h59)]
      refine ev_iconst (v := 0) dX6_fillGifts_62 (by decide) ?_
      refine ev_goto (tgt := 75) dX6_fillGifts_63 (by decide) ?_
      first
      | exact fin _ _ _ hM2 (hE2.tr hE1) hF2 hgift
      | exact fin σ1 _ 0 hM1 hE1 hF1 hring.symm
end KFILL2
