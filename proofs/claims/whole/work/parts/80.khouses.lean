/-! ===== the class: houses ===== -/
section KHSS
variable {ρ : MS} {n : Nat} {k w p : Int32}
theorem gho_r {j : Nat} (h : j ≠ 99) : (gho ρ).1 j = ρ.1 j := if_neg h
theorem gho_cl (hC : CLn ρ) : CLn (gho ρ) := by
  intro q hq hc
  have h99 : ∀ j ∈ coreA, j ≠ 99 := by decide
  rw [gho_r (h99 _ hc)]; exact hC q hq hc
theorem hsR_cl (hC : CLn ρ) : CLn (hsR ρ n k w p) := by
  intro q hq hc
  have := hC q hq hc
  show (if q.1 = 5 then _ else if q.1 = 3 then _ else if q.1 = 2 then _ else if q.1 = 4 then _ else if q.1 = 1 then _ else if q.1 = 0 then _ else ρ.1 q.1).length = q.2
  by_cases q5 : q.1 = 5
  · rw [if_pos q5, List.length_set, ← this, q5]
  rw [if_neg q5]
  by_cases q3 : q.1 = 3
  · rw [if_pos q3]
    show ((ρ.1 3).set _ _).length = _
    rw [List.length_set, ← this, q3]
  rw [if_neg q3]
  by_cases q2 : q.1 = 2
  · rw [if_pos q2]
    show ((ρ.1 2).set _ _).length = _
    rw [List.length_set, ← this, q2]
  rw [if_neg q2]
  by_cases q4 : q.1 = 4
  · rw [if_pos q4]
    show ((ρ.1 4).set _ _).length = _
    rw [List.length_set, ← this, q4]
  rw [if_neg q4]
  by_cases q1 : q.1 = 1
  · rw [if_pos q1]
    show ((ρ.1 1).set _ _).length = _
    rw [List.length_set, ← this, q1]
  rw [if_neg q1]
  by_cases q0 : q.1 = 0
  · rw [if_pos q0]
    show ((ρ.1 0).set _ _).length = _
    rw [List.length_set, ← this, q0]
  rw [if_neg q0]; exact this
theorem opHouse_cl (hC : CLn ρ) : CLn (opHouse ρ n k w p).2 := by
  rw [opHouse_eq]
  split
  · split
    · exact hC
    · exact hsR_cl hC
  · exact hC
theorem hsR_gho : gho (hsR (gho ρ) n k w p) = gho (hsR ρ n k w p) := by
  refine Prod.ext ?_ rfl
  funext j
  show (if j = 99 then (hsR (gho ρ) n k w p).1 6 else (hsR (gho ρ) n k w p).1 j) = if j = 99 then (hsR ρ n k w p).1 6 else (hsR ρ n k w p).1 j
  by_cases e : j = 99
  · rw [if_pos e, if_pos e, hsR_r (by decide), hsR_r (by decide)]; rfl
  · rw [if_neg e, if_neg e]
    by_cases q : 6 ≤ j
    · rw [hsR_r q, hsR_r q, gho_r e]
    · have : j = 0 ∨ j = 1 ∨ j = 2 ∨ j = 3 ∨ j = 4 ∨ j = 5 := by omega
      rcases this with rfl | rfl | rfl | rfl | rfl | rfl <;> rfl
theorem opHouse_gho : (opHouse (gho ρ) n k w p).1 = (opHouse ρ n k w p).1 ∧ gho (opHouse (gho ρ) n k w p).2 = gho (opHouse ρ n k w p).2 := by
  have e : gho (gho ρ) = gho ρ := (gho_gi ρ).eq
  rw [opHouse_eq, opHouse_eq]
  split
  · split
    · exact ⟨rfl, e⟩
    · exact ⟨rfl, hsR_gho⟩
  · exact ⟨rfl, e⟩
theorem hs_at {z : Nat} {fr : Int32} (hz : z ≤ 40) {q : Nat} (hq : q ≤ 7) (hfr : q = 0 ∨ (0 ≤ fr.toInt ∧ fr.toInt ≤ 40)) : hasP (nI z) (fr + nI (3 * q)) 3 ↔ ¬ (fr < 0 ∨ ¬ fr < nI z - 2 - nI (3 * q)) := by
  have e3 : (3 : Int32).toInt = 3 := by decide
  have e2 : (2 : Int32).toInt = 2 := by decide
  have ez : (nI z).toInt = z := nI_i (by omega)
  have eq : (nI (3 * q)).toInt = (3 * q : Nat) := nI_i (by omega)
  have x1 : (nI z - 2).toInt = (z : Int) - 2 := by rw [sub_i (by omega) (by omega), ez, e2]
  have x2 : (nI z - 2 - nI (3 * q)).toInt = (z : Int) - 2 - (3 * q : Nat) := by rw [sub_i (by omega) (by omega), x1, eq]
  have x3 : (nI z - 3).toInt = (z : Int) - 3 := by rw [sub_i (by omega) (by omega), ez, e3]
  have x4 : (fr + nI (3 * q)).toInt = fr.toInt + (3 * q : Nat) := by
    rcases hfr with h | h
    · subst h
      have h1 := fr.toInt_lt
      have h2 := fr.le_toInt
      rw [add_i (by omega) (by omega), eq]
    · rw [add_i (by omega) (by omega), eq]
  unfold hasP
  simp only [Int32.le_iff_toInt_le, Int32.lt_iff_toInt_lt, Int32.toInt_zero, x2, x3, x4, ez, e3]
  omega
end KHSS
section KHOUSES
variable {g : Gl} {a tx t : Nat} {cd : Nat → List Int32}
theorem l_kHouses {s : Nat} (hs : s < 4) {so fr : Int32} {c0 : List Int32} {z : Nat} (hz : z ≤ 40) {c : Nat} (hc : c ≤ 7) {μ0 : Mm} : ∀ (f k many : Nat) (o8 : Option Value) (ρ : MS) (n m : Nat) (Lf : Nat → Nat) (μ : Mm), k + f = c → many ≤ k → (k = 0 ∨ (0 ≤ fr.toInt ∧ fr.toInt ≤ 40)) → CLn ρ → ρ.1 35 = c0 → (ρ.1 34).getD s 0 = nI z → IM (gho ρ) n t tx cd Lf → KV a (gho ρ) n t tx cd Lf m μ → FN a k (5 * k) μ0 μ →
    Ev g 6 mX11_houses 68 [some (.ref a), some (.int (nI s)), some (.int so), some (.int fr), some (.int (nI c)), some (.ref (a + (49 + 2 * s))), some (.int (nI many)), some (.int (nI k)), o8] [] μ (fun v μ' => v = some (.int (hsK (nI z) fr c0 s fr.toInt.toNat f k many ρ).1) ∧ (∃ n' Lf' m', IM (gho (hsK (nI z) fr c0 s fr.toInt.toNat f k many ρ).2) n' t tx cd Lf' ∧ KV a (gho (hsK (nI z) fr c0 s fr.toInt.toNat f k many ρ).2) n' t tx cd Lf' m' μ') ∧ FN a c (5 * c) μ0 μ') := by
  intro f
  induction f with
  | zero =>
    intro k many o8 ρ n m Lf μ hk hmk hfr hC h35 h34 hI hV hF
    have e : k = c := by omega
    subst e
    rw [hsK]
    refine ev_iload dX11_houses_68 rfl ?_
    refine ev_iload dX11_houses_70 rfl ?_
    refine ev_icmp_ge (tgt := 138) dX11_houses_72 (by decide) (fun _ => ?_) (fun h72 => absurd ((Int32.le_refl _)) h72)
    refine ev_iload dX11_houses_138 rfl ?_
    refine ev_iret dX11_houses_140 rfl ?_
    exact ⟨rfl, ⟨n, Lf, m, hI, hV⟩, hF⟩
  | succ f ih =>
    intro k many o8 ρ n m Lf μ hk hmk hfr hC h35 h34 hI hV hF
    obtain ⟨σ, hM, hT⟩ := id hV
    obtain ⟨x1, x2⟩ := hM.sh hs
    have l50 := hT.l50 hs
    obtain ⟨y1, y2, y3⟩ := hT.shh s hs
    have y2' : kI σ (49 + 2 * s) 1 = nI z := y2.trans h34
    have hn7 := hI.2.2.1.2
    have hnh : nh ρ = n := nh_of hI.2.2.1.1 hn7
    rw [y2'] at x1
    have e3 : (3 : Int32) * nI k = nI (3 * k) := (Int32.ofNat_mul 3 k).symm
    have hiff := hs_at (fr := fr) hz (q := k) (by omega) hfr
    have yi : ∀ i, i < z → (σ.1 (50 + 2 * s)).getD i 0 = c0.getD (40 * s + i) 0 := fun i hi => by
      rw [← h35]
      exact y3 i (by rw [show (gho ρ).1 34 = ρ.1 34 from rfl, h34, nI_i (by omega)]; exact hi)
    have hFc : FN a c (5 * c) μ0 μ := ⟨⟨hF.1.1, by have := hF.1; omega, hF.1.2.2.1, by have := hF.1; omega⟩, hF.2⟩
    rw [hsK]
    by_cases hh : fr < 0 ∨ ¬ fr < nI z - 2 - nI (3 * k)
    · rw [if_pos hh]
      refine ev_iload dX11_houses_68 rfl ?_
      refine ev_iload dX11_houses_70 rfl ?_
      refine ev_icmp_ge (tgt := 138) dX11_houses_72 (by decide) (fun h72 => absurd h72 ((show ¬ nI c ≤ nI k from nI_ge (by omega) (by omega)))) (fun _ => ?_)
      refine ev_iload_n dX11_houses_75 rfl ?_
      refine ev_iconst (v := 3) dX11_houses_76 (by decide) ?_
      refine ev_iload dX11_houses_77 rfl ?_
      refine ev_imul dX11_houses_79 ?_
      rw [e3]
      refine ev_iadd dX11_houses_80 ?_
      refine ev_istore dX11_houses_81 (by decide) ?_
      dsimp only [List.set]
      refine ev_aload dX11_houses_83 rfl ?_
      refine ev_iload dX11_houses_85 rfl ?_
      refine ev_iconst (v := 3) dX11_houses_87 (by decide) ?_
      refine k_v (c_kHas x1 _ _) (by decide) dX11_houses_88 cbX7_has (mt4 210 rfl rfl) (mt4 69 rfl rfl) (mt4 70 rfl rfl) (ci := 7) rfl x1 rfl rfl (Nat.le_of_ble_eq_true rfl) (fun v μ1 hq => ?_)
      obtain ⟨rfl, hμ⟩ := hq
      have hμ := hμ.symm
      subst hμ
      simp only [Option.toList, List.cons_append, List.nil_append]
      rw [b2i_f (fun q => hiff.mp q hh)]
      refine ev_if_ne (tgt := 97) dX11_houses_91 (by decide) (fun h91 => absurd (rfl) h91) (fun _ => ?_)
      refine ev_bipush (v := (-12)) dX11_houses_94 (by decide) ?_
      refine ev_iret dX11_houses_96 rfl ?_
      exact ⟨rfl, ⟨n, Lf, m, hI, hV⟩, hFc⟩
    · rw [if_neg hh]
      have hp := hiff.mpr hh
      obtain ⟨hf0, hf1⟩ : (0 ≤ fr.toInt ∧ fr.toInt + 3 * k + 3 ≤ z) ∧ fr = nI fr.toInt.toNat := by
        have e2 : (2 : Int32).toInt = 2 := by decide
        have ez : (nI z).toInt = z := nI_i (by omega)
        have eq : (nI (3 * k)).toInt = (3 * k : Nat) := nI_i (by omega)
        have q1 : (nI z - 2).toInt = (z : Int) - 2 := by rw [sub_i (by omega) (by omega), ez, e2]
        have q2 : (nI z - 2 - nI (3 * k)).toInt = (z : Int) - 2 - (3 * k : Nat) := by rw [sub_i (by omega) (by omega), q1, eq]
        have p0 : ¬ fr < 0 := fun q => hh (Or.inl q)
        have p1 : fr < nI z - 2 - nI (3 * k) := by
          by_cases q : fr < nI z - 2 - nI (3 * k)
          · exact q
          · exact absurd (Or.inr q) hh
        rw [Int32.lt_iff_toInt_lt, Int32.toInt_zero] at p0
        rw [Int32.lt_iff_toInt_lt, q2] at p1
        refine ⟨⟨by omega, by omega⟩, ?_⟩
        apply Int32.toInt_inj.mp
        rw [nI_i (by omega)]; omega
      have ef : fr + nI (3 * k) = nI (fr.toInt.toNat + 3 * k) := by
        have := nI_add fr.toInt.toNat (3 * k)
        rw [← hf1] at this; exact this
      have e2 : nI (fr.toInt.toNat + 3 * k) + 2 = nI (fr.toInt.toNat + 3 * k + 2) := nI_add _ 2
      have hfb : fr.toInt.toNat + 3 * k + 3 ≤ z := by omega
      generalize fr.toInt.toNat = f0 at *
      have e4 : (nI f0).toInt = f0 := nI_i (by omega)
      rw [hf1, e4] at hf0
      refine ev_iload dX11_houses_68 rfl ?_
      refine ev_iload dX11_houses_70 rfl ?_
      refine ev_icmp_ge (tgt := 138) dX11_houses_72 (by decide) (fun h72 => absurd h72 ((show ¬ nI c ≤ nI k from nI_ge (by omega) (by omega)))) (fun _ => ?_)
      refine ev_iload_n dX11_houses_75 rfl ?_
      refine ev_iconst (v := 3) dX11_houses_76 (by decide) ?_
      refine ev_iload dX11_houses_77 rfl ?_
      refine ev_imul dX11_houses_79 ?_
      rw [e3]
      refine ev_iadd dX11_houses_80 ?_
      rw [ef]
      refine ev_istore dX11_houses_81 (by decide) ?_
      dsimp only [List.set]
      refine ev_aload dX11_houses_83 rfl ?_
      refine ev_iload dX11_houses_85 rfl ?_
      refine ev_iconst (v := 3) dX11_houses_87 (by decide) ?_
      refine k_v (c_kHas x1 _ _) (by decide) dX11_houses_88 cbX7_has (mt4 210 rfl rfl) (mt4 69 rfl rfl) (mt4 70 rfl rfl) (ci := 7) rfl x1 rfl rfl (Nat.le_of_ble_eq_true rfl) (fun v μ1 hq => ?_)
      obtain ⟨rfl, hμ⟩ := hq
      have hμ := hμ.symm
      subst hμ
      simp only [Option.toList, List.cons_append, List.nil_append]
      rw [b2i_t (by rw [← ef]; exact hp)]
      refine ev_if_ne (tgt := 97) dX11_houses_91 (by decide) (fun _ => ?_) (fun h91 => absurd h91 ((show ¬ (1 : Int32) = 0 by decide)))
      refine ev_aload_n dX11_houses_97 rfl ?_
      refine ev_aload dX11_houses_98 rfl ?_
      refine ev_iload dX11_houses_100 rfl ?_
      refine k_v (c_kItem x1 x2 l50 hz rfl (i := f0 + 3 * k) (by omega)) (by decide) dX11_houses_102 cbX7_item (mt4 64 rfl rfl) (mt4 65 rfl rfl) (mt4 66 rfl rfl) (ci := 7) rfl x1 rfl rfl (Nat.le_of_ble_eq_true rfl) (fun v μ1 hq => ?_)
      obtain ⟨rfl, hμ⟩ := hq
      have hμ := hμ.symm
      subst hμ
      simp only [Option.toList, List.cons_append, List.nil_append]
      rw [yi _ (by omega)]
      refine ev_aload dX11_houses_105 rfl ?_
      refine ev_iload dX11_houses_107 rfl ?_
      refine ev_iconst (v := 1) dX11_houses_109 (by decide) ?_
      refine ev_iadd dX11_houses_110 ?_
      rw [nI_1]
      refine k_v (c_kItem x1 x2 l50 hz rfl (i := f0 + 3 * k + 1) (by omega)) (by decide) dX11_houses_111 cbX7_item (mt4 64 rfl rfl) (mt4 65 rfl rfl) (mt4 66 rfl rfl) (ci := 7) rfl x1 rfl rfl (Nat.le_of_ble_eq_true rfl) (fun v μ1 hq => ?_)
      obtain ⟨rfl, hμ⟩ := hq
      have hμ := hμ.symm
      subst hμ
      simp only [Option.toList, List.cons_append, List.nil_append]
      rw [yi _ (by omega), show 40 * s + (f0 + 3 * k + 1) = 40 * s + (f0 + 3 * k) + 1 by omega]
      refine ev_aload dX11_houses_114 rfl ?_
      refine ev_iload dX11_houses_116 rfl ?_
      refine ev_iconst (v := 2) dX11_houses_118 (by decide) ?_
      refine ev_iadd dX11_houses_119 ?_
      rw [e2]
      refine k_v (c_kItem x1 x2 l50 hz rfl (i := f0 + 3 * k + 2) (by omega)) (by decide) dX11_houses_120 cbX7_item (mt4 64 rfl rfl) (mt4 65 rfl rfl) (mt4 66 rfl rfl) (ci := 7) rfl x1 rfl rfl (Nat.le_of_ble_eq_true rfl) (fun v μ1 hq => ?_)
      obtain ⟨rfl, hμ⟩ := hq
      have hμ := hμ.symm
      subst hμ
      simp only [Option.toList, List.cons_append, List.nil_append]
      rw [yi _ (by omega), show 40 * s + (f0 + 3 * k + 2) = 40 * s + (f0 + 3 * k) + 2 by omega]
      refine k_v (c_kNew (gho_gi ρ) (gho_cl hC) hI hM hT _ _ _) (by decide) dX11_houses_123 cbX11_house (mt4 223 rfl rfl) (mt2 172 rfl rfl) (mt2 173 rfl rfl) (ci := 11) rfl (hM.o 0 11 (by decide)) rfl rfl (Nat.le_of_ble_eq_true rfl) (fun v μ1 hq => ?_)
      obtain ⟨rfl, ⟨n', Lf', m', hn', hI', hV'⟩, hF'⟩ := hq; have hG := opHouse_gho (ρ := ρ) (n := n) (k := c0.getD (40 * s + (f0 + 3 * k)) 0) (w := c0.getD (40 * s + (f0 + 3 * k) + 1) 0) (p := c0.getD (40 * s + (f0 + 3 * k) + 2) 0)
      rw [hG.1]
      rw [hG.2] at hI' hV'
      simp only [Option.toList, List.cons_append, List.nil_append]
      refine ev_if_lt (tgt := 132) dX11_houses_126 (by decide) (fun h126 => ?_) (fun h126 => ?_)
      · refine ev_iinc dX11_houses_132 rfl (by decide) ?_
        dsimp only [List.set]
        refine ev_goto (tgt := 68) dX11_houses_135 (by decide) ?_
        rw [nI_inc, hnh]
        have hF2 := hF.tr hF'
        have h5 : 5 * k + 5 = 5 * (k + 1) := by omega
        rw [h5] at hF2
        first
          | (rw [if_pos h126]; exact ih (k + 1) many _ _ _ _ _ _ (by omega) (by omega) (Or.inr (by rw [hf1, e4]; omega)) (opHouse_cl hC) (by rw [opHouse_row (by omega)]; exact h35) (by rw [opHouse_row (by omega)]; exact h34) hI' hV' hF2)
          | (rw [if_neg h126, nI_inc]; exact ih (k + 1) (many + 1) _ _ _ _ _ _ (by omega) (by omega) (Or.inr (by rw [hf1, e4]; omega)) (opHouse_cl hC) (by rw [opHouse_row (by omega)]; exact h35) (by rw [opHouse_row (by omega)]; exact h34) hI' hV' hF2)
      · refine ev_iinc dX11_houses_129 rfl (by decide) ?_
        dsimp only [List.set]
        refine ev_iinc dX11_houses_132 rfl (by decide) ?_
        dsimp only [List.set]
        refine ev_goto (tgt := 68) dX11_houses_135 (by decide) ?_
        rw [nI_inc, hnh]
        have hF2 := hF.tr hF'
        have h5 : 5 * k + 5 = 5 * (k + 1) := by omega
        rw [h5] at hF2
        first
          | (rw [if_pos h126]; exact ih (k + 1) many _ _ _ _ _ _ (by omega) (by omega) (Or.inr (by rw [hf1, e4]; omega)) (opHouse_cl hC) (by rw [opHouse_row (by omega)]; exact h35) (by rw [opHouse_row (by omega)]; exact h34) hI' hV' hF2)
          | (rw [if_neg h126, nI_inc]; exact ih (k + 1) (many + 1) _ _ _ _ _ _ (by omega) (by omega) (Or.inr (by rw [hf1, e4]; omega)) (opHouse_cl hC) (by rw [opHouse_row (by omega)]; exact h35) (by rw [opHouse_row (by omega)]; exact h34) hI' hV' hF2)
theorem c_kHouses {n m : Nat} {ρ : MS} {Lf : Nat → Nat} {σ : KS} {μ : Mm} (hG : GI ρ) (hC : CLn ρ) (hS : SH ρ) (hI : IM ρ n t tx cd Lf) (hM : KM a m tx σ μ) (hT : KTie ρ n t tx cd Lf m σ) (s so fr z : Int32) : Mt g 6 mX11_houses [.ref a, .int s, .int so, .int fr, .int z] μ (fun r μ' => r = some (.int (opHouses ρ s so fr z).1) ∧ (∃ n' Lf' m', IM (gho (opHouses ρ s so fr z).2) n' t tx cd Lf' ∧ KV a (gho (opHouses ρ s so fr z).2) n' t tx cd Lf' m' μ') ∧ FN a 7 35 μ μ') := by
  refine Mt.of0 (ls0 := [some (.ref a), some (.int s), some (.int so), some (.int fr), some (.int z), none, none, none, none]) (by decide) (by simp [Value.category]) (Nat.le_of_ble_eq_true rfl) rfl ?_
  have stay : (∃ n' Lf' m', IM (gho ρ) n' t tx cd Lf' ∧ KV a (gho ρ) n' t tx cd Lf' m' μ) ∧ FN a 7 35 μ μ := by
    rw [hG.eq]; exact ⟨⟨n, Lf, m, hI, ⟨σ, hM, hT⟩⟩, FN.rf⟩
  rw [opHouses]
  by_cases h1 : (0 ≤ s ∧ s < 4) ∧ (0 ≤ so ∧ so ≤ 2) ∧ 0 ≤ z ∧ z ≤ 7
  · rw [if_pos h1]
    obtain ⟨hs, es⟩ := sheet_n h1.1.1 h1.1.2
    obtain ⟨b1, b2, b3⟩ := h1
    generalize s.toInt.toNat = s' at hs es ⊢
    subst es
    obtain ⟨x1, x2⟩ := hM.sh hs
    obtain ⟨y1, y2, y3⟩ := hT.shh s' hs
    have hneg := so_neg (hS s' hs).1
    obtain ⟨k1, hk1, ek1⟩ := size_n (hS s' hs).2
    rw [y1, y2] at x1
    have ez : z.toInt.toNat ≤ 7 ∧ z = nI z.toInt.toNat := by
      obtain ⟨q1, q2⟩ := b3
      have e7 : (7 : Int32).toInt = 7 := by decide
      rw [Int32.le_iff_toInt_le] at q1 q2
      rw [Int32.toInt_zero] at q1
      rw [e7] at q2
      refine ⟨by omega, ?_⟩
      apply Int32.toInt_inj.mp
      rw [nI_i (by omega)]; omega
    generalize z.toInt.toNat = z' at ez ⊢
    obtain ⟨hz7, ez⟩ := ez
    subst ez
    refine ev_iload_n dX11_houses_0 rfl ?_
    refine k_s (c_kIsSheet _) (by decide) dX11_houses_1 cbX11_isSheet (mt4 53 rfl rfl) (mt4 54 rfl rfl) rfl rfl (Nat.le_of_ble_eq_true rfl) (fun v μ1 hq => ?_)
    obtain ⟨rfl, hμ⟩ := hq
    have hμ := hμ.symm
    subst hμ
    simp only [Option.toList, List.cons_append, List.nil_append]
    rw [b2i_t b1]
    refine ev_if_eq (tgt := 28) dX11_houses_4 (by decide) (fun h4 => absurd h4 ((show ¬ (1 : Int32) = 0 by decide))) (fun _ => ?_)
    refine ev_iload_n dX11_houses_7 rfl ?_
    refine ev_if_lt (tgt := 28) dX11_houses_8 (by decide) (fun h8 => absurd h8 ((Int32.not_lt.mpr b2.1))) (fun _ => ?_)
    refine ev_iload_n dX11_houses_11 rfl ?_
    refine ev_iconst (v := 2) dX11_houses_12 (by decide) ?_
    refine ev_icmp_gt (tgt := 28) dX11_houses_13 (by decide) (fun h13 => absurd h13 ((Int32.not_lt.mpr b2.2))) (fun _ => ?_)
    refine ev_iload dX11_houses_16 rfl ?_
    refine ev_if_lt (tgt := 28) dX11_houses_18 (by decide) (fun h18 => absurd h18 ((Int32.not_lt.mpr b3.1))) (fun _ => ?_)
    refine ev_iload dX11_houses_21 rfl ?_
    refine ev_bipush (v := 7) dX11_houses_23 (by decide) ?_
    refine ev_icmp_le (tgt := 31) dX11_houses_25 (by decide) (fun _ => ?_) (fun h25 => absurd (b3.2) h25)
    refine ev_aload_n dX11_houses_31 rfl ?_
    refine ev_get dX11_houses_32 flX11_55_11 (hM.o 0 11 (by decide)) rfl ?_
    refine ev_iload_n dX11_houses_35 rfl ?_
    refine ev_aald dX11_houses_36 hM.sl (by decide) (by decide) (ix_n (by omega)) (kSl_at hs) ?_
    refine ev_astore dX11_houses_37 (by decide) ?_
    dsimp only [List.set]
    refine ev_aload dX11_houses_39 rfl ?_
    refine k_v (c_kMissing x1) (by decide) dX11_houses_41 cbX7_isMissing (mt4 56 rfl rfl) (mt4 57 rfl rfl) (mt4 58 rfl rfl) (ci := 7) rfl x1 rfl rfl (Nat.le_of_ble_eq_true rfl) (fun v μ1 hq => ?_)
    obtain ⟨rfl, hμ⟩ := hq
    have hμ := hμ.symm
    subst hμ
    simp only [Option.toList, List.cons_append, List.nil_append]
    refine ev_if_eq (tgt := 50) dX11_houses_44 (by decide) (fun h44 => ?_) (fun h44 => ?_)
    · rw [if_neg (fun q => b2i_eq (by assumption) (hneg.mpr q))]
      refine ev_aload dX11_houses_50 rfl ?_
      refine ev_get dX11_houses_52 flX11_283_7 x1 rfl ?_
      refine ev_iload_n dX11_houses_55 rfl ?_
      refine ev_icmp_eq (tgt := 62) dX11_houses_56 (by decide) (fun h56 => ?_) (fun h56 => ?_)
      · rw [if_neg (fun q => q (by assumption)), ek1]
        refine ev_iconst (v := 0) dX11_houses_62 (by decide) ?_
        refine ev_istore dX11_houses_63 (by decide) ?_
        dsimp only [List.set]
        refine ev_iconst (v := 0) dX11_houses_65 (by decide) ?_
        refine ev_istore dX11_houses_66 (by decide) ?_
        dsimp only [List.set]
        have l0 := l_kHouses (g := g) (a := a) (tx := tx) (t := t) (cd := cd) hs (so := so) (fr := fr) (c0 := ρ.1 35) hk1 hz7 (μ0 := μ) z' 0 0 none ρ n m Lf μ (by omega) (Nat.le_refl _) (Or.inl rfl) hC rfl ek1 (by rw [hG.eq]; exact hI) (by rw [hG.eq]; exact ⟨σ, hM, hT⟩) FN.rf
        refine Ev.imp l0 ?_
        rintro v μ' ⟨rfl, q, hF⟩
        exact ⟨rfl, q, ⟨⟨hF.1.1, by have := hF.1; omega, hF.1.2.2.1, by have := hF.1; omega⟩, hF.2⟩⟩
      · refine ev_bipush (v := (-13)) dX11_houses_59 (by decide) ?_
        refine ev_iret dX11_houses_61 rfl ?_
        rw [if_pos (by assumption)]
        exact ⟨rfl, stay⟩
    · refine ev_bipush (v := (-11)) dX11_houses_47 (by decide) ?_
      refine ev_iret dX11_houses_49 rfl ?_
      rw [if_pos (hneg.mp (b2i_ne (by assumption)))]
      exact ⟨rfl, stay⟩
  · rw [if_neg h1]
    refine ev_iload_n dX11_houses_0 rfl ?_
    refine k_s (c_kIsSheet _) (by decide) dX11_houses_1 cbX11_isSheet (mt4 53 rfl rfl) (mt4 54 rfl rfl) rfl rfl (Nat.le_of_ble_eq_true rfl) (fun v μ1 hq => ?_)
    obtain ⟨rfl, hμ⟩ := hq
    have hμ := hμ.symm
    subst hμ
    simp only [Option.toList, List.cons_append, List.nil_append]
    refine ev_if_eq (tgt := 28) dX11_houses_4 (by decide) (fun h4 => ?_) (fun h4 => ?_)
    · refine ev_bipush (v := (-2)) dX11_houses_28 (by decide) ?_
      refine ev_iret dX11_houses_30 rfl ?_
      exact ⟨rfl, stay⟩
    · refine ev_iload_n dX11_houses_7 rfl ?_
      refine ev_if_lt (tgt := 28) dX11_houses_8 (by decide) (fun h8 => ?_) (fun h8 => ?_)
      · refine ev_bipush (v := (-2)) dX11_houses_28 (by decide) ?_
        refine ev_iret dX11_houses_30 rfl ?_
        exact ⟨rfl, stay⟩
      · refine ev_iload_n dX11_houses_11 rfl ?_
        refine ev_iconst (v := 2) dX11_houses_12 (by decide) ?_
        refine ev_icmp_gt (tgt := 28) dX11_houses_13 (by decide) (fun h13 => ?_) (fun h13 => ?_)
        · refine ev_bipush (v := (-2)) dX11_houses_28 (by decide) ?_
          refine ev_iret dX11_houses_30 rfl ?_
          exact ⟨rfl, stay⟩
        · refine ev_iload dX11_houses_16 rfl ?_
          refine ev_if_lt (tgt := 28) dX11_houses_18 (by decide) (fun h18 => ?_) (fun h18 => ?_)
          · refine ev_bipush (v := (-2)) dX11_houses_28 (by decide) ?_
            refine ev_iret dX11_houses_30 rfl ?_
            exact ⟨rfl, stay⟩
          · refine ev_iload dX11_houses_21 rfl ?_
            refine ev_bipush (v := 7) dX11_houses_23 (by decide) ?_
            refine ev_icmp_le (tgt := 31) dX11_houses_25 (by decide) (fun h25 => ?_) (fun h25 => ?_)
            · exact absurd ⟨b2i_ne h4, ⟨Int32.not_lt.mp h8, Int32.not_lt.mp h13⟩, Int32.not_lt.mp h18, by assumption⟩ h1
            · refine ev_bipush (v := (-2)) dX11_houses_28 (by decide) ?_
              refine ev_iret dX11_houses_30 rfl ?_
              exact ⟨rfl, stay⟩
end KHOUSES
