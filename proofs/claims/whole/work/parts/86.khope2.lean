/-! ===== the class's search: hopeOf ===== -/
/-- a search on its way: what it knows of the street -/
def SX (a : Nat) (ρ : MS) (n t : Nat) (cd : Nat → List Int32) (so' o : Nat) (σ : KS) : Prop := so' < 2 ∧ o = 12 + 17 * so' ∧ kI σ o 3 = nI so' ∧ kI σ o 10 = nI n ∧ kT σ o = (a + 1, a + 3) ∧ (σ.1 (o + 4)).length = 7 ∧ (so' = 0 → σ.1 (o + 15) = [] ∧ σ.1 (o + 16) = []) ∧ (so' = 1 → (σ.1 (o + 15)).length = 756 ∧ (σ.1 (o + 16)).length = 756 ∧ ∀ h, h < n → (σ.1 (o + 4))[h]? = some (byv (Fc ρ) (Se ρ) (cdt t cd) h) ∧ ∀ l, l ≤ 107 → (σ.1 (o + 15)).getD (108 * h + l) 0 = gfT (Fc ρ) (Se ρ) (cdt t cd) h l ∧ (σ.1 (o + 16)).getD (108 * h + l) 0 = hpT (Fc ρ) (Se ρ) (cdt t cd) h l)
theorem wrt_eq {g g' : Nat → Int32} {b t : Int32} (h : ∀ l, l ≤ 107 → g l = g' l) : wrt g b t = wrt g' b t := by
  unfold wrt
  split
  · rfl
  · rename_i q
    have c : (108 : Int32).toInt = 108 := by decide
    rw [Int32.le_iff_toInt_le, c] at q
    exact h _ (by omega)
section KHOPE2
variable {g : Gl} {a m tx n t o so' : Nat} {ρ : MS} {cd : Nat → List Int32} {σ : KS} {μ : Mm}
theorem SX.so (h : SX a ρ n t cd so' o σ) : SO o := by
  obtain ⟨h1, h2, -⟩ := h
  unfold SO
  omega
theorem KM.srch (hM : KM a m tx σ μ) (ho : SO o) (hT : kT σ o = (a + 1, a + 3)) : μ.1 (a + o) = some (obj 6 [.ref (a + (o + 1)), .int (kI σ o 1), .int (kI σ o 2), .int (kI σ o 3), .ref (a + (o + 2)), .ref (a + (o + 3)), .ref (a + (o + 4)), .ref (a + (o + 15)), .ref (a + (o + 16)), .ref (a + 1), .int (kI σ o 10), .ref (a + 3)]) := by
  have := hM.o o 6 ho.k
  rw [this]
  show some (obj 6 [_, _, _, _, _, _, _, _, _, .ref (kT σ o).1, _, .ref (kT σ o).2]) = _
  rw [hT]
theorem nso {so' : Nat} (h : so' < 2) : nI so' = 0 ↔ so' = 0 := by
  have e : so' = 0 ∨ so' = 1 := by omega
  rcases e with rfl | rfl
  · exact ⟨fun _ => rfl, fun _ => rfl⟩
  · exact ⟨fun q => absurd q (by decide), fun q => absurd q (by decide)⟩
/-- hopes at a minute -/
theorem c_kWorthH (hM : KM a m tx σ μ) (hX : SX a ρ n t cd so' o σ) {h : Nat} (hh : h < n) (hn7 : n ≤ 7) (mi : Int32) : Pu g 1 mX6_worth [.ref (a + o), .ref (a + (o + 16)), .int (nI h), .int mi] μ (HTs (Fc ρ) (Se ρ) (cdt t cd) (nI so') h mi) := by
  have ho := hX.so
  obtain ⟨h1, h2, h3, h4, h5, h6, h7, h8⟩ := hX
  have hr := hM.r (o + 16) (ho.r (by omega))
  unfold HTs
  by_cases q : so' = 0
  · rw [if_pos ((nso h1).mpr q)]
    rw [(h7 q).2] at hr
    exact c_kWorth0 hM ho (by omega) (gd (by omega)) hr
  · rw [if_neg (fun z => q ((nso h1).mp z))]
    obtain ⟨w1, w2, w3⟩ := h8 (by omega)
    obtain ⟨y1, y2⟩ := w3 h hh
    have := c_kWorth (g := g) hM ho (h := h) (by omega) (t := mi) y1 hr w2
    rw [wrt_eq (fun l hl => (y2 l hl).2)] at this
    exact this
/-- gifts at a minute -/
theorem c_kWorthG (hM : KM a m tx σ μ) (hX : SX a ρ n t cd so' o σ) {h : Nat} (hh : h < n) (hn7 : n ≤ 7) (mi : Int32) : Pu g 1 mX6_worth [.ref (a + o), .ref (a + (o + 15)), .int (nI h), .int mi] μ (WTs (Fc ρ) (Se ρ) (cdt t cd) (nI so') h mi) := by
  have ho := hX.so
  obtain ⟨h1, h2, h3, h4, h5, h6, h7, h8⟩ := hX
  have hr := hM.r (o + 15) (ho.r (by omega))
  unfold WTs
  by_cases q : so' = 0
  · rw [if_pos ((nso h1).mpr q)]
    rw [(h7 q).1] at hr
    exact c_kWorth0 hM ho (by omega) (gd (by omega)) hr
  · rw [if_neg (fun z => q ((nso h1).mp z))]
    obtain ⟨w1, w2, w3⟩ := h8 (by omega)
    obtain ⟨y1, y2⟩ := w3 h hh
    have := c_kWorth (g := g) hM ho (h := h) (by omega) (t := mi) y1 hr w1
    rw [wrt_eq (fun l hl => (y2 l hl).1)] at this
    exact this
theorem l_kHope (hV : VF (Fc ρ)) (hS : VS (Se ρ)) (hn7 : n ≤ 7) (hM : KM a m tx σ μ) (hH : KHs ρ n m σ) (h3 : σ.1 3 = ρ.1 6) (hl3 : (σ.1 3).length = 10) (hX : SX a ρ n t cd so' o σ) {u : Nat} {mi p : Int32} : ∀ (f k : Nat) (e q : Int32), k + f = n → Ev g 5 mX6_hopeOf 9 [some (.ref (a + o)), some (.int mi), some (.int (nI u)), some (.int p), some (.int e), some (.int q), some (.int (nI k))] [] μ (fun v μ' => v = some (.int (if nI so' = 0 then 0 - smK (tks (Fc ρ) (Se ρ)) (usd u f k) e else smK (fun h => HTs (Fc ρ) (Se ρ) (cdt t cd) (nI so') h mi) (usd u f k) q)) ∧ μ' = μ) := by
  have hobj := hM.srch hX.so hX.2.2.2.2.1
  have hm7 := hM.ad.2.2.2.2.2.2.1
  have hnm := hH.1
  have e10 := hX.2.2.2.1
  have e3 := hX.2.2.1
  rw [e10, e3] at hobj
  have eth : ∀ h, (σ.1 3).getD (6 + (Fc ρ 4 h).toInt.toNat) 0 = thk (Fc ρ) (Se ρ) h := fun h => by rw [h3]; rfl
  intro f
  induction f with
  | zero =>
    intro k e q hk
    have : k = n := by omega
    subst this
    rw [usd, smK, smK]
    refine ev_iload dX6_hopeOf_9 rfl ?_
    refine ev_aload_n dX6_hopeOf_11 rfl ?_
    refine ev_get dX6_hopeOf_12 flX6_41_6 hobj rfl ?_
    refine ev_icmp_ge (tgt := 87) dX6_hopeOf_15 (by decide) (fun _ => ?_) (fun h15 => absurd ((Int32.le_refl _)) h15)
    refine ev_aload_n dX6_hopeOf_87 rfl ?_
    refine ev_get dX6_hopeOf_88 flX6_47_6 hobj rfl ?_
    refine ev_if_ne (tgt := 100) dX6_hopeOf_91 (by decide) (fun h91 => ?_) (fun h91 => ?_)
    · refine ev_iload dX6_hopeOf_100 rfl ?_
      refine ev_iret dX6_hopeOf_102 rfl ?_
      first
        | (rw [if_pos h91]; exact ⟨by rw [Int32.zero_sub], rfl⟩)
        | (rw [if_neg h91]; exact ⟨rfl, rfl⟩)
    · refine ev_iload dX6_hopeOf_94 rfl ?_
      refine ev_ineg dX6_hopeOf_96 ?_
      refine ev_goto (tgt := 102) dX6_hopeOf_97 (by decide) ?_
      refine ev_iret dX6_hopeOf_102 rfl ?_
      first
        | (rw [if_pos h91]; exact ⟨by rw [Int32.zero_sub], rfl⟩)
        | (rw [if_neg h91]; exact ⟨rfl, rfl⟩)
  | succ f ih =>
    intro k e q hk
    obtain ⟨hd, hkc⟩ := hH.door hM (show k < n by omega)
    have hdl := hM.dl
    have ht := hM.r 3 (by decide)
    have hr4 := (hV k (by omega)).2.2.2.2
    rw [usd]
    refine ev_iload dX6_hopeOf_9 rfl ?_
    refine ev_aload_n dX6_hopeOf_11 rfl ?_
    refine ev_get dX6_hopeOf_12 flX6_41_6 hobj rfl ?_
    refine ev_icmp_ge (tgt := 87) dX6_hopeOf_15 (by decide) (fun h15 => absurd h15 ((show ¬ nI n ≤ nI k from nI_ge (by omega) (by omega)))) (fun _ => ?_)
    refine ev_iload_n dX6_hopeOf_18 rfl ?_
    refine ev_iload dX6_hopeOf_19 rfl ?_
    refine ev_ishr dX6_hopeOf_21 ?_
    refine ev_iconst (v := 1) dX6_hopeOf_22 (by decide) ?_
    refine ev_iand dX6_hopeOf_23 ?_
    refine ev_if_ne (tgt := 81) dX6_hopeOf_24 (by decide) (fun h24 => ?_) (fun h24 => ?_)
    · refine ev_iinc dX6_hopeOf_81 rfl (by decide) ?_
      dsimp only [List.set]
      refine ev_goto (tgt := 9) dX6_hopeOf_84 (by decide) ?_
      rw [nI_inc]
      first
        | (rw [if_pos (show bt u k = 0 from h24), smK, smK]; exact ih (k + 1) _ _ (by omega))
        | (rw [if_neg (show ¬ bt u k = 0 from h24)]; exact ih (k + 1) _ _ (by omega))
    · refine ev_iload dX6_hopeOf_27 rfl ?_
      refine ev_aload_n dX6_hopeOf_29 rfl ?_
      refine ev_get dX6_hopeOf_30 flX6_37_6 hobj rfl ?_
      refine ev_iload dX6_hopeOf_33 rfl ?_
      refine ev_aald dX6_hopeOf_35 hdl (by decide) (by decide) (ix_n (by omega)) (kDl_at (by omega) hm7) ?_
      refine ev_aload_n dX6_hopeOf_36 rfl ?_
      refine ev_get dX6_hopeOf_37 flX6_44_6 hobj rfl ?_
      refine ev_aload_n dX6_hopeOf_40 rfl ?_
      refine ev_get dX6_hopeOf_41 flX6_37_6 hobj rfl ?_
      refine ev_iload dX6_hopeOf_44 rfl ?_
      refine ev_aald dX6_hopeOf_46 hdl (by decide) (by decide) (ix_n (by omega)) (kDl_at (by omega) hm7) ?_
      refine ev_get dX6_hopeOf_47 (glX6_122 hkc.1) hd rfl ?_
      refine k_sN (c_kThick ht hl3 hr4) (by decide) dX6_hopeOf_50 cbX11_thickOf (List.mem_of_getElem? (i := 5) rfl) (mt3 116 rfl rfl) rfl rfl (Nat.le_of_ble_eq_true rfl) (fun v μ1 hq => ?_)
      obtain ⟨rfl, hμ⟩ := hq
      have hμ := hμ.symm
      subst hμ
      simp only [Option.toList, List.cons_append, List.nil_append]
      rw [eth k]
      refine ev_aload_n dX6_hopeOf_53 rfl ?_
      refine ev_get dX6_hopeOf_54 flX6_44_6 hobj rfl ?_
      refine ev_iconst (v := 5) dX6_hopeOf_57 (by decide) ?_
      refine ev_iald dX6_hopeOf_58 ht ixl5 (gd (by omega)) ?_
      rw [h3]
      refine u_takes dX6_hopeOf_59 (mt4 104 rfl rfl) hkc.1 hd (Nat.le_of_ble_eq_true rfl) ?_
      rw [show (ρ.1 6).getD 5 0 = Se ρ 5 from rfl, hkc.tk]
      refine ev_iadd dX6_hopeOf_62 ?_
      refine ev_istore dX6_hopeOf_63 (by decide) ?_
      dsimp only [List.set]
      refine ev_iload dX6_hopeOf_65 rfl ?_
      refine ev_aload_n dX6_hopeOf_67 rfl ?_
      refine ev_aload_n dX6_hopeOf_68 rfl ?_
      refine ev_get dX6_hopeOf_69 flX6_54_6 hobj rfl ?_
      refine ev_iload dX6_hopeOf_72 rfl ?_
      refine ev_iload_n dX6_hopeOf_74 rfl ?_
      refine k_v (c_kWorthH hM hX (by omega) hn7 mi) (by decide) dX6_hopeOf_75 cbX6_worth (mt4 105 rfl rfl) (mt4 107 rfl rfl) (ms0 37 rfl rfl) (ci := 6) rfl hobj rfl rfl (Nat.le_of_ble_eq_true rfl) (fun v μ1 hq => ?_)
      obtain ⟨rfl, hμ⟩ := hq
      have hμ := hμ.symm
      subst hμ
      simp only [Option.toList, List.cons_append, List.nil_append]
      refine ev_iadd dX6_hopeOf_78 ?_
      refine ev_istore dX6_hopeOf_79 (by decide) ?_
      dsimp only [List.set]
      refine ev_iinc dX6_hopeOf_81 rfl (by decide) ?_
      dsimp only [List.set]
      refine ev_goto (tgt := 9) dX6_hopeOf_84 (by decide) ?_
      rw [nI_inc]
      first
        | (rw [if_pos (show bt u k = 0 from h24), smK, smK]; exact ih (k + 1) _ _ (by omega))
        | (rw [if_neg (show ¬ bt u k = 0 from h24)]; exact ih (k + 1) _ _ (by omega))
theorem c_kHopeOf (hV : VF (Fc ρ)) (hS : VS (Se ρ)) (hn7 : n ≤ 7) (hM : KM a m tx σ μ) (hH : KHs ρ n m σ) (h3 : σ.1 3 = ρ.1 6) (hl3 : (σ.1 3).length = 10) (hX : SX a ρ n t cd so' o σ) (u : Nat) (z : W6) (p : Int32) : Pu g 5 mX6_hopeOf [.ref (a + o), .int z.1, .int (nI u), .int p] μ (hpK (Fc ρ) (Se ρ) (HTs (Fc ρ) (Se ρ) (cdt t cd) (nI so')) (nI so') (usd u n 0) z p) := by
  refine Mt.of0 (ls0 := [some (.ref (a + o)), some (.int z.1), some (.int (nI u)), some (.int p), none, none, none]) (by decide) (by simp [Value.category]) (Nat.le_of_ble_eq_true rfl) rfl ?_
  unfold hpK
  refine ev_iload_n dX6_hopeOf_0 rfl ?_
  refine ev_istore dX6_hopeOf_1 (by decide) ?_
  dsimp only [List.set]
  refine ev_iload_n dX6_hopeOf_3 rfl ?_
  refine ev_istore dX6_hopeOf_4 (by decide) ?_
  dsimp only [List.set]
  refine ev_iconst (v := 0) dX6_hopeOf_6 (by decide) ?_
  refine ev_istore dX6_hopeOf_7 (by decide) ?_
  dsimp only [List.set]
  exact l_kHope hV hS hn7 hM hH h3 hl3 hX n 0 z.1 p (by omega)
end KHOPE2
