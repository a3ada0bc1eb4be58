/-! ===== the class's search: grow, the loop ===== -/
section KGROW2
variable {g : Gl} {a m tx n t o so' : Nat} {ρ : MS} {cd : Nat → List Int32}
theorem c_goOn (hV : VF (Fc ρ)) (hS : VS (Se ρ)) (hn7 : n ≤ 7) {σ0 σ : KS} {μ0 : Mm} (hH : KHs ρ n m σ0) (h3 : σ0.1 3 = ρ.1 6) (hl3 : (σ0.1 3).length = 10) (hX : SX a ρ n t cd so' o σ0) {d u m' : Nat} {P : List Nat} {z : W6} {p s : Int32} {bo : List Nat} {k : Nat} (hP : P.length = d) (hdn : d + (m' + 1) = n) (hu : u < 128) (hul : (usd u n 0).length = m' + 1) (hz : WkO z) (z1 : z.1.toInt + 250 * (m' + 1 : Nat) ≤ 90000) (p0 : 0 ≤ p.toInt) (p1 : p.toInt + 1000 * (m' + 1 : Nat) ≤ 90000) (gz : w6o σ0 (o + 7 + d) = z) (gP : OrdP σ0 (o + 3) P) (l1 : (σ0.1 (o + 1)).length = 7) (l3 : (σ0.1 (o + 3)).length = 7)
    (ih : ∀ (u' : Nat) (P' bo : List Nat) (z' : W6) (p' s : Int32) (σ : KS) (μ : Mm), KHs ρ n m σ → σ.1 3 = ρ.1 6 → SX a ρ n t cd so' o σ → GrP a m tx n o m' (d + 1) u' P' z' p' s bo σ μ → Mt g (6 + 2 * m') mX6_grow [.ref (a + o), .int (nI (d + 1)), .int (nI u'), .int p'] μ (GrQ a m tx o (d + 1) σ μ (srK (VlS ρ t cd so' z' p') P' (pmK m' (usd u' n 0)) (s, bo)))) (hM : KM a m tx σ μ0) (hE : EqD o d σ σ0) (hs : kI σ o 1 = s) (hb : OrdP σ (o + 1) bo) (hkn : k < n) (hbit : bt u k = 0) :
    Mt g (6 + 2 * m' + 1) mX6_goOn [.ref (a + o), .int (nI d), .int (nI u), .int p, .int (nI k)] μ0 (fun v μ' => v = none ∧ (∃ σ', KM a m tx σ' μ' ∧ EqD o d σ' σ0 ∧ kI σ' o 1 = (srK (fun r => vlK (Fc ρ) (Se ρ) (WTs (Fc ρ) (Se ρ) (cdt t cd) (nI so')) (nI so') r (stW (Fc ρ) (Se ρ) z k).1 (p + WTs (Fc ρ) (Se ρ) (cdt t cd) (nI so') k (stW (Fc ρ) (Se ρ) z k).2)) (P ++ [k]) (pmK m' ((usd u n 0).erase k)) (s, bo)).1 ∧ OrdP σ' (o + 1) (srK (fun r => vlK (Fc ρ) (Se ρ) (WTs (Fc ρ) (Se ρ) (cdt t cd) (nI so')) (nI so') r (stW (Fc ρ) (Se ρ) z k).1 (p + WTs (Fc ρ) (Se ρ) (cdt t cd) (nI so') k (stW (Fc ρ) (Se ρ) z k).2)) (P ++ [k]) (pmK m' ((usd u n 0).erase k)) (s, bo)).2) ∧ FC a μ0 μ') := by
  have ho := hX.so
  have ho2 : o = 12 ∨ o = 29 := ho
  have hF : FC a μ0 μ0 := FC.rf
  have hX1 := hX.eqD hE
  have hobj := hM.srch ho hX1.2.2.2.2.1
  rw [hX1.2.2.2.1] at hobj
  have hwl := kWl_at hM ho
  have hH1 := hH.eqD ho hE hn7
  obtain ⟨hd, hkc⟩ := hH1.door hM hkn
  have hm7 := hM.ad.2.2.2.2.2.2.1
  have hnm := hH1.1
  have hda := hM.da (i := k) (by omega)
  have e3 : σ.1 3 = ρ.1 6 := (hE.2.1 3 (by omega) (by omega)).trans h3
  have hl3' : (σ.1 3).length = 10 := by rw [hE.2.1 3 (by omega) (by omega)]; exact hl3
  have gz1 : w6o σ (o + 7 + d) = z := (hE.w6 (Nat.le_refl _) (by omega)).trans gz
  have hk7 : k < 7 := by omega
  have hVh := hV k hk7
  have eS : (fun i => (σ.1 3).getD i 0) = Se ρ := by rw [e3]
  have eth : (σ.1 3).getD (6 + (Fc ρ 4 k).toInt.toNat) 0 = thk (Fc ρ) (Se ρ) k := by rw [e3]; rfl
  have e5 : (σ.1 3).getD 5 0 = Se ρ 5 := by rw [e3]
  have g3 : 1 ≤ ((σ.1 3).getD 3 0).toInt := by rw [e3]; exact hS.2.2.2.1.1
  have g1 : rg ((σ.1 3).getD 1 0) 0 99 := by rw [e3]; exact hS.2.1
  have hu0 : μ0.1 (a + (o + 7 + d)) = some (obj 10 (wkF z)) := by rw [hM.o _ 10 (ho.w (by omega)), ← gz1]; rfl
  have hn0 : μ0.1 (a + (o + 7 + (d + 1))) = some (obj 10 (wkF (w6o σ (o + 7 + (d + 1))))) := hM.o _ 10 (ho.w (by omega))
  obtain ⟨⟨u', hu'⟩, eu, bu⟩ := bt_or ⟨u, hu⟩ ⟨k, hk7⟩
  have eu2 : nI u ||| ((1 : Int32) <<< (nI k &&& 31)) = nI u' := eu
  have bu' : ∀ j, j < 7 → bt u' j = if j = k then 1 else bt u j := fun j hj => by
    have := bu ⟨j, hj⟩
    simp only [Fin.mk.injEq] at this
    exact this
  have eer : usd u' n 0 = (usd u n 0).erase k := usd_erase n 0 (Nat.zero_le _) (by omega) hbit (fun j hj => bu' j (by omega))
  have hmem : k ∈ usd u n 0 := (usd_mem n 0 k).mpr ⟨Nat.zero_le _, by omega, hbit⟩
  obtain ⟨q1, q2, q3, q4⟩ := stW_ok hV hS hk7 hz (by omega)
  obtain ⟨t1, t2⟩ := tks_rg hV hS hk7
  obtain ⟨wa, wb, -, -⟩ := (WH_ok (cd := cdt t cd) hV hS (nI so') k hk7).1 (stW (Fc ρ) (Se ρ) z k).2
  have ep : (p + WTs (Fc ρ) (Se ρ) (cdt t cd) (nI so') k (stW (Fc ρ) (Se ρ) z k).2).toInt = p.toInt + (WTs (Fc ρ) (Se ρ) (cdt t cd) (nI so') k (stW (Fc ρ) (Se ρ) z k).2).toInt := add_i (by omega) (by omega)
  refine Mt.of0 (ls0 := [some (.ref (a + o)), some (.int (nI d)), some (.int (nI u)), some (.int p), some (.int (nI k)), none, none]) (by decide) (by simp [Value.category]) (Nat.le_of_ble_eq_true rfl) rfl ?_
  refine ev_aload_n dX6_goOn_0 rfl ?_
  refine ev_get dX6_goOn_1 flX6_25_6 hobj rfl ?_
  refine ev_iload_n dX6_goOn_4 rfl ?_
  refine ev_iconst (v := 1) dX6_goOn_5 (by decide) ?_
  refine ev_iadd dX6_goOn_6 ?_
  rw [nI_1]
  refine ev_aald dX6_goOn_7 hwl (by decide) (by decide) (ix_n (by omega)) (kWl_i (by omega)) ?_
  refine ev_astore dX6_goOn_8 (by decide) ?_
  dsimp only [List.set]
  refine ev_aload dX6_goOn_10 rfl ?_
  refine ev_aload_n dX6_goOn_12 rfl ?_
  refine ev_get dX6_goOn_13 flX6_25_6 hobj rfl ?_
  refine ev_iload_n dX6_goOn_16 rfl ?_
  refine ev_aald dX6_goOn_17 hwl (by decide) (by decide) (ix_n (by omega)) (kWl_i (by omega)) ?_
  refine k_v (c_follow (z := w6o σ (o + 7 + (d + 1))) (z' := z) hn0 hu0 (by omega) hz.2.2) (by omega) dX6_goOn_18 cbX10_follow (mt4 114 rfl rfl) (mt4 115 rfl rfl) (mt4 116 rfl rfl) (ci := 10) rfl hn0 rfl rfl (Nat.le_of_ble_eq_true rfl) (fun v μ1 hq => ?_)
  obtain ⟨rfl, hμ⟩ := hq
  have hM1 := hM.walk (o := o + 7 + (d + 1)) (ho.w (by omega)) hμ
  have hE1 : EqD o d (ksO σ (o + 7 + (d + 1)) (w6f z)) σ0 := hE.walk (by omega) (by omega)
  have hF1 : FC a μ0 μ1 := by rw [hμ]; exact hF.upd (by omega)
  clear hobj hwl hd hu0 hn0
  have hobj := hM1.srch ho (hX.eqD hE1).2.2.2.2.1
  rw [(hX.eqD hE1).2.2.2.1] at hobj
  have hwl := kWl_at hM1 ho
  have hH2 := hH.eqD ho hE1 hn7
  obtain ⟨hd, hkc2⟩ := hH2.door hM1 hkn
  have hn0 : μ1.1 (a + (o + 7 + (d + 1))) = some (obj 10 (wkF z)) := by rw [hμ]; exact mupd_eq
  clear hμ hM hF
  have hM := hM1
  have hF := hF1
  simp only [Option.toList, List.cons_append, List.nil_append]
  refine ev_aload dX6_goOn_21 rfl ?_
  refine ev_aload_n dX6_goOn_23 rfl ?_
  refine ev_get dX6_goOn_24 flX6_37_6 hobj rfl ?_
  refine ev_iload dX6_goOn_27 rfl ?_
  refine ev_aald dX6_goOn_29 hM.dl (by decide) (by decide) (ix_n (by omega)) (kDl_at (by omega) hm7) ?_
  refine ev_aload_n dX6_goOn_30 rfl ?_
  refine ev_get dX6_goOn_31 flX6_44_6 hobj rfl ?_
  refine k_v (c_visit (z := z) (T := σ.1 3) hn0 (hM.r 3 (by decide)) hl3' (by omega) g3 g1 hz.2.1 hkc.1 hd (show (kD σ k).1 ≠ a + (o + 7 + (d + 1)) by omega) hVh.2.2.1 hVh.2.2.2.2) (by omega) dX6_goOn_34 cbX10_visit (mt4 118 rfl rfl) (mt3 207 rfl rfl) (mt3 208 rfl rfl) (ci := 10) rfl hn0 rfl rfl (Nat.le_of_ble_eq_true rfl) (fun v μ1 hq => ?_)
  obtain ⟨rfl, hμ⟩ := hq
  rw [eth, e5, hkc.tk, eS] at hμ
  rw [eth, eS]
  obtain ⟨σ2, hM2, hE2, hw2, hr2, hs2⟩ : ∃ σ2, KM a m tx σ2 μ1 ∧ EqD o d σ2 σ0 ∧ w6o σ2 (o + 7 + (d + 1)) = (stW (Fc ρ) (Se ρ) z k).1 ∧ σ2.1 = σ.1 ∧ kI σ2 o 1 = s := by
    refine ⟨_, hM.walk (o := o + 7 + (d + 1)) (ho.w (by omega)) hμ, hE1.walk (by omega) (by omega), ?_, rfl, ?_⟩
    · unfold w6o
      rw [ksO_eq]; rfl
    · exact (ksO_ne (by omega)).trans ((ksO_ne (by omega)).trans hs)
  have hF2 : FC a μ0 μ1 := by rw [hμ]; exact hF.upd (by omega)
  have ev : visA (Se ρ) (Fc ρ 2 k) (Fc ρ 3 k) (heapW (Se ρ) (thk (Fc ρ) (Se ρ) k) z) = (stW (Fc ρ) (Se ρ) z k).2 := rfl
  rw [ev]
  generalize (stW (Fc ρ) (Se ρ) z k).2 = rch at *
  clear hobj hwl hd hn0 hμ hM hF
  have hM := hM2
  have hF := hF2
  have hobj := hM.srch ho (hX.eqD hE2).2.2.2.2.1
  rw [(hX.eqD hE2).2.2.2.1] at hobj
  have hl2 : (σ2.1 (o + 3)).length = 7 := hE2.2.2.2.2.1.trans l3
  simp only [Option.toList, List.cons_append, List.nil_append]
  refine ev_istore dX6_goOn_37 (by decide) ?_
  dsimp only [List.set]
  refine ev_aload_n dX6_goOn_39 rfl ?_
  refine ev_get dX6_goOn_40 flX6_29_6 hobj rfl ?_
  refine ev_iload_n dX6_goOn_43 rfl ?_
  refine ev_iload dX6_goOn_44 rfl ?_
  refine evK_iast hM hF (k := o + 3) (ho.r (by omega)) dX6_goOn_46 (ix_n (by omega)) (show d < (σ2.1 (o + 3)).length by omega) (fun μ hM hF => ?_)
  have hE3 := hE2.trial (v := nI k)
  have hX3 := hX.eqD hE3
  have hobj := hM.srch ho hX3.2.2.2.2.1
  rw [hX3.2.2.2.1] at hobj
  have hPk : OrdP (ksR σ2 (o + 3) ((σ2.1 (o + 3)).set d (nI k))) (o + 3) (P ++ [k]) := by
    intro i x hx
    show (if o + 3 = o + 3 then (σ2.1 (o + 3)).set d (nI k) else _)[i]? = some (nI x)
    rw [if_pos rfl]
    by_cases e : i = d
    · subst e
      rw [List.getElem?_append_right (by omega), hP, Nat.sub_self] at hx
      have : k = x := Option.some.inj hx
      rw [List.getElem?_set_self (by omega), this]
    · have hi : i < d := by
        have := (List.getElem?_eq_some_iff.mp hx).1
        rw [List.length_append, hP] at this
        simp only [List.length_cons, List.length_nil] at this
        omega
      rw [List.getElem?_append_left (by omega)] at hx
      rw [List.getElem?_set_ne (by omega), hE2.2.2.2.2.2 i hi]
      exact gP i x hx
  have hbo : OrdP (ksR σ2 (o + 3) ((σ2.1 (o + 3)).set d (nI k))) (o + 1) bo := by
    intro i x hx
    show (if o + 1 = o + 3 then _ else σ2.1 (o + 1))[i]? = some (nI x)
    rw [if_neg (by omega), hr2]; exact hb i x hx
  have hlo : ((ksR σ2 (o + 3) ((σ2.1 (o + 3)).set d (nI k))).1 (o + 1)).length = 7 := hE3.2.2.2.1.trans l1
  have hlt : ((ksR σ2 (o + 3) ((σ2.1 (o + 3)).set d (nI k))).1 (o + 3)).length = 7 := hE3.2.2.2.2.1.trans l3
  refine ev_aload_n dX6_goOn_47 rfl ?_
  refine ev_iload_n dX6_goOn_48 rfl ?_
  refine ev_iconst (v := 1) dX6_goOn_49 (by decide) ?_
  refine ev_iadd dX6_goOn_50 ?_
  rw [nI_1]
  refine ev_iload_n dX6_goOn_51 rfl ?_
  refine ev_iconst (v := 1) dX6_goOn_52 (by decide) ?_
  refine ev_iload dX6_goOn_53 rfl ?_
  refine ev_ishl dX6_goOn_55 ?_
  refine ev_ior dX6_goOn_56 ?_
  rw [eu2]
  refine ev_iload_n dX6_goOn_57 rfl ?_
  refine ev_aload_n dX6_goOn_58 rfl ?_
  refine ev_aload_n dX6_goOn_59 rfl ?_
  refine ev_get dX6_goOn_60 flX6_51_6 hobj rfl ?_
  refine ev_iload dX6_goOn_63 rfl ?_
  refine ev_iload dX6_goOn_65 rfl ?_
  refine k_v (c_kWorthG hM hX3 hkn hn7 _) (by omega) dX6_goOn_67 cbX6_worth (mt4 105 rfl rfl) (mt4 107 rfl rfl) (ms0 37 rfl rfl) (ci := 6) rfl hobj rfl rfl (Nat.le_of_ble_eq_true rfl) (fun v μ1 hq => ?_)
  obtain ⟨rfl, hμ⟩ := hq
  have hμ := hμ.symm
  subst hμ
  simp only [Option.toList, List.cons_append, List.nil_append]
  refine ev_iadd dX6_goOn_70 ?_
  refine k_v (ih u' (P ++ [k]) bo (stW (Fc ρ) (Se ρ) z k).1 _ s _ _ (hH.eqD ho hE3 hn7) ((hE3.2.1 3 (by omega) (by omega)).trans h3) hX3 ⟨by simp [hP], by omega, hu', by rw [eer, List.length_erase_of_mem hmem, hul]; rfl, hw2, q1, by omega, by omega, by omega, hPk, hM, hs2, hbo, hlo, hlt⟩) (by omega) dX6_goOn_71 cbX6_grow (mt4 95 rfl rfl) (mt4 97 rfl rfl) (ms0 35 rfl rfl) (ci := 6) rfl hobj rfl rfl (Nat.le_of_ble_eq_true rfl) (fun v μ1 hq => ?_)
  obtain ⟨rfl, ⟨σ4, hM4, hE4, hs4, hb4⟩, hF4⟩ := hq
  rw [eer] at hs4 hb4
  simp only [Option.toList, List.cons_append, List.nil_append]
  refine ev_vret dX6_goOn_74 rfl ?_
  exact ⟨rfl, ⟨σ4, hM4, (hE4.wk (by omega)).tr hE3, hs4, hb4⟩, hF.tr hF4⟩
theorem l_grow (hV : VF (Fc ρ)) (hS : VS (Se ρ)) (hn7 : n ≤ 7) {σ0 : KS} {μ0 : Mm} (hH : KHs ρ n m σ0) (h3 : σ0.1 3 = ρ.1 6) (hl3 : (σ0.1 3).length = 10) (hX : SX a ρ n t cd so' o σ0) {d u m' : Nat} {P : List Nat} {z : W6} {p hp : Int32} (hP : P.length = d) (hdn : d + (m' + 1) = n) (hu : u < 128) (hul : (usd u n 0).length = m' + 1) (hz : WkO z) (z1 : z.1.toInt + 250 * (m' + 1 : Nat) ≤ 90000) (p0 : 0 ≤ p.toInt) (p1 : p.toInt + 1000 * (m' + 1 : Nat) ≤ 90000) (gz : w6o σ0 (o + 7 + d) = z) (gP : OrdP σ0 (o + 3) P) (l1 : (σ0.1 (o + 1)).length = 7) (l3 : (σ0.1 (o + 3)).length = 7)
    (ih : ∀ (u' : Nat) (P' bo : List Nat) (z' : W6) (p' s : Int32) (σ : KS) (μ : Mm), KHs ρ n m σ → σ.1 3 = ρ.1 6 → SX a ρ n t cd so' o σ → GrP a m tx n o m' (d + 1) u' P' z' p' s bo σ μ → Mt g (6 + 2 * m') mX6_grow [.ref (a + o), .int (nI (d + 1)), .int (nI u'), .int p'] μ (GrQ a m tx o (d + 1) σ μ (srK (VlS ρ t cd so' z' p') P' (pmK m' (usd u' n 0)) (s, bo)))) : ∀ (f k : Nat) (s : Int32) (bo : List Nat) (σ : KS) (μ : Mm), k + f = n → KM a m tx σ μ → EqD o d σ σ0 → kI σ o 1 = s → OrdP σ (o + 1) bo → FC a μ0 μ → Ev g (6 + 2 * m' + 1 + 1) mX6_grow 62 [some (.ref (a + o)), some (.int (nI d)), some (.int (nI u)), some (.int p), some (.int hp), some (.int (nI k))] [] μ (fun v μ' => v = none ∧ (∃ σ', KM a m tx σ' μ' ∧ EqD o d σ' σ0 ∧ kI σ' o 1 = (srH (Fc ρ) (Se ρ) (WTs (Fc ρ) (Se ρ) (cdt t cd) (nI so')) (nI so') P z p (usd u n 0) m' (usd u f k) (s, bo)).1 ∧ OrdP σ' (o + 1) (srH (Fc ρ) (Se ρ) (WTs (Fc ρ) (Se ρ) (cdt t cd) (nI so')) (nI so') P z p (usd u n 0) m' (usd u f k) (s, bo)).2) ∧ FC a μ0 μ') := by
  have ho := hX.so
  have ho2 : o = 12 ∨ o = 29 := ho
  intro f
  induction f with
  | zero =>
    intro k s bo σ μ hk hM hE hs hb hF
    have hobj := hM.srch ho (hX.eqD hE).2.2.2.2.1
    rw [(hX.eqD hE).2.2.2.1] at hobj
    have e : k = n := by omega
    subst e
    rw [usd, srH]
    refine ev_iload dX6_grow_62 rfl ?_
    refine ev_aload_n dX6_grow_64 rfl ?_
    refine ev_get dX6_grow_65 flX6_41_6 hobj rfl ?_
    refine ev_icmp_ge (tgt := 95) dX6_grow_68 (by decide) (fun _ => ?_) (fun h68 => absurd ((Int32.le_refl _)) h68)
    refine ev_vret dX6_grow_95 rfl ?_
    exact ⟨rfl, ⟨σ, hM, hE, hs, hb⟩, hF⟩
  | succ f ihf =>
    intro k s bo σ μ hk hM hE hs hb hF
    have hX1 := hX.eqD hE
    have hobj := hM.srch ho hX1.2.2.2.2.1
    rw [hX1.2.2.2.1] at hobj
    have hwl := kWl_at hM ho
    have hkn : k < n := by omega
    rw [usd]
    by_cases hbit : bt u k = 0
    · rw [if_pos hbit, srH]
      refine ev_iload dX6_grow_62 rfl ?_
      refine ev_aload_n dX6_grow_64 rfl ?_
      refine ev_get dX6_grow_65 flX6_41_6 hobj rfl ?_
      refine ev_icmp_ge (tgt := 95) dX6_grow_68 (by decide) (fun h68 => absurd h68 ((show ¬ nI n ≤ nI k from nI_ge (by omega) (by omega)))) (fun _ => ?_)
      refine ev_iload_n dX6_grow_71 rfl ?_
      refine ev_iload dX6_grow_72 rfl ?_
      refine ev_ishr dX6_grow_74 ?_
      refine ev_iconst (v := 1) dX6_grow_75 (by decide) ?_
      refine ev_iand dX6_grow_76 ?_
      refine ev_if_ne (tgt := 89) dX6_grow_77 (by decide) (fun h77 => absurd (hbit) h77) (fun _ => ?_)
      refine ev_aload_n dX6_grow_80 rfl ?_
      refine ev_iload_n dX6_grow_81 rfl ?_
      refine ev_iload_n dX6_grow_82 rfl ?_
      refine ev_iload_n dX6_grow_83 rfl ?_
      refine ev_iload dX6_grow_84 rfl ?_
      refine k_v (c_goOn hV hS hn7 hH h3 hl3 hX hP hdn hu hul hz z1 p0 p1 gz gP l1 l3 ih hM hE hs hb hkn hbit) (by omega) dX6_grow_86 cbX6_goOn (mt4 110 rfl rfl) (mt4 112 rfl rfl) (ms0 38 rfl rfl) (ci := 6) rfl hobj rfl rfl (Nat.le_of_ble_eq_true rfl) (fun v μ1 hq => ?_)
      obtain ⟨rfl, ⟨σ4, hM4, hE4, hs4, hb4⟩, hF4⟩ := hq
      simp only [Option.toList, List.cons_append, List.nil_append]
      refine ev_iinc dX6_grow_89 rfl (by decide) ?_
      dsimp only [List.set]
      refine ev_goto (tgt := 62) dX6_grow_92 (by decide) ?_
      rw [nI_inc]
      exact ihf (k + 1) _ _ σ4 _ (by omega) hM4 hE4 hs4 hb4 (hF.tr hF4)
    · rw [if_neg hbit]
      refine ev_iload dX6_grow_62 rfl ?_
      refine ev_aload_n dX6_grow_64 rfl ?_
      refine ev_get dX6_grow_65 flX6_41_6 hobj rfl ?_
      refine ev_icmp_ge (tgt := 95) dX6_grow_68 (by decide) (fun h68 => absurd h68 ((show ¬ nI n ≤ nI k from nI_ge (by omega) (by omega)))) (fun _ => ?_)
      refine ev_iload_n dX6_grow_71 rfl ?_
      refine ev_iload dX6_grow_72 rfl ?_
      refine ev_ishr dX6_grow_74 ?_
      refine ev_iconst (v := 1) dX6_grow_75 (by decide) ?_
      refine ev_iand dX6_grow_76 ?_
      refine ev_if_ne (tgt := 89) dX6_grow_77 (by decide) (fun _ => ?_) (fun h77 => absurd h77 (hbit))
      refine ev_iinc dX6_grow_89 rfl (by decide) ?_
      dsimp only [List.set]
      refine ev_goto (tgt := 62) dX6_grow_92 (by decide) ?_
      rw [nI_inc]
      exact ihf (k + 1) s bo σ μ (by omega) hM hE hs hb hF
end KGROW2
