/-! ===== the class: at, round, shifted ===== -/
/-- the class's world between calls -/
def KV (a : Nat) (ρ : MS) (n t tx : Nat) (cd : Nat → List Int32) (Lf : Nat → Nat) (m : Nat) (μ : Mm) : Prop := ∃ σ, KM a m tx σ μ ∧ KTie ρ n t tx cd Lf m σ
theorem rngK_or {F : Nat → Nat → Int32} {S : Nat → Int32} {cd : Nat → List Int32} {th : List Int32} {w : Int32} : ∀ (m k : Nat) (s : Int32), rngK F S cd th m k (w ||| s) = w ||| rngK F S cd th m k s := by
  intro m
  induction m with
  | zero => intro k s; rfl
  | succ m ih => intro k s; rw [rngK, rngK, Int32.or_assoc, ih]
section KQUERY
variable {g : Gl} {a m tx n t : Nat} {ρ : MS} {cd : Nat → List Int32} {Lf : Nat → Nat} {σ : KS} {μ : Mm}
abbrev GlQ (a m tx t : Nat) (ρ : MS) (n : Nat) (Lf : Nat → Nat) (σ : KS) (μ μ' : Mm) : Prop := (∃ σ', KM a m tx σ' μ' ∧ ScK t σ' σ ∧ kI σ' 9 1 = (rd0 (Fc ρ) (Se ρ) (lsO n Lf)).2.1 ∧ ∀ h, h < n → (σ'.1 10).getD h 0 = (thr ρ n Lf).getD h 0) ∧ FC a μ μ'
theorem c_kGoList (hI : IM ρ n t tx cd Lf) (hM : KM a m tx σ μ) (hT : KTie ρ n t tx cd Lf m σ) : Mt g 5 mX11_goList [.ref a] μ (fun v μ' => v = some (.int (rd0 (Fc ρ) (Se ρ) (lsO n Lf)).1) ∧ GlQ a m tx t ρ n Lf σ μ μ') := by
  refine Mt.of0 (ls0 := [some (.ref a)]) (by decide) (by simp [Value.category]) (Nat.le_of_ble_eq_true rfl) rfl ?_
  have hn7 := hI.2.2.1.2
  have hl10 := hT.ln (k := 10) (z := 7) (by decide)
  refine ev_aload_n dX11_goList_0 rfl ?_
  refine ev_aload_n dX11_goList_1 rfl ?_
  refine ev_get dX11_goList_2 flX11_19_11 (hM.o 0 11 (by decide)) rfl ?_
  refine ev_iconst (v := 0) dX11_goList_5 (by decide) ?_
  refine ev_aload_n dX11_goList_6 rfl ?_
  refine ev_get dX11_goList_7 flX11_15_11 (hM.o 0 11 (by decide)) rfl ?_
  rw [hT.hc]
  refine k_v (c_kGo (fr := 0) (os := lsO n Lf) hI.1 hI.2.1 hn7 hM hT (o := 2) (Or.inl rfl) (fun i h hh => by obtain ⟨q1, rfl⟩ := lsO_at hh; rw [Nat.zero_add]; exact ⟨hT.ls i q1, (hI.2.2.2.2.2.2.1 i q1).2⟩) (by rw [lsO_len, Nat.zero_add]) hn7) (by decide) dX11_goList_10 cbX11_goThrough (mt3 194 rfl rfl) (mt3 196 rfl rfl) (ms0 22 rfl rfl) (ci := 11) rfl (hM.o 0 11 (by decide)) rfl rfl (Nat.le_of_ble_eq_true rfl) (fun v μ1 hq => ?_)
  obtain ⟨rfl, ⟨σ', hM', hE', hl', hb', ha'⟩, hF'⟩ := hq
  simp only [Option.toList, List.cons_append, List.nil_append]
  refine ev_iret dX11_goList_13 rfl ?_
  exact ⟨rfl, ⟨σ', hM', ScK.of10 hE' (hl'.trans hl10.symm), hb', fun h hh => ha' h (lsO_all hI.2.2.2.2.2.2.2 h hh)⟩, hF'⟩
theorem c_kAt (hI : IM ρ n t tx cd Lf) (hM : KM a m tx σ μ) (hT : KTie ρ n t tx cd Lf m σ) (h w : Int32) : Mt g 7 mX11_at [.ref a, .int h, .int w] μ (fun v μ' => v = some (.int (ansAt ρ n t cd Lf h w)) ∧ KV a ρ n t tx cd Lf m μ' ∧ FC a μ μ') := by
  refine Mt.of0 (ls0 := [some (.ref a), some (.int h), some (.int w), none]) (by decide) (by simp [Value.category]) (Nat.le_of_ble_eq_true rfl) rfl ?_
  have hn7 := hI.2.2.1.2
  have ht := hI.2.2.2.1.2
  by_cases hh : 0 ≤ h ∧ h < nI n
  · obtain ⟨hl, eh⟩ := house_n hn7 hh.1 hh.2
    rw [ansAt]
    generalize h.toInt.toNat = h' at hl eh ⊢
    subst eh
    refine ev_aload_n dX11_at_0 rfl ?_
    refine ev_iload_n dX11_at_1 rfl ?_
    refine k_v (c_doorOf hM hT.hc hT.nm hl) (by decide) dX11_at_2 cbX11_doorOf (mt3 61 rfl rfl) (mt3 63 rfl rfl) (ms0 17 rfl rfl) (ci := 11) rfl (hM.o 0 11 (by decide)) rfl rfl (Nat.le_of_ble_eq_true rfl) (fun v μ1 hq => ?_)
    obtain ⟨rfl, hμ⟩ := hq; have hμ := hμ.symm; subst hμ
    simp only [Option.toList, List.cons_append, List.nil_append]
    refine ev_astore_n dX11_at_5 (by decide) ?_
    dsimp only [List.set]
    refine ev_aload_n dX11_at_6 rfl ?_
    refine ev_ifnull dX11_at_7 ?_
    refine ev_iload_n dX11_at_10 rfl ?_
    refine ev_if_lt (tgt := 19) dX11_at_11 (by decide) (fun h11 => ?_) (fun h11 => ?_)
    · refine ev_bipush (v := (-2)) dX11_at_19 (by decide) ?_
      refine ev_iret dX11_at_21 rfl ?_
      rw [if_neg (fun q => by first | exact Int32.not_lt.mpr q.2.1 h11 | exact h16 q.2.2)]
      exact ⟨rfl, ⟨σ, hM, hT⟩, FC.rf⟩
    · refine ev_iload_n dX11_at_14 rfl ?_
      refine ev_iconst (v := 2) dX11_at_15 (by decide) ?_
      refine ev_icmp_le (tgt := 22) dX11_at_16 (by decide) (fun h16 => ?_) (fun h16 => ?_)
      · refine ev_aload_n dX11_at_22 rfl ?_
        refine k_v (c_kGoList hI hM hT) (by decide) dX11_at_23 cbX11_goList (mt3 190 rfl rfl) (mt3 192 rfl rfl) (ms0 21 rfl rfl) (ci := 11) rfl (hM.o 0 11 (by decide)) rfl rfl (Nat.le_of_ble_eq_true rfl) (fun v μ1 hq => ?_)
        obtain ⟨rfl, ⟨σ1, hM1, hE1, hb1, ha1⟩, hF1⟩ := hq
        have hT1 := hT.sc hE1
        have eD := hE1.rest.1
        have hl10 := hT1.ln (k := 10) (z := 7) (by decide)
        clear hM
        have hM := hM1
        rw [if_pos ⟨hh, Int32.not_lt.mp h11, h16⟩, ← eD]
        simp only [Option.toList, List.cons_append, List.nil_append]
        refine ev_pop dX11_at_26 rfl ?_
        refine ev_iload_n dX11_at_27 rfl ?_
        refine ev_if_ne (tgt := 38) dX11_at_28 (by decide) (fun h28 => ?_) (fun h28 => ?_)
        · refine ev_iload_n dX11_at_38 rfl ?_
          refine ev_iconst (v := 1) dX11_at_39 (by decide) ?_
          refine ev_icmp_ne (tgt := 51) dX11_at_40 (by decide) (fun h40 => ?_) (fun h40 => ?_)
          · refine ev_aload_n dX11_at_51 rfl ?_
            refine ev_aload_n dX11_at_52 rfl ?_
            refine k_v (c_kGiftOf hM hT1 ht hn7 hl) (by decide) dX11_at_53 cbX11_giftOf (mt3 225 rfl rfl) (mt3 227 rfl rfl) (ms0 26 rfl rfl) (ci := 11) rfl (hM.o 0 11 (by decide)) rfl rfl (Nat.le_of_ble_eq_true rfl) (fun v μ1 hq => ?_)
            obtain ⟨rfl, ⟨σ2, hM2, hE2⟩, hF2⟩ := hq
            rw [ltv_th (ha1 h' hl)]
            simp only [Option.toList, List.cons_append, List.nil_append]
            refine ev_iret dX11_at_56 rfl ?_
            first
              | (rw [if_neg h28, if_pos h40]; exact ⟨rfl, ⟨σ2, hM2, hT1.sc hE2.sc⟩, hF1.tr hF2⟩)
              | (rw [if_neg h28, if_neg h40]; exact ⟨rfl, ⟨σ2, hM2, hT1.sc hE2.sc⟩, hF1.tr hF2⟩)
          · refine ev_aload_n dX11_at_43 rfl ?_
            refine ev_aload_n dX11_at_44 rfl ?_
            refine k_v (c_kLate hM hT1 ht hn7 hl) (by decide) dX11_at_45 cbX11_lateness (mt3 220 rfl rfl) (mt3 222 rfl rfl) (ms0 25 rfl rfl) (ci := 11) rfl (hM.o 0 11 (by decide)) rfl rfl (Nat.le_of_ble_eq_true rfl) (fun v μ1 hq => ?_)
            obtain ⟨rfl, ⟨σ2, hM2, hE2⟩, hF2⟩ := hq
            rw [ltv_th (ha1 h' hl)]
            simp only [Option.toList, List.cons_append, List.nil_append]
            refine ev_goto (tgt := 56) dX11_at_48 (by decide) ?_
            refine ev_iret dX11_at_56 rfl ?_
            first
              | (rw [if_neg h28, if_pos h40]; exact ⟨rfl, ⟨σ2, hM2, hT1.sc hE2.sc⟩, hF1.tr hF2⟩)
              | (rw [if_neg h28, if_neg h40]; exact ⟨rfl, ⟨σ2, hM2, hT1.sc hE2.sc⟩, hF1.tr hF2⟩)
        · refine ev_aload_n dX11_at_31 rfl ?_
          refine ev_get dX11_at_32 flX11_66_11 (hM.o 0 11 (by decide)) rfl ?_
          refine ev_iload_n dX11_at_35 rfl ?_
          refine ev_iald dX11_at_36 (hM.r 10 (by decide)) (ix_n (by omega)) (gd (show h' < (σ1.1 10).length by omega)) ?_
          refine ev_iret dX11_at_37 rfl ?_
          rw [if_pos h28, ← ha1 h' hl]
          exact ⟨rfl, ⟨σ1, hM, hT1⟩, hF1⟩
      · refine ev_bipush (v := (-2)) dX11_at_19 (by decide) ?_
        refine ev_iret dX11_at_21 rfl ?_
        rw [if_neg (fun q => by first | exact Int32.not_lt.mpr q.2.1 h11 | exact h16 q.2.2)]
        exact ⟨rfl, ⟨σ, hM, hT⟩, FC.rf⟩
  · rw [ansAt, if_neg (fun q => hh q.1)]
    refine ev_aload_n dX11_at_0 rfl ?_
    refine ev_iload_n dX11_at_1 rfl ?_
    refine k_v (c_doorNo hM hT.hc hh) (by decide) dX11_at_2 cbX11_doorOf (mt3 61 rfl rfl) (mt3 63 rfl rfl) (ms0 17 rfl rfl) (ci := 11) rfl (hM.o 0 11 (by decide)) rfl rfl (Nat.le_of_ble_eq_true rfl) (fun v μ1 hq => ?_)
    obtain ⟨rfl, hμ⟩ := hq; have hμ := hμ.symm; subst hμ
    simp only [Option.toList, List.cons_append, List.nil_append]
    refine ev_astore_nN dX11_at_5 (by decide) ?_
    dsimp only [List.set]
    refine ev_aload_nN dX11_at_6 rfl ?_
    refine ev_ifnullN (tgt := 19) dX11_at_7 (by decide) ?_
    refine ev_bipush (v := (-2)) dX11_at_19 (by decide) ?_
    refine ev_iret dX11_at_21 rfl ?_
    exact ⟨rfl, ⟨σ, hM, hT⟩, FC.rf⟩
theorem c_kRound (hI : IM ρ n t tx cd Lf) (hM : KM a m tx σ μ) (hT : KTie ρ n t tx cd Lf m σ) (w : Int32) : Mt g 8 mX11_round [.ref a, .int w] μ (fun v μ' => v = some (.int (ansRound ρ n t cd Lf w)) ∧ KV a ρ n t tx cd Lf m μ' ∧ FC a μ μ') := by
  refine Mt.of0 (ls0 := [some (.ref a), some (.int w), none]) (by decide) (by simp [Value.category]) (Nat.le_of_ble_eq_true rfl) rfl ?_
  have hn7 := hI.2.2.1.2
  have ht := hI.2.2.2.1.2
  rw [ansRound]
  refine ev_aload_n dX11_round_0 rfl ?_
  refine k_v (c_kGoList hI hM hT) (by decide) dX11_round_1 cbX11_goList (mt3 190 rfl rfl) (mt3 192 rfl rfl) (ms0 21 rfl rfl) (ci := 11) rfl (hM.o 0 11 (by decide)) rfl rfl (Nat.le_of_ble_eq_true rfl) (fun v μ1 hq => ?_)
  obtain ⟨rfl, ⟨σ1, hM1, hE1, hb1, ha1⟩, hF1⟩ := hq
  have hT1 := hT.sc hE1
  have hth : ∀ h, h < 0 + n → (σ1.1 10).getD h 0 = (thr ρ n Lf).getD h 0 := fun h q => ha1 h (by omega)
  clear hM
  have hM := hM1
  simp only [Option.toList, List.cons_append, List.nil_append]
  refine ev_istore_n dX11_round_4 (by decide) ?_
  dsimp only [List.set]
  refine ev_iload_n dX11_round_5 rfl ?_
  by_cases hs6 : (w).toInt < 0 ∨ 4 < (w).toInt
  · refine ev_tout (tgt := 69) dX11_round_6 hs6 (by decide) ?_
    have hn6_0 : ¬ (w) = 0 := fun q => by rw [q] at hs6; revert hs6; decide
    have hn6_1 : ¬ (w) = 1 := fun q => by rw [q] at hs6; revert hs6; decide
    have hn6_2 : ¬ (w) = 2 := fun q => by rw [q] at hs6; revert hs6; decide
    have hn6_3 : ¬ (w) = 3 := fun q => by rw [q] at hs6; revert hs6; decide
    have hn6_4 : ¬ (w) = 4 := fun q => by rw [q] at hs6; revert hs6; decide
    refine ev_bipush (v := (-2)) dX11_round_69 (by decide) ?_
    refine ev_iret dX11_round_71 rfl ?_
    have q : ¬ (0 ≤ w ∧ w ≤ 4) := fun q => by
      have q1 := q.1
      have q2 := q.2
      rw [Int32.le_iff_toInt_le] at q1 q2
      simp only [Int32.reduceToInt] at q1 q2
      omega
    rw [if_neg q]
    exact ⟨rfl, ⟨σ1, hM, hT1⟩, hF1⟩
  have hs6 : (w).toInt = 0 ∨ (w).toInt = 1 ∨ (w).toInt = 2 ∨ (w).toInt = 3 ∨ (w).toInt = 4 := by omega
  rcases hs6 with hs6 | hs6 | hs6 | hs6 | hs6
  · refine ev_tin (off := 34) (tgt := 40) dX11_round_6 (by omega) (by omega) (by rw [hs6]; rfl) (by decide) ?_
    have he6 : (w) = 0 := Int32.toInt_inj.mp (hs6.trans (by decide))
    refine ev_iload_n dX11_round_40 rfl ?_
    refine ev_iret dX11_round_41 rfl ?_
    have q : 0 ≤ w ∧ w ≤ 4 := by rw [he6]; decide
    rw [if_pos q, if_pos he6]
    exact ⟨rfl, ⟨σ1, hM, hT1⟩, hF1⟩
  · refine ev_tin (off := 36) (tgt := 42) dX11_round_6 (by omega) (by omega) (by rw [hs6]; rfl) (by decide) ?_
    have he6 : (w) = 1 := Int32.toInt_inj.mp (hs6.trans (by decide))
    refine ev_aload_n dX11_round_42 rfl ?_
    refine ev_get dX11_round_43 flX11_62_11 (hM.o 0 11 (by decide)) rfl ?_
    refine ev_get dX11_round_46 flX11_192_10 (hM.o 9 10 (by decide)) rfl ?_
    refine ev_iret dX11_round_49 rfl ?_
    have q : 0 ≤ w ∧ w ≤ 4 := by rw [he6]; decide
    rw [if_pos q, he6, if_neg (by decide), if_pos rfl, hb1]
    exact ⟨rfl, ⟨σ1, hM, hT1⟩, hF1⟩
  · refine ev_tin (off := 44) (tgt := 50) dX11_round_6 (by omega) (by omega) (by rw [hs6]; rfl) (by decide) ?_
    have he6 : (w) = 2 := Int32.toInt_inj.mp (hs6.trans (by decide))
    refine ev_aload_n dX11_round_50 rfl ?_
    refine k_v (c_kLateCount hM hT1 ht hn7) (by decide) dX11_round_51 cbX11_lateCount (mt4 21 rfl rfl) (mt4 23 rfl rfl) (ms0 27 rfl rfl) (ci := 11) rfl (hM.o 0 11 (by decide)) rfl rfl (Nat.le_of_ble_eq_true rfl) (fun v μ1 hq => ?_)
    obtain ⟨rfl, ⟨σ2, hM2, hE2⟩, hF2⟩ := hq
    rw [lmnK_th n 0 0 hth]
    simp only [Option.toList, List.cons_append, List.nil_append]
    refine ev_iret dX11_round_54 rfl ?_
    have q : 0 ≤ w ∧ w ≤ 4 := by rw [he6]; decide
    rw [if_pos q, he6, if_neg (by decide), if_neg (by decide), if_pos rfl]
    exact ⟨rfl, ⟨σ2, hM2, hT1.sc hE2.sc⟩, hF1.tr hF2⟩
  · refine ev_tin (off := 49) (tgt := 55) dX11_round_6 (by omega) (by omega) (by rw [hs6]; rfl) (by decide) ?_
    have he6 : (w) = 3 := Int32.toInt_inj.mp (hs6.trans (by decide))
    refine ev_aload_n dX11_round_55 rfl ?_
    refine k_v (c_kRinging hM hT1 ht hn7) (by decide) dX11_round_56 cbX11_ringing (mt4 25 rfl rfl) (mt4 27 rfl rfl) (ms0 28 rfl rfl) (ci := 11) rfl (hM.o 0 11 (by decide)) rfl rfl (Nat.le_of_ble_eq_true rfl) (fun v μ1 hq => ?_)
    obtain ⟨rfl, ⟨σ2, hM2, hE2⟩, hF2⟩ := hq
    rw [rngK_th n 0 0 hth]
    simp only [Option.toList, List.cons_append, List.nil_append]
    refine ev_iret dX11_round_59 rfl ?_
    have q : 0 ≤ w ∧ w ≤ 4 := by rw [he6]; decide
    rw [if_pos q, he6, if_neg (by decide), if_neg (by decide), if_neg (by decide), if_pos rfl]
    exact ⟨rfl, ⟨σ2, hM2, hT1.sc hE2.sc⟩, hF1.tr hF2⟩
  · refine ev_tin (off := 54) (tgt := 60) dX11_round_6 (by omega) (by omega) (by rw [hs6]; rfl) (by decide) ?_
    have he6 : (w) = 4 := Int32.toInt_inj.mp (hs6.trans (by decide))
    refine ev_aload_n dX11_round_60 rfl ?_
    refine ev_aload_n dX11_round_61 rfl ?_
    refine k_v (c_kRinging hM hT1 ht hn7) (by decide) dX11_round_62 cbX11_ringing (mt4 25 rfl rfl) (mt4 27 rfl rfl) (ms0 28 rfl rfl) (ci := 11) rfl (hM.o 0 11 (by decide)) rfl rfl (Nat.le_of_ble_eq_true rfl) (fun v μ1 hq => ?_)
    obtain ⟨rfl, ⟨σ2, hM2, hE2⟩, hF2⟩ := hq
    rw [rngK_th n 0 0 hth]
    have hM := hM2
    simp only [Option.toList, List.cons_append, List.nil_append]
    refine k_v (c_kPurse hM2 (hT1.sc hE2.sc) ht hn7 _) (by decide) dX11_round_65 cbX11_purseWithout (mt4 33 rfl rfl) (mt4 35 rfl rfl) (ms0 29 rfl rfl) (ci := 11) rfl (hM.o 0 11 (by decide)) rfl rfl (Nat.le_of_ble_eq_true rfl) (fun v μ1 hq => ?_)
    obtain ⟨rfl, ⟨σ3, hM3, hE3⟩, hF3⟩ := hq
    rw [hE2.th, prsK_th n 0 0 hth]
    simp only [Option.toList, List.cons_append, List.nil_append]
    refine ev_iret dX11_round_68 rfl ?_
    have q : 0 ≤ w ∧ w ≤ 4 := by rw [he6]; decide
    rw [if_pos q, he6, if_neg (by decide), if_neg (by decide), if_neg (by decide), if_neg (by decide)]
    exact ⟨rfl, ⟨σ3, hM3, (hT1.sc hE2.sc).sc hE3.sc⟩, (hF1.tr hF2).tr hF3⟩
theorem l_kWrong (hI : IM ρ n t tx cd Lf) (hM : KM a m tx σ μ) (hT : KTie ρ n t tx cd Lf m σ) {w : Int32} : ∀ (k i : Nat) (s : Int32), i + k = max n i → 1 ≤ i → i ≤ 8 → Ev g 1 mX11_wrongSorts 8 [some (.ref a), some (.int w), some (.int s), some (.int (nI i))] [] μ (fun v μ' => v = some (.int (wrgK (Fc ρ) Lf k i s)) ∧ μ' = μ) := by
  have hn7 := hI.2.2.1.2
  have h7 := hM.ad.2.2.2.2.2.2.1
  have hnm := hT.nm
  intro k
  induction k with
  | zero =>
    intro i s hi h1 h8
    refine ev_iload_n dX11_wrongSorts_8 rfl ?_
    refine ev_aload_n dX11_wrongSorts_9 rfl ?_
    refine ev_get dX11_wrongSorts_10 flX11_15_11 (hM.o 0 11 (by decide)) rfl ?_
    rw [hT.hc]
    refine ev_icmp_ge (tgt := 66) dX11_wrongSorts_13 (by decide) (fun _ => ?_) (fun h13 => absurd ((nI_le (by omega) (by omega))) h13)
    refine ev_iload_n dX11_wrongSorts_66 rfl ?_
    refine ev_iret dX11_wrongSorts_67 rfl ?_
    exact ⟨rfl, rfl⟩
  | succ k ih =>
    intro i s hi h1 h8
    have hin : i < n := by omega
    have hLi := (hI.2.2.2.2.2.2.1 i hin).2
    have hLj := (hI.2.2.2.2.2.2.1 (i - 1) (by omega)).2
    obtain ⟨hdi, hki⟩ := hT.door hM hLi
    obtain ⟨hdj, hkj⟩ := hT.door hM hLj
    rw [wrgK]
    refine ev_iload_n dX11_wrongSorts_8 rfl ?_
    refine ev_aload_n dX11_wrongSorts_9 rfl ?_
    refine ev_get dX11_wrongSorts_10 flX11_15_11 (hM.o 0 11 (by decide)) rfl ?_
    rw [hT.hc]
    refine ev_icmp_ge (tgt := 66) dX11_wrongSorts_13 (by decide) (fun h13 => absurd h13 ((nI_ge (by omega) (by omega)))) (fun _ => ?_)
    refine ev_aload_n dX11_wrongSorts_16 rfl ?_
    refine ev_get dX11_wrongSorts_17 flX11_11_11 (hM.o 0 11 (by decide)) rfl ?_
    refine ev_aload_n dX11_wrongSorts_20 rfl ?_
    refine ev_get dX11_wrongSorts_21 flX11_19_11 (hM.o 0 11 (by decide)) rfl ?_
    refine ev_iload_n dX11_wrongSorts_24 rfl ?_
    refine ev_iald dX11_wrongSorts_25 (hM.r 2 (by decide)) (ix_n (by omega)) (hT.ls i hin) ?_
    refine ev_aald dX11_wrongSorts_26 hM.dl (by decide) (by decide) (ix_n (by omega)) (kDl_at (m := m) (by omega) h7) ?_
    refine ev_get dX11_wrongSorts_27 (glX11_157 hki.1) hdi rfl ?_
    refine ev_aload_n dX11_wrongSorts_30 rfl ?_
    refine ev_get dX11_wrongSorts_31 flX11_11_11 (hM.o 0 11 (by decide)) rfl ?_
    refine ev_aload_n dX11_wrongSorts_34 rfl ?_
    refine ev_get dX11_wrongSorts_35 flX11_19_11 (hM.o 0 11 (by decide)) rfl ?_
    refine ev_iload_n dX11_wrongSorts_38 rfl ?_
    refine ev_iconst (v := 1) dX11_wrongSorts_39 (by decide) ?_
    refine ev_isub dX11_wrongSorts_40 ?_
    rw [show nI i - 1 = nI (i - 1) from nI_sub h1]
    refine ev_iald dX11_wrongSorts_41 (hM.r 2 (by decide)) (ix_n (by omega)) (hT.ls (i - 1) (by omega)) ?_
    refine ev_aald dX11_wrongSorts_42 hM.dl (by decide) (by decide) (ix_n (by omega)) (kDl_at (m := m) (by omega) h7) ?_
    refine ev_get dX11_wrongSorts_43 (glX11_157 hkj.1) hdj rfl ?_
    refine ev_icmp_eq (tgt := 60) dX11_wrongSorts_46 (by decide) (fun h46 => ?_) (fun h46 => ?_)
    · refine ev_iinc dX11_wrongSorts_60 rfl (by decide) ?_
      dsimp only [List.set]
      refine ev_goto (tgt := 8) dX11_wrongSorts_63 (by decide) ?_
      rw [nI_inc]
      first
        | (rw [if_pos (Eq.symm h46), Int32.or_zero]; exact ih (i + 1) _ (by omega) (by omega) (by omega))
        | (rw [if_neg (fun q => h46 (Eq.symm q))]; exact ih (i + 1) _ (by omega) (by omega) (by omega))
    · refine ev_iload_n dX11_wrongSorts_49 rfl ?_
      refine ev_iconst (v := 1) dX11_wrongSorts_50 (by decide) ?_
      refine ev_aload_n dX11_wrongSorts_51 rfl ?_
      refine ev_get dX11_wrongSorts_52 flX11_19_11 (hM.o 0 11 (by decide)) rfl ?_
      refine ev_iload_n dX11_wrongSorts_55 rfl ?_
      refine ev_iald dX11_wrongSorts_56 (hM.r 2 (by decide)) (ix_n (by omega)) (hT.ls i hin) ?_
      refine ev_ishl dX11_wrongSorts_57 ?_
      refine ev_ior dX11_wrongSorts_58 ?_
      refine ev_istore_n dX11_wrongSorts_59 (by decide) ?_
      dsimp only [List.set]
      refine ev_iinc dX11_wrongSorts_60 rfl (by decide) ?_
      dsimp only [List.set]
      refine ev_goto (tgt := 8) dX11_wrongSorts_63 (by decide) ?_
      rw [nI_inc]
      first
        | (rw [if_pos (Eq.symm h46), Int32.or_zero]; exact ih (i + 1) _ (by omega) (by omega) (by omega))
        | (rw [if_neg (fun q => h46 (Eq.symm q))]; exact ih (i + 1) _ (by omega) (by omega) (by omega))
theorem c_kWrong (hI : IM ρ n t tx cd Lf) (hM : KM a m tx σ μ) (hT : KTie ρ n t tx cd Lf m σ) {k : Nat} (hk : k ≤ 7) : Pu g 1 mX11_wrongSorts [.ref a, .int (nI k)] μ (wrg (Fc ρ) Lf n k) := by
  refine Mt.of0 (ls0 := [some (.ref a), some (.int (nI k)), none, none]) (by decide) (by simp [Value.category]) (Nat.le_of_ble_eq_true rfl) rfl ?_
  have e : (if (1 : Int32) < nI k then nI k else 1) = nI (max 1 k) := by
    have h8 : ∀ k, k < 8 → (if (1 : Int32) < nI k then nI k else 1) = nI (max 1 k) := by decide
    exact h8 k (by omega)
  refine ev_iconst (v := 0) dX11_wrongSorts_0 (by decide) ?_
  refine ev_istore_n dX11_wrongSorts_1 (by decide) ?_
  dsimp only [List.set]
  refine ev_iconst (v := 1) dX11_wrongSorts_2 (by decide) ?_
  refine ev_iload_n dX11_wrongSorts_3 rfl ?_
  refine ev_mmax dX11_wrongSorts_4 (mt3 224 rfl rfl) (Nat.le_of_ble_eq_true rfl) ?_
  rw [e]
  refine ev_istore_n dX11_wrongSorts_7 (by decide) ?_
  dsimp only [List.set]
  exact l_kWrong hI hM hT (n - max 1 k) (max 1 k) 0 (by omega) (by omega) (by omega)
theorem c_kShifted (hI : IM ρ n t tx cd Lf) (hM : KM a m tx σ μ) (hT : KTie ρ n t tx cd Lf m σ) (x w : Int32) : Mt g 8 mX11_shifted [.ref a, .int x, .int w] μ (fun v μ' => v = some (.int (ansShifted ρ n t cd Lf x w)) ∧ KV a ρ n t tx cd Lf m μ' ∧ FC a μ μ') := by
  refine Mt.of0 (ls0 := [some (.ref a), some (.int x), some (.int w), none, none]) (by decide) (by simp [Value.category]) (Nat.le_of_ble_eq_true rfl) rfl ?_
  have hn7 := hI.2.2.1.2
  have ht := hI.2.2.2.1.2
  rw [ansShifted]
  refine ev_iload_n dX11_shifted_0 rfl ?_
  refine ev_if_lt (tgt := 21) dX11_shifted_1 (by decide) (fun h1 => ?_) (fun h1 => ?_)
  · refine ev_bipush (v := (-2)) dX11_shifted_21 (by decide) ?_
    refine ev_iret dX11_shifted_23 rfl ?_
    rw [if_neg (fun q => by first | exact Int32.not_lt.mpr q.1.1 h1 | exact Int32.not_lt.mpr q.1.2 h9 | exact Int32.not_lt.mpr q.2.1 h13 | exact h18 q.2.2)]
    exact ⟨rfl, ⟨σ, hM, hT⟩, FC.rf⟩
  · refine ev_iload_n dX11_shifted_4 rfl ?_
    refine ev_aload_n dX11_shifted_5 rfl ?_
    refine ev_get dX11_shifted_6 flX11_15_11 (hM.o 0 11 (by decide)) rfl ?_
    rw [hT.hc]
    refine ev_icmp_gt (tgt := 21) dX11_shifted_9 (by decide) (fun h9 => ?_) (fun h9 => ?_)
    · refine ev_bipush (v := (-2)) dX11_shifted_21 (by decide) ?_
      refine ev_iret dX11_shifted_23 rfl ?_
      rw [if_neg (fun q => by first | exact Int32.not_lt.mpr q.1.1 h1 | exact Int32.not_lt.mpr q.1.2 h9 | exact Int32.not_lt.mpr q.2.1 h13 | exact h18 q.2.2)]
      exact ⟨rfl, ⟨σ, hM, hT⟩, FC.rf⟩
    · refine ev_iload_n dX11_shifted_12 rfl ?_
      refine ev_if_lt (tgt := 21) dX11_shifted_13 (by decide) (fun h13 => ?_) (fun h13 => ?_)
      · refine ev_bipush (v := (-2)) dX11_shifted_21 (by decide) ?_
        refine ev_iret dX11_shifted_23 rfl ?_
        rw [if_neg (fun q => by first | exact Int32.not_lt.mpr q.1.1 h1 | exact Int32.not_lt.mpr q.1.2 h9 | exact Int32.not_lt.mpr q.2.1 h13 | exact h18 q.2.2)]
        exact ⟨rfl, ⟨σ, hM, hT⟩, FC.rf⟩
      · refine ev_iload_n dX11_shifted_16 rfl ?_
        refine ev_iconst (v := 2) dX11_shifted_17 (by decide) ?_
        refine ev_icmp_le (tgt := 24) dX11_shifted_18 (by decide) (fun h18 => ?_) (fun h18 => ?_)
        · rw [if_pos ⟨⟨Int32.not_lt.mp h1, Int32.not_lt.mp h9⟩, Int32.not_lt.mp h13, h18⟩]
          obtain ⟨hl, eh⟩ := place_n hn7 (Int32.not_lt.mp h1) (Int32.not_lt.mp h9)
          generalize x.toInt.toNat = x' at hl eh ⊢
          subst eh
          refine ev_aload_n dX11_shifted_24 rfl ?_
          refine ev_iload_n dX11_shifted_25 rfl ?_
          refine k_v (c_kWrong hI hM hT (by omega)) (by decide) dX11_shifted_26 cbX11_wrongSorts (mt4 41 rfl rfl) (mt4 43 rfl rfl) (ms0 30 rfl rfl) (ci := 11) rfl (hM.o 0 11 (by decide)) rfl rfl (Nat.le_of_ble_eq_true rfl) (fun v μ1 hq => ?_)
          obtain ⟨rfl, hμ⟩ := hq
          have hμ := hμ.symm
          subst hμ
          simp only [Option.toList, List.cons_append, List.nil_append]
          refine ev_istore_n dX11_shifted_29 (by decide) ?_
          dsimp only [List.set]
          refine ev_iload_n dX11_shifted_30 rfl ?_
          refine ev_if_ne (tgt := 36) dX11_shifted_31 (by decide) (fun h31 => ?_) (fun h31 => ?_)
          · refine ev_aload_n dX11_shifted_36 rfl ?_
            refine k_v (c_kGoList hI hM hT) (by decide) dX11_shifted_37 cbX11_goList (mt3 190 rfl rfl) (mt3 192 rfl rfl) (ms0 21 rfl rfl) (ci := 11) rfl (hM.o 0 11 (by decide)) rfl rfl (Nat.le_of_ble_eq_true rfl) (fun v μ1 hq => ?_)
            obtain ⟨rfl, ⟨σ1, hM1, hE1, hb1, ha1⟩, hF1⟩ := hq
            have hT1 := hT.sc hE1
            have hth : ∀ h, h < 0 + n → (σ1.1 10).getD h 0 = (thr ρ n Lf).getD h 0 := fun h q => ha1 h (by omega)
            have hM := hM1
            simp only [Option.toList, List.cons_append, List.nil_append]
            refine ev_pop dX11_shifted_40 rfl ?_
            refine ev_iload_n dX11_shifted_41 rfl ?_
            refine ev_aload_n dX11_shifted_42 rfl ?_
            refine k_v (c_kRinging hM1 hT1 ht hn7) (by decide) dX11_shifted_43 cbX11_ringing (mt4 25 rfl rfl) (mt4 27 rfl rfl) (ms0 28 rfl rfl) (ci := 11) rfl (hM.o 0 11 (by decide)) rfl rfl (Nat.le_of_ble_eq_true rfl) (fun v μ1 hq => ?_)
            obtain ⟨rfl, ⟨σ2, hM2, hE2⟩, hF2⟩ := hq
            rw [rngK_th n 0 0 hth]
            have hM := hM2
            simp only [Option.toList, List.cons_append, List.nil_append]
            refine ev_ior dX11_shifted_46 ?_
            rw [← rngK_or n 0 0, Int32.or_zero]
            refine ev_istore dX11_shifted_47 (by decide) ?_
            dsimp only [List.set]
            refine ev_iload_n dX11_shifted_49 rfl ?_
            refine ev_iconst (v := 1) dX11_shifted_50 (by decide) ?_
            refine ev_icmp_ne (tgt := 59) dX11_shifted_51 (by decide) (fun h51 => ?_) (fun h51 => ?_)
            · refine ev_aload_n dX11_shifted_59 rfl ?_
              refine ev_iload dX11_shifted_60 rfl ?_
              refine k_v (c_kPurse hM2 (hT1.sc hE2.sc) ht hn7 _) (by decide) dX11_shifted_62 cbX11_purseWithout (mt4 33 rfl rfl) (mt4 35 rfl rfl) (ms0 29 rfl rfl) (ci := 11) rfl (hM.o 0 11 (by decide)) rfl rfl (Nat.le_of_ble_eq_true rfl) (fun v μ1 hq => ?_)
              obtain ⟨rfl, ⟨σ3, hM3, hE3⟩, hF3⟩ := hq
              rw [hE2.th, prsK_th n 0 0 hth]
              simp only [Option.toList, List.cons_append, List.nil_append]
              refine ev_iret dX11_shifted_65 rfl ?_
              first
                | (rw [if_neg h31, if_pos h51]; exact ⟨rfl, ⟨σ2, hM2, hT1.sc hE2.sc⟩, hF1.tr hF2⟩)
                | (rw [if_neg h31, if_neg h51]; exact ⟨rfl, ⟨σ3, hM3, (hT1.sc hE2.sc).sc hE3.sc⟩, (hF1.tr hF2).tr hF3⟩)
            · refine ev_iload dX11_shifted_54 rfl ?_
              refine ev_goto (tgt := 65) dX11_shifted_56 (by decide) ?_
              refine ev_iret dX11_shifted_65 rfl ?_
              first
                | (rw [if_neg h31, if_pos h51]; exact ⟨rfl, ⟨σ2, hM2, hT1.sc hE2.sc⟩, hF1.tr hF2⟩)
                | (rw [if_neg h31, if_neg h51]; exact ⟨rfl, ⟨σ3, hM3, (hT1.sc hE2.sc).sc hE3.sc⟩, (hF1.tr hF2).tr hF3⟩)
          · refine ev_iload_n dX11_shifted_34 rfl ?_
            refine ev_iret dX11_shifted_35 rfl ?_
            rw [if_pos h31]
            exact ⟨rfl, ⟨σ, hM, hT⟩, FC.rf⟩
        · refine ev_bipush (v := (-2)) dX11_shifted_21 (by decide) ?_
          refine ev_iret dX11_shifted_23 rfl ?_
          rw [if_neg (fun q => by first | exact Int32.not_lt.mpr q.1.1 h1 | exact Int32.not_lt.mpr q.1.2 h9 | exact Int32.not_lt.mpr q.2.1 h13 | exact h18 q.2.2)]
          exact ⟨rfl, ⟨σ, hM, hT⟩, FC.rf⟩
end KQUERY
