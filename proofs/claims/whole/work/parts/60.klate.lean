/-! ===== the class: by, late, gifts, who rings up, the purse ===== -/
/-- a rule's stack alone has changed -/
def EqS (t : Nat) (σ' σ : KS) : Prop := EqK [201 + 3 * t] [] σ' σ ∧ (σ'.1 (201 + 3 * t)).length = (σ.1 (201 + 3 * t)).length
theorem EqS.rf {t : Nat} {σ : KS} : EqS t σ σ := ⟨EqK.rf, rfl⟩
theorem EqS.tr {t : Nat} {x y z : KS} (h : EqS t x y) (k : EqS t y z) : EqS t x z := ⟨h.1.tr k.1, h.2.trans k.2⟩
theorem EqS.sc {t : Nat} {x y : KS} (h : EqS t x y) : ScK t x y := ⟨h.1.wd (by simp) (by simp), by rw [h.1.1 10 (by simp; omega)], by rw [h.1.1 11 (by simp; omega)], h.2⟩
theorem EqS.th {t : Nat} {x y : KS} (h : EqS t x y) : x.1 10 = y.1 10 := h.1.1 10 (by simp; omega)
theorem and1 (x : Int32) : ¬ x &&& 1 = 0 ↔ x &&& 1 = 1 := by
  have h : ∀ y : BitVec 32, ¬ y &&& 1#32 = 0#32 ↔ y &&& 1#32 = 1#32 := by
    intro y
    constructor
    · intro hn
      apply BitVec.eq_of_toNat_eq
      have h1 : (y &&& 1#32).toNat = y.toNat % 2 := by rw [BitVec.toNat_and]; exact Nat.and_one_is_mod _
      have h2 : ¬ (y &&& 1#32).toNat = 0 := fun q => hn (BitVec.eq_of_toNat_eq (by rw [q]; rfl))
      have h3 : (1#32).toNat = 1 := rfl
      omega
    · intro h1 h2
      rw [h1] at h2
      exact absurd h2 (by decide)
  have e0 : (x &&& 1 = 0) ↔ x.toBitVec &&& 1#32 = 0#32 := by
    rw [← Int32.toBitVec_inj]; rfl
  have e1 : (x &&& 1 = 1) ↔ x.toBitVec &&& 1#32 = 1#32 := by
    rw [← Int32.toBitVec_inj]; rfl
  rw [e0, e1]
  exact h _
section KLATE
variable {g : Gl} {a m tx n t : Nat} {ρ : MS} {cd : Nat → List Int32} {Lf : Nat → Nat} {σ : KS} {μ : Mm}
abbrev StK (a m tx t : Nat) (σ : KS) (μ μ' : Mm) : Prop := (∃ σ', KM a m tx σ' μ' ∧ EqS t σ' σ) ∧ FC a μ μ'
theorem KM.stq (hM : KM a m tx σ μ) (ht : t < tx) (hl : (σ.1 (201 + 3 * t)).length = 32) {μ' : Mm} (h : StQ (kU σ t) μ μ') : StK a m tx t σ μ μ' := by
  obtain ⟨L', hL', rfl⟩ := h
  have hu := hM.ua ht
  exact ⟨⟨_, hM.setS ht L', EqK.rf.sR (by simp), by show (if 201 + 3 * t = 201 + 3 * t then L' else σ.1 (201 + 3 * t)).length = _; rw [if_pos rfl, hl, hL']⟩, FC.rf.upd (by omega)⟩
theorem KTie.dne (hT : KTie ρ n t tx cd Lf m σ) (hM : KM a m tx σ μ) {h : Nat} (hh : h < n) {r : Nat} (hr : r < tx) : (kD σ h).1 ≠ kU σ r + 2 := by
  have := hM.ad.2.2.2.2.1 h r (Nat.lt_of_lt_of_le hh hT.nm) hr
  omega
theorem c_kWanted (hM : KM a m tx σ μ) (hT : KTie ρ n t tx cd Lf m σ) (ht : t < tx) {h : Nat} (hh : h < n) : Mt g 3 mX5_wantedBy [.ref (kU σ t), .ref (kD σ h).1, .int (Se ρ 5)] μ (fun v μ' => v = some (.int (byv (Fc ρ) (Se ρ) (cdt t cd) h)) ∧ StK a m tx t σ μ μ') := by
  have hR := hT.rw1 hM ht
  obtain ⟨hd, hkc⟩ := hT.door hM hh
  have hB := (hT.ru.2.2 t ht).2.2.2.2.2
  have hl32 := (hT.ru.2.2 t ht).2.2.2.1
  have hB0 : HB (cd (3 * t)) := hB 0 (by decide)
  refine (c_kBy (S := Se ρ) hR hkc.1 hd (hT.dne hM hh ht) hB0).imp ?_
  rintro v μ' ⟨rfl, hS⟩
  exact ⟨rfl, hM.stq ht hl32 hS⟩
theorem c_kLate (hM : KM a m tx σ μ) (hT : KTie ρ n t tx cd Lf m σ) (ht : t < tx) (hn7 : n ≤ 7) {h : Nat} (hh : h < n) : Mt g 5 mX11_lateness [.ref a, .ref (kD σ h).1] μ (fun v μ' => v = some (.int (ltv (Fc ρ) (Se ρ) (cdt t cd) (σ.1 10) h)) ∧ StK a m tx t σ μ μ') := by
  refine Mt.of0 (ls0 := [some (.ref a), some (.ref (kD σ h).1)]) (by decide) (by simp [Value.category]) (Nat.le_of_ble_eq_true rfl) rfl ?_
  obtain ⟨hd, hkc⟩ := hT.door hM hh
  have hl10 := hT.ln (k := 10) (z := 7) (by decide)
  have h6 := hM.ad.2.2.2.2.2.2.2
  have hR := hT.rw1 hM ht
  have e3 : σ.1 3 = ρ.1 6 := hT.tm
  have hl3 : (σ.1 3).length = 10 := hT.ln (k := 3) (by decide)
  refine ev_iconst (v := 0) dX11_lateness_0 (by decide) ?_
  refine ev_aload_n dX11_lateness_1 rfl ?_
  refine ev_get dX11_lateness_2 flX11_66_11 (hM.o 0 11 (by decide)) rfl ?_
  refine ev_aload_n dX11_lateness_5 rfl ?_
  refine ev_get dX11_lateness_6 (glX11_324 hkc.1) hd rfl ?_
  refine ev_iald dX11_lateness_9 (hM.r 10 (by decide)) (ix_n (by omega)) (gd (show h < (σ.1 10).length by omega)) ?_
  refine ev_aload_n dX11_lateness_10 rfl ?_
  refine ev_get dX11_lateness_11 flX11_43_11 (hM.o 0 11 (by decide)) rfl ?_
  refine ev_aload_n dX11_lateness_14 rfl ?_
  refine ev_get dX11_lateness_15 flX11_50_11 (hM.o 0 11 (by decide)) rfl ?_
  rw [hT.ru.2.1]
  refine ev_aald dX11_lateness_18 hM.ul (by decide) (by decide) (ix_n (by omega)) (kUl_at ht h6) ?_
  refine ev_aload_n dX11_lateness_19 rfl ?_
  refine ev_aload_n dX11_lateness_20 rfl ?_
  refine ev_get dX11_lateness_21 flX11_31_11 (hM.o 0 11 (by decide)) rfl ?_
  refine ev_iconst (v := 5) dX11_lateness_24 (by decide) ?_
  refine ev_iald dX11_lateness_25 (hM.r 3 (by decide)) ixl5 (gd (by omega)) ?_
  rw [show (σ.1 3).getD 5 0 = Se ρ 5 by rw [e3]]
  refine k_v (c_kWanted hM hT ht hh) (by decide) dX11_lateness_26 cbX5_wantedBy (mt3 143 rfl rfl) (mt3 144 rfl rfl) (mt3 145 rfl rfl) (ci := 5) rfl hR.1 rfl rfl (Nat.le_of_ble_eq_true rfl) (fun v μ1 hq => ?_)
  obtain ⟨rfl, hS⟩ := hq
  simp only [Option.toList, List.cons_append, List.nil_append]
  refine ev_isub dX11_lateness_29 ?_
  refine ev_mmax dX11_lateness_30 (mt3 224 rfl rfl) (Nat.le_of_ble_eq_true rfl) ?_
  refine ev_iret dX11_lateness_33 rfl ?_
  exact ⟨by rw [max0]; rfl, hS⟩
theorem c_kGiftOf (hM : KM a m tx σ μ) (hT : KTie ρ n t tx cd Lf m σ) (ht : t < tx) (hn7 : n ≤ 7) {h : Nat} (hh : h < n) : Mt g 6 mX11_giftOf [.ref a, .ref (kD σ h).1] μ (fun v μ' => v = some (.int (tpv (Fc ρ) (Se ρ) (cdt t cd) h (ltv (Fc ρ) (Se ρ) (cdt t cd) (σ.1 10) h))) ∧ StK a m tx t σ μ μ') := by
  refine Mt.of0 (ls0 := [some (.ref a), some (.ref (kD σ h).1)]) (by decide) (by simp [Value.category]) (Nat.le_of_ble_eq_true rfl) rfl ?_
  have h6 := hM.ad.2.2.2.2.2.2.2
  have hB := (hT.ru.2.2 t ht).2.2.2.2.2
  have e3 : σ.1 3 = ρ.1 6 := hT.tm
  refine ev_aload_n dX11_giftOf_0 rfl ?_
  refine ev_get dX11_giftOf_1 flX11_43_11 (hM.o 0 11 (by decide)) rfl ?_
  refine ev_aload_n dX11_giftOf_4 rfl ?_
  refine ev_get dX11_giftOf_5 flX11_50_11 (hM.o 0 11 (by decide)) rfl ?_
  rw [hT.ru.2.1]
  refine ev_aald dX11_giftOf_8 hM.ul (by decide) (by decide) (ix_n (by omega)) (kUl_at ht h6) ?_
  refine ev_aload_n dX11_giftOf_9 rfl ?_
  refine ev_aload_n dX11_giftOf_10 rfl ?_
  refine ev_aload_n dX11_giftOf_11 rfl ?_
  refine k_v (c_kLate hM hT ht hn7 hh) (by decide) dX11_giftOf_12 cbX11_lateness (mt3 220 rfl rfl) (mt3 222 rfl rfl) (ms0 25 rfl rfl) (ci := 11) rfl (hM.o 0 11 (by decide)) rfl rfl (Nat.le_of_ble_eq_true rfl) (fun v μ1 hq => ?_)
  obtain ⟨rfl, ⟨σ1, hM1, hE1⟩, hF1⟩ := hq
  have hT1 := hT.sc hE1.sc
  have hR1 := hT1.rw1 hM1 ht
  have hd1 := hT1.door hM1 hh
  have eD := hE1.sc.rest.1
  have eU := hE1.sc.rest.2.1
  have hne := hT1.dne hM1 hh ht
  have hl1 := (hT1.ru.2.2 t ht).2.2.2.1
  rw [eU] at hR1 hne
  rw [eD] at hd1 hne
  obtain ⟨hd1, hkc1⟩ := hd1
  have hM0 := hM
  clear hM
  have hM := hM1
  have hl3 : (σ1.1 3).length = 10 := hT1.ln (k := 3) (by decide)
  simp only [Option.toList, List.cons_append, List.nil_append]
  refine ev_aload_n dX11_giftOf_15 rfl ?_
  refine ev_get dX11_giftOf_16 flX11_31_11 (hM.o 0 11 (by decide)) rfl ?_
  refine ev_iconst (v := 5) dX11_giftOf_19 (by decide) ?_
  refine ev_iald dX11_giftOf_20 (hM.r 3 (by decide)) ixl5 (gd (by omega)) ?_
  rw [show (σ1.1 3).getD 5 0 = Se ρ 5 by rw [hT1.tm]]
  refine k_v (c_kGift (S := Se ρ) hR1 hkc1 hd1 hne (hB 2 (by decide)) _) (by decide) dX11_giftOf_21 cbX5_gift (mt3 229 rfl rfl) (mt3 230 rfl rfl) (mt3 231 rfl rfl) (ci := 5) rfl hR1.1 rfl rfl (Nat.le_of_ble_eq_true rfl) (fun v μ1 hq => ?_)
  obtain ⟨rfl, hS⟩ := hq
  rw [← eU] at hS
  have hS2 := hM1.stq ht hl1 hS
  obtain ⟨⟨σ2, hM2, hE2⟩, hF2⟩ := hS2
  simp only [Option.toList, List.cons_append, List.nil_append]
  refine ev_iret dX11_giftOf_24 rfl ?_
  exact ⟨rfl, ⟨σ2, hM2, hE2.tr hE1⟩, hF1.tr hF2⟩
theorem l_kLateCount (ht : t < tx) (hn7 : n ≤ 7) {σ0 : KS} {μ0 : Mm} (hT0 : KTie ρ n t tx cd Lf m σ0) : ∀ (k i : Nat) (s : Int32) (σ : KS) (μ : Mm), i + k = n → KM a m tx σ μ → EqS t σ σ0 → FC a μ0 μ → Ev g 6 mX11_lateCount 4 [some (.ref a), some (.int s), some (.int (nI i))] [] μ (fun v μ' => v = some (.int (lmnK (Fc ρ) (Se ρ) (cdt t cd) (σ0.1 10) k i s)) ∧ (∃ σ', KM a m tx σ' μ' ∧ EqS t σ' σ0) ∧ FC a μ0 μ') := by
  intro k
  induction k with
  | zero =>
    intro i s σ μ hi hM hE hF
    have hT := hT0.sc hE.sc
    refine ev_iload_n dX11_lateCount_4 rfl ?_
    refine ev_aload_n dX11_lateCount_5 rfl ?_
    refine ev_get dX11_lateCount_6 flX11_15_11 (hM.o 0 11 (by decide)) rfl ?_
    rw [hT.hc]
    refine ev_icmp_ge (tgt := 34) dX11_lateCount_9 (by decide) (fun _ => ?_) (fun h9 => absurd ((nI_le (by omega) (by omega))) h9)
    refine ev_iload_n dX11_lateCount_34 rfl ?_
    refine ev_iret dX11_lateCount_35 rfl ?_
    exact ⟨rfl, ⟨σ, hM, hE⟩, hF⟩
  | succ k ih =>
    intro i s σ μ hi hM hE hF
    have hT := hT0.sc hE.sc
    have h7 := hM.ad.2.2.2.2.2.2.1
    have hnm := hT.nm
    rw [lmnK]
    refine ev_iload_n dX11_lateCount_4 rfl ?_
    refine ev_aload_n dX11_lateCount_5 rfl ?_
    refine ev_get dX11_lateCount_6 flX11_15_11 (hM.o 0 11 (by decide)) rfl ?_
    rw [hT.hc]
    refine ev_icmp_ge (tgt := 34) dX11_lateCount_9 (by decide) (fun h9 => absurd h9 ((nI_ge (by omega) (by omega)))) (fun _ => ?_)
    refine ev_aload_n dX11_lateCount_12 rfl ?_
    refine ev_aload_n dX11_lateCount_13 rfl ?_
    refine ev_get dX11_lateCount_14 flX11_11_11 (hM.o 0 11 (by decide)) rfl ?_
    refine ev_iload_n dX11_lateCount_17 rfl ?_
    refine ev_aald dX11_lateCount_18 hM.dl (by decide) (by decide) (ix_n (by omega)) (kDl_at (m := m) (by omega) h7) ?_
    refine k_v (c_kLate hM hT ht hn7 (h := i) (by omega)) (by decide) dX11_lateCount_19 cbX11_lateness (mt3 220 rfl rfl) (mt3 222 rfl rfl) (ms0 25 rfl rfl) (ci := 11) rfl (hM.o 0 11 (by decide)) rfl rfl (Nat.le_of_ble_eq_true rfl) (fun v μ1 hq => ?_)
    obtain ⟨rfl, ⟨σ1, hM, hE1⟩, hF1⟩ := hq; have hF := hF.tr hF1; rw [hE.th]
    simp only [Option.toList, List.cons_append, List.nil_append]
    refine ev_if_le (tgt := 28) dX11_lateCount_22 (by decide) (fun h22 => ?_) (fun h22 => ?_)
    · refine ev_iinc dX11_lateCount_28 rfl (by decide) ?_
      dsimp only [List.set]
      refine ev_goto (tgt := 4) dX11_lateCount_31 (by decide) ?_
      rw [nI_inc]
      first
        | (rw [if_pos h22, Int32.add_zero]; exact ih (i + 1) s σ1 _ (by omega) hM (hE1.tr hE) hF)
        | (rw [if_neg h22]; exact ih (i + 1) _ σ1 _ (by omega) hM (hE1.tr hE) hF)
    · refine ev_iinc dX11_lateCount_25 rfl (by decide) ?_
      dsimp only [List.set]
      refine ev_iinc dX11_lateCount_28 rfl (by decide) ?_
      dsimp only [List.set]
      refine ev_goto (tgt := 4) dX11_lateCount_31 (by decide) ?_
      rw [nI_inc]
      first
        | (rw [if_pos h22, Int32.add_zero]; exact ih (i + 1) s σ1 _ (by omega) hM (hE1.tr hE) hF)
        | (rw [if_neg h22]; exact ih (i + 1) _ σ1 _ (by omega) hM (hE1.tr hE) hF)
theorem c_kLateCount (hM : KM a m tx σ μ) (hT : KTie ρ n t tx cd Lf m σ) (ht : t < tx) (hn7 : n ≤ 7) : Mt g 6 mX11_lateCount [.ref a] μ (fun v μ' => v = some (.int (lmnK (Fc ρ) (Se ρ) (cdt t cd) (σ.1 10) n 0 0)) ∧ StK a m tx t σ μ μ') := by
  refine Mt.of0 (ls0 := [some (.ref a), none, none]) (by decide) (by simp [Value.category]) (Nat.le_of_ble_eq_true rfl) rfl ?_
  refine ev_iconst (v := 0) dX11_lateCount_0 (by decide) ?_
  refine ev_istore_n dX11_lateCount_1 (by decide) ?_
  dsimp only [List.set]
  refine ev_iconst (v := 0) dX11_lateCount_2 (by decide) ?_
  refine ev_istore_n dX11_lateCount_3 (by decide) ?_
  dsimp only [List.set]
  exact l_kLateCount ht hn7 hT n 0 0 σ _ (by omega) hM EqS.rf FC.rf
theorem l_kRinging (ht : t < tx) (hn7 : n ≤ 7) {σ0 : KS} {μ0 : Mm} (hT0 : KTie ρ n t tx cd Lf m σ0) : ∀ (k i : Nat) (s : Int32) (σ : KS) (μ : Mm), i + k = n → KM a m tx σ μ → EqS t σ σ0 → FC a μ0 μ → Ev g 6 mX11_ringing 4 [some (.ref a), some (.int s), some (.int (nI i))] [] μ (fun v μ' => v = some (.int (rngK (Fc ρ) (Se ρ) (cdt t cd) (σ0.1 10) k i s)) ∧ (∃ σ', KM a m tx σ' μ' ∧ EqS t σ' σ0) ∧ FC a μ0 μ') := by
  intro k
  induction k with
  | zero =>
    intro i s σ μ hi hM hE hF
    have hT := hT0.sc hE.sc
    refine ev_iload_n dX11_ringing_4 rfl ?_
    refine ev_aload_n dX11_ringing_5 rfl ?_
    refine ev_get dX11_ringing_6 flX11_15_11 (hM.o 0 11 (by decide)) rfl ?_
    rw [hT.hc]
    refine ev_icmp_ge (tgt := 61) dX11_ringing_9 (by decide) (fun _ => ?_) (fun h9 => absurd ((nI_le (by omega) (by omega))) h9)
    refine ev_iload_n dX11_ringing_61 rfl ?_
    refine ev_iret dX11_ringing_62 rfl ?_
    exact ⟨rfl, ⟨σ, hM, hE⟩, hF⟩
  | succ k ih =>
    intro i s σ μ hi hM hE hF
    have hT := hT0.sc hE.sc
    have h7 := hM.ad.2.2.2.2.2.2.1
    have h6 := hM.ad.2.2.2.2.2.2.2
    have hnm := hT.nm
    have hB := (hT.ru.2.2 t ht).2.2.2.2.2
    have hin : i < n := by omega
    rw [rngK]
    refine ev_iload_n dX11_ringing_4 rfl ?_
    refine ev_aload_n dX11_ringing_5 rfl ?_
    refine ev_get dX11_ringing_6 flX11_15_11 (hM.o 0 11 (by decide)) rfl ?_
    rw [hT.hc]
    refine ev_icmp_ge (tgt := 61) dX11_ringing_9 (by decide) (fun h9 => absurd h9 ((nI_ge (by omega) (by omega)))) (fun _ => ?_)
    refine ev_aload_n dX11_ringing_12 rfl ?_
    refine ev_get dX11_ringing_13 flX11_43_11 (hM.o 0 11 (by decide)) rfl ?_
    refine ev_aload_n dX11_ringing_16 rfl ?_
    refine ev_get dX11_ringing_17 flX11_50_11 (hM.o 0 11 (by decide)) rfl ?_
    rw [hT.ru.2.1]
    refine ev_aald dX11_ringing_20 hM.ul (by decide) (by decide) (ix_n (by omega)) (kUl_at ht h6) ?_
    refine ev_aload_n dX11_ringing_21 rfl ?_
    refine ev_get dX11_ringing_22 flX11_11_11 (hM.o 0 11 (by decide)) rfl ?_
    refine ev_iload_n dX11_ringing_25 rfl ?_
    refine ev_aald dX11_ringing_26 hM.dl (by decide) (by decide) (ix_n (by omega)) (kDl_at (m := m) (by omega) h7) ?_
    refine ev_aload_n dX11_ringing_27 rfl ?_
    refine ev_aload_n dX11_ringing_28 rfl ?_
    refine ev_get dX11_ringing_29 flX11_11_11 (hM.o 0 11 (by decide)) rfl ?_
    refine ev_iload_n dX11_ringing_32 rfl ?_
    refine ev_aald dX11_ringing_33 hM.dl (by decide) (by decide) (ix_n (by omega)) (kDl_at (m := m) (by omega) h7) ?_
    refine k_v (c_kLate hM hT ht hn7 hin) (by decide) dX11_ringing_34 cbX11_lateness (mt3 220 rfl rfl) (mt3 222 rfl rfl) (ms0 25 rfl rfl) (ci := 11) rfl (hM.o 0 11 (by decide)) rfl rfl (Nat.le_of_ble_eq_true rfl) (fun v μ1 hq => ?_)
    obtain ⟨rfl, ⟨σ1, hM1, hE1⟩, hF1⟩ := hq
    have hF := hF.tr hF1
    rw [hE.th]
    have hT1 := hT.sc hE1.sc
    have hR1 := hT1.rw1 hM1 ht
    have hd1 := hT1.door hM1 hin
    have eD := hE1.sc.rest.1
    have eU := hE1.sc.rest.2.1
    have hne := hT1.dne hM1 hin ht
    have hl1 := (hT1.ru.2.2 t ht).2.2.2.1
    rw [eU] at hR1 hne
    rw [eD] at hd1 hne
    obtain ⟨hd1, hkc1⟩ := hd1
    have hM0 := hM
    clear hM
    have hM := hM1
    have hl3 : (σ1.1 3).length = 10 := hT1.ln (k := 3) (by decide)
    simp only [Option.toList, List.cons_append, List.nil_append]
    refine ev_aload_n dX11_ringing_37 rfl ?_
    refine ev_get dX11_ringing_38 flX11_31_11 (hM.o 0 11 (by decide)) rfl ?_
    refine ev_iconst (v := 5) dX11_ringing_41 (by decide) ?_
    refine ev_iald dX11_ringing_42 (hM.r 3 (by decide)) ixl5 (gd (by omega)) ?_
    rw [show (σ1.1 3).getD 5 0 = Se ρ 5 by rw [hT1.tm]]
    refine k_v (c_kRings (S := Se ρ) hR1 hkc1.1 hd1 hne (hB 1 (by decide)) _) (by decide) dX11_ringing_43 cbX5_rings (mt4 29 rfl rfl) (mt4 30 rfl rfl) (mt4 31 rfl rfl) (ci := 5) rfl hR1.1 rfl rfl (Nat.le_of_ble_eq_true rfl) (fun v μ1 hq => ?_)
    obtain ⟨rfl, hS⟩ := hq
    rw [← eU] at hS
    have hS2 := hM1.stq ht hl1 hS
    obtain ⟨⟨σ2, hM2, hE2⟩, hF2⟩ := hS2
    have hF := hF.tr hF2
    simp only [Option.toList, List.cons_append, List.nil_append]
    refine ev_if_eq (tgt := 55) dX11_ringing_46 (by decide) (fun h46 => ?_) (fun h46 => ?_)
    · refine ev_iinc dX11_ringing_55 rfl (by decide) ?_
      dsimp only [List.set]
      refine ev_goto (tgt := 4) dX11_ringing_58 (by decide) ?_
      rw [nI_inc]
      first
        | (have q := b2i_eq h46
           rw [if_pos (Classical.not_not.mp q), Int32.or_zero]
           exact ih (i + 1) s σ2 _ (by omega) hM2 ((hE2.tr hE1).tr hE) hF)
        | (have q := b2i_ne h46
           rw [if_neg q]
           exact ih (i + 1) _ σ2 _ (by omega) hM2 ((hE2.tr hE1).tr hE) hF)
    · refine ev_iload_n dX11_ringing_49 rfl ?_
      refine ev_iconst (v := 1) dX11_ringing_50 (by decide) ?_
      refine ev_iload_n dX11_ringing_51 rfl ?_
      refine ev_ishl dX11_ringing_52 ?_
      refine ev_ior dX11_ringing_53 ?_
      refine ev_istore_n dX11_ringing_54 (by decide) ?_
      dsimp only [List.set]
      refine ev_iinc dX11_ringing_55 rfl (by decide) ?_
      dsimp only [List.set]
      refine ev_goto (tgt := 4) dX11_ringing_58 (by decide) ?_
      rw [nI_inc]
      first
        | (have q := b2i_eq h46
           rw [if_pos (Classical.not_not.mp q), Int32.or_zero]
           exact ih (i + 1) s σ2 _ (by omega) hM2 ((hE2.tr hE1).tr hE) hF)
        | (have q := b2i_ne h46
           rw [if_neg q]
           exact ih (i + 1) _ σ2 _ (by omega) hM2 ((hE2.tr hE1).tr hE) hF)
theorem c_kRinging (hM : KM a m tx σ μ) (hT : KTie ρ n t tx cd Lf m σ) (ht : t < tx) (hn7 : n ≤ 7) : Mt g 6 mX11_ringing [.ref a] μ (fun v μ' => v = some (.int (rngK (Fc ρ) (Se ρ) (cdt t cd) (σ.1 10) n 0 0)) ∧ StK a m tx t σ μ μ') := by
  refine Mt.of0 (ls0 := [some (.ref a), none, none]) (by decide) (by simp [Value.category]) (Nat.le_of_ble_eq_true rfl) rfl ?_
  refine ev_iconst (v := 0) dX11_ringing_0 (by decide) ?_
  refine ev_istore_n dX11_ringing_1 (by decide) ?_
  dsimp only [List.set]
  refine ev_iconst (v := 0) dX11_ringing_2 (by decide) ?_
  refine ev_istore_n dX11_ringing_3 (by decide) ?_
  dsimp only [List.set]
  exact l_kRinging ht hn7 hT n 0 0 σ _ (by omega) hM EqS.rf FC.rf
theorem l_kPurse (ht : t < tx) (hn7 : n ≤ 7) {σ0 : KS} {μ0 : Mm} (hT0 : KTie ρ n t tx cd Lf m σ0) {w : Int32} : ∀ (k i : Nat) (s : Int32) (σ : KS) (μ : Mm), i + k = n → KM a m tx σ μ → EqS t σ σ0 → FC a μ0 μ → Ev g 7 mX11_purseWithout 4 [some (.ref a), some (.int w), some (.int s), some (.int (nI i))] [] μ (fun v μ' => v = some (.int (prsK (Fc ρ) (Se ρ) (cdt t cd) (σ0.1 10) w k i s)) ∧ (∃ σ', KM a m tx σ' μ' ∧ EqS t σ' σ0) ∧ FC a μ0 μ') := by
  intro k
  induction k with
  | zero =>
    intro i s σ μ hi hM hE hF
    have hT := hT0.sc hE.sc
    refine ev_iload_n dX11_purseWithout_4 rfl ?_
    refine ev_aload_n dX11_purseWithout_5 rfl ?_
    refine ev_get dX11_purseWithout_6 flX11_15_11 (hM.o 0 11 (by decide)) rfl ?_
    rw [hT.hc]
    refine ev_icmp_ge (tgt := 39) dX11_purseWithout_9 (by decide) (fun _ => ?_) (fun h9 => absurd ((nI_le (by omega) (by omega))) h9)
    refine ev_iload_n dX11_purseWithout_39 rfl ?_
    refine ev_iret dX11_purseWithout_40 rfl ?_
    exact ⟨rfl, ⟨σ, hM, hE⟩, hF⟩
  | succ k ih =>
    intro i s σ μ hi hM hE hF
    have hT := hT0.sc hE.sc
    have h7 := hM.ad.2.2.2.2.2.2.1
    have hnm := hT.nm
    rw [prsK]
    refine ev_iload_n dX11_purseWithout_4 rfl ?_
    refine ev_aload_n dX11_purseWithout_5 rfl ?_
    refine ev_get dX11_purseWithout_6 flX11_15_11 (hM.o 0 11 (by decide)) rfl ?_
    rw [hT.hc]
    refine ev_icmp_ge (tgt := 39) dX11_purseWithout_9 (by decide) (fun h9 => absurd h9 ((nI_ge (by omega) (by omega)))) (fun _ => ?_)
    refine ev_iload_n dX11_purseWithout_12 rfl ?_
    refine ev_iload_n dX11_purseWithout_13 rfl ?_
    refine ev_ishr dX11_purseWithout_14 ?_
    refine ev_iconst (v := 1) dX11_purseWithout_15 (by decide) ?_
    refine ev_iand dX11_purseWithout_16 ?_
    refine ev_if_ne (tgt := 33) dX11_purseWithout_17 (by decide) (fun h17 => ?_) (fun h17 => ?_)
    · refine ev_iinc dX11_purseWithout_33 rfl (by decide) ?_
      dsimp only [List.set]
      refine ev_goto (tgt := 4) dX11_purseWithout_36 (by decide) ?_
      rw [nI_inc]
      first
        | (have q := (and1 _).mp h17
           rw [if_pos q, Int32.add_zero]
           exact ih (i + 1) s σ _ (by omega) hM hE hF)
        | (have q : ¬ (w >>> (nI i &&& 31)) &&& 1 = 1 := fun z => absurd h17 ((and1 _).mpr z)
           rw [if_neg q]
           exact ih (i + 1) _ σ1 _ (by omega) hM (hE1.tr hE) hF)
    · refine ev_iload_n dX11_purseWithout_20 rfl ?_
      refine ev_aload_n dX11_purseWithout_21 rfl ?_
      refine ev_aload_n dX11_purseWithout_22 rfl ?_
      refine ev_get dX11_purseWithout_23 flX11_11_11 (hM.o 0 11 (by decide)) rfl ?_
      refine ev_iload_n dX11_purseWithout_26 rfl ?_
      refine ev_aald dX11_purseWithout_27 hM.dl (by decide) (by decide) (ix_n (by omega)) (kDl_at (m := m) (by omega) h7) ?_
      refine k_v (c_kGiftOf hM hT ht hn7 (h := i) (by omega)) (by decide) dX11_purseWithout_28 cbX11_giftOf (mt3 225 rfl rfl) (mt3 227 rfl rfl) (ms0 26 rfl rfl) (ci := 11) rfl (hM.o 0 11 (by decide)) rfl rfl (Nat.le_of_ble_eq_true rfl) (fun v μ1 hq => ?_)
      obtain ⟨rfl, ⟨σ1, hM, hE1⟩, hF1⟩ := hq; have hF := hF.tr hF1; rw [hE.th]
      simp only [Option.toList, List.cons_append, List.nil_append]
      refine ev_iadd dX11_purseWithout_31 ?_
      refine ev_istore_n dX11_purseWithout_32 (by decide) ?_
      dsimp only [List.set]
      refine ev_iinc dX11_purseWithout_33 rfl (by decide) ?_
      dsimp only [List.set]
      refine ev_goto (tgt := 4) dX11_purseWithout_36 (by decide) ?_
      rw [nI_inc]
      first
        | (have q := (and1 _).mp h17
           rw [if_pos q, Int32.add_zero]
           exact ih (i + 1) s σ _ (by omega) hM hE hF)
        | (have q : ¬ (w >>> (nI i &&& 31)) &&& 1 = 1 := fun z => absurd h17 ((and1 _).mpr z)
           rw [if_neg q]
           exact ih (i + 1) _ σ1 _ (by omega) hM (hE1.tr hE) hF)
theorem c_kPurse (hM : KM a m tx σ μ) (hT : KTie ρ n t tx cd Lf m σ) (ht : t < tx) (hn7 : n ≤ 7) (w : Int32) : Mt g 7 mX11_purseWithout [.ref a, .int w] μ (fun v μ' => v = some (.int (prsK (Fc ρ) (Se ρ) (cdt t cd) (σ.1 10) w n 0 0)) ∧ StK a m tx t σ μ μ') := by
  refine Mt.of0 (ls0 := [some (.ref a), some (.int w), none, none]) (by decide) (by simp [Value.category]) (Nat.le_of_ble_eq_true rfl) rfl ?_
  refine ev_iconst (v := 0) dX11_purseWithout_0 (by decide) ?_
  refine ev_istore_n dX11_purseWithout_1 (by decide) ?_
  dsimp only [List.set]
  refine ev_iconst (v := 0) dX11_purseWithout_2 (by decide) ?_
  refine ev_istore_n dX11_purseWithout_3 (by decide) ?_
  dsimp only [List.set]
  exact l_kPurse ht hn7 hT n 0 0 σ _ (by omega) hM EqS.rf FC.rf
end KLATE
