/-! ===== the reference: shifted, where ===== -/
def wrgK (F : Nat → Nat → Int32) (Lf : Nat → Nat) : Nat → Nat → Int32 → Int32
  | 0, _, s => s
  | m + 1, i, s => wrgK F Lf m (i + 1) (s ||| (if F 4 (Lf (i - 1)) = F 4 (Lf i) then (0 : Int32) else (1 : Int32) <<< (nI (Lf i) &&& 31)))
def wrg (F : Nat → Nat → Int32) (Lf : Nat → Nat) (n k : Nat) : Int32 := wrgK F Lf (n - max 1 k) (max 1 k) 0
theorem nI_lei {a b : Nat} (ha : a < 2 ^ 31) (hb : b < 2 ^ 31) : nI a ≤ nI b ↔ a ≤ b := by
  rw [Int32.le_iff_toInt_le, nI_i ha, nI_i hb]; omega
section MSHIFT
variable {g : Gl} {μ : Mm} {b : Nat} {ρ : MS}
theorem l_wrongBy (hM : RM b ρ μ) (hL : ML ρ) {n t tx : Nat} {cd : Nat → List Int32} {Lf : Nat → Nat} (hI : IM ρ n t tx cd Lf) {x : Int32} : ∀ (m i : Nat) (s : Int32), 1 ≤ i → i + m = max n i → i ≤ 8 → Ev g 0 mX12_wrongBy 13 [some (.ref b), some (.int x), some (.int s), some (.int (nI i))] [] μ (fun v μ' => v = some (.int (wrgK (Fc ρ) Lf m i s)) ∧ μ' = μ) := by
  have hn7 := hI.2.2.1.2
  have hN := hI.2.2.1.1
  have hLs := hI.2.2.2.2.2.2.1
  intro m
  induction m with
  | zero =>
    intro i s h1 hi h8
    refine ev_iload_n dX12_wrongBy_13 rfl ?_
    refine ev_aload_n dX12_wrongBy_14 rfl ?_
    refine ev_get dX12_wrongBy_15 flX12_82_12 hM.1 rfl ?_
    refine ev_icmp_ge (tgt := 69) dX12_wrongBy_18 (by decide) (fun _ => ?_) (fun h18 => absurd ((show ρ.2 7 ≤ nI i by rw [hN]; exact nI_le (by omega) (by omega))) h18)
    refine ev_iload_n dX12_wrongBy_69 rfl ?_
    refine ev_iret dX12_wrongBy_70 rfl ?_
    exact ⟨rfl, rfl⟩
  | succ m ih =>
    intro i s h1 hi h8
    rw [wrgK]
    have q1 := hLs (i - 1) (by omega)
    have q2 := hLs i (by omega)
    have e1 : nI i - 1 = nI (i - 1) := by
      have := nI_pred (i - 1)
      rwa [show i - 1 + 1 = i by omega] at this
    refine ev_iload_n dX12_wrongBy_13 rfl ?_
    refine ev_aload_n dX12_wrongBy_14 rfl ?_
    refine ev_get dX12_wrongBy_15 flX12_82_12 hM.1 rfl ?_
    refine ev_icmp_ge (tgt := 69) dX12_wrongBy_18 (by decide) (fun h18 => absurd h18 ((show ¬ ρ.2 7 ≤ nI i by rw [hN]; exact nI_ge (by omega) (by omega)))) (fun _ => ?_)
    refine ev_iload_n dX12_wrongBy_21 rfl ?_
    refine ev_aload_n dX12_wrongBy_22 rfl ?_
    refine ev_get dX12_wrongBy_23 flX12_22_12 hM.1 rfl ?_
    refine ev_aload_n dX12_wrongBy_26 rfl ?_
    refine ev_get dX12_wrongBy_27 flX12_25_12 hM.1 rfl ?_
    refine ev_iload_n dX12_wrongBy_30 rfl ?_
    refine ev_iconst (v := 1) dX12_wrongBy_31 (by decide) ?_
    refine ev_isub dX12_wrongBy_32 ?_
    refine ev_iald dX12_wrongBy_33 (hM.a 5 6 (by decide)) (by rw [e1]; exact ix_n (by omega)) q1.1 ?_
    refine ev_iald dX12_wrongBy_34 (hM.a 4 5 (by decide)) (ix_n (by omega)) (rd hL (n := 7) (by decide) (by omega)) ?_
    refine ev_aload_n dX12_wrongBy_35 rfl ?_
    refine ev_get dX12_wrongBy_36 flX12_22_12 hM.1 rfl ?_
    refine ev_aload_n dX12_wrongBy_39 rfl ?_
    refine ev_get dX12_wrongBy_40 flX12_25_12 hM.1 rfl ?_
    refine ev_iload_n dX12_wrongBy_43 rfl ?_
    refine ev_iald dX12_wrongBy_44 (hM.a 5 6 (by decide)) (ix_n (by omega)) q2.1 ?_
    refine ev_iald dX12_wrongBy_45 (hM.a 4 5 (by decide)) (ix_n (by omega)) (rd hL (n := 7) (by decide) (by omega)) ?_
    refine ev_icmp_eq (tgt := 60) dX12_wrongBy_46 (by decide) (fun h46 => ?_) (fun h46 => ?_)
    · refine ev_iconst (v := 0) dX12_wrongBy_60 (by decide) ?_
      refine ev_ior dX12_wrongBy_61 ?_
      refine ev_istore_n dX12_wrongBy_62 (by decide) ?_
      dsimp only [List.set]
      refine ev_iinc dX12_wrongBy_63 rfl (by decide) ?_
      dsimp only [List.set]
      refine ev_goto (tgt := 13) dX12_wrongBy_66 (by decide) ?_
      rw [nI_inc]
      have h46' : (Fc ρ 4 (Lf (i - 1)) = Fc ρ 4 (Lf i)) = ((ρ.1 4).getD (Lf (i - 1)) 0 = (ρ.1 4).getD (Lf i) 0) := rfl
      first | rw [if_pos (h46'.mpr h46)] | rw [if_neg (fun q => h46 (h46'.mp q))]
      exact ih (i + 1) _ (by omega) (by omega) (by omega)
    · refine ev_iconst (v := 1) dX12_wrongBy_49 (by decide) ?_
      refine ev_aload_n dX12_wrongBy_50 rfl ?_
      refine ev_get dX12_wrongBy_51 flX12_25_12 hM.1 rfl ?_
      refine ev_iload_n dX12_wrongBy_54 rfl ?_
      refine ev_iald dX12_wrongBy_55 (hM.a 5 6 (by decide)) (ix_n (by omega)) q2.1 ?_
      refine ev_ishl dX12_wrongBy_56 ?_
      refine ev_goto (tgt := 61) dX12_wrongBy_57 (by decide) ?_
      refine ev_ior dX12_wrongBy_61 ?_
      refine ev_istore_n dX12_wrongBy_62 (by decide) ?_
      dsimp only [List.set]
      refine ev_iinc dX12_wrongBy_63 rfl (by decide) ?_
      dsimp only [List.set]
      refine ev_goto (tgt := 13) dX12_wrongBy_66 (by decide) ?_
      rw [nI_inc]
      have h46' : (Fc ρ 4 (Lf (i - 1)) = Fc ρ 4 (Lf i)) = ((ρ.1 4).getD (Lf (i - 1)) 0 = (ρ.1 4).getD (Lf i) 0) := rfl
      first | rw [if_pos (h46'.mpr h46)] | rw [if_neg (fun q => h46 (h46'.mp q))]
      exact ih (i + 1) _ (by omega) (by omega) (by omega)
theorem c_wrongBy (hM : RM b ρ μ) (hL : ML ρ) {n t tx : Nat} {cd : Nat → List Int32} {Lf : Nat → Nat} (hI : IM ρ n t tx cd Lf) {k : Nat} (hk : k ≤ 7) : Pu g 0 mX12_wrongBy [.ref b, .int (nI k)] μ (wrg (Fc ρ) Lf n k) := by
  refine Mt.of0 (ls0 := [some (.ref b), some (.int (nI k)), none, none]) (by decide) (by simp [Value.category]) (Nat.le_of_ble_eq_true rfl) rfl ?_
  have hn7 := hI.2.2.1.2
  rw [wrg]
  refine ev_iconst (v := 0) dX12_wrongBy_0 (by decide) ?_
  refine ev_istore_n dX12_wrongBy_1 (by decide) ?_
  dsimp only [List.set]
  refine ev_iload_n dX12_wrongBy_2 rfl ?_
  refine ev_iconst (v := 1) dX12_wrongBy_3 (by decide) ?_
  refine ev_icmp_le (tgt := 11) dX12_wrongBy_4 (by decide) (fun h4 => ?_) (fun h4 => ?_)
  · refine ev_iconst (v := 1) dX12_wrongBy_11 (by decide) ?_
    refine ev_istore_n dX12_wrongBy_12 (by decide) ?_
    dsimp only [List.set]
    first
      | (rw [show (1 : Int32) = nI 1 from rfl, nI_lei (by omega) (by omega)] at h4; rw [show max 1 k = 1 by omega]; exact l_wrongBy hM hL hI (n - 1) 1 0 (by omega) (by omega) (by omega))
      | (rw [show (1 : Int32) = nI 1 from rfl, nI_lei (by omega) (by omega)] at h4; rw [show max 1 k = k by omega]; exact l_wrongBy hM hL hI (n - k) k 0 (by omega) (by omega) (by omega))
  · refine ev_iload_n dX12_wrongBy_7 rfl ?_
    refine ev_goto (tgt := 12) dX12_wrongBy_8 (by decide) ?_
    refine ev_istore_n dX12_wrongBy_12 (by decide) ?_
    dsimp only [List.set]
    first
      | (rw [show (1 : Int32) = nI 1 from rfl, nI_lei (by omega) (by omega)] at h4; rw [show max 1 k = 1 by omega]; exact l_wrongBy hM hL hI (n - 1) 1 0 (by omega) (by omega) (by omega))
      | (rw [show (1 : Int32) = nI 1 from rfl, nI_lei (by omega) (by omega)] at h4; rw [show max 1 k = k by omega]; exact l_wrongBy hM hL hI (n - k) k 0 (by omega) (by omega) (by omega))
def ansShifted (ρ : MS) (n t : Nat) (cd : Nat → List Int32) (Lf : Nat → Nat) (k w : Int32) : Int32 :=
  if (0 ≤ k ∧ k ≤ nI n) ∧ 0 ≤ w ∧ w ≤ 2 then (if w = 0 then wrg (Fc ρ) Lf n k.toInt.toNat else if w = 1 then rngK (Fc ρ) (Se ρ) (cdt t cd) (thr ρ n Lf) n 0 (wrg (Fc ρ) Lf n k.toInt.toNat) else prsK (Fc ρ) (Se ρ) (cdt t cd) (thr ρ n Lf) (rngK (Fc ρ) (Se ρ) (cdt t cd) (thr ρ n Lf) n 0 (wrg (Fc ρ) Lf n k.toInt.toNat)) n 0 0) else -2
theorem place_n {h : Int32} {n : Nat} (hn : n ≤ 7) (h0 : 0 ≤ h) (h1 : h ≤ nI n) : h.toInt.toNat ≤ n ∧ h = nI h.toInt.toNat := by
  rw [Int32.le_iff_toInt_le, Int32.toInt_zero] at h0
  rw [Int32.le_iff_toInt_le, nI_i (by omega)] at h1
  refine ⟨by omega, ?_⟩
  apply Int32.toInt_inj.mp
  rw [nI_i (by omega)]
  omega
theorem c_shifted (hW : MW b ρ μ) {n t tx : Nat} {cd : Nat → List Int32} {Lf : Nat → Nat} (hI : IM ρ n t tx cd Lf) (x w : Int32) : Mt g 5 mX12_shifted [.ref b, .int x, .int w] μ (fun v μ' => v = some (.int (ansShifted ρ n t cd Lf x w)) ∧ MW b ρ μ' ∧ FM b μ μ') := by
  refine Mt.of0 (ls0 := [some (.ref b), some (.int x), some (.int w), none]) (by decide) (by simp [Value.category]) (Nat.le_of_ble_eq_true rfl) rfl ?_
  obtain ⟨ρ0, hM, hL, hE⟩ := id hW
  have hF : FM b μ μ := FM.rf
  have hI0 := hI.eqc hE
  have hn7 := hI.2.2.1.2
  rw [ansShifted]
  refine ev_iload_n dX12_shifted_0 rfl ?_
  refine ev_iconst (v := 0) dX12_shifted_1 (by decide) ?_
  refine ev_aload_n dX12_shifted_2 rfl ?_
  refine ev_get dX12_shifted_3 flX12_82_12 hM.1 rfl ?_
  refine k_s (c_isIn x 0 (ρ0.2 7)) (by decide) dX12_shifted_6 cbX12_isIn (mt5 123 rfl rfl) (mt5 124 rfl rfl) rfl rfl (Nat.le_of_ble_eq_true rfl) (fun v μ1 hq => ?_)
  obtain ⟨rfl, hμ⟩ := hq
  have hμ := hμ.symm
  subst hμ
  simp only [Option.toList, List.cons_append, List.nil_append]
  refine ev_if_eq (tgt := 21) dX12_shifted_9 (by decide) (fun h9 => ?_) (fun h9 => ?_)
  · refine ev_bipush (v := (-2)) dX12_shifted_21 (by decide) ?_
    refine ev_iret dX12_shifted_23 rfl ?_
    refine ⟨?_, ⟨ρ0, hM, hL, hE⟩, hF⟩
    first | (have h9 := b2i_eq h9; rw [hI0.2.2.1.1] at h9; rw [if_neg (fun q => h9 q.1)]) | (have h18 := b2i_eq h18; rw [if_neg (fun q => h18 q.2)])
  · refine ev_iload_n dX12_shifted_12 rfl ?_
    refine ev_iconst (v := 0) dX12_shifted_13 (by decide) ?_
    refine ev_iconst (v := 2) dX12_shifted_14 (by decide) ?_
    refine k_s (c_isIn w 0 2) (by decide) dX12_shifted_15 cbX12_isIn (mt5 123 rfl rfl) (mt5 124 rfl rfl) rfl rfl (Nat.le_of_ble_eq_true rfl) (fun v μ1 hq => ?_)
    obtain ⟨rfl, hμ⟩ := hq
    have hμ := hμ.symm
    subst hμ
    simp only [Option.toList, List.cons_append, List.nil_append]
    refine ev_if_ne (tgt := 24) dX12_shifted_18 (by decide) (fun h18 => ?_) (fun h18 => ?_)
    · have h9 := b2i_ne h9
      have h18 := b2i_ne h18
      rw [hI0.2.2.1.1] at h9
      rw [if_pos ⟨h9, h18⟩]
      obtain ⟨hk, ek⟩ := place_n hn7 h9.1 h9.2
      generalize x.toInt.toNat = k at hk ek ⊢
      subst ek
      refine ev_aload_n dX12_shifted_24 rfl ?_
      refine k_v (c_takesList hM hL hI0) (by decide) dX12_shifted_25 cbX12_takesList (mt6 20 rfl rfl) (mt6 22 rfl rfl) (ms0 64 rfl rfl) (ci := 12) rfl hM.1 rfl rfl (Nat.le_of_ble_eq_true rfl) (fun v μ1 hq => ?_)
      obtain ⟨rfl, ⟨ρ1, hM, hL1, hE1, hO⟩, hF1⟩ := hq; have hF := hF.tr hF1; have hEq := hE1.tr hE; have hI1 := hI.eqc hEq
      simp only [Option.toList, List.cons_append, List.nil_append]
      refine ev_aload_n dX12_shifted_28 rfl ?_
      refine k_v (c_walks hM hL1 hI1.1 hI1.s3 hO) (by decide) dX12_shifted_29 cbX12_walks (mt6 24 rfl rfl) (mt6 26 rfl rfl) (ms0 65 rfl rfl) (ci := 12) rfl hM.1 rfl rfl (Nat.le_of_ble_eq_true rfl) (fun v μ1 hq => ?_)
      obtain ⟨rfl, hM, hF1⟩ := hq; have hF := hF.tr hF1; obtain ⟨w1, w2, w3, w4, w5⟩ := after_walk (bk := (wlk0 (Fc ρ1) (Se ρ1) (lsO n Lf) (ρ1.1 25)).2.1) hI hL1 hEq; have hR := RS.of w1 hM; have hI2 := hI.eqc w2
      simp only [Option.toList, List.cons_append, List.nil_append]
      refine ev_pop dX12_shifted_32 rfl ?_
      refine ev_aload_n dX12_shifted_33 rfl ?_
      refine ev_iload_n dX12_shifted_34 rfl ?_
      refine k_v (c_wrongBy hM w1 hI2 (by omega)) (by decide) dX12_shifted_35 cbX12_wrongBy (mt6 64 rfl rfl) (mt6 66 rfl rfl) (ms0 73 rfl rfl) (ci := 12) rfl hM.1 rfl rfl (Nat.le_of_ble_eq_true rfl) (fun v μ1 hq => ?_)
      obtain ⟨rfl, hμ⟩ := hq
      have hμ := hμ.symm
      subst hμ
      simp only [Option.toList, List.cons_append, List.nil_append]
      refine ev_istore_n dX12_shifted_38 (by decide) ?_
      dsimp only [List.set]
      refine ev_iload_n dX12_shifted_39 rfl ?_
      refine ev_if_ne (tgt := 47) dX12_shifted_40 (by decide) (fun h40 => ?_) (fun h40 => ?_)
      · refine ev_iload_n dX12_shifted_47 rfl ?_
        refine ev_iconst (v := 1) dX12_shifted_48 (by decide) ?_
        refine ev_icmp_ne (tgt := 60) dX12_shifted_49 (by decide) (fun h49 => ?_) (fun h49 => ?_)
        · refine ev_aload_n dX12_shifted_60 rfl ?_
          refine ev_aload_n dX12_shifted_61 rfl ?_
          refine ev_iload_n dX12_shifted_62 rfl ?_
          refine k_v (c_ringing hR w1 hI2.ru hI2.2.2.1.1 hn7 _) (by decide) dX12_shifted_63 cbX12_ringing (mt6 52 rfl rfl) (mt6 54 rfl rfl) (ms0 71 rfl rfl) (ci := 12) rfl hM.1 rfl rfl (Nat.le_of_ble_eq_true rfl) (fun v μ1 hq => ?_)
          obtain ⟨rfl, hR, hF1⟩ := hq
          have hF := hF.tr hF1
          obtain ⟨l1, hl1, hM⟩ := id hR
          simp only [Option.toList, List.cons_append, List.nil_append]
          refine k_v (c_purse hR w1 hI2.ru hI2.2.2.1.1 hn7 _) (by decide) dX12_shifted_66 cbX12_purse (mt6 56 rfl rfl) (mt6 58 rfl rfl) (ms0 72 rfl rfl) (ci := 12) rfl hM.1 rfl rfl (Nat.le_of_ble_eq_true rfl) (fun v μ1 hq => ?_)
          obtain ⟨rfl, hR, hF1⟩ := hq
          have hF := hF.tr hF1
          obtain ⟨l1, hl1, hM⟩ := id hR
          simp only [Option.toList, List.cons_append, List.nil_append]
          refine ev_iret dX12_shifted_69 rfl ?_
          first
            | (refine ⟨?_, ⟨_, hM, w1, w2⟩, hF⟩; rw [if_pos h40, w2.fc])
            | (refine ⟨?_, hR.mw w1 w2, hF⟩; rw [if_neg h40, if_pos h49, w2.fc, w2.se]; exact congrArg (fun z => some (Value.int z)) (rngK_th n 0 _ (fun h hh => w5 h (by omega))))
            | (refine ⟨?_, hR.mw w1 w2, hF⟩; rw [if_neg h40, if_neg h49, w2.fc, w2.se, ← rngK_th n 0 _ (fun h hh => w5 h (by omega))]; exact congrArg (fun z => some (Value.int z)) (prsK_th n 0 0 (fun h hh => w5 h (by omega))))
        · refine ev_aload_n dX12_shifted_52 rfl ?_
          refine ev_iload_n dX12_shifted_53 rfl ?_
          refine k_v (c_ringing hR w1 hI2.ru hI2.2.2.1.1 hn7 _) (by decide) dX12_shifted_54 cbX12_ringing (mt6 52 rfl rfl) (mt6 54 rfl rfl) (ms0 71 rfl rfl) (ci := 12) rfl hM.1 rfl rfl (Nat.le_of_ble_eq_true rfl) (fun v μ1 hq => ?_)
          obtain ⟨rfl, hR, hF1⟩ := hq
          have hF := hF.tr hF1
          obtain ⟨l1, hl1, hM⟩ := id hR
          simp only [Option.toList, List.cons_append, List.nil_append]
          refine ev_goto (tgt := 69) dX12_shifted_57 (by decide) ?_
          refine ev_iret dX12_shifted_69 rfl ?_
          first
            | (refine ⟨?_, ⟨_, hM, w1, w2⟩, hF⟩; rw [if_pos h40, w2.fc])
            | (refine ⟨?_, hR.mw w1 w2, hF⟩; rw [if_neg h40, if_pos h49, w2.fc, w2.se]; exact congrArg (fun z => some (Value.int z)) (rngK_th n 0 _ (fun h hh => w5 h (by omega))))
            | (refine ⟨?_, hR.mw w1 w2, hF⟩; rw [if_neg h40, if_neg h49, w2.fc, w2.se, ← rngK_th n 0 _ (fun h hh => w5 h (by omega))]; exact congrArg (fun z => some (Value.int z)) (prsK_th n 0 0 (fun h hh => w5 h (by omega))))
      · refine ev_iload_n dX12_shifted_43 rfl ?_
        refine ev_goto (tgt := 69) dX12_shifted_44 (by decide) ?_
        refine ev_iret dX12_shifted_69 rfl ?_
        first
          | (refine ⟨?_, ⟨_, hM, w1, w2⟩, hF⟩; rw [if_pos h40, w2.fc])
          | (refine ⟨?_, hR.mw w1 w2, hF⟩; rw [if_neg h40, if_pos h49, w2.fc, w2.se]; exact congrArg (fun z => some (Value.int z)) (rngK_th n 0 _ (fun h hh => w5 h (by omega))))
          | (refine ⟨?_, hR.mw w1 w2, hF⟩; rw [if_neg h40, if_neg h49, w2.fc, w2.se, ← rngK_th n 0 _ (fun h hh => w5 h (by omega))]; exact congrArg (fun z => some (Value.int z)) (prsK_th n 0 0 (fun h hh => w5 h (by omega))))
    · refine ev_bipush (v := (-2)) dX12_shifted_21 (by decide) ?_
      refine ev_iret dX12_shifted_23 rfl ?_
      refine ⟨?_, ⟨ρ0, hM, hL, hE⟩, hF⟩
      first | (have h9 := b2i_eq h9; rw [hI0.2.2.1.1] at h9; rw [if_neg (fun q => h9 q.1)]) | (have h18 := b2i_eq h18; rw [if_neg (fun q => h18 q.2)])
end MSHIFT
