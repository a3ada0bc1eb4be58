/-! ===== the reference: begin ===== -/
section MBEGIN
variable {g : Gl} {b : Nat} {ρ : MS}
theorem f_begin {n t tx : Nat} {cd : Nat → List Int32} {Lf : Nat → Nat} (hI : IM ρ n t tx cd Lf) {μ0 : Mm} {x z v0 : Int32} {μ : Mm} (hW : ∃ ρ', RM b ρ' μ ∧ ML ρ' ∧ EqC ρ' (stS ρ 2 v0)) (hF : FM b μ0 μ) : Ev g 5 mX12_begin 52 [some (.ref b), some (.int (Se ρ 2)), some (.int x), some (.int z)] [] μ (fun v μ' => v = some (.int x) ∧ MW b ρ μ' ∧ FM b μ0 μ') := by
  obtain ⟨ρ0, hM, hL, hE⟩ := id hW
  have hE2 := stS_E (i := 2) (v := Se ρ 2) hE
  have e2 : stS (stS ρ 2 v0) 2 (Se ρ 2) = stS ρ 2 (Se ρ 2) := stS_stS
  rw [e2, stS_same] at hE2
  refine ev_aload_n dX12_begin_52 rfl ?_
  refine ev_get dX12_begin_53 flX12_28_12 hM.1 rfl ?_
  refine ev_iconst (v := 2) dX12_begin_56 (by decide) ?_
  refine ev_iload_n dX12_begin_57 rfl ?_
  refine evM_iast hM hF (k := 6) (o := 7) (by decide) dX12_begin_58 ixl2 (by rw [hL.at (k := 6) (n := 10) (by decide)]; decide) (fun μ hM hF => ?_)
  refine ev_iload_n dX12_begin_59 rfl ?_
  refine ev_iret dX12_begin_60 rfl ?_
  exact ⟨rfl, ⟨_, hM, stS_L hL, hE2⟩, hF⟩
theorem g_begin {n t tx : Nat} {cd : Nat → List Int32} {Lf : Nat → Nat} (hI : IM ρ n t tx cd Lf) {μ0 : Mm} {x z v0 : Int32} (hx : 0 ≤ x) {μ : Mm} (hW : ∃ ρ', RM b ρ' μ ∧ ML ρ' ∧ EqC ρ' (stS ρ 2 v0)) (hF : FM b μ0 μ) : Ev g 5 mX12_begin 17 [some (.ref b), some (.int (Se ρ 2)), some (.int x), some (.int z)] [] μ (fun v μ' => v = some (.int x) ∧ MW b ρ μ' ∧ FM b μ0 μ') := by
  refine ev_iload_n dX12_begin_17 rfl ?_
  refine ev_if_lt (tgt := 52) dX12_begin_18 (by decide) (fun h18 => ?_) (fun h18 => ?_)
  · exact f_begin hI hW hF
  · refine ev_iload_n dX12_begin_21 rfl ?_
    refine ev_if_ge (tgt := 52) dX12_begin_22 (by decide) (fun _ => ?_) (fun h22 => absurd (hx) h22)
    exact f_begin hI hW hF
theorem hI2u {ρ2 : MS} {n t tx : Nat} {cd : Nat → List Int32} {Lf : Nat → Nat} (hI : IM ρ n t tx cd Lf) {i : Nat} {v : Int32} (hE : EqC ρ2 (stS ρ i v)) : RU ρ2 t (cdt t cd) := by
  have hu := hI.ru
  refine ⟨(hE.2 8 (by decide)).trans hu.1, hu.2.1, fun w hw => ⟨?_, (hu.2.2 w hw).2⟩⟩
  exact hE.rc (hu.2.2 w hw).1
theorem l_begin {n t tx : Nat} {cd : Nat → List Int32} {Lf : Nat → Nat} (hI : IM ρ n t tx cd Lf) (h10 : (ρ.1 6).length = 10) {μ0 : Mm} : ∀ (m : Nat) (v0 : Int32) (μ : Mm), m ≤ 1000 → (∃ ρ', RM b ρ' μ ∧ ML ρ' ∧ EqC ρ' (stS ρ 2 v0) ∧ OM ρ' (lsO n Lf)) → FM b μ0 μ → Ev g 5 mX12_begin 17 [some (.ref b), some (.int (Se ρ 2)), some (.int (-1)), some (.int (dn m))] [] μ (fun v μ' => v = some (.int (bgK (noL ρ n t cd Lf) m)) ∧ MW b ρ μ' ∧ FM b μ0 μ') := by
  have hn7 := hI.2.2.1.2
  intro m
  induction m with
  | zero =>
    intro v0 μ hm hW hF
    obtain ⟨ρ0, hM, hL, hE, hO⟩ := id hW
    refine ev_iload_n dX12_begin_17 rfl ?_
    refine ev_if_lt (tgt := 52) dX12_begin_18 (by decide) (fun _ => ?_) (fun h18 => absurd ((show dn 0 < 0 by decide)) h18)
    exact f_begin hI ⟨ρ0, hM, hL, hE⟩ hF
  | succ m ih =>
    intro v0 μ hm hW hF
    obtain ⟨ρ0, hM, hL, hE, hO⟩ := id hW
    have hE2 := stS_E (i := 2) (v := nI m) hE
    have e2 : stS (stS ρ 2 v0) 2 (nI m) = stS ρ 2 (nI m) := stS_stS
    rw [e2] at hE2
    have h3 : ¬ Se (stS ρ 2 (nI m)) 3 = 0 := by rw [stS_S h10 (by decide)]; exact hI.s3
    rw [bgK]
    refine ev_iload_n dX12_begin_17 rfl ?_
    refine ev_if_lt (tgt := 52) dX12_begin_18 (by decide) (fun h18 => absurd h18 ((show ¬ nI m < 0 from nI_pos (by omega)))) (fun _ => ?_)
    refine ev_iload_n dX12_begin_21 rfl ?_
    refine ev_if_ge (tgt := 52) dX12_begin_22 (by decide) (fun h22 => absurd h22 ((show ¬ (0 : Int32) ≤ -1 by decide))) (fun _ => ?_)
    refine ev_aload_n dX12_begin_25 rfl ?_
    refine ev_get dX12_begin_26 flX12_28_12 hM.1 rfl ?_
    refine ev_iconst (v := 2) dX12_begin_29 (by decide) ?_
    refine ev_iload_n dX12_begin_30 rfl ?_
    refine evM_iast hM hF (k := 6) (o := 7) (by decide) dX12_begin_31 ixl2 (by rw [hL.at (k := 6) (n := 10) (by decide)]; decide) (fun μ hM hF => ?_)
    refine ev_aload_n dX12_begin_32 rfl ?_
    refine k_v (c_walksP hM (stS_L hL) hE2 (by rw [stS_F]; exact hI.1) h3 hO) (by decide) dX12_begin_33 cbX12_walks (mt6 24 rfl rfl) (mt6 26 rfl rfl) (ms0 65 rfl rfl) (ci := 12) rfl hM.1 rfl rfl (Nat.le_of_ble_eq_true rfl) (fun v μ1 hq => ?_)
    obtain ⟨rfl, ⟨ρ2, hM, hL2, hE3, hO2, w5⟩, hF1⟩ := hq; have hF := hF.tr hF1; have hR := RS.of hL2 hM
    simp only [Option.toList, List.cons_append, List.nil_append]
    refine ev_pop dX12_begin_36 rfl ?_
    refine ev_aload_n dX12_begin_37 rfl ?_
    refine k_v (c_lateMany hR hL2 (hI2u hI hE3) ((hE3.2 7 (by decide)).trans hI.2.2.1.1) hn7) (by decide) dX12_begin_38 cbX12_lateMany (mt6 48 rfl rfl) (mt6 50 rfl rfl) (ms0 70 rfl rfl) (ci := 12) rfl hM.1 rfl rfl (Nat.le_of_ble_eq_true rfl) (fun v μ1 hq => ?_)
    obtain ⟨rfl, hR, hF1⟩ := hq; have hF := hF.tr hF1; obtain ⟨l1, hl1, hM⟩ := id hR; have hW2 : (∃ ρ', RM b ρ' _ ∧ ML ρ' ∧ EqC ρ' (stS ρ 2 (nI m)) ∧ OM ρ' (lsO n Lf)) := ⟨_, hM, S14 hL2 hl1, hE3.sA (by decide), hO2⟩; have eL : (lmnK (Fc ρ2) (Se ρ2) (cdt t cd) (ρ2.1 25) n 0 0 = 0) = (noL ρ n t cd Lf m = true) := by rw [noL, decide_eq_true_eq, hE3.fc, stS_F, hE3.se, lmnK_th (th' := (rd0 (Fc ρ) (Se (stS ρ 2 (nI m))) (lsO n Lf)).2.2) n 0 0 (fun h hh => by rw [w5 h (lsO_all hI.2.2.2.2.2.2.2 h (by omega)), stS_F])]
    simp only [Option.toList, List.cons_append, List.nil_append]
    refine ev_if_ne (tgt := 46) dX12_begin_41 (by decide) (fun h41 => ?_) (fun h41 => ?_)
    · refine ev_iinc dX12_begin_46 rfl (by decide) ?_
      dsimp only [List.set]
      refine ev_goto (tgt := 17) dX12_begin_49 (by decide) ?_
      rw [show dn (m + 1) + Int32.ofInt (-1) = dn m from dn_step m]
      first
        | (rw [if_pos (eL.mp h41)]; exact g_begin hI (x := nI m) (nI_pos' (by omega)) ⟨_, hM, S14 hL2 hl1, hE3.sA (by decide)⟩ hF)
        | (rw [if_neg (fun q => h41 (eL.mpr q))]; exact ih _ _ (by omega) hW2 hF)
    · refine ev_iload_n dX12_begin_44 rfl ?_
      refine ev_istore_n dX12_begin_45 (by decide) ?_
      dsimp only [List.set]
      refine ev_iinc dX12_begin_46 rfl (by decide) ?_
      dsimp only [List.set]
      refine ev_goto (tgt := 17) dX12_begin_49 (by decide) ?_
      rw [show dn (m + 1) + Int32.ofInt (-1) = dn m from dn_step m]
      first
        | (rw [if_pos (eL.mp h41)]; exact g_begin hI (x := nI m) (nI_pos' (by omega)) ⟨_, hM, S14 hL2 hl1, hE3.sA (by decide)⟩ hF)
        | (rw [if_neg (fun q => h41 (eL.mpr q))]; exact ih _ _ (by omega) hW2 hF)
theorem c_begin {μ : Mm} (hW : MW b ρ μ) {n t tx : Nat} {cd : Nat → List Int32} {Lf : Nat → Nat} (hI : IM ρ n t tx cd Lf) : Mt g 5 mX12_begin [.ref b] μ (fun v μ' => v = some (.int (ansBegin ρ n t cd Lf)) ∧ MW b ρ μ' ∧ FM b μ μ') := by
  refine Mt.of0 (ls0 := [some (.ref b), none, none, none]) (by decide) (by simp [Value.category]) (Nat.le_of_ble_eq_true rfl) rfl ?_
  obtain ⟨ρ0, hM, hL, hE⟩ := id hW
  have hF : FM b μ μ := FM.rf
  have hI0 := hI.eqc hE
  have h10 : (ρ.1 6).length = 10 := by rw [← hE.1 6 (by decide)]; exact hL.at (by decide)
  refine ev_aload_n dX12_begin_0 rfl ?_
  refine k_v (c_takesList hM hL hI0) (by decide) dX12_begin_1 cbX12_takesList (mt6 20 rfl rfl) (mt6 22 rfl rfl) (ms0 64 rfl rfl) (ci := 12) rfl hM.1 rfl rfl (Nat.le_of_ble_eq_true rfl) (fun v μ1 hq => ?_)
  obtain ⟨rfl, ⟨ρ1, hM, hL1, hE1, hO⟩, hF1⟩ := hq; have hF := hF.tr hF1; have hEq := hE1.tr hE
  simp only [Option.toList, List.cons_append, List.nil_append]
  refine ev_aload_n dX12_begin_4 rfl ?_
  refine ev_get dX12_begin_5 flX12_28_12 hM.1 rfl ?_
  refine ev_iconst (v := 2) dX12_begin_8 (by decide) ?_
  refine ev_iald dX12_begin_9 (hM.a 6 7 (by decide)) ixl2 (rd hL1 (k := 6) (n := 10) (by decide) (by decide)) ?_
  refine ev_istore_n dX12_begin_10 (by decide) ?_
  dsimp only [List.set]
  refine ev_iconst (v := (-1)) dX12_begin_11 (by decide) ?_
  refine ev_istore_n dX12_begin_12 (by decide) ?_
  dsimp only [List.set]
  refine ev_sipush (v := 999) dX12_begin_13 (by decide) ?_
  refine ev_istore_n dX12_begin_16 (by decide) ?_
  dsimp only [List.set]
  rw [hEq.1 6 (by decide)]
  exact l_begin hI h10 1000 (Se ρ 2) _ (Nat.le_refl _) ⟨ρ1, hM, hL1, by rw [stS_same]; exact hEq, hO⟩ hF
end MBEGIN
