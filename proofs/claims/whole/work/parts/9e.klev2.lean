/-! ===== the class's reader: its levels ===== -/
theorem Rd.pushN {h h2 x : Int32} {P' : PS} {H C E E2 : List Int32} {o : Int32} (q : Rd h2 P' (x :: H, C ++ E ++ E2, o)) (hh : h ≤ h2) (hx : h ≤ hgt x) (n : ¬ (x = 8 ∨ x = 9)) : Rd h P' (H, C ++ (E ++ E2 ++ [30000 + x]), o) := by
  have e := (q.mono hh).push hx
  rw [if_neg n] at e
  rw [show C ++ (E ++ E2 ++ [30000 + x]) = C ++ E ++ E2 ++ [30000 + x] by simp only [List.append_assoc]]
  exact e
theorem RdS.as {r : Nat} {T tp s D E E2 : List Int32} {c : Int32} {μ : Mm} (h : RdS r T tp s (D ++ E ++ E2 ++ [c]) μ) : RdS r T tp s (D ++ (E ++ E2 ++ [c])) μ := by
  rw [show D ++ (E ++ E2 ++ [c]) = D ++ E ++ E2 ++ [c] by simp only [List.append_assoc]]
  exact h
theorem RdS.as1 {r : Nat} {T tp s D E : List Int32} {c : Int32} {μ : Mm} (h : RdS r T tp s (D ++ E ++ [c]) μ) : RdS r T tp s (D ++ (E ++ [c])) μ := by
  rw [← List.append_assoc]
  exact h
theorem RdS.z {r : Nat} {T tp s D : List Int32} {μ : Mm} (h : RdS r T tp s D μ) : RdS r T tp s (D ++ []) μ := by
  rw [List.append_nil]
  exact h
theorem LvF.eq {r : Nat} {T tp : List Int32} {R R' : Bool × (List Int32 × PS)} {μ : Mm} (h : LvF r T tp R' μ) (e : R = R') : LvF r T tp R μ := e ▸ h
section KLEV2
variable {g : Gl} {r : Nat} {T tp : List Int32}

theorem lv_term {q : Nat} (hT : RT T tp) (hcal : LvC g mX4_one (10 * q + 8) r T tp q 7 (1 + 5 * q) NxO preO) {s0 D H C : List Int32} {μ0 : Mm} (hs0 : Sfx tp s0) (hTp : Tp [10, 7, 6, 8, 4, 5, 1, 2] H) (hD : D.length ≤ psn tp s0) : ∀ (n i : Nat) (s E : List Int32) (P' : PS) (μ : Mm), s.length < n → i ≤ psn tp s → FR r μ0 μ → RdS r T tp s (D ++ E) μ → rowR true s0 (H, C, nI (5 - q)) = rowR false s P' → Rd 6 P' (H, C ++ E, nI (5 - q)) → NxO (tkK s) P' → Hk (2 + 5 * q) E → E.length + psn tp s0 ≤ psn tp s → Ev g (10 * q + 9) mX4_term 8 [some (.ref r), some (.int (nI (5 - q))), some (.int 1), some (.int (nI i))] [] μ (LvQ r T tp 6 (2 + 5 * q) NxT s0 D H C (nI (5 - q)) μ0) := by
  have h160 := hT.1
  have bad : ∀ (x : Int32) (μ1 : Mm), FR r μ0 μ1 → LvF r T tp (rowR true s0 (H, C, nI (5 - q))) μ1 → Ev g (10 * q + 9) mX4_term 8 [some (.ref r), some (.int (nI (5 - q))), some (.int 0), some (.int x)] [] μ1 (LvQ r T tp 6 (2 + 5 * q) NxT s0 D H C (nI (5 - q)) μ0) := by
    intro x μ1 hF hN
    refine ev_iload_n dX4_term_8 rfl ?_
    refine ev_sipush (v := 160) dX4_term_9 (by decide) ?_
    refine ev_icmp_ge (tgt := 61) dX4_term_12 (by decide) (fun h12 => ?_) (fun h12 => ?_)
    · refine ev_iload_n dX4_term_61 rfl ?_
      refine ev_zret dX4_term_62 rfl (by decide) ?_
      exact ⟨hF, 0, rfl, Or.inr ⟨rfl, hN⟩⟩
    · refine ev_iload_n dX4_term_15 rfl ?_
      refine ev_if_eq (tgt := 61) dX4_term_16 (by decide) (fun _ => ?_) (fun h16 => absurd (rfl) h16)
      refine ev_iload_n dX4_term_61 rfl ?_
      refine ev_zret dX4_term_62 rfl (by decide) ?_
      exact ⟨hF, 0, rfl, Or.inr ⟨rfl, hN⟩⟩
  intro n
  induction n with
  | zero => intro i s E P' μ h; omega
  | succ n ih =>
    intro i s E P' μ hn hi hF hS eR hRd hNx hH hlen
    have hss := hS.sfx
    have hsl := hss.le
    obtain ⟨f, C1, hO, hC, h0, hK, h4, hc4⟩ := id hS
    have done : ∀ (hne : NxT (tkK s) P'), LvQ r T tp 6 (2 + 5 * q) NxT s0 D H C (nI (5 - q)) μ0 (some (.int 1)) μ := fun hne => ⟨hF, 1, rfl, Or.inl ⟨rfl, s, E, P', hS, eR, hRd, hne, hH, hlen⟩⟩
    refine ev_iload_n dX4_term_8 rfl ?_
    refine ev_sipush (v := 160) dX4_term_9 (by decide) ?_
    refine ev_icmp_ge (tgt := 61) dX4_term_12 (by decide) (fun h12 => ?_) (fun h12 => ?_)
    · refine ev_iload_n dX4_term_61 rfl ?_
      refine ev_zret dX4_term_62 rfl (by decide) ?_
      first
        | (have e := h25
           exact done h25)
        | (have e160 : 160 ≤ i := Nat.not_lt.mp (fun q => nI_ge q (by omega) h12)
           have es : s = [] := List.length_eq_zero_iff.mp (by simp only [psn] at hi; omega)
           have n0 : tkK s = 0 := by rw [es]; rfl
           exact done (show ¬ tkK s = 42 by rw [n0]; decide))
    · refine ev_iload_n dX4_term_15 rfl ?_
      refine ev_if_eq (tgt := 61) dX4_term_16 (by decide) (fun h16 => absurd h16 ((show ¬ (1 : Int32) = 0 by decide))) (fun _ => ?_)
      refine ev_aload_n dX4_term_19 rfl ?_
      refine ev_get dX4_term_20 flX4_31_4 hO.1 rfl ?_
      rw [hK.2.2.1]
      refine ev_bipush (v := 42) dX4_term_23 (by decide) ?_
      refine ev_icmp_ne (tgt := 61) dX4_term_25 (by decide) (fun h25 => ?_) (fun h25 => ?_)
      · refine ev_iload_n dX4_term_61 rfl ?_
        refine ev_zret dX4_term_62 rfl (by decide) ?_
        first
          | (have e := h25
             exact done h25)
          | (have e160 : 160 ≤ i := Nat.not_lt.mp (fun q => nI_ge q (by omega) h12)
             have es : s = [] := List.length_eq_zero_iff.mp (by simp only [psn] at hi; omega)
             have n0 : tkK s = 0 := by rw [es]; rfl
             exact done (show ¬ tkK s = 42 by rw [n0]; decide))
      · have hk0 : ¬ tkK s = 0 := by rw [h25]; decide
        have hnx := psn_nx hss hk0
        have hp0 := psn_lt0 hss hk0
        have eR2 := eR.trans (rw_op (d := 3) (h := 6) (by rw [h25]; rfl) (by decide) (by decide) hRd rfl (by decide) hTp (by decide))
        refine ev_aload_n dX4_term_28 rfl ?_
        refine k_v (c_advS hS hT) (by omega) dX4_term_29 cbX4_advance (mt1 231 rfl rfl) (mt1 233 rfl rfl) (ms0 0 rfl rfl) (ci := 4) rfl hO.1 rfl rfl (Nat.le_of_ble_eq_true rfl) (fun v μ1 hq => ?_)
        obtain ⟨rfl, hS, hF2⟩ := hq; have hF := hF.tr hF2; clear hF2; obtain ⟨f, C1, hO, hC, h0, hK, h4, hc4⟩ := id hS
        simp only [Option.toList, List.cons_append, List.nil_append]
        refine ev_aload_n dX4_term_32 rfl ?_
        refine ev_iload_n dX4_term_33 rfl ?_
        refine k_v (hcal (nxT s) (D ++ E) (3 :: H) (C ++ E) _ hS (by rw [List.length_append]; omega) (preO_c (by decide))) (by omega) dX4_term_34 cbX4_one (mt2 62 rfl rfl) (mt2 64 rfl rfl) (ms0 12 rfl rfl) (ci := 4) rfl hO.1 rfl rfl (Nat.le_of_ble_eq_true rfl) (fun v μ1 hq => ?_)
        obtain ⟨hF2, z, rfl, hz⟩ := hq; have hF := hF.tr hF2; clear hF2
        simp only [Option.toList, List.cons_append, List.nil_append]
        refine ev_if_eq (tgt := 53) dX4_term_37 (by decide) (fun h37 => ?_) (fun h37 => ?_)
        · refine ev_iconst (v := 0) dX4_term_53 (by decide) ?_
          refine ev_istore_n dX4_term_54 (by decide) ?_
          dsimp only [List.set]
          refine ev_iinc dX4_term_55 rfl (by decide) ?_
          dsimp only [List.set]
          refine ev_goto (tgt := 8) dX4_term_58 (by decide) ?_
          first
            | (have q37 := hz.resolve_left (fun q => by rw [q.1] at h37; exact absurd h37 (by decide))
               exact bad _ _ hF (q37.2.eq eR2))
            | (rw [nI_inc]
               have hs3l := hs3.le
               have hnl : (nxT s).length ≤ s.length := by have := nxT_lt hk0; omega
               refine ih (i + 1) s3 (E ++ E2 ++ [30000 + 3]) P3 _ ?_ ?_ hF hS.as (eR2.trans eR3) (hRd3.pushN (by decide) (by decide) (by decide)) hNx3 (hH.bin hH3 (by omega) (by decide)) ?_
               · simp only [psn] at hlen3 hnx; omega
               · omega
               · simp only [List.length_append, List.length_singleton]; omega)
        · obtain ⟨-, s3, E2, P3, hS, eR3, hRd3, hNx3, hH3, hlen3⟩ := hz.resolve_right (fun q => h37 q.1); obtain ⟨f, C1, hO, hC, h0, hK, h4, hc4⟩ := id hS
          have hs3 := hS.sfx
          have hp3 : psn tp s3 ≤ tp.length := psn_le
          refine ev_aload_n dX4_term_40 rfl ?_
          refine ev_bipush (v := 42) dX4_term_41 (by decide) ?_
          refine k_v (c_emit hS (by simp only [List.length_append]; omega) (c := 30000 + 3) (by decide)) (by omega) dX4_term_43 cbX4_emit (mt2 66 rfl rfl) (mt2 68 rfl rfl) (ms0 13 rfl rfl) (ci := 4) rfl hO.1 rfl rfl (Nat.le_of_ble_eq_true rfl) (fun v μ1 hq => ?_)
          obtain ⟨rfl, hS, hF2⟩ := hq; have hF := hF.tr hF2; clear hF2
          simp only [Option.toList, List.cons_append, List.nil_append]
          refine ev_if_eq (tgt := 53) dX4_term_46 (by decide) (fun h46 => absurd h46 ((show ¬ (1 : Int32) = 0 by decide))) (fun _ => ?_)
          refine ev_iconst (v := 1) dX4_term_49 (by decide) ?_
          refine ev_goto (tgt := 54) dX4_term_50 (by decide) ?_
          refine ev_istore_n dX4_term_54 (by decide) ?_
          dsimp only [List.set]
          refine ev_iinc dX4_term_55 rfl (by decide) ?_
          dsimp only [List.set]
          refine ev_goto (tgt := 8) dX4_term_58 (by decide) ?_
          first
            | (have q37 := hz.resolve_left (fun q => by rw [q.1] at h37; exact absurd h37 (by decide))
               exact bad _ _ hF (q37.2.eq eR2))
            | (rw [nI_inc]
               have hs3l := hs3.le
               have hnl : (nxT s).length ≤ s.length := by have := nxT_lt hk0; omega
               refine ih (i + 1) s3 (E ++ E2 ++ [30000 + 3]) P3 _ ?_ ?_ hF hS.as (eR2.trans eR3) (hRd3.pushN (by decide) (by decide) (by decide)) hNx3 (hH.bin hH3 (by omega) (by decide)) ?_
               · simp only [psn] at hlen3 hnx; omega
               · omega
               · simp only [List.length_append, List.length_singleton]; omega)
theorem lc_term {q : Nat} (hT : RT T tp) (hcal : LvC g mX4_one (10 * q + 8) r T tp q 7 (1 + 5 * q) NxO preO) : LvC g mX4_term (10 * q + 9) r T tp q 6 (2 + 5 * q) NxT preT := by
  intro s D H C μ hS hD hp
  have hF : FR r μ μ := FR.rf
  have hss := hS.sfx
  obtain ⟨f, C1, hO, hC, h0, hK, h4, hc4⟩ := id hS
  refine Mt.of0 (ls0 := [some (.ref r), some (.int (nI (5 - q))), none, none]) (by decide) (by simp [Value.category]) (Nat.le_of_ble_eq_true rfl) rfl ?_
  have bad : ∀ (x : Int32) (μ1 : Mm), FR r μ μ1 → LvF r T tp (rowR true s (H, C, nI (5 - q))) μ1 → Ev g (10 * q + 9) mX4_term 8 [some (.ref r), some (.int (nI (5 - q))), some (.int 0), some (.int x)] [] μ1 (LvQ r T tp 6 (2 + 5 * q) NxT s D H C (nI (5 - q)) μ) := by
    intro x μ1 hF hN
    refine ev_iload_n dX4_term_8 rfl ?_
    refine ev_sipush (v := 160) dX4_term_9 (by decide) ?_
    refine ev_icmp_ge (tgt := 61) dX4_term_12 (by decide) (fun h12 => ?_) (fun h12 => ?_)
    · refine ev_iload_n dX4_term_61 rfl ?_
      refine ev_zret dX4_term_62 rfl (by decide) ?_
      exact ⟨hF, 0, rfl, Or.inr ⟨rfl, hN⟩⟩
    · refine ev_iload_n dX4_term_15 rfl ?_
      refine ev_if_eq (tgt := 61) dX4_term_16 (by decide) (fun _ => ?_) (fun h16 => absurd (rfl) h16)
      refine ev_iload_n dX4_term_61 rfl ?_
      refine ev_zret dX4_term_62 rfl (by decide) ?_
      exact ⟨hF, 0, rfl, Or.inr ⟨rfl, hN⟩⟩
  refine ev_aload_n dX4_term_0 rfl ?_
  refine ev_iload_n dX4_term_1 rfl ?_
  refine k_v (hcal s D H C _ hS hD hp.1) (by omega) dX4_term_2 cbX4_one (mt2 62 rfl rfl) (mt2 64 rfl rfl) (ms0 12 rfl rfl) (ci := 4) rfl hO.1 rfl rfl (Nat.le_of_ble_eq_true rfl) (fun v μ1 hq => ?_)
  obtain ⟨hF2, z, rfl, hz⟩ := hq; have hF := hF.tr hF2; clear hF2
  simp only [Option.toList, List.cons_append, List.nil_append]
  refine ev_istore_n dX4_term_5 (by decide) ?_
  dsimp only [List.set]
  refine ev_iconst (v := 0) dX4_term_6 (by decide) ?_
  refine ev_istore_n dX4_term_7 (by decide) ?_
  dsimp only [List.set]
  rcases hz with ⟨rfl, s3, E, P3, hS3, eR3, hRd3, hNx3, hH3, hlen3⟩ | ⟨rfl, hN⟩
  · exact lv_term hT hcal hss hp.2 hD (s3.length + 1) 0 s3 E P3 _ (Nat.lt_succ_self _) (Nat.zero_le _) hF hS3 eR3 (hRd3.mono (by decide)) hNx3 (hH3.mono (by omega)) hlen3
  · exact bad _ _ hF hN

theorem lv_sum {q : Nat} (hT : RT T tp) (hcal : LvC g mX4_term (10 * q + 9) r T tp q 6 (2 + 5 * q) NxT preT) {s0 D H C : List Int32} {μ0 : Mm} (hs0 : Sfx tp s0) (hTp : Tp [10, 7, 6, 8, 4, 5] H) (hD : D.length ≤ psn tp s0) : ∀ (n i : Nat) (o4 : Option Value) (s E : List Int32) (P' : PS) (μ : Mm), s.length < n → i ≤ psn tp s → FR r μ0 μ → RdS r T tp s (D ++ E) μ → rowR true s0 (H, C, nI (5 - q)) = rowR false s P' → Rd 5 P' (H, C ++ E, nI (5 - q)) → NxT (tkK s) P' → Hk (3 + 5 * q) E → E.length + psn tp s0 ≤ psn tp s → Ev g (10 * q + 10) mX4_sum 8 [some (.ref r), some (.int (nI (5 - q))), some (.int 1), some (.int (nI i)), o4] [] μ (LvQ r T tp 5 (3 + 5 * q) NxS s0 D H C (nI (5 - q)) μ0) := by
  have h160 := hT.1
  have bad : ∀ (x : Int32) (o4 : Option Value) (μ1 : Mm), FR r μ0 μ1 → LvF r T tp (rowR true s0 (H, C, nI (5 - q))) μ1 → Ev g (10 * q + 10) mX4_sum 8 [some (.ref r), some (.int (nI (5 - q))), some (.int 0), some (.int x), o4] [] μ1 (LvQ r T tp 5 (3 + 5 * q) NxS s0 D H C (nI (5 - q)) μ0) := by
    intro x o4 μ1 hF hN
    refine ev_iload_n dX4_sum_8 rfl ?_
    refine ev_sipush (v := 160) dX4_sum_9 (by decide) ?_
    refine ev_icmp_ge (tgt := 76) dX4_sum_12 (by decide) (fun h12 => ?_) (fun h12 => ?_)
    · refine ev_iload_n dX4_sum_76 rfl ?_
      refine ev_zret dX4_sum_77 rfl (by decide) ?_
      exact ⟨hF, 0, rfl, Or.inr ⟨rfl, hN⟩⟩
    · refine ev_iload_n dX4_sum_15 rfl ?_
      refine ev_if_eq (tgt := 76) dX4_sum_16 (by decide) (fun _ => ?_) (fun h16 => absurd (rfl) h16)
      refine ev_iload_n dX4_sum_76 rfl ?_
      refine ev_zret dX4_sum_77 rfl (by decide) ?_
      exact ⟨hF, 0, rfl, Or.inr ⟨rfl, hN⟩⟩
  intro n
  induction n with
  | zero => intro i o4 s E P' μ h; omega
  | succ n ih =>
    intro i o4 s E P' μ hn hi hF hS eR hRd hNx hH hlen
    have hss := hS.sfx
    have hsl := hss.le
    obtain ⟨f, C1, hO, hC, h0, hK, h4, hc4⟩ := id hS
    have done : ∀ (hne : NxS (tkK s) P'), LvQ r T tp 5 (3 + 5 * q) NxS s0 D H C (nI (5 - q)) μ0 (some (.int 1)) μ := fun hne => ⟨hF, 1, rfl, Or.inl ⟨rfl, s, E, P', hS, eR, hRd, hne, hH, hlen⟩⟩
    refine ev_iload_n dX4_sum_8 rfl ?_
    refine ev_sipush (v := 160) dX4_sum_9 (by decide) ?_
    refine ev_icmp_ge (tgt := 76) dX4_sum_12 (by decide) (fun h12 => ?_) (fun h12 => ?_)
    · refine ev_iload_n dX4_sum_76 rfl ?_
      refine ev_zret dX4_sum_77 rfl (by decide) ?_
      first
        | (have e := h34
           exact done ⟨hNx, h25, h34⟩)
        | (have e160 : 160 ≤ i := Nat.not_lt.mp (fun q => nI_ge q (by omega) h12)
           have es : s = [] := List.length_eq_zero_iff.mp (by simp only [psn] at hi; omega)
           have n0 : tkK s = 0 := by rw [es]; rfl
           exact done ⟨hNx, by rw [n0]; decide, by rw [n0]; decide⟩)
    · refine ev_iload_n dX4_sum_15 rfl ?_
      refine ev_if_eq (tgt := 76) dX4_sum_16 (by decide) (fun h16 => absurd h16 ((show ¬ (1 : Int32) = 0 by decide))) (fun _ => ?_)
      refine ev_aload_n dX4_sum_19 rfl ?_
      refine ev_get dX4_sum_20 flX4_31_4 hO.1 rfl ?_
      rw [hK.2.2.1]
      refine ev_bipush (v := 43) dX4_sum_23 (by decide) ?_
      refine ev_icmp_eq (tgt := 37) dX4_sum_25 (by decide) (fun h25 => ?_) (fun h25 => ?_)
      · obtain ⟨d, hd, hd12, he, hk0⟩ : ∃ d, bhD (tkK s) = d ∧ (d = 1 ∨ d = 2) ∧ tkK s = en (30000 + d) ∧ ¬ tkK s = 0 := by
          first
            | (have e : tkK s = 43 := h25
               exact ⟨1, by rw [e]; rfl, Or.inl rfl, by rw [e]; decide, by rw [e]; decide⟩)
            | (have e : tkK s = 45 := h34
               exact ⟨2, by rw [e]; rfl, Or.inr rfl, by rw [e]; decide, by rw [e]; decide⟩)
        have hnx := psn_nx hss hk0
        have hp0 := psn_lt0 hss hk0
        have hgd : hgt d = 5 := by rcases hd12 with rfl | rfl <;> rfl
        have eR2 := eR.trans (rw_op hd (by rcases hd12 with rfl | rfl <;> decide) (by rcases hd12 with rfl | rfl <;> decide) hRd hgd (by decide) hTp (by decide))
        refine ev_aload_n dX4_sum_37 rfl ?_
        refine ev_get dX4_sum_38 flX4_31_4 hO.1 rfl ?_
        rw [hK.2.2.1]
        refine ev_istore dX4_sum_41 (by decide) ?_
        dsimp only [List.set]
        refine ev_aload_n dX4_sum_43 rfl ?_
        refine k_v (c_advS hS hT) (by omega) dX4_sum_44 cbX4_advance (mt1 231 rfl rfl) (mt1 233 rfl rfl) (ms0 0 rfl rfl) (ci := 4) rfl hO.1 rfl rfl (Nat.le_of_ble_eq_true rfl) (fun v μ1 hq => ?_)
        obtain ⟨rfl, hS, hF2⟩ := hq; have hF := hF.tr hF2; clear hF2; obtain ⟨f, C1, hO, hC, h0, hK, h4, hc4⟩ := id hS
        simp only [Option.toList, List.cons_append, List.nil_append]
        refine ev_aload_n dX4_sum_47 rfl ?_
        refine ev_iload_n dX4_sum_48 rfl ?_
        refine k_v (hcal (nxT s) (D ++ E) (d :: H) (C ++ E) _ hS (by rw [List.length_append]; omega) ⟨preO_c (by rcases hd12 with rfl | rfl <;> decide), Tp.cons (by rcases hd12 with rfl | rfl <;> decide)⟩) (by omega) dX4_sum_49 cbX4_term (mt2 58 rfl rfl) (mt2 60 rfl rfl) (ms0 11 rfl rfl) (ci := 4) rfl hO.1 rfl rfl (Nat.le_of_ble_eq_true rfl) (fun v μ1 hq => ?_)
        obtain ⟨hF2, z, rfl, hz⟩ := hq; have hF := hF.tr hF2; clear hF2
        simp only [Option.toList, List.cons_append, List.nil_append]
        refine ev_if_eq (tgt := 68) dX4_sum_52 (by decide) (fun h52 => ?_) (fun h52 => ?_)
        · refine ev_iconst (v := 0) dX4_sum_68 (by decide) ?_
          refine ev_istore_n dX4_sum_69 (by decide) ?_
          dsimp only [List.set]
          refine ev_iinc dX4_sum_70 rfl (by decide) ?_
          dsimp only [List.set]
          refine ev_goto (tgt := 8) dX4_sum_73 (by decide) ?_
          first
            | (have q37 := hz.resolve_left (fun q => by rw [q.1] at h52; exact absurd h52 (by decide))
               exact bad _ _ _ hF (q37.2.eq eR2))
            | (rw [nI_inc]
               have hs3l := hs3.le
               have hnl : (nxT s).length ≤ s.length := by have := nxT_lt hk0; omega
               refine ih (i + 1) _ s3 (E ++ E2 ++ [30000 + d]) P3 _ ?_ ?_ hF hS.as (eR2.trans eR3) (hRd3.pushN (by decide) (by rw [hgd]; exact Int32.le_refl _) (by rcases hd12 with rfl | rfl <;> decide)) hNx3 (hH.bin hH3 (by omega) (by rcases hd12 with rfl | rfl <;> decide)) ?_
               · simp only [psn] at hlen3 hnx; omega
               · omega
               · simp only [List.length_append, List.length_singleton]; omega)
        · obtain ⟨-, s3, E2, P3, hS, eR3, hRd3, hNx3, hH3, hlen3⟩ := hz.resolve_right (fun q => h52 q.1); obtain ⟨f, C1, hO, hC, h0, hK, h4, hc4⟩ := id hS
          have hs3 := hS.sfx
          have hp3 : psn tp s3 ≤ tp.length := psn_le
          refine ev_aload_n dX4_sum_55 rfl ?_
          refine ev_iload dX4_sum_56 rfl ?_
          refine k_v (c_emit hS (by simp only [List.length_append]; omega) (c := 30000 + d) he) (by omega) dX4_sum_58 cbX4_emit (mt2 66 rfl rfl) (mt2 68 rfl rfl) (ms0 13 rfl rfl) (ci := 4) rfl hO.1 rfl rfl (Nat.le_of_ble_eq_true rfl) (fun v μ1 hq => ?_)
          obtain ⟨rfl, hS, hF2⟩ := hq; have hF := hF.tr hF2; clear hF2
          simp only [Option.toList, List.cons_append, List.nil_append]
          refine ev_if_eq (tgt := 68) dX4_sum_61 (by decide) (fun h61 => absurd h61 ((show ¬ (1 : Int32) = 0 by decide))) (fun _ => ?_)
          refine ev_iconst (v := 1) dX4_sum_64 (by decide) ?_
          refine ev_goto (tgt := 69) dX4_sum_65 (by decide) ?_
          refine ev_istore_n dX4_sum_69 (by decide) ?_
          dsimp only [List.set]
          refine ev_iinc dX4_sum_70 rfl (by decide) ?_
          dsimp only [List.set]
          refine ev_goto (tgt := 8) dX4_sum_73 (by decide) ?_
          first
            | (have q37 := hz.resolve_left (fun q => by rw [q.1] at h52; exact absurd h52 (by decide))
               exact bad _ _ _ hF (q37.2.eq eR2))
            | (rw [nI_inc]
               have hs3l := hs3.le
               have hnl : (nxT s).length ≤ s.length := by have := nxT_lt hk0; omega
               refine ih (i + 1) _ s3 (E ++ E2 ++ [30000 + d]) P3 _ ?_ ?_ hF hS.as (eR2.trans eR3) (hRd3.pushN (by decide) (by rw [hgd]; exact Int32.le_refl _) (by rcases hd12 with rfl | rfl <;> decide)) hNx3 (hH.bin hH3 (by omega) (by rcases hd12 with rfl | rfl <;> decide)) ?_
               · simp only [psn] at hlen3 hnx; omega
               · omega
               · simp only [List.length_append, List.length_singleton]; omega)
      · refine ev_aload_n dX4_sum_28 rfl ?_
        refine ev_get dX4_sum_29 flX4_31_4 hO.1 rfl ?_
        rw [hK.2.2.1]
        refine ev_bipush (v := 45) dX4_sum_32 (by decide) ?_
        refine ev_icmp_ne (tgt := 76) dX4_sum_34 (by decide) (fun h34 => ?_) (fun h34 => ?_)
        · refine ev_iload_n dX4_sum_76 rfl ?_
          refine ev_zret dX4_sum_77 rfl (by decide) ?_
          first
            | (have e := h34
               exact done ⟨hNx, h25, h34⟩)
            | (have e160 : 160 ≤ i := Nat.not_lt.mp (fun q => nI_ge q (by omega) h12)
               have es : s = [] := List.length_eq_zero_iff.mp (by simp only [psn] at hi; omega)
               have n0 : tkK s = 0 := by rw [es]; rfl
               exact done ⟨hNx, by rw [n0]; decide, by rw [n0]; decide⟩)
        · obtain ⟨d, hd, hd12, he, hk0⟩ : ∃ d, bhD (tkK s) = d ∧ (d = 1 ∨ d = 2) ∧ tkK s = en (30000 + d) ∧ ¬ tkK s = 0 := by
            first
              | (have e : tkK s = 43 := h25
                 exact ⟨1, by rw [e]; rfl, Or.inl rfl, by rw [e]; decide, by rw [e]; decide⟩)
              | (have e : tkK s = 45 := h34
                 exact ⟨2, by rw [e]; rfl, Or.inr rfl, by rw [e]; decide, by rw [e]; decide⟩)
          have hnx := psn_nx hss hk0
          have hp0 := psn_lt0 hss hk0
          have hgd : hgt d = 5 := by rcases hd12 with rfl | rfl <;> rfl
          have eR2 := eR.trans (rw_op hd (by rcases hd12 with rfl | rfl <;> decide) (by rcases hd12 with rfl | rfl <;> decide) hRd hgd (by decide) hTp (by decide))
          refine ev_aload_n dX4_sum_37 rfl ?_
          refine ev_get dX4_sum_38 flX4_31_4 hO.1 rfl ?_
          rw [hK.2.2.1]
          refine ev_istore dX4_sum_41 (by decide) ?_
          dsimp only [List.set]
          refine ev_aload_n dX4_sum_43 rfl ?_
          refine k_v (c_advS hS hT) (by omega) dX4_sum_44 cbX4_advance (mt1 231 rfl rfl) (mt1 233 rfl rfl) (ms0 0 rfl rfl) (ci := 4) rfl hO.1 rfl rfl (Nat.le_of_ble_eq_true rfl) (fun v μ1 hq => ?_)
          obtain ⟨rfl, hS, hF2⟩ := hq; have hF := hF.tr hF2; clear hF2; obtain ⟨f, C1, hO, hC, h0, hK, h4, hc4⟩ := id hS
          simp only [Option.toList, List.cons_append, List.nil_append]
          refine ev_aload_n dX4_sum_47 rfl ?_
          refine ev_iload_n dX4_sum_48 rfl ?_
          refine k_v (hcal (nxT s) (D ++ E) (d :: H) (C ++ E) _ hS (by rw [List.length_append]; omega) ⟨preO_c (by rcases hd12 with rfl | rfl <;> decide), Tp.cons (by rcases hd12 with rfl | rfl <;> decide)⟩) (by omega) dX4_sum_49 cbX4_term (mt2 58 rfl rfl) (mt2 60 rfl rfl) (ms0 11 rfl rfl) (ci := 4) rfl hO.1 rfl rfl (Nat.le_of_ble_eq_true rfl) (fun v μ1 hq => ?_)
          obtain ⟨hF2, z, rfl, hz⟩ := hq; have hF := hF.tr hF2; clear hF2
          simp only [Option.toList, List.cons_append, List.nil_append]
          refine ev_if_eq (tgt := 68) dX4_sum_52 (by decide) (fun h52 => ?_) (fun h52 => ?_)
          · refine ev_iconst (v := 0) dX4_sum_68 (by decide) ?_
            refine ev_istore_n dX4_sum_69 (by decide) ?_
            dsimp only [List.set]
            refine ev_iinc dX4_sum_70 rfl (by decide) ?_
            dsimp only [List.set]
            refine ev_goto (tgt := 8) dX4_sum_73 (by decide) ?_
            first
              | (have q37 := hz.resolve_left (fun q => by rw [q.1] at h52; exact absurd h52 (by decide))
                 exact bad _ _ _ hF (q37.2.eq eR2))
              | (rw [nI_inc]
                 have hs3l := hs3.le
                 have hnl : (nxT s).length ≤ s.length := by have := nxT_lt hk0; omega
                 refine ih (i + 1) _ s3 (E ++ E2 ++ [30000 + d]) P3 _ ?_ ?_ hF hS.as (eR2.trans eR3) (hRd3.pushN (by decide) (by rw [hgd]; exact Int32.le_refl _) (by rcases hd12 with rfl | rfl <;> decide)) hNx3 (hH.bin hH3 (by omega) (by rcases hd12 with rfl | rfl <;> decide)) ?_
                 · simp only [psn] at hlen3 hnx; omega
                 · omega
                 · simp only [List.length_append, List.length_singleton]; omega)
          · obtain ⟨-, s3, E2, P3, hS, eR3, hRd3, hNx3, hH3, hlen3⟩ := hz.resolve_right (fun q => h52 q.1); obtain ⟨f, C1, hO, hC, h0, hK, h4, hc4⟩ := id hS
            have hs3 := hS.sfx
            have hp3 : psn tp s3 ≤ tp.length := psn_le
            refine ev_aload_n dX4_sum_55 rfl ?_
            refine ev_iload dX4_sum_56 rfl ?_
            refine k_v (c_emit hS (by simp only [List.length_append]; omega) (c := 30000 + d) he) (by omega) dX4_sum_58 cbX4_emit (mt2 66 rfl rfl) (mt2 68 rfl rfl) (ms0 13 rfl rfl) (ci := 4) rfl hO.1 rfl rfl (Nat.le_of_ble_eq_true rfl) (fun v μ1 hq => ?_)
            obtain ⟨rfl, hS, hF2⟩ := hq; have hF := hF.tr hF2; clear hF2
            simp only [Option.toList, List.cons_append, List.nil_append]
            refine ev_if_eq (tgt := 68) dX4_sum_61 (by decide) (fun h61 => absurd h61 ((show ¬ (1 : Int32) = 0 by decide))) (fun _ => ?_)
            refine ev_iconst (v := 1) dX4_sum_64 (by decide) ?_
            refine ev_goto (tgt := 69) dX4_sum_65 (by decide) ?_
            refine ev_istore_n dX4_sum_69 (by decide) ?_
            dsimp only [List.set]
            refine ev_iinc dX4_sum_70 rfl (by decide) ?_
            dsimp only [List.set]
            refine ev_goto (tgt := 8) dX4_sum_73 (by decide) ?_
            first
              | (have q37 := hz.resolve_left (fun q => by rw [q.1] at h52; exact absurd h52 (by decide))
                 exact bad _ _ _ hF (q37.2.eq eR2))
              | (rw [nI_inc]
                 have hs3l := hs3.le
                 have hnl : (nxT s).length ≤ s.length := by have := nxT_lt hk0; omega
                 refine ih (i + 1) _ s3 (E ++ E2 ++ [30000 + d]) P3 _ ?_ ?_ hF hS.as (eR2.trans eR3) (hRd3.pushN (by decide) (by rw [hgd]; exact Int32.le_refl _) (by rcases hd12 with rfl | rfl <;> decide)) hNx3 (hH.bin hH3 (by omega) (by rcases hd12 with rfl | rfl <;> decide)) ?_
                 · simp only [psn] at hlen3 hnx; omega
                 · omega
                 · simp only [List.length_append, List.length_singleton]; omega)
theorem lc_sum {q : Nat} (hT : RT T tp) (hcal : LvC g mX4_term (10 * q + 9) r T tp q 6 (2 + 5 * q) NxT preT) : LvC g mX4_sum (10 * q + 10) r T tp q 5 (3 + 5 * q) NxS preS := by
  intro s D H C μ hS hD hp
  have hF : FR r μ μ := FR.rf
  have hss := hS.sfx
  obtain ⟨f, C1, hO, hC, h0, hK, h4, hc4⟩ := id hS
  refine Mt.of0 (ls0 := [some (.ref r), some (.int (nI (5 - q))), none, none, none]) (by decide) (by simp [Value.category]) (Nat.le_of_ble_eq_true rfl) rfl ?_
  have bad : ∀ (x : Int32) (o4 : Option Value) (μ1 : Mm), FR r μ μ1 → LvF r T tp (rowR true s (H, C, nI (5 - q))) μ1 → Ev g (10 * q + 10) mX4_sum 8 [some (.ref r), some (.int (nI (5 - q))), some (.int 0), some (.int x), o4] [] μ1 (LvQ r T tp 5 (3 + 5 * q) NxS s D H C (nI (5 - q)) μ) := by
    intro x o4 μ1 hF hN
    refine ev_iload_n dX4_sum_8 rfl ?_
    refine ev_sipush (v := 160) dX4_sum_9 (by decide) ?_
    refine ev_icmp_ge (tgt := 76) dX4_sum_12 (by decide) (fun h12 => ?_) (fun h12 => ?_)
    · refine ev_iload_n dX4_sum_76 rfl ?_
      refine ev_zret dX4_sum_77 rfl (by decide) ?_
      exact ⟨hF, 0, rfl, Or.inr ⟨rfl, hN⟩⟩
    · refine ev_iload_n dX4_sum_15 rfl ?_
      refine ev_if_eq (tgt := 76) dX4_sum_16 (by decide) (fun _ => ?_) (fun h16 => absurd (rfl) h16)
      refine ev_iload_n dX4_sum_76 rfl ?_
      refine ev_zret dX4_sum_77 rfl (by decide) ?_
      exact ⟨hF, 0, rfl, Or.inr ⟨rfl, hN⟩⟩
  refine ev_aload_n dX4_sum_0 rfl ?_
  refine ev_iload_n dX4_sum_1 rfl ?_
  refine k_v (hcal s D H C _ hS hD ⟨hp.1, hp.2.sub (by decide)⟩) (by omega) dX4_sum_2 cbX4_term (mt2 58 rfl rfl) (mt2 60 rfl rfl) (ms0 11 rfl rfl) (ci := 4) rfl hO.1 rfl rfl (Nat.le_of_ble_eq_true rfl) (fun v μ1 hq => ?_)
  obtain ⟨hF2, z, rfl, hz⟩ := hq; have hF := hF.tr hF2; clear hF2
  simp only [Option.toList, List.cons_append, List.nil_append]
  refine ev_istore_n dX4_sum_5 (by decide) ?_
  dsimp only [List.set]
  refine ev_iconst (v := 0) dX4_sum_6 (by decide) ?_
  refine ev_istore_n dX4_sum_7 (by decide) ?_
  dsimp only [List.set]
  rcases hz with ⟨rfl, s3, E, P3, hS3, eR3, hRd3, hNx3, hH3, hlen3⟩ | ⟨rfl, hN⟩
  · exact lv_sum hT hcal hss hp.2 hD (s3.length + 1) 0 _ s3 E P3 _ (Nat.lt_succ_self _) (Nat.zero_le _) hF hS3 eR3 (hRd3.mono (by decide)) hNx3 (hH3.mono (by omega)) hlen3
  · exact bad _ _ _ hF hN

theorem lc_compared {q : Nat} (hT : RT T tp) (hcal : LvC g mX4_sum (10 * q + 10) r T tp q 5 (3 + 5 * q) NxS preS) : LvC g mX4_compared (10 * q + 11) r T tp q 4 (4 + 5 * q) NxC preC := by
  intro s D H C μ hS hD hp
  have hF : FR r μ μ := FR.rf
  have hss := hS.sfx
  have h160 := hT.1
  obtain ⟨f, C1, hO, hC, h0, hK, h4, hc4⟩ := id hS
  refine Mt.of0 (ls0 := [some (.ref r), some (.int (nI (5 - q))), none]) (by decide) (by simp [Value.category]) (Nat.le_of_ble_eq_true rfl) rfl ?_
  refine ev_aload_n dX4_compared_0 rfl ?_
  refine ev_iload_n dX4_compared_1 rfl ?_
  refine k_v (hcal s D H C _ hS hD ⟨hp.1, hp.2.sub (by decide)⟩) (by omega) dX4_compared_2 cbX4_sum (mt2 54 rfl rfl) (mt2 56 rfl rfl) (ms0 10 rfl rfl) (ci := 4) rfl hO.1 rfl rfl (Nat.le_of_ble_eq_true rfl) (fun v μ1 hq => ?_)
  obtain ⟨hF2, z, rfl, hz⟩ := hq; have hF := hF.tr hF2; clear hF2
  simp only [Option.toList, List.cons_append, List.nil_append]
  refine ev_if_ne (tgt := 10) dX4_compared_5 (by decide) (fun h5 => ?_) (fun h5 => ?_)
  · obtain ⟨-, s1, E, P1, hS, eR, hRd, hNx, hH, hlen⟩ := hz.resolve_right (fun q => h5 q.1)
    have hs1 := hS.sfx
    obtain ⟨f, C1, hO, hC, h0, hK, h4, hc4⟩ := id hS
    refine ev_aload_n dX4_compared_10 rfl ?_
    refine ev_get dX4_compared_11 flX4_31_4 hO.1 rfl ?_
    rw [hK.2.2.1]
    refine ev_istore_n dX4_compared_14 (by decide) ?_
    dsimp only [List.set]
    refine ev_iload_n dX4_compared_15 rfl ?_
    refine ev_bipush (v := 60) dX4_compared_16 (by decide) ?_
    refine ev_icmp_eq (tgt := 29) dX4_compared_18 (by decide) (fun h18 => ?_) (fun h18 => ?_)
    · obtain ⟨d, hd, hd45, he, hkk⟩ : ∃ d, bhD (tkK s1) = d ∧ (d = 4 ∨ d = 5) ∧ tkK s1 = en (30000 + d) ∧ (tkK s1 = 60 ∨ tkK s1 = 61) := by
        first
          | (have e : tkK s1 = 60 := h18
             exact ⟨4, by rw [e]; rfl, Or.inl rfl, by rw [e]; decide, Or.inl e⟩)
          | (have e : tkK s1 = 61 := h24
             exact ⟨5, by rw [e]; rfl, Or.inr rfl, by rw [e]; decide, Or.inr e⟩)
      have hk0 : ¬ tkK s1 = 0 := by rcases hkk with e | e <;> (rw [e]; decide)
      have hnx := psn_nx hs1 hk0
      have hp0 := psn_lt0 hs1 hk0
      have hgd : hgt d = 4 := by rcases hd45 with rfl | rfl <;> rfl
      have eR2 := eR.trans (rw_cmp hd hd45 hRd hp.2)
      refine ev_aload_n dX4_compared_29 rfl ?_
      refine k_v (c_advS hS hT) (by omega) dX4_compared_30 cbX4_advance (mt1 231 rfl rfl) (mt1 233 rfl rfl) (ms0 0 rfl rfl) (ci := 4) rfl hO.1 rfl rfl (Nat.le_of_ble_eq_true rfl) (fun v μ1 hq => ?_)
      obtain ⟨rfl, hS, hF2⟩ := hq; have hF := hF.tr hF2; clear hF2; obtain ⟨f, C1, hO, hC, h0, hK, h4, hc4⟩ := id hS
      simp only [Option.toList, List.cons_append, List.nil_append]
      refine ev_aload_n dX4_compared_33 rfl ?_
      refine ev_iload_n dX4_compared_34 rfl ?_
      refine k_v (hcal (nxT s1) (D ++ E) (d :: H) (C ++ E) _ hS (by rw [List.length_append]; omega) ⟨preO_c (by rcases hd45 with rfl | rfl <;> decide), Tp.cons (by rcases hd45 with rfl | rfl <;> decide)⟩) (by omega) dX4_compared_35 cbX4_sum (mt2 54 rfl rfl) (mt2 56 rfl rfl) (ms0 10 rfl rfl) (ci := 4) rfl hO.1 rfl rfl (Nat.le_of_ble_eq_true rfl) (fun v μ1 hq => ?_)
      obtain ⟨hF2, z2, rfl, hz2⟩ := hq; have hF := hF.tr hF2; clear hF2
      simp only [Option.toList, List.cons_append, List.nil_append]
      refine ev_if_eq (tgt := 53) dX4_compared_38 (by decide) (fun h38 => ?_) (fun h38 => ?_)
      · refine ev_iconst (v := 0) dX4_compared_53 (by decide) ?_
        refine ev_zret dX4_compared_54 rfl (by decide) ?_
        first
          | (have q37 := hz2.resolve_left (fun q => by rw [q.1] at h38; exact absurd h38 (by decide))
             exact ⟨hF, 0, rfl, Or.inr ⟨rfl, q37.2.eq eR2⟩⟩)
          | exact ⟨hF, 1, rfl, Or.inl ⟨rfl, s3, E ++ E2 ++ [30000 + d], P3, hS.as, eR2.trans eR3, hRd3.pushN (by decide) (by rw [hgd]; exact Int32.le_refl _) (by rcases hd45 with rfl | rfl <;> decide), ⟨hNx3, fun q => bh_cmpF q hd45 hRd3⟩, (hH.mono (by omega)).bin hH3 (by omega) (by rcases hd45 with rfl | rfl <;> decide), by simp only [List.length_append, List.length_singleton]; omega⟩⟩
      · obtain ⟨-, s3, E2, P3, hS, eR3, hRd3, hNx3, hH3, hlen3⟩ := hz2.resolve_right (fun q => h38 q.1); obtain ⟨f, C1, hO, hC, h0, hK, h4, hc4⟩ := id hS
        have hs3 := hS.sfx
        have hp3 : psn tp s3 ≤ tp.length := psn_le
        refine ev_aload_n dX4_compared_41 rfl ?_
        refine ev_iload_n dX4_compared_42 rfl ?_
        refine k_v (c_emit hS (by simp only [List.length_append]; omega) (c := 30000 + d) he) (by omega) dX4_compared_43 cbX4_emit (mt2 66 rfl rfl) (mt2 68 rfl rfl) (ms0 13 rfl rfl) (ci := 4) rfl hO.1 rfl rfl (Nat.le_of_ble_eq_true rfl) (fun v μ1 hq => ?_)
        obtain ⟨rfl, hS, hF2⟩ := hq; have hF := hF.tr hF2; clear hF2
        simp only [Option.toList, List.cons_append, List.nil_append]
        refine ev_if_eq (tgt := 53) dX4_compared_46 (by decide) (fun h46 => absurd h46 ((show ¬ (1 : Int32) = 0 by decide))) (fun _ => ?_)
        refine ev_iconst (v := 1) dX4_compared_49 (by decide) ?_
        refine ev_goto (tgt := 54) dX4_compared_50 (by decide) ?_
        refine ev_zret dX4_compared_54 rfl (by decide) ?_
        first
          | (have q37 := hz2.resolve_left (fun q => by rw [q.1] at h38; exact absurd h38 (by decide))
             exact ⟨hF, 0, rfl, Or.inr ⟨rfl, q37.2.eq eR2⟩⟩)
          | exact ⟨hF, 1, rfl, Or.inl ⟨rfl, s3, E ++ E2 ++ [30000 + d], P3, hS.as, eR2.trans eR3, hRd3.pushN (by decide) (by rw [hgd]; exact Int32.le_refl _) (by rcases hd45 with rfl | rfl <;> decide), ⟨hNx3, fun q => bh_cmpF q hd45 hRd3⟩, (hH.mono (by omega)).bin hH3 (by omega) (by rcases hd45 with rfl | rfl <;> decide), by simp only [List.length_append, List.length_singleton]; omega⟩⟩
    · refine ev_iload_n dX4_compared_21 rfl ?_
      refine ev_bipush (v := 61) dX4_compared_22 (by decide) ?_
      refine ev_icmp_eq (tgt := 29) dX4_compared_24 (by decide) (fun h24 => ?_) (fun h24 => ?_)
      · obtain ⟨d, hd, hd45, he, hkk⟩ : ∃ d, bhD (tkK s1) = d ∧ (d = 4 ∨ d = 5) ∧ tkK s1 = en (30000 + d) ∧ (tkK s1 = 60 ∨ tkK s1 = 61) := by
          first
            | (have e : tkK s1 = 60 := h18
               exact ⟨4, by rw [e]; rfl, Or.inl rfl, by rw [e]; decide, Or.inl e⟩)
            | (have e : tkK s1 = 61 := h24
               exact ⟨5, by rw [e]; rfl, Or.inr rfl, by rw [e]; decide, Or.inr e⟩)
        have hk0 : ¬ tkK s1 = 0 := by rcases hkk with e | e <;> (rw [e]; decide)
        have hnx := psn_nx hs1 hk0
        have hp0 := psn_lt0 hs1 hk0
        have hgd : hgt d = 4 := by rcases hd45 with rfl | rfl <;> rfl
        have eR2 := eR.trans (rw_cmp hd hd45 hRd hp.2)
        refine ev_aload_n dX4_compared_29 rfl ?_
        refine k_v (c_advS hS hT) (by omega) dX4_compared_30 cbX4_advance (mt1 231 rfl rfl) (mt1 233 rfl rfl) (ms0 0 rfl rfl) (ci := 4) rfl hO.1 rfl rfl (Nat.le_of_ble_eq_true rfl) (fun v μ1 hq => ?_)
        obtain ⟨rfl, hS, hF2⟩ := hq; have hF := hF.tr hF2; clear hF2; obtain ⟨f, C1, hO, hC, h0, hK, h4, hc4⟩ := id hS
        simp only [Option.toList, List.cons_append, List.nil_append]
        refine ev_aload_n dX4_compared_33 rfl ?_
        refine ev_iload_n dX4_compared_34 rfl ?_
        refine k_v (hcal (nxT s1) (D ++ E) (d :: H) (C ++ E) _ hS (by rw [List.length_append]; omega) ⟨preO_c (by rcases hd45 with rfl | rfl <;> decide), Tp.cons (by rcases hd45 with rfl | rfl <;> decide)⟩) (by omega) dX4_compared_35 cbX4_sum (mt2 54 rfl rfl) (mt2 56 rfl rfl) (ms0 10 rfl rfl) (ci := 4) rfl hO.1 rfl rfl (Nat.le_of_ble_eq_true rfl) (fun v μ1 hq => ?_)
        obtain ⟨hF2, z2, rfl, hz2⟩ := hq; have hF := hF.tr hF2; clear hF2
        simp only [Option.toList, List.cons_append, List.nil_append]
        refine ev_if_eq (tgt := 53) dX4_compared_38 (by decide) (fun h38 => ?_) (fun h38 => ?_)
        · refine ev_iconst (v := 0) dX4_compared_53 (by decide) ?_
          refine ev_zret dX4_compared_54 rfl (by decide) ?_
          first
            | (have q37 := hz2.resolve_left (fun q => by rw [q.1] at h38; exact absurd h38 (by decide))
               exact ⟨hF, 0, rfl, Or.inr ⟨rfl, q37.2.eq eR2⟩⟩)
            | exact ⟨hF, 1, rfl, Or.inl ⟨rfl, s3, E ++ E2 ++ [30000 + d], P3, hS.as, eR2.trans eR3, hRd3.pushN (by decide) (by rw [hgd]; exact Int32.le_refl _) (by rcases hd45 with rfl | rfl <;> decide), ⟨hNx3, fun q => bh_cmpF q hd45 hRd3⟩, (hH.mono (by omega)).bin hH3 (by omega) (by rcases hd45 with rfl | rfl <;> decide), by simp only [List.length_append, List.length_singleton]; omega⟩⟩
        · obtain ⟨-, s3, E2, P3, hS, eR3, hRd3, hNx3, hH3, hlen3⟩ := hz2.resolve_right (fun q => h38 q.1); obtain ⟨f, C1, hO, hC, h0, hK, h4, hc4⟩ := id hS
          have hs3 := hS.sfx
          have hp3 : psn tp s3 ≤ tp.length := psn_le
          refine ev_aload_n dX4_compared_41 rfl ?_
          refine ev_iload_n dX4_compared_42 rfl ?_
          refine k_v (c_emit hS (by simp only [List.length_append]; omega) (c := 30000 + d) he) (by omega) dX4_compared_43 cbX4_emit (mt2 66 rfl rfl) (mt2 68 rfl rfl) (ms0 13 rfl rfl) (ci := 4) rfl hO.1 rfl rfl (Nat.le_of_ble_eq_true rfl) (fun v μ1 hq => ?_)
          obtain ⟨rfl, hS, hF2⟩ := hq; have hF := hF.tr hF2; clear hF2
          simp only [Option.toList, List.cons_append, List.nil_append]
          refine ev_if_eq (tgt := 53) dX4_compared_46 (by decide) (fun h46 => absurd h46 ((show ¬ (1 : Int32) = 0 by decide))) (fun _ => ?_)
          refine ev_iconst (v := 1) dX4_compared_49 (by decide) ?_
          refine ev_goto (tgt := 54) dX4_compared_50 (by decide) ?_
          refine ev_zret dX4_compared_54 rfl (by decide) ?_
          first
            | (have q37 := hz2.resolve_left (fun q => by rw [q.1] at h38; exact absurd h38 (by decide))
               exact ⟨hF, 0, rfl, Or.inr ⟨rfl, q37.2.eq eR2⟩⟩)
            | exact ⟨hF, 1, rfl, Or.inl ⟨rfl, s3, E ++ E2 ++ [30000 + d], P3, hS.as, eR2.trans eR3, hRd3.pushN (by decide) (by rw [hgd]; exact Int32.le_refl _) (by rcases hd45 with rfl | rfl <;> decide), ⟨hNx3, fun q => bh_cmpF q hd45 hRd3⟩, (hH.mono (by omega)).bin hH3 (by omega) (by rcases hd45 with rfl | rfl <;> decide), by simp only [List.length_append, List.length_singleton]; omega⟩⟩
      · refine ev_iconst (v := 1) dX4_compared_27 (by decide) ?_
        refine ev_zret dX4_compared_28 rfl (by decide) ?_
        exact ⟨hF, 1, rfl, Or.inl ⟨rfl, s1, E, P1, hS, eR, hRd.mono (by decide), ⟨hNx, fun q => q.elim (fun q => absurd q h18) (fun q => absurd q h24)⟩, hH.mono (by omega), hlen⟩⟩
  · refine ev_iconst (v := 0) dX4_compared_8 (by decide) ?_
    refine ev_zret dX4_compared_9 rfl (by decide) ?_
    exact ⟨hF, 0, rfl, Or.inr ⟨rfl, (hz.resolve_left (fun q => by rw [q.1] at h5; exact absurd h5 (by decide))).2⟩⟩

/-- what a level behind its own sign leaves, the sign's deed behind it -/
def LvX (r : Nat) (T tp : List Int32) (h : Int32) (kh : Nat) (Nx : Int32 → PS → Prop) (c : Int32) (s D H C : List Int32) (o : Int32) (μ : Mm) : Option Value → Mm → Prop := fun v μ' => FR r μ μ' ∧ ∃ z, v = some (.int z) ∧ ((z = 1 ∧ ∃ (s' E : List Int32) (P' : PS), RdS r T tp s' (D ++ (E ++ [c])) μ' ∧ rowR true s (H, C, o) = rowR false s' P' ∧ Rd h P' (H, C ++ E, o) ∧ Nx (tkK s') P' ∧ Hk kh E ∧ E.length + psn tp s ≤ psn tp s') ∨ (z = 0 ∧ LvF r T tp (rowR true s (H, C, o)) μ'))
theorem c_behindNot {q : Nat} (hT : RT T tp) (hcal : LvC g mX4_negated (10 * q + 12) r T tp q 3 (4 + 5 * q) NxC preN) {s D H C : List Int32} {μ : Mm} (hS : RdS r T tp s D μ) (hD : D.length + 1 ≤ psn tp s) : Mt g (10 * q + 13) mX4_behindNot [.ref r, .int (nI (5 - q))] μ (LvX r T tp 3 (4 + 5 * q) NxC (30000 + 8) s D (8 :: H) C (nI (5 - q)) μ) := by
  have hF : FR r μ μ := FR.rf
  have h160 := hT.1
  obtain ⟨f, C1, hO, hC, h0, hK, h4, hc4⟩ := id hS
  refine Mt.of0 (ls0 := [some (.ref r), some (.int (nI (5 - q)))]) (by decide) (by simp [Value.category]) (Nat.le_of_ble_eq_true rfl) rfl ?_
  refine ev_aload_n dX4_behindNot_0 rfl ?_
  refine ev_iload_n dX4_behindNot_1 rfl ?_
  refine k_v (hcal s D (8 :: H) C _ hS (by omega) (Tp.cons (by decide))) (by omega) dX4_behindNot_2 cbX4_negated (mt2 46 rfl rfl) (mt2 48 rfl rfl) (ms0 8 rfl rfl) (ci := 4) rfl hO.1 rfl rfl (Nat.le_of_ble_eq_true rfl) (fun v μ1 hq => ?_)
  obtain ⟨hF2, z, rfl, hz⟩ := hq; have hF := hF.tr hF2; clear hF2
  simp only [Option.toList, List.cons_append, List.nil_append]
  refine ev_if_eq (tgt := 21) dX4_behindNot_5 (by decide) (fun h5 => ?_) (fun h5 => ?_)
  · refine ev_iconst (v := 0) dX4_behindNot_21 (by decide) ?_
    refine ev_zret dX4_behindNot_22 rfl (by decide) ?_
    first
      | (have q37 := hz.resolve_left (fun q => by rw [q.1] at h5; exact absurd h5 (by decide))
         exact ⟨hF, 0, rfl, Or.inr ⟨rfl, q37.2⟩⟩)
      | exact ⟨hF, 1, rfl, Or.inl ⟨rfl, s3, E2, P3, hS.as1, eR3, hRd3, hNx3, hH3, hlen3⟩⟩
  · obtain ⟨-, s3, E2, P3, hS, eR3, hRd3, hNx3, hH3, hlen3⟩ := hz.resolve_right (fun q => h5 q.1); obtain ⟨f, C1, hO, hC, h0, hK, h4, hc4⟩ := id hS
    have hs3 := hS.sfx
    have hp3 : psn tp s3 ≤ tp.length := psn_le
    refine ev_aload_n dX4_behindNot_8 rfl ?_
    refine ev_bipush (v := 8) dX4_behindNot_9 (by decide) ?_
    refine k_v (c_emit hS (by simp only [List.length_append]; omega) (c := 30000 + 8) (by decide)) (by omega) dX4_behindNot_11 cbX4_emit (mt2 66 rfl rfl) (mt2 68 rfl rfl) (ms0 13 rfl rfl) (ci := 4) rfl hO.1 rfl rfl (Nat.le_of_ble_eq_true rfl) (fun v μ1 hq => ?_)
    obtain ⟨rfl, hS, hF2⟩ := hq; have hF := hF.tr hF2; clear hF2
    simp only [Option.toList, List.cons_append, List.nil_append]
    refine ev_if_eq (tgt := 21) dX4_behindNot_14 (by decide) (fun h14 => absurd h14 ((show ¬ (1 : Int32) = 0 by decide))) (fun _ => ?_)
    refine ev_iconst (v := 1) dX4_behindNot_17 (by decide) ?_
    refine ev_goto (tgt := 22) dX4_behindNot_18 (by decide) ?_
    refine ev_zret dX4_behindNot_22 rfl (by decide) ?_
    first
      | (have q37 := hz.resolve_left (fun q => by rw [q.1] at h5; exact absurd h5 (by decide))
         exact ⟨hF, 0, rfl, Or.inr ⟨rfl, q37.2⟩⟩)
      | exact ⟨hF, 1, rfl, Or.inl ⟨rfl, s3, E2, P3, hS.as1, eR3, hRd3, hNx3, hH3, hlen3⟩⟩
theorem c_behindMinus {q : Nat} (hT : RT T tp) (hcal : LvC g mX4_one (10 * q + 8) r T tp q 7 (1 + 5 * q) NxO preO) {s D H C : List Int32} {μ : Mm} (hS : RdS r T tp s D μ) (hD : D.length + 1 ≤ psn tp s) : Mt g (10 * q + 9) mX4_behindMinus [.ref r, .int (nI (5 - q))] μ (LvX r T tp 7 (1 + 5 * q) NxO (30000 + 9) s D (9 :: H) C (nI (5 - q)) μ) := by
  have hF : FR r μ μ := FR.rf
  have h160 := hT.1
  obtain ⟨f, C1, hO, hC, h0, hK, h4, hc4⟩ := id hS
  refine Mt.of0 (ls0 := [some (.ref r), some (.int (nI (5 - q)))]) (by decide) (by simp [Value.category]) (Nat.le_of_ble_eq_true rfl) rfl ?_
  refine ev_aload_n dX4_behindMinus_0 rfl ?_
  refine ev_iload_n dX4_behindMinus_1 rfl ?_
  refine k_v (hcal s D (9 :: H) C _ hS (by omega) (preO_c (by decide))) (by omega) dX4_behindMinus_2 cbX4_one (mt2 62 rfl rfl) (mt2 64 rfl rfl) (ms0 12 rfl rfl) (ci := 4) rfl hO.1 rfl rfl (Nat.le_of_ble_eq_true rfl) (fun v μ1 hq => ?_)
  obtain ⟨hF2, z, rfl, hz⟩ := hq; have hF := hF.tr hF2; clear hF2
  simp only [Option.toList, List.cons_append, List.nil_append]
  refine ev_if_eq (tgt := 21) dX4_behindMinus_5 (by decide) (fun h5 => ?_) (fun h5 => ?_)
  · refine ev_iconst (v := 0) dX4_behindMinus_21 (by decide) ?_
    refine ev_zret dX4_behindMinus_22 rfl (by decide) ?_
    first
      | (have q37 := hz.resolve_left (fun q => by rw [q.1] at h5; exact absurd h5 (by decide))
         exact ⟨hF, 0, rfl, Or.inr ⟨rfl, q37.2⟩⟩)
      | exact ⟨hF, 1, rfl, Or.inl ⟨rfl, s3, E2, P3, hS.as1, eR3, hRd3, hNx3, hH3, hlen3⟩⟩
  · obtain ⟨-, s3, E2, P3, hS, eR3, hRd3, hNx3, hH3, hlen3⟩ := hz.resolve_right (fun q => h5 q.1); obtain ⟨f, C1, hO, hC, h0, hK, h4, hc4⟩ := id hS
    have hs3 := hS.sfx
    have hp3 : psn tp s3 ≤ tp.length := psn_le
    refine ev_aload_n dX4_behindMinus_8 rfl ?_
    refine ev_bipush (v := 9) dX4_behindMinus_9 (by decide) ?_
    refine k_v (c_emit hS (by simp only [List.length_append]; omega) (c := 30000 + 9) (by decide)) (by omega) dX4_behindMinus_11 cbX4_emit (mt2 66 rfl rfl) (mt2 68 rfl rfl) (ms0 13 rfl rfl) (ci := 4) rfl hO.1 rfl rfl (Nat.le_of_ble_eq_true rfl) (fun v μ1 hq => ?_)
    obtain ⟨rfl, hS, hF2⟩ := hq; have hF := hF.tr hF2; clear hF2
    simp only [Option.toList, List.cons_append, List.nil_append]
    refine ev_if_eq (tgt := 21) dX4_behindMinus_14 (by decide) (fun h14 => absurd h14 ((show ¬ (1 : Int32) = 0 by decide))) (fun _ => ?_)
    refine ev_iconst (v := 1) dX4_behindMinus_17 (by decide) ?_
    refine ev_goto (tgt := 22) dX4_behindMinus_18 (by decide) ?_
    refine ev_zret dX4_behindMinus_22 rfl (by decide) ?_
    first
      | (have q37 := hz.resolve_left (fun q => by rw [q.1] at h5; exact absurd h5 (by decide))
         exact ⟨hF, 0, rfl, Or.inr ⟨rfl, q37.2⟩⟩)
      | exact ⟨hF, 1, rfl, Or.inl ⟨rfl, s3, E2, P3, hS.as1, eR3, hRd3, hNx3, hH3, hlen3⟩⟩
theorem lc_negated {q : Nat} (hq5 : q ≤ 5) (hT : RT T tp) (hcal : LvC g mX4_compared (10 * q + 11) r T tp q 4 (4 + 5 * q) NxC preC) (hneg : ∀ q', q = q' + 1 → LvC g mX4_negated (10 * q' + 12) r T tp q' 3 (4 + 5 * q') NxC preN) : LvC g mX4_negated (10 * q + 12) r T tp q 3 (4 + 5 * q) NxC preN := by
  intro s D H C μ hS hD hp
  have hF : FR r μ μ := FR.rf
  have hss := hS.sfx
  have h160 := hT.1
  have hmb := mayB_t hp
  obtain ⟨f, C1, hO, hC, h0, hK, h4, hc4⟩ := id hS
  refine Mt.of0 (ls0 := [some (.ref r), some (.int (nI (5 - q)))]) (by decide) (by simp [Value.category]) (Nat.le_of_ble_eq_true rfl) rfl ?_
  by_cases k8 : tkK s = 8
  · have hk0 : ¬ tkK s = 0 := by rw [k8]; decide
    have n2 : ¬ tkK s = 2 := by rw [k8]; decide
    have n10 : ¬ (10 ≤ tkK s ∧ tkK s ≤ 15) := by rw [k8]; decide
    have ed : ahD (tkK s) H = 8 := by rw [ahD, if_pos ⟨k8, hmb⟩]
    have hnx := psn_nx hss hk0
    have hp0 := psn_lt0 hss hk0
    cases q with
    | zero =>
      refine ev_aload_n dX4_negated_0 rfl ?_
      refine ev_get dX4_negated_1 flX4_31_4 hO.1 rfl ?_
      rw [hK.2.2.1]
      refine ev_bipush (v := 8) dX4_negated_4 (by decide) ?_
      refine ev_icmp_eq (tgt := 15) dX4_negated_6 (by decide) (fun _ => ?_) (fun h6 => absurd (k8) h6)
      refine ev_iload_n dX4_negated_15 rfl ?_
      refine ev_iconst (v := 5) dX4_negated_16 (by decide) ?_
      refine ev_icmp_ge (tgt := 43) dX4_negated_17 (by decide) (fun _ => ?_) (fun h17 => absurd ((show (5 : Int32) ≤ nI (5 - 0) by decide)) h17)
      refine ev_iconst (v := 0) dX4_negated_43 (by decide) ?_
      refine ev_zret dX4_negated_44 rfl (by decide) ?_
      exact ⟨hF, 0, rfl, Or.inr ⟨rfl, LvF.of hS (rw_bad n2 n10 (Or.inr rfl))⟩⟩
    | succ q' =>
      have e1 : nI (5 - (q' + 1)) + 1 = nI (5 - q') := by rw [nI_1]; congr 1; omega
      have ho : ¬ nI (5 - (q' + 1)) = 5 := fun q => absurd ((nI_eq (b := 5) (by omega) (by decide)).mp q) (by omega)
      have eR2 := rw_opn (C := C) ed (by decide) n2 n10 ho
      rw [e1] at eR2
      refine ev_aload_n dX4_negated_0 rfl ?_
      refine ev_get dX4_negated_1 flX4_31_4 hO.1 rfl ?_
      rw [hK.2.2.1]
      refine ev_bipush (v := 8) dX4_negated_4 (by decide) ?_
      refine ev_icmp_eq (tgt := 15) dX4_negated_6 (by decide) (fun _ => ?_) (fun h6 => absurd (k8) h6)
      refine ev_iload_n dX4_negated_15 rfl ?_
      refine ev_iconst (v := 5) dX4_negated_16 (by decide) ?_
      refine ev_icmp_ge (tgt := 43) dX4_negated_17 (by decide) (fun h17 => absurd h17 ((show ¬ nI 5 ≤ nI (5 - (q' + 1)) from nI_ge (by omega) (by decide)))) (fun _ => ?_)
      refine ev_aload_n dX4_negated_20 rfl ?_
      refine ev_bipush (v := 8) dX4_negated_21 (by decide) ?_
      refine k_v (c_passed hS hT 8) (by omega) dX4_negated_23 cbX4_passed (mt2 34 rfl rfl) (mt2 36 rfl rfl) (ms0 5 rfl rfl) (ci := 4) rfl hO.1 rfl rfl (Nat.le_of_ble_eq_true rfl) (fun v μ1 hq => ?_)
      obtain ⟨hF2, z, rfl, hz⟩ := hq; have hF := hF.tr hF2; clear hF2; obtain ⟨rfl, -, hS⟩ := hz.resolve_right (fun q => q.2.1 k8); obtain ⟨f, C1, hO, hC, h0, hK, h4, hc4⟩ := id hS
      simp only [Option.toList, List.cons_append, List.nil_append]
      refine ev_if_eq (tgt := 43) dX4_negated_26 (by decide) (fun h26 => absurd h26 ((show ¬ (1 : Int32) = 0 by decide))) (fun _ => ?_)
      refine ev_aload_n dX4_negated_29 rfl ?_
      refine ev_iload_n dX4_negated_30 rfl ?_
      refine ev_iconst (v := 1) dX4_negated_31 (by decide) ?_
      refine ev_iadd dX4_negated_32 ?_
      rw [e1]
      refine k_v (c_behindNot (H := H) (C := C) hT (hneg q' rfl) hS (by omega)) (by omega) dX4_negated_33 cbX4_behindNot (mt2 74 rfl rfl) (mt2 76 rfl rfl) (ms0 15 rfl rfl) (ci := 4) rfl hO.1 rfl rfl (Nat.le_of_ble_eq_true rfl) (fun v μ1 hq => ?_)
      obtain ⟨hF2, z, rfl, hz⟩ := hq; have hF := hF.tr hF2; clear hF2
      simp only [Option.toList, List.cons_append, List.nil_append]
      refine ev_if_eq (tgt := 43) dX4_negated_36 (by decide) (fun h36 => ?_) (fun h36 => ?_)
      · refine ev_iconst (v := 0) dX4_negated_43 (by decide) ?_
        refine ev_zret dX4_negated_44 rfl (by decide) ?_
        first
          | (have q37 := hz.resolve_left (fun q => by rw [q.1] at h36; exact absurd h36 (by decide))
             exact ⟨hF, 0, rfl, Or.inr ⟨rfl, q37.2.eq eR2⟩⟩)
          | (obtain ⟨-, s3, E2, P3, hS3, eR3, hRd3, hNx3, hH3, hlen3⟩ := hz.resolve_right (fun q => h36 q.1)
             have eP := hRd3.push (by decide)
             rw [if_pos (Or.inl rfl), ← e1, show ∀ x : Int32, x + 1 - 1 = x from fun x => Int32.add_sub_cancel x 1] at eP
             exact ⟨hF, 1, rfl, Or.inl ⟨rfl, s3, E2 ++ [30000 + 8], P3, hS3, eR2.trans eR3, by rw [← List.append_assoc]; exact eP, hNx3, (hH3.mono (by omega)).un (Or.inl (by decide)), by simp only [List.length_append, List.length_singleton]; omega⟩⟩)
      · refine ev_iconst (v := 1) dX4_negated_39 (by decide) ?_
        refine ev_goto (tgt := 44) dX4_negated_40 (by decide) ?_
        refine ev_zret dX4_negated_44 rfl (by decide) ?_
        first
          | (have q37 := hz.resolve_left (fun q => by rw [q.1] at h36; exact absurd h36 (by decide))
             exact ⟨hF, 0, rfl, Or.inr ⟨rfl, q37.2.eq eR2⟩⟩)
          | (obtain ⟨-, s3, E2, P3, hS3, eR3, hRd3, hNx3, hH3, hlen3⟩ := hz.resolve_right (fun q => h36 q.1)
             have eP := hRd3.push (by decide)
             rw [if_pos (Or.inl rfl), ← e1, show ∀ x : Int32, x + 1 - 1 = x from fun x => Int32.add_sub_cancel x 1] at eP
             exact ⟨hF, 1, rfl, Or.inl ⟨rfl, s3, E2 ++ [30000 + 8], P3, hS3, eR2.trans eR3, by rw [← List.append_assoc]; exact eP, hNx3, (hH3.mono (by omega)).un (Or.inl (by decide)), by simp only [List.length_append, List.length_singleton]; omega⟩⟩)
  · skip
    refine ev_aload_n dX4_negated_0 rfl ?_
    refine ev_get dX4_negated_1 flX4_31_4 hO.1 rfl ?_
    rw [hK.2.2.1]
    refine ev_bipush (v := 8) dX4_negated_4 (by decide) ?_
    refine ev_icmp_eq (tgt := 15) dX4_negated_6 (by decide) (fun h6 => absurd h6 (k8)) (fun _ => ?_)
    refine ev_aload_n dX4_negated_9 rfl ?_
    refine ev_iload_n dX4_negated_10 rfl ?_
    refine k_v (hcal s D H C _ hS hD ⟨fun q => k8 q.1, hp⟩) (by omega) dX4_negated_11 cbX4_compared (mt2 50 rfl rfl) (mt2 52 rfl rfl) (ms0 9 rfl rfl) (ci := 4) rfl hO.1 rfl rfl (Nat.le_of_ble_eq_true rfl) (fun v μ1 hq => ?_)
    obtain ⟨hF2, z, rfl, hz⟩ := hq; have hF := hF.tr hF2; clear hF2
    simp only [Option.toList, List.cons_append, List.nil_append]
    refine ev_zret dX4_negated_14 rfl (LvQ.nar hz) ?_
    refine ⟨hF, z, rfl, hz.imp (fun hy => ?_) id⟩
    obtain ⟨hz1, s1, E, P1, hS1, eR, hRd, hNx, hH, hlen⟩ := hy
    exact ⟨hz1, s1, E, P1, hS1, eR, hRd.mono (by decide), hNx, hH, hlen⟩

theorem lv_both {q : Nat} (hT : RT T tp) (hcal : LvC g mX4_negated (10 * q + 12) r T tp q 3 (4 + 5 * q) NxC preN) {s0 D H C : List Int32} {μ0 : Mm} (hs0 : Sfx tp s0) (hTp : Tp [10, 7] H) (hD : D.length ≤ psn tp s0) : ∀ (n i : Nat) (s E : List Int32) (P' : PS) (μ : Mm), s.length < n → i ≤ psn tp s → FR r μ0 μ → RdS r T tp s (D ++ E) μ → rowR true s0 (H, C, nI (5 - q)) = rowR false s P' → Rd 2 P' (H, C ++ E, nI (5 - q)) → NxC (tkK s) P' → Hk (5 + 5 * q) E → E.length + psn tp s0 ≤ psn tp s → Ev g (10 * q + 13) mX4_both 8 [some (.ref r), some (.int (nI (5 - q))), some (.int 1), some (.int (nI i))] [] μ (LvQ r T tp 2 (5 + 5 * q) NxB s0 D H C (nI (5 - q)) μ0) := by
  have h160 := hT.1
  have bad : ∀ (x : Int32) (μ1 : Mm), FR r μ0 μ1 → LvF r T tp (rowR true s0 (H, C, nI (5 - q))) μ1 → Ev g (10 * q + 13) mX4_both 8 [some (.ref r), some (.int (nI (5 - q))), some (.int 0), some (.int x)] [] μ1 (LvQ r T tp 2 (5 + 5 * q) NxB s0 D H C (nI (5 - q)) μ0) := by
    intro x μ1 hF hN
    refine ev_iload_n dX4_both_8 rfl ?_
    refine ev_sipush (v := 160) dX4_both_9 (by decide) ?_
    refine ev_icmp_ge (tgt := 61) dX4_both_12 (by decide) (fun h12 => ?_) (fun h12 => ?_)
    · refine ev_iload_n dX4_both_61 rfl ?_
      refine ev_zret dX4_both_62 rfl (by decide) ?_
      exact ⟨hF, 0, rfl, Or.inr ⟨rfl, hN⟩⟩
    · refine ev_iload_n dX4_both_15 rfl ?_
      refine ev_if_eq (tgt := 61) dX4_both_16 (by decide) (fun _ => ?_) (fun h16 => absurd (rfl) h16)
      refine ev_iload_n dX4_both_61 rfl ?_
      refine ev_zret dX4_both_62 rfl (by decide) ?_
      exact ⟨hF, 0, rfl, Or.inr ⟨rfl, hN⟩⟩
  intro n
  induction n with
  | zero => intro i s E P' μ h; omega
  | succ n ih =>
    intro i s E P' μ hn hi hF hS eR hRd hNx hH hlen
    have hss := hS.sfx
    have hsl := hss.le
    obtain ⟨f, C1, hO, hC, h0, hK, h4, hc4⟩ := id hS
    have done : ∀ (hne : NxB (tkK s) P'), LvQ r T tp 2 (5 + 5 * q) NxB s0 D H C (nI (5 - q)) μ0 (some (.int 1)) μ := fun hne => ⟨hF, 1, rfl, Or.inl ⟨rfl, s, E, P', hS, eR, hRd, hne, hH, hlen⟩⟩
    refine ev_iload_n dX4_both_8 rfl ?_
    refine ev_sipush (v := 160) dX4_both_9 (by decide) ?_
    refine ev_icmp_ge (tgt := 61) dX4_both_12 (by decide) (fun h12 => ?_) (fun h12 => ?_)
    · refine ev_iload_n dX4_both_61 rfl ?_
      refine ev_zret dX4_both_62 rfl (by decide) ?_
      first
        | (have e := h25
           exact done ⟨hNx, h25⟩)
        | (have e160 : 160 ≤ i := Nat.not_lt.mp (fun q => nI_ge q (by omega) h12)
           have es : s = [] := List.length_eq_zero_iff.mp (by simp only [psn] at hi; omega)
           have n0 : tkK s = 0 := by rw [es]; rfl
           exact done ⟨hNx, by rw [n0]; decide⟩)
    · refine ev_iload_n dX4_both_15 rfl ?_
      refine ev_if_eq (tgt := 61) dX4_both_16 (by decide) (fun h16 => absurd h16 ((show ¬ (1 : Int32) = 0 by decide))) (fun _ => ?_)
      refine ev_aload_n dX4_both_19 rfl ?_
      refine ev_get dX4_both_20 flX4_31_4 hO.1 rfl ?_
      rw [hK.2.2.1]
      refine ev_bipush (v := 7) dX4_both_23 (by decide) ?_
      refine ev_icmp_ne (tgt := 61) dX4_both_25 (by decide) (fun h25 => ?_) (fun h25 => ?_)
      · refine ev_iload_n dX4_both_61 rfl ?_
        refine ev_zret dX4_both_62 rfl (by decide) ?_
        first
          | (have e := h25
             exact done ⟨hNx, h25⟩)
          | (have e160 : 160 ≤ i := Nat.not_lt.mp (fun q => nI_ge q (by omega) h12)
             have es : s = [] := List.length_eq_zero_iff.mp (by simp only [psn] at hi; omega)
             have n0 : tkK s = 0 := by rw [es]; rfl
             exact done ⟨hNx, by rw [n0]; decide⟩)
      · have hk0 : ¬ tkK s = 0 := by rw [h25]; decide
        have hnx := psn_nx hss hk0
        have hp0 := psn_lt0 hss hk0
        have eR2 := eR.trans (rw_op (d := 6) (h := 2) (by rw [h25]; rfl) (by decide) (by decide) hRd rfl (by decide) hTp (by decide))
        refine ev_aload_n dX4_both_28 rfl ?_
        refine k_v (c_advS hS hT) (by omega) dX4_both_29 cbX4_advance (mt1 231 rfl rfl) (mt1 233 rfl rfl) (ms0 0 rfl rfl) (ci := 4) rfl hO.1 rfl rfl (Nat.le_of_ble_eq_true rfl) (fun v μ1 hq => ?_)
        obtain ⟨rfl, hS, hF2⟩ := hq; have hF := hF.tr hF2; clear hF2; obtain ⟨f, C1, hO, hC, h0, hK, h4, hc4⟩ := id hS
        simp only [Option.toList, List.cons_append, List.nil_append]
        refine ev_aload_n dX4_both_32 rfl ?_
        refine ev_iload_n dX4_both_33 rfl ?_
        refine k_v (hcal (nxT s) (D ++ E) (6 :: H) (C ++ E) _ hS (by rw [List.length_append]; omega) (Tp.cons (by decide))) (by omega) dX4_both_34 cbX4_negated (mt2 46 rfl rfl) (mt2 48 rfl rfl) (ms0 8 rfl rfl) (ci := 4) rfl hO.1 rfl rfl (Nat.le_of_ble_eq_true rfl) (fun v μ1 hq => ?_)
        obtain ⟨hF2, z, rfl, hz⟩ := hq; have hF := hF.tr hF2; clear hF2
        simp only [Option.toList, List.cons_append, List.nil_append]
        refine ev_if_eq (tgt := 53) dX4_both_37 (by decide) (fun h37 => ?_) (fun h37 => ?_)
        · refine ev_iconst (v := 0) dX4_both_53 (by decide) ?_
          refine ev_istore_n dX4_both_54 (by decide) ?_
          dsimp only [List.set]
          refine ev_iinc dX4_both_55 rfl (by decide) ?_
          dsimp only [List.set]
          refine ev_goto (tgt := 8) dX4_both_58 (by decide) ?_
          first
            | (have q37 := hz.resolve_left (fun q => by rw [q.1] at h37; exact absurd h37 (by decide))
               exact bad _ _ hF (q37.2.eq eR2))
            | (rw [nI_inc]
               have hs3l := hs3.le
               have hnl : (nxT s).length ≤ s.length := by have := nxT_lt hk0; omega
               refine ih (i + 1) s3 (E ++ E2 ++ [30000 + 6]) P3 _ ?_ ?_ hF hS.as (eR2.trans eR3) (hRd3.pushN (by decide) (by decide) (by decide)) hNx3 (hH.bin hH3 (by omega) (by decide)) ?_
               · simp only [psn] at hlen3 hnx; omega
               · omega
               · simp only [List.length_append, List.length_singleton]; omega)
        · obtain ⟨-, s3, E2, P3, hS, eR3, hRd3, hNx3, hH3, hlen3⟩ := hz.resolve_right (fun q => h37 q.1); obtain ⟨f, C1, hO, hC, h0, hK, h4, hc4⟩ := id hS
          have hs3 := hS.sfx
          have hp3 : psn tp s3 ≤ tp.length := psn_le
          refine ev_aload_n dX4_both_40 rfl ?_
          refine ev_bipush (v := 7) dX4_both_41 (by decide) ?_
          refine k_v (c_emit hS (by simp only [List.length_append]; omega) (c := 30000 + 6) (by decide)) (by omega) dX4_both_43 cbX4_emit (mt2 66 rfl rfl) (mt2 68 rfl rfl) (ms0 13 rfl rfl) (ci := 4) rfl hO.1 rfl rfl (Nat.le_of_ble_eq_true rfl) (fun v μ1 hq => ?_)
          obtain ⟨rfl, hS, hF2⟩ := hq; have hF := hF.tr hF2; clear hF2
          simp only [Option.toList, List.cons_append, List.nil_append]
          refine ev_if_eq (tgt := 53) dX4_both_46 (by decide) (fun h46 => absurd h46 ((show ¬ (1 : Int32) = 0 by decide))) (fun _ => ?_)
          refine ev_iconst (v := 1) dX4_both_49 (by decide) ?_
          refine ev_goto (tgt := 54) dX4_both_50 (by decide) ?_
          refine ev_istore_n dX4_both_54 (by decide) ?_
          dsimp only [List.set]
          refine ev_iinc dX4_both_55 rfl (by decide) ?_
          dsimp only [List.set]
          refine ev_goto (tgt := 8) dX4_both_58 (by decide) ?_
          first
            | (have q37 := hz.resolve_left (fun q => by rw [q.1] at h37; exact absurd h37 (by decide))
               exact bad _ _ hF (q37.2.eq eR2))
            | (rw [nI_inc]
               have hs3l := hs3.le
               have hnl : (nxT s).length ≤ s.length := by have := nxT_lt hk0; omega
               refine ih (i + 1) s3 (E ++ E2 ++ [30000 + 6]) P3 _ ?_ ?_ hF hS.as (eR2.trans eR3) (hRd3.pushN (by decide) (by decide) (by decide)) hNx3 (hH.bin hH3 (by omega) (by decide)) ?_
               · simp only [psn] at hlen3 hnx; omega
               · omega
               · simp only [List.length_append, List.length_singleton]; omega)
theorem lc_both {q : Nat} (hT : RT T tp) (hcal : LvC g mX4_negated (10 * q + 12) r T tp q 3 (4 + 5 * q) NxC preN) : LvC g mX4_both (10 * q + 13) r T tp q 2 (5 + 5 * q) NxB preB := by
  intro s D H C μ hS hD hp
  have hF : FR r μ μ := FR.rf
  have hss := hS.sfx
  obtain ⟨f, C1, hO, hC, h0, hK, h4, hc4⟩ := id hS
  refine Mt.of0 (ls0 := [some (.ref r), some (.int (nI (5 - q))), none, none]) (by decide) (by simp [Value.category]) (Nat.le_of_ble_eq_true rfl) rfl ?_
  have bad : ∀ (x : Int32) (μ1 : Mm), FR r μ μ1 → LvF r T tp (rowR true s (H, C, nI (5 - q))) μ1 → Ev g (10 * q + 13) mX4_both 8 [some (.ref r), some (.int (nI (5 - q))), some (.int 0), some (.int x)] [] μ1 (LvQ r T tp 2 (5 + 5 * q) NxB s D H C (nI (5 - q)) μ) := by
    intro x μ1 hF hN
    refine ev_iload_n dX4_both_8 rfl ?_
    refine ev_sipush (v := 160) dX4_both_9 (by decide) ?_
    refine ev_icmp_ge (tgt := 61) dX4_both_12 (by decide) (fun h12 => ?_) (fun h12 => ?_)
    · refine ev_iload_n dX4_both_61 rfl ?_
      refine ev_zret dX4_both_62 rfl (by decide) ?_
      exact ⟨hF, 0, rfl, Or.inr ⟨rfl, hN⟩⟩
    · refine ev_iload_n dX4_both_15 rfl ?_
      refine ev_if_eq (tgt := 61) dX4_both_16 (by decide) (fun _ => ?_) (fun h16 => absurd (rfl) h16)
      refine ev_iload_n dX4_both_61 rfl ?_
      refine ev_zret dX4_both_62 rfl (by decide) ?_
      exact ⟨hF, 0, rfl, Or.inr ⟨rfl, hN⟩⟩
  refine ev_aload_n dX4_both_0 rfl ?_
  refine ev_iload_n dX4_both_1 rfl ?_
  refine k_v (hcal s D H C _ hS hD (hp.sub (by decide))) (by omega) dX4_both_2 cbX4_negated (mt2 46 rfl rfl) (mt2 48 rfl rfl) (ms0 8 rfl rfl) (ci := 4) rfl hO.1 rfl rfl (Nat.le_of_ble_eq_true rfl) (fun v μ1 hq => ?_)
  obtain ⟨hF2, z, rfl, hz⟩ := hq; have hF := hF.tr hF2; clear hF2
  simp only [Option.toList, List.cons_append, List.nil_append]
  refine ev_istore_n dX4_both_5 (by decide) ?_
  dsimp only [List.set]
  refine ev_iconst (v := 0) dX4_both_6 (by decide) ?_
  refine ev_istore_n dX4_both_7 (by decide) ?_
  dsimp only [List.set]
  rcases hz with ⟨rfl, s3, E, P3, hS3, eR3, hRd3, hNx3, hH3, hlen3⟩ | ⟨rfl, hN⟩
  · exact lv_both hT hcal hss hp hD (s3.length + 1) 0 s3 E P3 _ (Nat.lt_succ_self _) (Nat.zero_le _) hF hS3 eR3 (hRd3.mono (by decide)) hNx3 (hH3.mono (by omega)) hlen3
  · exact bad _ _ hF hN

theorem lv_either {q : Nat} (hT : RT T tp) (hcal : LvC g mX4_both (10 * q + 13) r T tp q 2 (5 + 5 * q) NxB preB) {s0 D H C : List Int32} {μ0 : Mm} (hs0 : Sfx tp s0) (hTp : Tp [10] H) (hD : D.length ≤ psn tp s0) : ∀ (n i : Nat) (s E : List Int32) (P' : PS) (μ : Mm), s.length < n → i ≤ psn tp s → FR r μ0 μ → RdS r T tp s (D ++ E) μ → rowR true s0 (H, C, nI (5 - q)) = rowR false s P' → Rd 1 P' (H, C ++ E, nI (5 - q)) → NxB (tkK s) P' → Hk (6 + 5 * q) E → E.length + psn tp s0 ≤ psn tp s → Ev g (10 * q + 14) mX4_either 8 [some (.ref r), some (.int (nI (5 - q))), some (.int 1), some (.int (nI i))] [] μ (LvQ r T tp 1 (6 + 5 * q) NxE s0 D H C (nI (5 - q)) μ0) := by
  have h160 := hT.1
  have bad : ∀ (x : Int32) (μ1 : Mm), FR r μ0 μ1 → LvF r T tp (rowR true s0 (H, C, nI (5 - q))) μ1 → Ev g (10 * q + 14) mX4_either 8 [some (.ref r), some (.int (nI (5 - q))), some (.int 0), some (.int x)] [] μ1 (LvQ r T tp 1 (6 + 5 * q) NxE s0 D H C (nI (5 - q)) μ0) := by
    intro x μ1 hF hN
    refine ev_iload_n dX4_either_8 rfl ?_
    refine ev_sipush (v := 160) dX4_either_9 (by decide) ?_
    refine ev_icmp_ge (tgt := 61) dX4_either_12 (by decide) (fun h12 => ?_) (fun h12 => ?_)
    · refine ev_iload_n dX4_either_61 rfl ?_
      refine ev_zret dX4_either_62 rfl (by decide) ?_
      exact ⟨hF, 0, rfl, Or.inr ⟨rfl, hN⟩⟩
    · refine ev_iload_n dX4_either_15 rfl ?_
      refine ev_if_eq (tgt := 61) dX4_either_16 (by decide) (fun _ => ?_) (fun h16 => absurd (rfl) h16)
      refine ev_iload_n dX4_either_61 rfl ?_
      refine ev_zret dX4_either_62 rfl (by decide) ?_
      exact ⟨hF, 0, rfl, Or.inr ⟨rfl, hN⟩⟩
  intro n
  induction n with
  | zero => intro i s E P' μ h; omega
  | succ n ih =>
    intro i s E P' μ hn hi hF hS eR hRd hNx hH hlen
    have hss := hS.sfx
    have hsl := hss.le
    obtain ⟨f, C1, hO, hC, h0, hK, h4, hc4⟩ := id hS
    have done : ∀ (hne : NxE (tkK s) P'), LvQ r T tp 1 (6 + 5 * q) NxE s0 D H C (nI (5 - q)) μ0 (some (.int 1)) μ := fun hne => ⟨hF, 1, rfl, Or.inl ⟨rfl, s, E, P', hS, eR, hRd, hne, hH, hlen⟩⟩
    refine ev_iload_n dX4_either_8 rfl ?_
    refine ev_sipush (v := 160) dX4_either_9 (by decide) ?_
    refine ev_icmp_ge (tgt := 61) dX4_either_12 (by decide) (fun h12 => ?_) (fun h12 => ?_)
    · refine ev_iload_n dX4_either_61 rfl ?_
      refine ev_zret dX4_either_62 rfl (by decide) ?_
      first
        | (have e := h25
           exact done ⟨hNx, h25⟩)
        | (have e160 : 160 ≤ i := Nat.not_lt.mp (fun q => nI_ge q (by omega) h12)
           have es : s = [] := List.length_eq_zero_iff.mp (by simp only [psn] at hi; omega)
           have n0 : tkK s = 0 := by rw [es]; rfl
           exact done ⟨hNx, by rw [n0]; decide⟩)
    · refine ev_iload_n dX4_either_15 rfl ?_
      refine ev_if_eq (tgt := 61) dX4_either_16 (by decide) (fun h16 => absurd h16 ((show ¬ (1 : Int32) = 0 by decide))) (fun _ => ?_)
      refine ev_aload_n dX4_either_19 rfl ?_
      refine ev_get dX4_either_20 flX4_31_4 hO.1 rfl ?_
      rw [hK.2.2.1]
      refine ev_bipush (v := 6) dX4_either_23 (by decide) ?_
      refine ev_icmp_ne (tgt := 61) dX4_either_25 (by decide) (fun h25 => ?_) (fun h25 => ?_)
      · refine ev_iload_n dX4_either_61 rfl ?_
        refine ev_zret dX4_either_62 rfl (by decide) ?_
        first
          | (have e := h25
             exact done ⟨hNx, h25⟩)
          | (have e160 : 160 ≤ i := Nat.not_lt.mp (fun q => nI_ge q (by omega) h12)
             have es : s = [] := List.length_eq_zero_iff.mp (by simp only [psn] at hi; omega)
             have n0 : tkK s = 0 := by rw [es]; rfl
             exact done ⟨hNx, by rw [n0]; decide⟩)
      · have hk0 : ¬ tkK s = 0 := by rw [h25]; decide
        have hnx := psn_nx hss hk0
        have hp0 := psn_lt0 hss hk0
        have eR2 := eR.trans (rw_op (d := 7) (h := 1) (by rw [h25]; rfl) (by decide) (by decide) hRd rfl (by decide) hTp (by decide))
        refine ev_aload_n dX4_either_28 rfl ?_
        refine k_v (c_advS hS hT) (by omega) dX4_either_29 cbX4_advance (mt1 231 rfl rfl) (mt1 233 rfl rfl) (ms0 0 rfl rfl) (ci := 4) rfl hO.1 rfl rfl (Nat.le_of_ble_eq_true rfl) (fun v μ1 hq => ?_)
        obtain ⟨rfl, hS, hF2⟩ := hq; have hF := hF.tr hF2; clear hF2; obtain ⟨f, C1, hO, hC, h0, hK, h4, hc4⟩ := id hS
        simp only [Option.toList, List.cons_append, List.nil_append]
        refine ev_aload_n dX4_either_32 rfl ?_
        refine ev_iload_n dX4_either_33 rfl ?_
        refine k_v (hcal (nxT s) (D ++ E) (7 :: H) (C ++ E) _ hS (by rw [List.length_append]; omega) (Tp.cons (by decide))) (by omega) dX4_either_34 cbX4_both (mt2 42 rfl rfl) (mt2 44 rfl rfl) (ms0 7 rfl rfl) (ci := 4) rfl hO.1 rfl rfl (Nat.le_of_ble_eq_true rfl) (fun v μ1 hq => ?_)
        obtain ⟨hF2, z, rfl, hz⟩ := hq; have hF := hF.tr hF2; clear hF2
        simp only [Option.toList, List.cons_append, List.nil_append]
        refine ev_if_eq (tgt := 53) dX4_either_37 (by decide) (fun h37 => ?_) (fun h37 => ?_)
        · refine ev_iconst (v := 0) dX4_either_53 (by decide) ?_
          refine ev_istore_n dX4_either_54 (by decide) ?_
          dsimp only [List.set]
          refine ev_iinc dX4_either_55 rfl (by decide) ?_
          dsimp only [List.set]
          refine ev_goto (tgt := 8) dX4_either_58 (by decide) ?_
          first
            | (have q37 := hz.resolve_left (fun q => by rw [q.1] at h37; exact absurd h37 (by decide))
               exact bad _ _ hF (q37.2.eq eR2))
            | (rw [nI_inc]
               have hs3l := hs3.le
               have hnl : (nxT s).length ≤ s.length := by have := nxT_lt hk0; omega
               refine ih (i + 1) s3 (E ++ E2 ++ [30000 + 7]) P3 _ ?_ ?_ hF hS.as (eR2.trans eR3) (hRd3.pushN (by decide) (by decide) (by decide)) hNx3 (hH.bin hH3 (by omega) (by decide)) ?_
               · simp only [psn] at hlen3 hnx; omega
               · omega
               · simp only [List.length_append, List.length_singleton]; omega)
        · obtain ⟨-, s3, E2, P3, hS, eR3, hRd3, hNx3, hH3, hlen3⟩ := hz.resolve_right (fun q => h37 q.1); obtain ⟨f, C1, hO, hC, h0, hK, h4, hc4⟩ := id hS
          have hs3 := hS.sfx
          have hp3 : psn tp s3 ≤ tp.length := psn_le
          refine ev_aload_n dX4_either_40 rfl ?_
          refine ev_bipush (v := 6) dX4_either_41 (by decide) ?_
          refine k_v (c_emit hS (by simp only [List.length_append]; omega) (c := 30000 + 7) (by decide)) (by omega) dX4_either_43 cbX4_emit (mt2 66 rfl rfl) (mt2 68 rfl rfl) (ms0 13 rfl rfl) (ci := 4) rfl hO.1 rfl rfl (Nat.le_of_ble_eq_true rfl) (fun v μ1 hq => ?_)
          obtain ⟨rfl, hS, hF2⟩ := hq; have hF := hF.tr hF2; clear hF2
          simp only [Option.toList, List.cons_append, List.nil_append]
          refine ev_if_eq (tgt := 53) dX4_either_46 (by decide) (fun h46 => absurd h46 ((show ¬ (1 : Int32) = 0 by decide))) (fun _ => ?_)
          refine ev_iconst (v := 1) dX4_either_49 (by decide) ?_
          refine ev_goto (tgt := 54) dX4_either_50 (by decide) ?_
          refine ev_istore_n dX4_either_54 (by decide) ?_
          dsimp only [List.set]
          refine ev_iinc dX4_either_55 rfl (by decide) ?_
          dsimp only [List.set]
          refine ev_goto (tgt := 8) dX4_either_58 (by decide) ?_
          first
            | (have q37 := hz.resolve_left (fun q => by rw [q.1] at h37; exact absurd h37 (by decide))
               exact bad _ _ hF (q37.2.eq eR2))
            | (rw [nI_inc]
               have hs3l := hs3.le
               have hnl : (nxT s).length ≤ s.length := by have := nxT_lt hk0; omega
               refine ih (i + 1) s3 (E ++ E2 ++ [30000 + 7]) P3 _ ?_ ?_ hF hS.as (eR2.trans eR3) (hRd3.pushN (by decide) (by decide) (by decide)) hNx3 (hH.bin hH3 (by omega) (by decide)) ?_
               · simp only [psn] at hlen3 hnx; omega
               · omega
               · simp only [List.length_append, List.length_singleton]; omega)
theorem lc_either {q : Nat} (hT : RT T tp) (hcal : LvC g mX4_both (10 * q + 13) r T tp q 2 (5 + 5 * q) NxB preB) : LvC g mX4_either (10 * q + 14) r T tp q 1 (6 + 5 * q) NxE preE := by
  intro s D H C μ hS hD hp
  have hF : FR r μ μ := FR.rf
  have hss := hS.sfx
  obtain ⟨f, C1, hO, hC, h0, hK, h4, hc4⟩ := id hS
  refine Mt.of0 (ls0 := [some (.ref r), some (.int (nI (5 - q))), none, none]) (by decide) (by simp [Value.category]) (Nat.le_of_ble_eq_true rfl) rfl ?_
  have bad : ∀ (x : Int32) (μ1 : Mm), FR r μ μ1 → LvF r T tp (rowR true s (H, C, nI (5 - q))) μ1 → Ev g (10 * q + 14) mX4_either 8 [some (.ref r), some (.int (nI (5 - q))), some (.int 0), some (.int x)] [] μ1 (LvQ r T tp 1 (6 + 5 * q) NxE s D H C (nI (5 - q)) μ) := by
    intro x μ1 hF hN
    refine ev_iload_n dX4_either_8 rfl ?_
    refine ev_sipush (v := 160) dX4_either_9 (by decide) ?_
    refine ev_icmp_ge (tgt := 61) dX4_either_12 (by decide) (fun h12 => ?_) (fun h12 => ?_)
    · refine ev_iload_n dX4_either_61 rfl ?_
      refine ev_zret dX4_either_62 rfl (by decide) ?_
      exact ⟨hF, 0, rfl, Or.inr ⟨rfl, hN⟩⟩
    · refine ev_iload_n dX4_either_15 rfl ?_
      refine ev_if_eq (tgt := 61) dX4_either_16 (by decide) (fun _ => ?_) (fun h16 => absurd (rfl) h16)
      refine ev_iload_n dX4_either_61 rfl ?_
      refine ev_zret dX4_either_62 rfl (by decide) ?_
      exact ⟨hF, 0, rfl, Or.inr ⟨rfl, hN⟩⟩
  refine ev_aload_n dX4_either_0 rfl ?_
  refine ev_iload_n dX4_either_1 rfl ?_
  refine k_v (hcal s D H C _ hS hD (hp.sub (by decide))) (by omega) dX4_either_2 cbX4_both (mt2 42 rfl rfl) (mt2 44 rfl rfl) (ms0 7 rfl rfl) (ci := 4) rfl hO.1 rfl rfl (Nat.le_of_ble_eq_true rfl) (fun v μ1 hq => ?_)
  obtain ⟨hF2, z, rfl, hz⟩ := hq; have hF := hF.tr hF2; clear hF2
  simp only [Option.toList, List.cons_append, List.nil_append]
  refine ev_istore_n dX4_either_5 (by decide) ?_
  dsimp only [List.set]
  refine ev_iconst (v := 0) dX4_either_6 (by decide) ?_
  refine ev_istore_n dX4_either_7 (by decide) ?_
  dsimp only [List.set]
  rcases hz with ⟨rfl, s3, E, P3, hS3, eR3, hRd3, hNx3, hH3, hlen3⟩ | ⟨rfl, hN⟩
  · exact lv_either hT hcal hss hp hD (s3.length + 1) 0 s3 E P3 _ (Nat.lt_succ_self _) (Nat.zero_le _) hF hS3 eR3 (hRd3.mono (by decide)) hNx3 (hH3.mono (by omega)) hlen3
  · exact bad _ _ hF hN

end KLEV2