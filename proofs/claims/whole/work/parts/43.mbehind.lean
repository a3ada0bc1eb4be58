/-! ===== the reference: ahead of a ONE, behind it ===== -/
def kinds : List Int32 := [0, 1, 2, 3, 4, 5, 6, 7, 8, 10, 11, 12, 13, 14, 15, 40, 41, 59, 43, 45, 42, 60, 61]
theorem kds (s : List Int32) : tkK s ∈ kinds := by
  cases s with
  | nil => decide
  | cons c r =>
    rw [tkK]
    split
    · have k12 : ∀ i, i ≤ 12 → wKd i ∈ kinds := by decide
      exact k12 _ (wIx_12 _)
    · split
      · split <;> decide
      · split
        · rename_i h
          rw [isSg_spec] at h
          rcases h with rfl | rfl | rfl | rfl | rfl | rfl | rfl | rfl <;> decide
        · decide
theorem kd100 : ∀ K ∈ kinds, (rkT K = 100 ↔ K = 2) := by decide
theorem kd101 : ∀ K ∈ kinds, rkT K = 101 → ((rkV K 0 < 6 ↔ 10 ≤ K) ∧ (rkV K 0 = 11 ↔ K = 8) ∧ (rkV K 0 = 9 ↔ K = 6) ∧ (rkV K 0 = 10 ↔ K = 7) ∧ (10 ≤ K → rkV K 0 = K - 10) ∧ ¬ K = 2 ∧ ¬ K = 1 ∧ K ≤ 15 ∧ ¬ K = 45 ∧ ¬ K = 40 ∧ ¬ K = 59 ∧ ¬ K = 41 ∧ dOf K = 0 ∧ (rkV K 0 = 6 ↔ K = 3) ∧ (rkV K 0 = 7 ↔ K = 4) ∧ (rkV K 0 = 8 ↔ K = 5)) := by decide
theorem kd102 : ∀ K ∈ kinds, rkT K = 102 → (rkV K 0 = K ∧ ¬ K = 2 ∧ ¬ K = 1 ∧ ¬ K = 8 ∧ ¬ K = 6 ∧ ¬ K = 7 ∧ ¬ (10 ≤ K ∧ K ≤ 15)) := by decide
theorem kdn1 : ∀ K ∈ kinds, ¬ rkT K = 101 → (¬ (10 ≤ K ∧ K ≤ 15) ∧ ¬ K = 6 ∧ ¬ K = 7 ∧ ¬ K = 8 ∧ ¬ K = 3 ∧ ¬ K = 4 ∧ ¬ K = 5) := by decide
theorem kdn2 : ∀ K ∈ kinds, ¬ rkT K = 102 → (¬ K = 45 ∧ ¬ K = 40 ∧ ¬ K = 59 ∧ ¬ K = 41 ∧ dOf K = 0) := by decide
theorem kd0 : ∀ K ∈ kinds, (rkT K = 103 ↔ K = 0) := by decide
section MBEHIND
variable {g : Gl} {b : Nat} {ρ : MS} {r : Nat}
/-- a token as the reference holds it -/
def TkV (ρ : MS) (K V : Int32) : Prop := ρ.2 18 = rkT K ∧ (¬ K = 1 → ρ.2 20 = rkV K V)
theorem l_ahead134 {μ : Mm} (hM : RM b ρ μ) (hL : ML ρ) {P : PS} (hP : PM ρ r P) (h160 : szP P ≤ 160) {K V : Int32} (h2 : ¬ K = 2) (h10 : ¬ (10 ≤ K ∧ K ≤ 15)) {x : Int32} (hx : ahD K P.1 = x) : Ev g 2 mX12_ahead 134 [some (.ref b), none] [.int x] μ (fun v μ' => v = some (.int (ahd K V P).1) ∧ WrQ b r ρ (ahd K V P).2 μ μ') := by
  have hF : FM b μ μ := FM.rf
  have h4 := hP.2.2.2.1
  have hl : P.1.length ≤ 160 := by simp only [szP] at h160; omega
  rw [ahd, if_neg h2, if_neg h10, hx]
  refine ev_istore_n dX12_ahead_134 (by decide) ?_
  dsimp only [List.set]
  refine ev_iload_n dX12_ahead_135 rfl ?_
  refine ev_if_eq (tgt := 147) dX12_ahead_136 (by decide) (fun h136 => ?_) (fun h136 => ?_)
  · refine ev_iconst (v := (-1)) dX12_ahead_147 (by decide) ?_
    refine ev_iret dX12_ahead_148 rfl ?_
    first
      | (rw [if_pos (Or.inl h136)]; exact ⟨rfl, ⟨ρ, hM, PE.rf hL, hP⟩, hF⟩)
      | (rw [if_pos (Or.inr (by rw [← h4]; exact h144))]; exact ⟨rfl, ⟨ρ, hM, PE.rf hL, hP⟩, hF⟩)
  · refine ev_aload_n dX12_ahead_139 rfl ?_
    refine ev_get dX12_ahead_140 flX12_126_12 hM.1 rfl ?_
    refine ev_iconst (v := 5) dX12_ahead_143 (by decide) ?_
    refine ev_icmp_ne (tgt := 149) dX12_ahead_144 (by decide) (fun h144 => ?_) (fun h144 => ?_)
    · rw [if_neg (fun q => q.elim h136 (fun q => h144 (by rw [h4]; exact q)))]
      refine ev_aload_n dX12_ahead_149 rfl ?_
      refine ev_dup dX12_ahead_150 rfl ?_
      refine ev_get dX12_ahead_151 flX12_126_12 hM.1 rfl ?_
      refine ev_iconst (v := 1) dX12_ahead_154 (by decide) ?_
      refine ev_iadd dX12_ahead_155 ?_
      refine evM_put hM hF (k := 21) (by decide) dX12_ahead_156 fpX12_126_12 rfl rfl (fun μ hM hF => ?_)
      refine ev_aload_n dX12_ahead_159 rfl ?_
      refine ev_iload_n dX12_ahead_160 rfl ?_
      refine k_v (c_holds (P := (P.1, P.2.1, P.2.2 + 1)) hM (ML.setI hL) ⟨hP.1, hP.2.1, hP.2.2.1, by show ρ.2 21 + 1 = _; rw [h4], hP.2.2.2.2⟩ (by show P.1.length < 200; omega) x) (by decide) dX12_ahead_161 cbX12_holds (mt5 161 rfl rfl) (mt5 163 rfl rfl) (ms0 52 rfl rfl) (ci := 12) rfl hM.1 rfl rfl (Nat.le_of_ble_eq_true rfl) (fun v μ1 hq => ?_)
      obtain ⟨rfl, ⟨ρ2, hM2, hE2, hP2⟩, hF2⟩ := hq; have hF := hF.tr hF2
      simp only [Option.toList, List.cons_append, List.nil_append]
      refine ev_iconst (v := 0) dX12_ahead_164 (by decide) ?_
      refine ev_iret dX12_ahead_165 rfl ?_
      exact ⟨rfl, ⟨ρ2, hM2, hE2.tr ⟨ML.setI hL, EqE.rf.sI (by decide), fun _ _ => rfl, fun _ _ => rfl⟩, hP2⟩, hF⟩
    · refine ev_iconst (v := (-1)) dX12_ahead_147 (by decide) ?_
      refine ev_iret dX12_ahead_148 rfl ?_
      first
        | (rw [if_pos (Or.inl h136)]; exact ⟨rfl, ⟨ρ, hM, PE.rf hL, hP⟩, hF⟩)
        | (rw [if_pos (Or.inr (by rw [← h4]; exact h144))]; exact ⟨rfl, ⟨ρ, hM, PE.rf hL, hP⟩, hF⟩)
theorem c_ahead {μ : Mm} (hM : RM b ρ μ) (hL : ML ρ) (hr : r < 18) {P : PS} (hP : PM ρ r P) (h160 : szP P ≤ 160) {K V : Int32} (hK : K ∈ kinds) (hT : TkV ρ K V) : Mt g 2 mX12_ahead [.ref b] μ (fun v μ' => v = some (.int (ahd K V P).1) ∧ WrQ b r ρ (ahd K V P).2 μ μ') := by
  refine Mt.of0 (ls0 := [some (.ref b), none]) (by decide) (by simp [Value.category]) (Nat.le_of_ble_eq_true rfl) rfl ?_
  have e18 := hT.1
  have e20 := hT.2
  have hl : P.1.length ≤ 160 ∧ P.2.1.length ≤ 160 := by simp only [szP] at h160; omega
  have k1 := kd101 K hK
  have k2 := kd102 K hK
  have n1 := kdn1 K hK
  have n2 := kdn2 K hK
  have v1 : rkT K = 101 → ρ.2 20 = rkV K 0 := fun q => by rw [e20 (k1 q).2.2.2.2.2.2.1, rkV_v (k1 q).2.2.2.2.2.1]
  have v2 : rkT K = 102 → ρ.2 20 = K := fun q => by rw [e20 (k2 q).2.2.1, rkV_v (k2 q).2.1, (k2 q).1]
  refine ev_aload_n dX12_ahead_0 rfl ?_
  refine ev_get dX12_ahead_1 flX12_109_12 hM.1 rfl ?_
  refine ev_bipush (v := 100) dX12_ahead_4 (by decide) ?_
  refine ev_icmp_eq (tgt := 27) dX12_ahead_6 (by decide) (fun h6 => ?_) (fun h6 => ?_)
  · refine ev_aload_n dX12_ahead_27 rfl ?_
    refine ev_aload_n dX12_ahead_28 rfl ?_
    refine ev_get dX12_ahead_29 flX12_109_12 hM.1 rfl ?_
    refine ev_bipush (v := 100) dX12_ahead_32 (by decide) ?_
    refine ev_icmp_ne (tgt := 44) dX12_ahead_34 (by decide) (fun h34 => ?_) (fun h34 => ?_)
    · refine ev_sipush (v := 20000) dX12_ahead_44 (by decide) ?_
      refine ev_aload_n dX12_ahead_47 rfl ?_
      refine ev_get dX12_ahead_48 flX12_112_12 hM.1 rfl ?_
      refine ev_iadd dX12_ahead_51 ?_
      refine k_v (c_writes hM hL hr hP (by omega) _) (by decide) dX12_ahead_52 cbX12_writes (mt5 3 rfl rfl) (mt5 5 rfl rfl) (ms0 44 rfl rfl) (ci := 12) rfl hM.1 rfl rfl (Nat.le_of_ble_eq_true rfl) (fun v μ1 hq => ?_)
      obtain ⟨rfl, hR2, hF2⟩ := hq
      simp only [Option.toList, List.cons_append, List.nil_append]
      refine ev_iconst (v := 1) dX12_ahead_55 (by decide) ?_
      refine ev_iret dX12_ahead_56 rfl ?_
      first
        | (have q := (kd100 K hK).mp (e18.symm.trans h6)
           rw [ahd, if_pos q]
           have e : ρ.2 20 = V := by rw [e20 (by rw [q]; decide), q]; rfl
           rw [e] at hR2
           exact ⟨rfl, hR2, hF2⟩)
        | (have q1 : rkT K = 101 := e18.symm.trans h15
           have q2 : 10 ≤ K := (k1 q1).1.mp (by rw [← v1 q1]; exact Int32.not_le.mp h24)
           rw [ahd, if_neg (k1 q1).2.2.2.2.2.1, if_pos ⟨q2, (k1 q1).2.2.2.2.2.2.2.1⟩]
           rw [v1 q1, (k1 q1).2.2.2.2.1 q2] at hR2
           exact ⟨rfl, hR2, hF2⟩)
        | exact absurd h34 (by rw [h15]; decide)
        | exact absurd h6 h34
    · refine ev_aload_n dX12_ahead_37 rfl ?_
      refine ev_get dX12_ahead_38 flX12_112_12 hM.1 rfl ?_
      refine ev_goto (tgt := 52) dX12_ahead_41 (by decide) ?_
      refine k_v (c_writes hM hL hr hP (by omega) _) (by decide) dX12_ahead_52 cbX12_writes (mt5 3 rfl rfl) (mt5 5 rfl rfl) (ms0 44 rfl rfl) (ci := 12) rfl hM.1 rfl rfl (Nat.le_of_ble_eq_true rfl) (fun v μ1 hq => ?_)
      obtain ⟨rfl, hR2, hF2⟩ := hq
      simp only [Option.toList, List.cons_append, List.nil_append]
      refine ev_iconst (v := 1) dX12_ahead_55 (by decide) ?_
      refine ev_iret dX12_ahead_56 rfl ?_
      first
        | (have q := (kd100 K hK).mp (e18.symm.trans h6)
           rw [ahd, if_pos q]
           have e : ρ.2 20 = V := by rw [e20 (by rw [q]; decide), q]; rfl
           rw [e] at hR2
           exact ⟨rfl, hR2, hF2⟩)
        | (have q1 : rkT K = 101 := e18.symm.trans h15
           have q2 : 10 ≤ K := (k1 q1).1.mp (by rw [← v1 q1]; exact Int32.not_le.mp h24)
           rw [ahd, if_neg (k1 q1).2.2.2.2.2.1, if_pos ⟨q2, (k1 q1).2.2.2.2.2.2.2.1⟩]
           rw [v1 q1, (k1 q1).2.2.2.2.1 q2] at hR2
           exact ⟨rfl, hR2, hF2⟩)
        | exact absurd h34 (by rw [h15]; decide)
        | exact absurd h6 h34
  · refine ev_aload_n dX12_ahead_9 rfl ?_
    refine ev_get dX12_ahead_10 flX12_109_12 hM.1 rfl ?_
    refine ev_bipush (v := 101) dX12_ahead_13 (by decide) ?_
    refine ev_icmp_ne (tgt := 57) dX12_ahead_15 (by decide) (fun h15 => ?_) (fun h15 => ?_)
    · refine ev_aload_n dX12_ahead_57 rfl ?_
      refine ev_get dX12_ahead_58 flX12_109_12 hM.1 rfl ?_
      refine ev_bipush (v := 101) dX12_ahead_61 (by decide) ?_
      refine ev_icmp_ne (tgt := 87) dX12_ahead_63 (by decide) (fun h63 => ?_) (fun h63 => ?_)
      · refine ev_aload_n dX12_ahead_87 rfl ?_
        refine ev_get dX12_ahead_88 flX12_109_12 hM.1 rfl ?_
        refine ev_bipush (v := 102) dX12_ahead_91 (by decide) ?_
        refine ev_icmp_ne (tgt := 110) dX12_ahead_93 (by decide) (fun h93 => ?_) (fun h93 => ?_)
        · refine ev_aload_n dX12_ahead_110 rfl ?_
          refine ev_get dX12_ahead_111 flX12_109_12 hM.1 rfl ?_
          refine ev_bipush (v := 102) dX12_ahead_114 (by decide) ?_
          refine ev_icmp_ne (tgt := 133) dX12_ahead_116 (by decide) (fun h116 => ?_) (fun h116 => ?_)
          · refine ev_iconst (v := 0) dX12_ahead_133 (by decide) ?_
            have g2 : ¬ K = 2 := fun q => h6 (e18.trans ((kd100 K hK).mpr q))
            have g10 : ¬ (10 ≤ K ∧ K ≤ 15) := by
              first
                | exact (n1 (fun q => h15 (e18.trans q))).1
                | (have q1 : rkT K = 101 := e18.symm.trans h15
                   have h24' := h24
                   rw [v1 q1] at h24'
                   exact fun q => absurd ((k1 q1).1.mpr q.1) (Int32.not_lt.mpr h24'))
            refine l_ahead134 hM hL hP h160 g2 g10 ?_
            first
              | (have q1 : rkT K = 101 := e18.symm.trans h63
                 have q3 : mayB P.1 = true := b2i_ne h79
                 have q2 : K = 8 := (k1 q1).2.1.mp ((v1 q1).symm.trans h72)
                 rw [ahD, if_pos ⟨q2, q3⟩])
              | (have g8 : ¬ (K = 8 ∧ mayB P.1 = true) := by
                   first
                     | exact fun q => (n1 (fun q2 => h63 (e18.trans q2))).2.2.2.1 q.1
                     | (have q1 : rkT K = 101 := e18.symm.trans h63
                        exact fun q => h72 (by rw [v1 q1]; exact (k1 q1).2.1.mpr q.1))
                     | exact fun q => b2i_eq h79 q.2
                 rw [ahD, if_neg g8]
                 first
                   | (have q1 : rkT K = 102 := e18.symm.trans h93
                      have q2 : K = 45 := (v2 q1).symm.trans h102
                      rw [if_pos q2])
                   | (have g45 : ¬ K = 45 := by
                        first
                          | exact (n2 (fun q => h93 (e18.trans q))).1
                          | (have q1 : rkT K = 102 := e18.symm.trans h93
                             exact fun q => h102 (by rw [v2 q1]; exact q))
                      rw [if_neg g45]
                      first
                        | (have q1 : rkT K = 102 := e18.symm.trans h116
                           have q2 : K = 40 := (v2 q1).symm.trans h125
                           rw [if_pos q2])
                        | (have g40 : ¬ K = 40 := by
                             first
                               | exact (n2 (fun q => h116 (e18.trans q))).2.1
                               | (have q1 : rkT K = 102 := e18.symm.trans h116
                                  exact fun q => h125 (by rw [v2 q1]; exact q))
                           rw [if_neg g40])))
          · refine ev_aload_n dX12_ahead_119 rfl ?_
            refine ev_get dX12_ahead_120 flX12_112_12 hM.1 rfl ?_
            refine ev_bipush (v := 40) dX12_ahead_123 (by decide) ?_
            refine ev_icmp_ne (tgt := 133) dX12_ahead_125 (by decide) (fun h125 => ?_) (fun h125 => ?_)
            · refine ev_iconst (v := 0) dX12_ahead_133 (by decide) ?_
              have g2 : ¬ K = 2 := fun q => h6 (e18.trans ((kd100 K hK).mpr q))
              have g10 : ¬ (10 ≤ K ∧ K ≤ 15) := by
                first
                  | exact (n1 (fun q => h15 (e18.trans q))).1
                  | (have q1 : rkT K = 101 := e18.symm.trans h15
                     have h24' := h24
                     rw [v1 q1] at h24'
                     exact fun q => absurd ((k1 q1).1.mpr q.1) (Int32.not_lt.mpr h24'))
              refine l_ahead134 hM hL hP h160 g2 g10 ?_
              first
                | (have q1 : rkT K = 101 := e18.symm.trans h63
                   have q3 : mayB P.1 = true := b2i_ne h79
                   have q2 : K = 8 := (k1 q1).2.1.mp ((v1 q1).symm.trans h72)
                   rw [ahD, if_pos ⟨q2, q3⟩])
                | (have g8 : ¬ (K = 8 ∧ mayB P.1 = true) := by
                     first
                       | exact fun q => (n1 (fun q2 => h63 (e18.trans q2))).2.2.2.1 q.1
                       | (have q1 : rkT K = 101 := e18.symm.trans h63
                          exact fun q => h72 (by rw [v1 q1]; exact (k1 q1).2.1.mpr q.1))
                       | exact fun q => b2i_eq h79 q.2
                   rw [ahD, if_neg g8]
                   first
                     | (have q1 : rkT K = 102 := e18.symm.trans h93
                        have q2 : K = 45 := (v2 q1).symm.trans h102
                        rw [if_pos q2])
                     | (have g45 : ¬ K = 45 := by
                          first
                            | exact (n2 (fun q => h93 (e18.trans q))).1
                            | (have q1 : rkT K = 102 := e18.symm.trans h93
                               exact fun q => h102 (by rw [v2 q1]; exact q))
                        rw [if_neg g45]
                        first
                          | (have q1 : rkT K = 102 := e18.symm.trans h116
                             have q2 : K = 40 := (v2 q1).symm.trans h125
                             rw [if_pos q2])
                          | (have g40 : ¬ K = 40 := by
                               first
                                 | exact (n2 (fun q => h116 (e18.trans q))).2.1
                                 | (have q1 : rkT K = 102 := e18.symm.trans h116
                                    exact fun q => h125 (by rw [v2 q1]; exact q))
                             rw [if_neg g40])))
            · refine ev_bipush (v := 10) dX12_ahead_128 (by decide) ?_
              refine ev_goto (tgt := 134) dX12_ahead_130 (by decide) ?_
              have g2 : ¬ K = 2 := fun q => h6 (e18.trans ((kd100 K hK).mpr q))
              have g10 : ¬ (10 ≤ K ∧ K ≤ 15) := by
                first
                  | exact (n1 (fun q => h15 (e18.trans q))).1
                  | (have q1 : rkT K = 101 := e18.symm.trans h15
                     have h24' := h24
                     rw [v1 q1] at h24'
                     exact fun q => absurd ((k1 q1).1.mpr q.1) (Int32.not_lt.mpr h24'))
              refine l_ahead134 hM hL hP h160 g2 g10 ?_
              first
                | (have q1 : rkT K = 101 := e18.symm.trans h63
                   have q3 : mayB P.1 = true := b2i_ne h79
                   have q2 : K = 8 := (k1 q1).2.1.mp ((v1 q1).symm.trans h72)
                   rw [ahD, if_pos ⟨q2, q3⟩])
                | (have g8 : ¬ (K = 8 ∧ mayB P.1 = true) := by
                     first
                       | exact fun q => (n1 (fun q2 => h63 (e18.trans q2))).2.2.2.1 q.1
                       | (have q1 : rkT K = 101 := e18.symm.trans h63
                          exact fun q => h72 (by rw [v1 q1]; exact (k1 q1).2.1.mpr q.1))
                       | exact fun q => b2i_eq h79 q.2
                   rw [ahD, if_neg g8]
                   first
                     | (have q1 : rkT K = 102 := e18.symm.trans h93
                        have q2 : K = 45 := (v2 q1).symm.trans h102
                        rw [if_pos q2])
                     | (have g45 : ¬ K = 45 := by
                          first
                            | exact (n2 (fun q => h93 (e18.trans q))).1
                            | (have q1 : rkT K = 102 := e18.symm.trans h93
                               exact fun q => h102 (by rw [v2 q1]; exact q))
                        rw [if_neg g45]
                        first
                          | (have q1 : rkT K = 102 := e18.symm.trans h116
                             have q2 : K = 40 := (v2 q1).symm.trans h125
                             rw [if_pos q2])
                          | (have g40 : ¬ K = 40 := by
                               first
                                 | exact (n2 (fun q => h116 (e18.trans q))).2.1
                                 | (have q1 : rkT K = 102 := e18.symm.trans h116
                                    exact fun q => h125 (by rw [v2 q1]; exact q))
                             rw [if_neg g40])))
        · refine ev_aload_n dX12_ahead_96 rfl ?_
          refine ev_get dX12_ahead_97 flX12_112_12 hM.1 rfl ?_
          refine ev_bipush (v := 45) dX12_ahead_100 (by decide) ?_
          refine ev_icmp_ne (tgt := 110) dX12_ahead_102 (by decide) (fun h102 => ?_) (fun h102 => ?_)
          · refine ev_aload_n dX12_ahead_110 rfl ?_
            refine ev_get dX12_ahead_111 flX12_109_12 hM.1 rfl ?_
            refine ev_bipush (v := 102) dX12_ahead_114 (by decide) ?_
            refine ev_icmp_ne (tgt := 133) dX12_ahead_116 (by decide) (fun h116 => ?_) (fun h116 => ?_)
            · refine ev_iconst (v := 0) dX12_ahead_133 (by decide) ?_
              have g2 : ¬ K = 2 := fun q => h6 (e18.trans ((kd100 K hK).mpr q))
              have g10 : ¬ (10 ≤ K ∧ K ≤ 15) := by
                first
                  | exact (n1 (fun q => h15 (e18.trans q))).1
                  | (have q1 : rkT K = 101 := e18.symm.trans h15
                     have h24' := h24
                     rw [v1 q1] at h24'
                     exact fun q => absurd ((k1 q1).1.mpr q.1) (Int32.not_lt.mpr h24'))
              refine l_ahead134 hM hL hP h160 g2 g10 ?_
              first
                | (have q1 : rkT K = 101 := e18.symm.trans h63
                   have q3 : mayB P.1 = true := b2i_ne h79
                   have q2 : K = 8 := (k1 q1).2.1.mp ((v1 q1).symm.trans h72)
                   rw [ahD, if_pos ⟨q2, q3⟩])
                | (have g8 : ¬ (K = 8 ∧ mayB P.1 = true) := by
                     first
                       | exact fun q => (n1 (fun q2 => h63 (e18.trans q2))).2.2.2.1 q.1
                       | (have q1 : rkT K = 101 := e18.symm.trans h63
                          exact fun q => h72 (by rw [v1 q1]; exact (k1 q1).2.1.mpr q.1))
                       | exact fun q => b2i_eq h79 q.2
                   rw [ahD, if_neg g8]
                   first
                     | (have q1 : rkT K = 102 := e18.symm.trans h93
                        have q2 : K = 45 := (v2 q1).symm.trans h102
                        rw [if_pos q2])
                     | (have g45 : ¬ K = 45 := by
                          first
                            | exact (n2 (fun q => h93 (e18.trans q))).1
                            | (have q1 : rkT K = 102 := e18.symm.trans h93
                               exact fun q => h102 (by rw [v2 q1]; exact q))
                        rw [if_neg g45]
                        first
                          | (have q1 : rkT K = 102 := e18.symm.trans h116
                             have q2 : K = 40 := (v2 q1).symm.trans h125
                             rw [if_pos q2])
                          | (have g40 : ¬ K = 40 := by
                               first
                                 | exact (n2 (fun q => h116 (e18.trans q))).2.1
                                 | (have q1 : rkT K = 102 := e18.symm.trans h116
                                    exact fun q => h125 (by rw [v2 q1]; exact q))
                             rw [if_neg g40])))
            · refine ev_aload_n dX12_ahead_119 rfl ?_
              refine ev_get dX12_ahead_120 flX12_112_12 hM.1 rfl ?_
              refine ev_bipush (v := 40) dX12_ahead_123 (by decide) ?_
              refine ev_icmp_ne (tgt := 133) dX12_ahead_125 (by decide) (fun h125 => ?_) (fun h125 => ?_)
              · refine ev_iconst (v := 0) dX12_ahead_133 (by decide) ?_
                have g2 : ¬ K = 2 := fun q => h6 (e18.trans ((kd100 K hK).mpr q))
                have g10 : ¬ (10 ≤ K ∧ K ≤ 15) := by
                  first
                    | exact (n1 (fun q => h15 (e18.trans q))).1
                    | (have q1 : rkT K = 101 := e18.symm.trans h15
                       have h24' := h24
                       rw [v1 q1] at h24'
                       exact fun q => absurd ((k1 q1).1.mpr q.1) (Int32.not_lt.mpr h24'))
                refine l_ahead134 hM hL hP h160 g2 g10 ?_
                first
                  | (have q1 : rkT K = 101 := e18.symm.trans h63
                     have q3 : mayB P.1 = true := b2i_ne h79
                     have q2 : K = 8 := (k1 q1).2.1.mp ((v1 q1).symm.trans h72)
                     rw [ahD, if_pos ⟨q2, q3⟩])
                  | (have g8 : ¬ (K = 8 ∧ mayB P.1 = true) := by
                       first
                         | exact fun q => (n1 (fun q2 => h63 (e18.trans q2))).2.2.2.1 q.1
                         | (have q1 : rkT K = 101 := e18.symm.trans h63
                            exact fun q => h72 (by rw [v1 q1]; exact (k1 q1).2.1.mpr q.1))
                         | exact fun q => b2i_eq h79 q.2
                     rw [ahD, if_neg g8]
                     first
                       | (have q1 : rkT K = 102 := e18.symm.trans h93
                          have q2 : K = 45 := (v2 q1).symm.trans h102
                          rw [if_pos q2])
                       | (have g45 : ¬ K = 45 := by
                            first
                              | exact (n2 (fun q => h93 (e18.trans q))).1
                              | (have q1 : rkT K = 102 := e18.symm.trans h93
                                 exact fun q => h102 (by rw [v2 q1]; exact q))
                          rw [if_neg g45]
                          first
                            | (have q1 : rkT K = 102 := e18.symm.trans h116
                               have q2 : K = 40 := (v2 q1).symm.trans h125
                               rw [if_pos q2])
                            | (have g40 : ¬ K = 40 := by
                                 first
                                   | exact (n2 (fun q => h116 (e18.trans q))).2.1
                                   | (have q1 : rkT K = 102 := e18.symm.trans h116
                                      exact fun q => h125 (by rw [v2 q1]; exact q))
                               rw [if_neg g40])))
              · refine ev_bipush (v := 10) dX12_ahead_128 (by decide) ?_
                refine ev_goto (tgt := 134) dX12_ahead_130 (by decide) ?_
                have g2 : ¬ K = 2 := fun q => h6 (e18.trans ((kd100 K hK).mpr q))
                have g10 : ¬ (10 ≤ K ∧ K ≤ 15) := by
                  first
                    | exact (n1 (fun q => h15 (e18.trans q))).1
                    | (have q1 : rkT K = 101 := e18.symm.trans h15
                       have h24' := h24
                       rw [v1 q1] at h24'
                       exact fun q => absurd ((k1 q1).1.mpr q.1) (Int32.not_lt.mpr h24'))
                refine l_ahead134 hM hL hP h160 g2 g10 ?_
                first
                  | (have q1 : rkT K = 101 := e18.symm.trans h63
                     have q3 : mayB P.1 = true := b2i_ne h79
                     have q2 : K = 8 := (k1 q1).2.1.mp ((v1 q1).symm.trans h72)
                     rw [ahD, if_pos ⟨q2, q3⟩])
                  | (have g8 : ¬ (K = 8 ∧ mayB P.1 = true) := by
                       first
                         | exact fun q => (n1 (fun q2 => h63 (e18.trans q2))).2.2.2.1 q.1
                         | (have q1 : rkT K = 101 := e18.symm.trans h63
                            exact fun q => h72 (by rw [v1 q1]; exact (k1 q1).2.1.mpr q.1))
                         | exact fun q => b2i_eq h79 q.2
                     rw [ahD, if_neg g8]
                     first
                       | (have q1 : rkT K = 102 := e18.symm.trans h93
                          have q2 : K = 45 := (v2 q1).symm.trans h102
                          rw [if_pos q2])
                       | (have g45 : ¬ K = 45 := by
                            first
                              | exact (n2 (fun q => h93 (e18.trans q))).1
                              | (have q1 : rkT K = 102 := e18.symm.trans h93
                                 exact fun q => h102 (by rw [v2 q1]; exact q))
                          rw [if_neg g45]
                          first
                            | (have q1 : rkT K = 102 := e18.symm.trans h116
                               have q2 : K = 40 := (v2 q1).symm.trans h125
                               rw [if_pos q2])
                            | (have g40 : ¬ K = 40 := by
                                 first
                                   | exact (n2 (fun q => h116 (e18.trans q))).2.1
                                   | (have q1 : rkT K = 102 := e18.symm.trans h116
                                      exact fun q => h125 (by rw [v2 q1]; exact q))
                               rw [if_neg g40])))
          · refine ev_bipush (v := 9) dX12_ahead_105 (by decide) ?_
            refine ev_goto (tgt := 134) dX12_ahead_107 (by decide) ?_
            have g2 : ¬ K = 2 := fun q => h6 (e18.trans ((kd100 K hK).mpr q))
            have g10 : ¬ (10 ≤ K ∧ K ≤ 15) := by
              first
                | exact (n1 (fun q => h15 (e18.trans q))).1
                | (have q1 : rkT K = 101 := e18.symm.trans h15
                   have h24' := h24
                   rw [v1 q1] at h24'
                   exact fun q => absurd ((k1 q1).1.mpr q.1) (Int32.not_lt.mpr h24'))
            refine l_ahead134 hM hL hP h160 g2 g10 ?_
            first
              | (have q1 : rkT K = 101 := e18.symm.trans h63
                 have q3 : mayB P.1 = true := b2i_ne h79
                 have q2 : K = 8 := (k1 q1).2.1.mp ((v1 q1).symm.trans h72)
                 rw [ahD, if_pos ⟨q2, q3⟩])
              | (have g8 : ¬ (K = 8 ∧ mayB P.1 = true) := by
                   first
                     | exact fun q => (n1 (fun q2 => h63 (e18.trans q2))).2.2.2.1 q.1
                     | (have q1 : rkT K = 101 := e18.symm.trans h63
                        exact fun q => h72 (by rw [v1 q1]; exact (k1 q1).2.1.mpr q.1))
                     | exact fun q => b2i_eq h79 q.2
                 rw [ahD, if_neg g8]
                 first
                   | (have q1 : rkT K = 102 := e18.symm.trans h93
                      have q2 : K = 45 := (v2 q1).symm.trans h102
                      rw [if_pos q2])
                   | (have g45 : ¬ K = 45 := by
                        first
                          | exact (n2 (fun q => h93 (e18.trans q))).1
                          | (have q1 : rkT K = 102 := e18.symm.trans h93
                             exact fun q => h102 (by rw [v2 q1]; exact q))
                      rw [if_neg g45]
                      first
                        | (have q1 : rkT K = 102 := e18.symm.trans h116
                           have q2 : K = 40 := (v2 q1).symm.trans h125
                           rw [if_pos q2])
                        | (have g40 : ¬ K = 40 := by
                             first
                               | exact (n2 (fun q => h116 (e18.trans q))).2.1
                               | (have q1 : rkT K = 102 := e18.symm.trans h116
                                  exact fun q => h125 (by rw [v2 q1]; exact q))
                           rw [if_neg g40])))
      · refine ev_aload_n dX12_ahead_66 rfl ?_
        refine ev_get dX12_ahead_67 flX12_112_12 hM.1 rfl ?_
        refine ev_bipush (v := 11) dX12_ahead_70 (by decide) ?_
        refine ev_icmp_ne (tgt := 87) dX12_ahead_72 (by decide) (fun h72 => ?_) (fun h72 => ?_)
        · refine ev_aload_n dX12_ahead_87 rfl ?_
          refine ev_get dX12_ahead_88 flX12_109_12 hM.1 rfl ?_
          refine ev_bipush (v := 102) dX12_ahead_91 (by decide) ?_
          refine ev_icmp_ne (tgt := 110) dX12_ahead_93 (by decide) (fun h93 => ?_) (fun h93 => ?_)
          · refine ev_aload_n dX12_ahead_110 rfl ?_
            refine ev_get dX12_ahead_111 flX12_109_12 hM.1 rfl ?_
            refine ev_bipush (v := 102) dX12_ahead_114 (by decide) ?_
            refine ev_icmp_ne (tgt := 133) dX12_ahead_116 (by decide) (fun h116 => ?_) (fun h116 => ?_)
            · refine ev_iconst (v := 0) dX12_ahead_133 (by decide) ?_
              have g2 : ¬ K = 2 := fun q => h6 (e18.trans ((kd100 K hK).mpr q))
              have g10 : ¬ (10 ≤ K ∧ K ≤ 15) := by
                first
                  | exact (n1 (fun q => h15 (e18.trans q))).1
                  | (have q1 : rkT K = 101 := e18.symm.trans h15
                     have h24' := h24
                     rw [v1 q1] at h24'
                     exact fun q => absurd ((k1 q1).1.mpr q.1) (Int32.not_lt.mpr h24'))
              refine l_ahead134 hM hL hP h160 g2 g10 ?_
              first
                | (have q1 : rkT K = 101 := e18.symm.trans h63
                   have q3 : mayB P.1 = true := b2i_ne h79
                   have q2 : K = 8 := (k1 q1).2.1.mp ((v1 q1).symm.trans h72)
                   rw [ahD, if_pos ⟨q2, q3⟩])
                | (have g8 : ¬ (K = 8 ∧ mayB P.1 = true) := by
                     first
                       | exact fun q => (n1 (fun q2 => h63 (e18.trans q2))).2.2.2.1 q.1
                       | (have q1 : rkT K = 101 := e18.symm.trans h63
                          exact fun q => h72 (by rw [v1 q1]; exact (k1 q1).2.1.mpr q.1))
                       | exact fun q => b2i_eq h79 q.2
                   rw [ahD, if_neg g8]
                   first
                     | (have q1 : rkT K = 102 := e18.symm.trans h93
                        have q2 : K = 45 := (v2 q1).symm.trans h102
                        rw [if_pos q2])
                     | (have g45 : ¬ K = 45 := by
                          first
                            | exact (n2 (fun q => h93 (e18.trans q))).1
                            | (have q1 : rkT K = 102 := e18.symm.trans h93
                               exact fun q => h102 (by rw [v2 q1]; exact q))
                        rw [if_neg g45]
                        first
                          | (have q1 : rkT K = 102 := e18.symm.trans h116
                             have q2 : K = 40 := (v2 q1).symm.trans h125
                             rw [if_pos q2])
                          | (have g40 : ¬ K = 40 := by
                               first
                                 | exact (n2 (fun q => h116 (e18.trans q))).2.1
                                 | (have q1 : rkT K = 102 := e18.symm.trans h116
                                    exact fun q => h125 (by rw [v2 q1]; exact q))
                             rw [if_neg g40])))
            · refine ev_aload_n dX12_ahead_119 rfl ?_
              refine ev_get dX12_ahead_120 flX12_112_12 hM.1 rfl ?_
              refine ev_bipush (v := 40) dX12_ahead_123 (by decide) ?_
              refine ev_icmp_ne (tgt := 133) dX12_ahead_125 (by decide) (fun h125 => ?_) (fun h125 => ?_)
              · refine ev_iconst (v := 0) dX12_ahead_133 (by decide) ?_
                have g2 : ¬ K = 2 := fun q => h6 (e18.trans ((kd100 K hK).mpr q))
                have g10 : ¬ (10 ≤ K ∧ K ≤ 15) := by
                  first
                    | exact (n1 (fun q => h15 (e18.trans q))).1
                    | (have q1 : rkT K = 101 := e18.symm.trans h15
                       have h24' := h24
                       rw [v1 q1] at h24'
                       exact fun q => absurd ((k1 q1).1.mpr q.1) (Int32.not_lt.mpr h24'))
                refine l_ahead134 hM hL hP h160 g2 g10 ?_
                first
                  | (have q1 : rkT K = 101 := e18.symm.trans h63
                     have q3 : mayB P.1 = true := b2i_ne h79
                     have q2 : K = 8 := (k1 q1).2.1.mp ((v1 q1).symm.trans h72)
                     rw [ahD, if_pos ⟨q2, q3⟩])
                  | (have g8 : ¬ (K = 8 ∧ mayB P.1 = true) := by
                       first
                         | exact fun q => (n1 (fun q2 => h63 (e18.trans q2))).2.2.2.1 q.1
                         | (have q1 : rkT K = 101 := e18.symm.trans h63
                            exact fun q => h72 (by rw [v1 q1]; exact (k1 q1).2.1.mpr q.1))
                         | exact fun q => b2i_eq h79 q.2
                     rw [ahD, if_neg g8]
                     first
                       | (have q1 : rkT K = 102 := e18.symm.trans h93
                          have q2 : K = 45 := (v2 q1).symm.trans h102
                          rw [if_pos q2])
                       | (have g45 : ¬ K = 45 := by
                            first
                              | exact (n2 (fun q => h93 (e18.trans q))).1
                              | (have q1 : rkT K = 102 := e18.symm.trans h93
                                 exact fun q => h102 (by rw [v2 q1]; exact q))
                          rw [if_neg g45]
                          first
                            | (have q1 : rkT K = 102 := e18.symm.trans h116
                               have q2 : K = 40 := (v2 q1).symm.trans h125
                               rw [if_pos q2])
                            | (have g40 : ¬ K = 40 := by
                                 first
                                   | exact (n2 (fun q => h116 (e18.trans q))).2.1
                                   | (have q1 : rkT K = 102 := e18.symm.trans h116
                                      exact fun q => h125 (by rw [v2 q1]; exact q))
                               rw [if_neg g40])))
              · refine ev_bipush (v := 10) dX12_ahead_128 (by decide) ?_
                refine ev_goto (tgt := 134) dX12_ahead_130 (by decide) ?_
                have g2 : ¬ K = 2 := fun q => h6 (e18.trans ((kd100 K hK).mpr q))
                have g10 : ¬ (10 ≤ K ∧ K ≤ 15) := by
                  first
                    | exact (n1 (fun q => h15 (e18.trans q))).1
                    | (have q1 : rkT K = 101 := e18.symm.trans h15
                       have h24' := h24
                       rw [v1 q1] at h24'
                       exact fun q => absurd ((k1 q1).1.mpr q.1) (Int32.not_lt.mpr h24'))
                refine l_ahead134 hM hL hP h160 g2 g10 ?_
                first
                  | (have q1 : rkT K = 101 := e18.symm.trans h63
                     have q3 : mayB P.1 = true := b2i_ne h79
                     have q2 : K = 8 := (k1 q1).2.1.mp ((v1 q1).symm.trans h72)
                     rw [ahD, if_pos ⟨q2, q3⟩])
                  | (have g8 : ¬ (K = 8 ∧ mayB P.1 = true) := by
                       first
                         | exact fun q => (n1 (fun q2 => h63 (e18.trans q2))).2.2.2.1 q.1
                         | (have q1 : rkT K = 101 := e18.symm.trans h63
                            exact fun q => h72 (by rw [v1 q1]; exact (k1 q1).2.1.mpr q.1))
                         | exact fun q => b2i_eq h79 q.2
                     rw [ahD, if_neg g8]
                     first
                       | (have q1 : rkT K = 102 := e18.symm.trans h93
                          have q2 : K = 45 := (v2 q1).symm.trans h102
                          rw [if_pos q2])
                       | (have g45 : ¬ K = 45 := by
                            first
                              | exact (n2 (fun q => h93 (e18.trans q))).1
                              | (have q1 : rkT K = 102 := e18.symm.trans h93
                                 exact fun q => h102 (by rw [v2 q1]; exact q))
                          rw [if_neg g45]
                          first
                            | (have q1 : rkT K = 102 := e18.symm.trans h116
                               have q2 : K = 40 := (v2 q1).symm.trans h125
                               rw [if_pos q2])
                            | (have g40 : ¬ K = 40 := by
                                 first
                                   | exact (n2 (fun q => h116 (e18.trans q))).2.1
                                   | (have q1 : rkT K = 102 := e18.symm.trans h116
                                      exact fun q => h125 (by rw [v2 q1]; exact q))
                               rw [if_neg g40])))
          · refine ev_aload_n dX12_ahead_96 rfl ?_
            refine ev_get dX12_ahead_97 flX12_112_12 hM.1 rfl ?_
            refine ev_bipush (v := 45) dX12_ahead_100 (by decide) ?_
            refine ev_icmp_ne (tgt := 110) dX12_ahead_102 (by decide) (fun h102 => ?_) (fun h102 => ?_)
            · refine ev_aload_n dX12_ahead_110 rfl ?_
              refine ev_get dX12_ahead_111 flX12_109_12 hM.1 rfl ?_
              refine ev_bipush (v := 102) dX12_ahead_114 (by decide) ?_
              refine ev_icmp_ne (tgt := 133) dX12_ahead_116 (by decide) (fun h116 => ?_) (fun h116 => ?_)
              · refine ev_iconst (v := 0) dX12_ahead_133 (by decide) ?_
                have g2 : ¬ K = 2 := fun q => h6 (e18.trans ((kd100 K hK).mpr q))
                have g10 : ¬ (10 ≤ K ∧ K ≤ 15) := by
                  first
                    | exact (n1 (fun q => h15 (e18.trans q))).1
                    | (have q1 : rkT K = 101 := e18.symm.trans h15
                       have h24' := h24
                       rw [v1 q1] at h24'
                       exact fun q => absurd ((k1 q1).1.mpr q.1) (Int32.not_lt.mpr h24'))
                refine l_ahead134 hM hL hP h160 g2 g10 ?_
                first
                  | (have q1 : rkT K = 101 := e18.symm.trans h63
                     have q3 : mayB P.1 = true := b2i_ne h79
                     have q2 : K = 8 := (k1 q1).2.1.mp ((v1 q1).symm.trans h72)
                     rw [ahD, if_pos ⟨q2, q3⟩])
                  | (have g8 : ¬ (K = 8 ∧ mayB P.1 = true) := by
                       first
                         | exact fun q => (n1 (fun q2 => h63 (e18.trans q2))).2.2.2.1 q.1
                         | (have q1 : rkT K = 101 := e18.symm.trans h63
                            exact fun q => h72 (by rw [v1 q1]; exact (k1 q1).2.1.mpr q.1))
                         | exact fun q => b2i_eq h79 q.2
                     rw [ahD, if_neg g8]
                     first
                       | (have q1 : rkT K = 102 := e18.symm.trans h93
                          have q2 : K = 45 := (v2 q1).symm.trans h102
                          rw [if_pos q2])
                       | (have g45 : ¬ K = 45 := by
                            first
                              | exact (n2 (fun q => h93 (e18.trans q))).1
                              | (have q1 : rkT K = 102 := e18.symm.trans h93
                                 exact fun q => h102 (by rw [v2 q1]; exact q))
                          rw [if_neg g45]
                          first
                            | (have q1 : rkT K = 102 := e18.symm.trans h116
                               have q2 : K = 40 := (v2 q1).symm.trans h125
                               rw [if_pos q2])
                            | (have g40 : ¬ K = 40 := by
                                 first
                                   | exact (n2 (fun q => h116 (e18.trans q))).2.1
                                   | (have q1 : rkT K = 102 := e18.symm.trans h116
                                      exact fun q => h125 (by rw [v2 q1]; exact q))
                               rw [if_neg g40])))
              · refine ev_aload_n dX12_ahead_119 rfl ?_
                refine ev_get dX12_ahead_120 flX12_112_12 hM.1 rfl ?_
                refine ev_bipush (v := 40) dX12_ahead_123 (by decide) ?_
                refine ev_icmp_ne (tgt := 133) dX12_ahead_125 (by decide) (fun h125 => ?_) (fun h125 => ?_)
                · refine ev_iconst (v := 0) dX12_ahead_133 (by decide) ?_
                  have g2 : ¬ K = 2 := fun q => h6 (e18.trans ((kd100 K hK).mpr q))
                  have g10 : ¬ (10 ≤ K ∧ K ≤ 15) := by
                    first
                      | exact (n1 (fun q => h15 (e18.trans q))).1
                      | (have q1 : rkT K = 101 := e18.symm.trans h15
                         have h24' := h24
                         rw [v1 q1] at h24'
                         exact fun q => absurd ((k1 q1).1.mpr q.1) (Int32.not_lt.mpr h24'))
                  refine l_ahead134 hM hL hP h160 g2 g10 ?_
                  first
                    | (have q1 : rkT K = 101 := e18.symm.trans h63
                       have q3 : mayB P.1 = true := b2i_ne h79
                       have q2 : K = 8 := (k1 q1).2.1.mp ((v1 q1).symm.trans h72)
                       rw [ahD, if_pos ⟨q2, q3⟩])
                    | (have g8 : ¬ (K = 8 ∧ mayB P.1 = true) := by
                         first
                           | exact fun q => (n1 (fun q2 => h63 (e18.trans q2))).2.2.2.1 q.1
                           | (have q1 : rkT K = 101 := e18.symm.trans h63
                              exact fun q => h72 (by rw [v1 q1]; exact (k1 q1).2.1.mpr q.1))
                           | exact fun q => b2i_eq h79 q.2
                       rw [ahD, if_neg g8]
                       first
                         | (have q1 : rkT K = 102 := e18.symm.trans h93
                            have q2 : K = 45 := (v2 q1).symm.trans h102
                            rw [if_pos q2])
                         | (have g45 : ¬ K = 45 := by
                              first
                                | exact (n2 (fun q => h93 (e18.trans q))).1
                                | (have q1 : rkT K = 102 := e18.symm.trans h93
                                   exact fun q => h102 (by rw [v2 q1]; exact q))
                            rw [if_neg g45]
                            first
                              | (have q1 : rkT K = 102 := e18.symm.trans h116
                                 have q2 : K = 40 := (v2 q1).symm.trans h125
                                 rw [if_pos q2])
                              | (have g40 : ¬ K = 40 := by
                                   first
                                     | exact (n2 (fun q => h116 (e18.trans q))).2.1
                                     | (have q1 : rkT K = 102 := e18.symm.trans h116
                                        exact fun q => h125 (by rw [v2 q1]; exact q))
                                 rw [if_neg g40])))
                · refine ev_bipush (v := 10) dX12_ahead_128 (by decide) ?_
                  refine ev_goto (tgt := 134) dX12_ahead_130 (by decide) ?_
                  have g2 : ¬ K = 2 := fun q => h6 (e18.trans ((kd100 K hK).mpr q))
                  have g10 : ¬ (10 ≤ K ∧ K ≤ 15) := by
                    first
                      | exact (n1 (fun q => h15 (e18.trans q))).1
                      | (have q1 : rkT K = 101 := e18.symm.trans h15
                         have h24' := h24
                         rw [v1 q1] at h24'
                         exact fun q => absurd ((k1 q1).1.mpr q.1) (Int32.not_lt.mpr h24'))
                  refine l_ahead134 hM hL hP h160 g2 g10 ?_
                  first
                    | (have q1 : rkT K = 101 := e18.symm.trans h63
                       have q3 : mayB P.1 = true := b2i_ne h79
                       have q2 : K = 8 := (k1 q1).2.1.mp ((v1 q1).symm.trans h72)
                       rw [ahD, if_pos ⟨q2, q3⟩])
                    | (have g8 : ¬ (K = 8 ∧ mayB P.1 = true) := by
                         first
                           | exact fun q => (n1 (fun q2 => h63 (e18.trans q2))).2.2.2.1 q.1
                           | (have q1 : rkT K = 101 := e18.symm.trans h63
                              exact fun q => h72 (by rw [v1 q1]; exact (k1 q1).2.1.mpr q.1))
                           | exact fun q => b2i_eq h79 q.2
                       rw [ahD, if_neg g8]
                       first
                         | (have q1 : rkT K = 102 := e18.symm.trans h93
                            have q2 : K = 45 := (v2 q1).symm.trans h102
                            rw [if_pos q2])
                         | (have g45 : ¬ K = 45 := by
                              first
                                | exact (n2 (fun q => h93 (e18.trans q))).1
                                | (have q1 : rkT K = 102 := e18.symm.trans h93
                                   exact fun q => h102 (by rw [v2 q1]; exact q))
                            rw [if_neg g45]
                            first
                              | (have q1 : rkT K = 102 := e18.symm.trans h116
                                 have q2 : K = 40 := (v2 q1).symm.trans h125
                                 rw [if_pos q2])
                              | (have g40 : ¬ K = 40 := by
                                   first
                                     | exact (n2 (fun q => h116 (e18.trans q))).2.1
                                     | (have q1 : rkT K = 102 := e18.symm.trans h116
                                        exact fun q => h125 (by rw [v2 q1]; exact q))
                                 rw [if_neg g40])))
            · refine ev_bipush (v := 9) dX12_ahead_105 (by decide) ?_
              refine ev_goto (tgt := 134) dX12_ahead_107 (by decide) ?_
              have g2 : ¬ K = 2 := fun q => h6 (e18.trans ((kd100 K hK).mpr q))
              have g10 : ¬ (10 ≤ K ∧ K ≤ 15) := by
                first
                  | exact (n1 (fun q => h15 (e18.trans q))).1
                  | (have q1 : rkT K = 101 := e18.symm.trans h15
                     have h24' := h24
                     rw [v1 q1] at h24'
                     exact fun q => absurd ((k1 q1).1.mpr q.1) (Int32.not_lt.mpr h24'))
              refine l_ahead134 hM hL hP h160 g2 g10 ?_
              first
                | (have q1 : rkT K = 101 := e18.symm.trans h63
                   have q3 : mayB P.1 = true := b2i_ne h79
                   have q2 : K = 8 := (k1 q1).2.1.mp ((v1 q1).symm.trans h72)
                   rw [ahD, if_pos ⟨q2, q3⟩])
                | (have g8 : ¬ (K = 8 ∧ mayB P.1 = true) := by
                     first
                       | exact fun q => (n1 (fun q2 => h63 (e18.trans q2))).2.2.2.1 q.1
                       | (have q1 : rkT K = 101 := e18.symm.trans h63
                          exact fun q => h72 (by rw [v1 q1]; exact (k1 q1).2.1.mpr q.1))
                       | exact fun q => b2i_eq h79 q.2
                   rw [ahD, if_neg g8]
                   first
                     | (have q1 : rkT K = 102 := e18.symm.trans h93
                        have q2 : K = 45 := (v2 q1).symm.trans h102
                        rw [if_pos q2])
                     | (have g45 : ¬ K = 45 := by
                          first
                            | exact (n2 (fun q => h93 (e18.trans q))).1
                            | (have q1 : rkT K = 102 := e18.symm.trans h93
                               exact fun q => h102 (by rw [v2 q1]; exact q))
                        rw [if_neg g45]
                        first
                          | (have q1 : rkT K = 102 := e18.symm.trans h116
                             have q2 : K = 40 := (v2 q1).symm.trans h125
                             rw [if_pos q2])
                          | (have g40 : ¬ K = 40 := by
                               first
                                 | exact (n2 (fun q => h116 (e18.trans q))).2.1
                                 | (have q1 : rkT K = 102 := e18.symm.trans h116
                                    exact fun q => h125 (by rw [v2 q1]; exact q))
                             rw [if_neg g40])))
        · refine ev_aload_n dX12_ahead_75 rfl ?_
          refine k_v (c_mayNot hM hL hP (by omega)) (by decide) dX12_ahead_76 cbX12_mayNot (mt5 153 rfl rfl) (mt5 155 rfl rfl) (ms0 50 rfl rfl) (ci := 12) rfl hM.1 rfl rfl (Nat.le_of_ble_eq_true rfl) (fun v μ1 hq => ?_)
          obtain ⟨rfl, hμ⟩ := hq
          have hμ := hμ.symm
          subst hμ
          simp only [Option.toList, List.cons_append, List.nil_append]
          refine ev_if_eq (tgt := 87) dX12_ahead_79 (by decide) (fun h79 => ?_) (fun h79 => ?_)
          · refine ev_aload_n dX12_ahead_87 rfl ?_
            refine ev_get dX12_ahead_88 flX12_109_12 hM.1 rfl ?_
            refine ev_bipush (v := 102) dX12_ahead_91 (by decide) ?_
            refine ev_icmp_ne (tgt := 110) dX12_ahead_93 (by decide) (fun h93 => ?_) (fun h93 => ?_)
            · refine ev_aload_n dX12_ahead_110 rfl ?_
              refine ev_get dX12_ahead_111 flX12_109_12 hM.1 rfl ?_
              refine ev_bipush (v := 102) dX12_ahead_114 (by decide) ?_
              refine ev_icmp_ne (tgt := 133) dX12_ahead_116 (by decide) (fun h116 => ?_) (fun h116 => ?_)
              · refine ev_iconst (v := 0) dX12_ahead_133 (by decide) ?_
                have g2 : ¬ K = 2 := fun q => h6 (e18.trans ((kd100 K hK).mpr q))
                have g10 : ¬ (10 ≤ K ∧ K ≤ 15) := by
                  first
                    | exact (n1 (fun q => h15 (e18.trans q))).1
                    | (have q1 : rkT K = 101 := e18.symm.trans h15
                       have h24' := h24
                       rw [v1 q1] at h24'
                       exact fun q => absurd ((k1 q1).1.mpr q.1) (Int32.not_lt.mpr h24'))
                refine l_ahead134 hM hL hP h160 g2 g10 ?_
                first
                  | (have q1 : rkT K = 101 := e18.symm.trans h63
                     have q3 : mayB P.1 = true := b2i_ne h79
                     have q2 : K = 8 := (k1 q1).2.1.mp ((v1 q1).symm.trans h72)
                     rw [ahD, if_pos ⟨q2, q3⟩])
                  | (have g8 : ¬ (K = 8 ∧ mayB P.1 = true) := by
                       first
                         | exact fun q => (n1 (fun q2 => h63 (e18.trans q2))).2.2.2.1 q.1
                         | (have q1 : rkT K = 101 := e18.symm.trans h63
                            exact fun q => h72 (by rw [v1 q1]; exact (k1 q1).2.1.mpr q.1))
                         | exact fun q => b2i_eq h79 q.2
                     rw [ahD, if_neg g8]
                     first
                       | (have q1 : rkT K = 102 := e18.symm.trans h93
                          have q2 : K = 45 := (v2 q1).symm.trans h102
                          rw [if_pos q2])
                       | (have g45 : ¬ K = 45 := by
                            first
                              | exact (n2 (fun q => h93 (e18.trans q))).1
                              | (have q1 : rkT K = 102 := e18.symm.trans h93
                                 exact fun q => h102 (by rw [v2 q1]; exact q))
                          rw [if_neg g45]
                          first
                            | (have q1 : rkT K = 102 := e18.symm.trans h116
                               have q2 : K = 40 := (v2 q1).symm.trans h125
                               rw [if_pos q2])
                            | (have g40 : ¬ K = 40 := by
                                 first
                                   | exact (n2 (fun q => h116 (e18.trans q))).2.1
                                   | (have q1 : rkT K = 102 := e18.symm.trans h116
                                      exact fun q => h125 (by rw [v2 q1]; exact q))
                               rw [if_neg g40])))
              · refine ev_aload_n dX12_ahead_119 rfl ?_
                refine ev_get dX12_ahead_120 flX12_112_12 hM.1 rfl ?_
                refine ev_bipush (v := 40) dX12_ahead_123 (by decide) ?_
                refine ev_icmp_ne (tgt := 133) dX12_ahead_125 (by decide) (fun h125 => ?_) (fun h125 => ?_)
                · refine ev_iconst (v := 0) dX12_ahead_133 (by decide) ?_
                  have g2 : ¬ K = 2 := fun q => h6 (e18.trans ((kd100 K hK).mpr q))
                  have g10 : ¬ (10 ≤ K ∧ K ≤ 15) := by
                    first
                      | exact (n1 (fun q => h15 (e18.trans q))).1
                      | (have q1 : rkT K = 101 := e18.symm.trans h15
                         have h24' := h24
                         rw [v1 q1] at h24'
                         exact fun q => absurd ((k1 q1).1.mpr q.1) (Int32.not_lt.mpr h24'))
                  refine l_ahead134 hM hL hP h160 g2 g10 ?_
                  first
                    | (have q1 : rkT K = 101 := e18.symm.trans h63
                       have q3 : mayB P.1 = true := b2i_ne h79
                       have q2 : K = 8 := (k1 q1).2.1.mp ((v1 q1).symm.trans h72)
                       rw [ahD, if_pos ⟨q2, q3⟩])
                    | (have g8 : ¬ (K = 8 ∧ mayB P.1 = true) := by
                         first
                           | exact fun q => (n1 (fun q2 => h63 (e18.trans q2))).2.2.2.1 q.1
                           | (have q1 : rkT K = 101 := e18.symm.trans h63
                              exact fun q => h72 (by rw [v1 q1]; exact (k1 q1).2.1.mpr q.1))
                           | exact fun q => b2i_eq h79 q.2
                       rw [ahD, if_neg g8]
                       first
                         | (have q1 : rkT K = 102 := e18.symm.trans h93
                            have q2 : K = 45 := (v2 q1).symm.trans h102
                            rw [if_pos q2])
                         | (have g45 : ¬ K = 45 := by
                              first
                                | exact (n2 (fun q => h93 (e18.trans q))).1
                                | (have q1 : rkT K = 102 := e18.symm.trans h93
                                   exact fun q => h102 (by rw [v2 q1]; exact q))
                            rw [if_neg g45]
                            first
                              | (have q1 : rkT K = 102 := e18.symm.trans h116
                                 have q2 : K = 40 := (v2 q1).symm.trans h125
                                 rw [if_pos q2])
                              | (have g40 : ¬ K = 40 := by
                                   first
                                     | exact (n2 (fun q => h116 (e18.trans q))).2.1
                                     | (have q1 : rkT K = 102 := e18.symm.trans h116
                                        exact fun q => h125 (by rw [v2 q1]; exact q))
                                 rw [if_neg g40])))
                · refine ev_bipush (v := 10) dX12_ahead_128 (by decide) ?_
                  refine ev_goto (tgt := 134) dX12_ahead_130 (by decide) ?_
                  have g2 : ¬ K = 2 := fun q => h6 (e18.trans ((kd100 K hK).mpr q))
                  have g10 : ¬ (10 ≤ K ∧ K ≤ 15) := by
                    first
                      | exact (n1 (fun q => h15 (e18.trans q))).1
                      | (have q1 : rkT K = 101 := e18.symm.trans h15
                         have h24' := h24
                         rw [v1 q1] at h24'
                         exact fun q => absurd ((k1 q1).1.mpr q.1) (Int32.not_lt.mpr h24'))
                  refine l_ahead134 hM hL hP h160 g2 g10 ?_
                  first
                    | (have q1 : rkT K = 101 := e18.symm.trans h63
                       have q3 : mayB P.1 = true := b2i_ne h79
                       have q2 : K = 8 := (k1 q1).2.1.mp ((v1 q1).symm.trans h72)
                       rw [ahD, if_pos ⟨q2, q3⟩])
                    | (have g8 : ¬ (K = 8 ∧ mayB P.1 = true) := by
                         first
                           | exact fun q => (n1 (fun q2 => h63 (e18.trans q2))).2.2.2.1 q.1
                           | (have q1 : rkT K = 101 := e18.symm.trans h63
                              exact fun q => h72 (by rw [v1 q1]; exact (k1 q1).2.1.mpr q.1))
                           | exact fun q => b2i_eq h79 q.2
                       rw [ahD, if_neg g8]
                       first
                         | (have q1 : rkT K = 102 := e18.symm.trans h93
                            have q2 : K = 45 := (v2 q1).symm.trans h102
                            rw [if_pos q2])
                         | (have g45 : ¬ K = 45 := by
                              first
                                | exact (n2 (fun q => h93 (e18.trans q))).1
                                | (have q1 : rkT K = 102 := e18.symm.trans h93
                                   exact fun q => h102 (by rw [v2 q1]; exact q))
                            rw [if_neg g45]
                            first
                              | (have q1 : rkT K = 102 := e18.symm.trans h116
                                 have q2 : K = 40 := (v2 q1).symm.trans h125
                                 rw [if_pos q2])
                              | (have g40 : ¬ K = 40 := by
                                   first
                                     | exact (n2 (fun q => h116 (e18.trans q))).2.1
                                     | (have q1 : rkT K = 102 := e18.symm.trans h116
                                        exact fun q => h125 (by rw [v2 q1]; exact q))
                                 rw [if_neg g40])))
            · refine ev_aload_n dX12_ahead_96 rfl ?_
              refine ev_get dX12_ahead_97 flX12_112_12 hM.1 rfl ?_
              refine ev_bipush (v := 45) dX12_ahead_100 (by decide) ?_
              refine ev_icmp_ne (tgt := 110) dX12_ahead_102 (by decide) (fun h102 => ?_) (fun h102 => ?_)
              · refine ev_aload_n dX12_ahead_110 rfl ?_
                refine ev_get dX12_ahead_111 flX12_109_12 hM.1 rfl ?_
                refine ev_bipush (v := 102) dX12_ahead_114 (by decide) ?_
                refine ev_icmp_ne (tgt := 133) dX12_ahead_116 (by decide) (fun h116 => ?_) (fun h116 => ?_)
                · refine ev_iconst (v := 0) dX12_ahead_133 (by decide) ?_
                  have g2 : ¬ K = 2 := fun q => h6 (e18.trans ((kd100 K hK).mpr q))
                  have g10 : ¬ (10 ≤ K ∧ K ≤ 15) := by
                    first
                      | exact (n1 (fun q => h15 (e18.trans q))).1
                      | (have q1 : rkT K = 101 := e18.symm.trans h15
                         have h24' := h24
                         rw [v1 q1] at h24'
                         exact fun q => absurd ((k1 q1).1.mpr q.1) (Int32.not_lt.mpr h24'))
                  refine l_ahead134 hM hL hP h160 g2 g10 ?_
                  first
                    | (have q1 : rkT K = 101 := e18.symm.trans h63
                       have q3 : mayB P.1 = true := b2i_ne h79
                       have q2 : K = 8 := (k1 q1).2.1.mp ((v1 q1).symm.trans h72)
                       rw [ahD, if_pos ⟨q2, q3⟩])
                    | (have g8 : ¬ (K = 8 ∧ mayB P.1 = true) := by
                         first
                           | exact fun q => (n1 (fun q2 => h63 (e18.trans q2))).2.2.2.1 q.1
                           | (have q1 : rkT K = 101 := e18.symm.trans h63
                              exact fun q => h72 (by rw [v1 q1]; exact (k1 q1).2.1.mpr q.1))
                           | exact fun q => b2i_eq h79 q.2
                       rw [ahD, if_neg g8]
                       first
                         | (have q1 : rkT K = 102 := e18.symm.trans h93
                            have q2 : K = 45 := (v2 q1).symm.trans h102
                            rw [if_pos q2])
                         | (have g45 : ¬ K = 45 := by
                              first
                                | exact (n2 (fun q => h93 (e18.trans q))).1
                                | (have q1 : rkT K = 102 := e18.symm.trans h93
                                   exact fun q => h102 (by rw [v2 q1]; exact q))
                            rw [if_neg g45]
                            first
                              | (have q1 : rkT K = 102 := e18.symm.trans h116
                                 have q2 : K = 40 := (v2 q1).symm.trans h125
                                 rw [if_pos q2])
                              | (have g40 : ¬ K = 40 := by
                                   first
                                     | exact (n2 (fun q => h116 (e18.trans q))).2.1
                                     | (have q1 : rkT K = 102 := e18.symm.trans h116
                                        exact fun q => h125 (by rw [v2 q1]; exact q))
                                 rw [if_neg g40])))
                · refine ev_aload_n dX12_ahead_119 rfl ?_
                  refine ev_get dX12_ahead_120 flX12_112_12 hM.1 rfl ?_
                  refine ev_bipush (v := 40) dX12_ahead_123 (by decide) ?_
                  refine ev_icmp_ne (tgt := 133) dX12_ahead_125 (by decide) (fun h125 => ?_) (fun h125 => ?_)
                  · refine ev_iconst (v := 0) dX12_ahead_133 (by decide) ?_
                    have g2 : ¬ K = 2 := fun q => h6 (e18.trans ((kd100 K hK).mpr q))
                    have g10 : ¬ (10 ≤ K ∧ K ≤ 15) := by
                      first
                        | exact (n1 (fun q => h15 (e18.trans q))).1
                        | (have q1 : rkT K = 101 := e18.symm.trans h15
                           have h24' := h24
                           rw [v1 q1] at h24'
                           exact fun q => absurd ((k1 q1).1.mpr q.1) (Int32.not_lt.mpr h24'))
                    refine l_ahead134 hM hL hP h160 g2 g10 ?_
                    first
                      | (have q1 : rkT K = 101 := e18.symm.trans h63
                         have q3 : mayB P.1 = true := b2i_ne h79
                         have q2 : K = 8 := (k1 q1).2.1.mp ((v1 q1).symm.trans h72)
                         rw [ahD, if_pos ⟨q2, q3⟩])
                      | (have g8 : ¬ (K = 8 ∧ mayB P.1 = true) := by
                           first
                             | exact fun q => (n1 (fun q2 => h63 (e18.trans q2))).2.2.2.1 q.1
                             | (have q1 : rkT K = 101 := e18.symm.trans h63
                                exact fun q => h72 (by rw [v1 q1]; exact (k1 q1).2.1.mpr q.1))
                             | exact fun q => b2i_eq h79 q.2
                         rw [ahD, if_neg g8]
                         first
                           | (have q1 : rkT K = 102 := e18.symm.trans h93
                              have q2 : K = 45 := (v2 q1).symm.trans h102
                              rw [if_pos q2])
                           | (have g45 : ¬ K = 45 := by
                                first
                                  | exact (n2 (fun q => h93 (e18.trans q))).1
                                  | (have q1 : rkT K = 102 := e18.symm.trans h93
                                     exact fun q => h102 (by rw [v2 q1]; exact q))
                              rw [if_neg g45]
                              first
                                | (have q1 : rkT K = 102 := e18.symm.trans h116
                                   have q2 : K = 40 := (v2 q1).symm.trans h125
                                   rw [if_pos q2])
                                | (have g40 : ¬ K = 40 := by
                                     first
                                       | exact (n2 (fun q => h116 (e18.trans q))).2.1
                                       | (have q1 : rkT K = 102 := e18.symm.trans h116
                                          exact fun q => h125 (by rw [v2 q1]; exact q))
                                   rw [if_neg g40])))
                  · refine ev_bipush (v := 10) dX12_ahead_128 (by decide) ?_
                    refine ev_goto (tgt := 134) dX12_ahead_130 (by decide) ?_
                    have g2 : ¬ K = 2 := fun q => h6 (e18.trans ((kd100 K hK).mpr q))
                    have g10 : ¬ (10 ≤ K ∧ K ≤ 15) := by
                      first
                        | exact (n1 (fun q => h15 (e18.trans q))).1
                        | (have q1 : rkT K = 101 := e18.symm.trans h15
                           have h24' := h24
                           rw [v1 q1] at h24'
                           exact fun q => absurd ((k1 q1).1.mpr q.1) (Int32.not_lt.mpr h24'))
                    refine l_ahead134 hM hL hP h160 g2 g10 ?_
                    first
                      | (have q1 : rkT K = 101 := e18.symm.trans h63
                         have q3 : mayB P.1 = true := b2i_ne h79
                         have q2 : K = 8 := (k1 q1).2.1.mp ((v1 q1).symm.trans h72)
                         rw [ahD, if_pos ⟨q2, q3⟩])
                      | (have g8 : ¬ (K = 8 ∧ mayB P.1 = true) := by
                           first
                             | exact fun q => (n1 (fun q2 => h63 (e18.trans q2))).2.2.2.1 q.1
                             | (have q1 : rkT K = 101 := e18.symm.trans h63
                                exact fun q => h72 (by rw [v1 q1]; exact (k1 q1).2.1.mpr q.1))
                             | exact fun q => b2i_eq h79 q.2
                         rw [ahD, if_neg g8]
                         first
                           | (have q1 : rkT K = 102 := e18.symm.trans h93
                              have q2 : K = 45 := (v2 q1).symm.trans h102
                              rw [if_pos q2])
                           | (have g45 : ¬ K = 45 := by
                                first
                                  | exact (n2 (fun q => h93 (e18.trans q))).1
                                  | (have q1 : rkT K = 102 := e18.symm.trans h93
                                     exact fun q => h102 (by rw [v2 q1]; exact q))
                              rw [if_neg g45]
                              first
                                | (have q1 : rkT K = 102 := e18.symm.trans h116
                                   have q2 : K = 40 := (v2 q1).symm.trans h125
                                   rw [if_pos q2])
                                | (have g40 : ¬ K = 40 := by
                                     first
                                       | exact (n2 (fun q => h116 (e18.trans q))).2.1
                                       | (have q1 : rkT K = 102 := e18.symm.trans h116
                                          exact fun q => h125 (by rw [v2 q1]; exact q))
                                   rw [if_neg g40])))
              · refine ev_bipush (v := 9) dX12_ahead_105 (by decide) ?_
                refine ev_goto (tgt := 134) dX12_ahead_107 (by decide) ?_
                have g2 : ¬ K = 2 := fun q => h6 (e18.trans ((kd100 K hK).mpr q))
                have g10 : ¬ (10 ≤ K ∧ K ≤ 15) := by
                  first
                    | exact (n1 (fun q => h15 (e18.trans q))).1
                    | (have q1 : rkT K = 101 := e18.symm.trans h15
                       have h24' := h24
                       rw [v1 q1] at h24'
                       exact fun q => absurd ((k1 q1).1.mpr q.1) (Int32.not_lt.mpr h24'))
                refine l_ahead134 hM hL hP h160 g2 g10 ?_
                first
                  | (have q1 : rkT K = 101 := e18.symm.trans h63
                     have q3 : mayB P.1 = true := b2i_ne h79
                     have q2 : K = 8 := (k1 q1).2.1.mp ((v1 q1).symm.trans h72)
                     rw [ahD, if_pos ⟨q2, q3⟩])
                  | (have g8 : ¬ (K = 8 ∧ mayB P.1 = true) := by
                       first
                         | exact fun q => (n1 (fun q2 => h63 (e18.trans q2))).2.2.2.1 q.1
                         | (have q1 : rkT K = 101 := e18.symm.trans h63
                            exact fun q => h72 (by rw [v1 q1]; exact (k1 q1).2.1.mpr q.1))
                         | exact fun q => b2i_eq h79 q.2
                     rw [ahD, if_neg g8]
                     first
                       | (have q1 : rkT K = 102 := e18.symm.trans h93
                          have q2 : K = 45 := (v2 q1).symm.trans h102
                          rw [if_pos q2])
                       | (have g45 : ¬ K = 45 := by
                            first
                              | exact (n2 (fun q => h93 (e18.trans q))).1
                              | (have q1 : rkT K = 102 := e18.symm.trans h93
                                 exact fun q => h102 (by rw [v2 q1]; exact q))
                          rw [if_neg g45]
                          first
                            | (have q1 : rkT K = 102 := e18.symm.trans h116
                               have q2 : K = 40 := (v2 q1).symm.trans h125
                               rw [if_pos q2])
                            | (have g40 : ¬ K = 40 := by
                                 first
                                   | exact (n2 (fun q => h116 (e18.trans q))).2.1
                                   | (have q1 : rkT K = 102 := e18.symm.trans h116
                                      exact fun q => h125 (by rw [v2 q1]; exact q))
                               rw [if_neg g40])))
          · refine ev_bipush (v := 8) dX12_ahead_82 (by decide) ?_
            refine ev_goto (tgt := 134) dX12_ahead_84 (by decide) ?_
            have g2 : ¬ K = 2 := fun q => h6 (e18.trans ((kd100 K hK).mpr q))
            have g10 : ¬ (10 ≤ K ∧ K ≤ 15) := by
              first
                | exact (n1 (fun q => h15 (e18.trans q))).1
                | (have q1 : rkT K = 101 := e18.symm.trans h15
                   have h24' := h24
                   rw [v1 q1] at h24'
                   exact fun q => absurd ((k1 q1).1.mpr q.1) (Int32.not_lt.mpr h24'))
            refine l_ahead134 hM hL hP h160 g2 g10 ?_
            first
              | (have q1 : rkT K = 101 := e18.symm.trans h63
                 have q3 : mayB P.1 = true := b2i_ne h79
                 have q2 : K = 8 := (k1 q1).2.1.mp ((v1 q1).symm.trans h72)
                 rw [ahD, if_pos ⟨q2, q3⟩])
              | (have g8 : ¬ (K = 8 ∧ mayB P.1 = true) := by
                   first
                     | exact fun q => (n1 (fun q2 => h63 (e18.trans q2))).2.2.2.1 q.1
                     | (have q1 : rkT K = 101 := e18.symm.trans h63
                        exact fun q => h72 (by rw [v1 q1]; exact (k1 q1).2.1.mpr q.1))
                     | exact fun q => b2i_eq h79 q.2
                 rw [ahD, if_neg g8]
                 first
                   | (have q1 : rkT K = 102 := e18.symm.trans h93
                      have q2 : K = 45 := (v2 q1).symm.trans h102
                      rw [if_pos q2])
                   | (have g45 : ¬ K = 45 := by
                        first
                          | exact (n2 (fun q => h93 (e18.trans q))).1
                          | (have q1 : rkT K = 102 := e18.symm.trans h93
                             exact fun q => h102 (by rw [v2 q1]; exact q))
                      rw [if_neg g45]
                      first
                        | (have q1 : rkT K = 102 := e18.symm.trans h116
                           have q2 : K = 40 := (v2 q1).symm.trans h125
                           rw [if_pos q2])
                        | (have g40 : ¬ K = 40 := by
                             first
                               | exact (n2 (fun q => h116 (e18.trans q))).2.1
                               | (have q1 : rkT K = 102 := e18.symm.trans h116
                                  exact fun q => h125 (by rw [v2 q1]; exact q))
                           rw [if_neg g40])))
    · refine ev_aload_n dX12_ahead_18 rfl ?_
      refine ev_get dX12_ahead_19 flX12_112_12 hM.1 rfl ?_
      refine ev_bipush (v := 6) dX12_ahead_22 (by decide) ?_
      refine ev_icmp_ge (tgt := 57) dX12_ahead_24 (by decide) (fun h24 => ?_) (fun h24 => ?_)
      · refine ev_aload_n dX12_ahead_57 rfl ?_
        refine ev_get dX12_ahead_58 flX12_109_12 hM.1 rfl ?_
        refine ev_bipush (v := 101) dX12_ahead_61 (by decide) ?_
        refine ev_icmp_ne (tgt := 87) dX12_ahead_63 (by decide) (fun h63 => ?_) (fun h63 => ?_)
        · refine ev_aload_n dX12_ahead_87 rfl ?_
          refine ev_get dX12_ahead_88 flX12_109_12 hM.1 rfl ?_
          refine ev_bipush (v := 102) dX12_ahead_91 (by decide) ?_
          refine ev_icmp_ne (tgt := 110) dX12_ahead_93 (by decide) (fun h93 => ?_) (fun h93 => ?_)
          · refine ev_aload_n dX12_ahead_110 rfl ?_
            refine ev_get dX12_ahead_111 flX12_109_12 hM.1 rfl ?_
            refine ev_bipush (v := 102) dX12_ahead_114 (by decide) ?_
            refine ev_icmp_ne (tgt := 133) dX12_ahead_116 (by decide) (fun h116 => ?_) (fun h116 => ?_)
            · refine ev_iconst (v := 0) dX12_ahead_133 (by decide) ?_
              have g2 : ¬ K = 2 := fun q => h6 (e18.trans ((kd100 K hK).mpr q))
              have g10 : ¬ (10 ≤ K ∧ K ≤ 15) := by
                first
                  | exact (n1 (fun q => h15 (e18.trans q))).1
                  | (have q1 : rkT K = 101 := e18.symm.trans h15
                     have h24' := h24
                     rw [v1 q1] at h24'
                     exact fun q => absurd ((k1 q1).1.mpr q.1) (Int32.not_lt.mpr h24'))
              refine l_ahead134 hM hL hP h160 g2 g10 ?_
              first
                | (have q1 : rkT K = 101 := e18.symm.trans h63
                   have q3 : mayB P.1 = true := b2i_ne h79
                   have q2 : K = 8 := (k1 q1).2.1.mp ((v1 q1).symm.trans h72)
                   rw [ahD, if_pos ⟨q2, q3⟩])
                | (have g8 : ¬ (K = 8 ∧ mayB P.1 = true) := by
                     first
                       | exact fun q => (n1 (fun q2 => h63 (e18.trans q2))).2.2.2.1 q.1
                       | (have q1 : rkT K = 101 := e18.symm.trans h63
                          exact fun q => h72 (by rw [v1 q1]; exact (k1 q1).2.1.mpr q.1))
                       | exact fun q => b2i_eq h79 q.2
                   rw [ahD, if_neg g8]
                   first
                     | (have q1 : rkT K = 102 := e18.symm.trans h93
                        have q2 : K = 45 := (v2 q1).symm.trans h102
                        rw [if_pos q2])
                     | (have g45 : ¬ K = 45 := by
                          first
                            | exact (n2 (fun q => h93 (e18.trans q))).1
                            | (have q1 : rkT K = 102 := e18.symm.trans h93
                               exact fun q => h102 (by rw [v2 q1]; exact q))
                        rw [if_neg g45]
                        first
                          | (have q1 : rkT K = 102 := e18.symm.trans h116
                             have q2 : K = 40 := (v2 q1).symm.trans h125
                             rw [if_pos q2])
                          | (have g40 : ¬ K = 40 := by
                               first
                                 | exact (n2 (fun q => h116 (e18.trans q))).2.1
                                 | (have q1 : rkT K = 102 := e18.symm.trans h116
                                    exact fun q => h125 (by rw [v2 q1]; exact q))
                             rw [if_neg g40])))
            · refine ev_aload_n dX12_ahead_119 rfl ?_
              refine ev_get dX12_ahead_120 flX12_112_12 hM.1 rfl ?_
              refine ev_bipush (v := 40) dX12_ahead_123 (by decide) ?_
              refine ev_icmp_ne (tgt := 133) dX12_ahead_125 (by decide) (fun h125 => ?_) (fun h125 => ?_)
              · refine ev_iconst (v := 0) dX12_ahead_133 (by decide) ?_
                have g2 : ¬ K = 2 := fun q => h6 (e18.trans ((kd100 K hK).mpr q))
                have g10 : ¬ (10 ≤ K ∧ K ≤ 15) := by
                  first
                    | exact (n1 (fun q => h15 (e18.trans q))).1
                    | (have q1 : rkT K = 101 := e18.symm.trans h15
                       have h24' := h24
                       rw [v1 q1] at h24'
                       exact fun q => absurd ((k1 q1).1.mpr q.1) (Int32.not_lt.mpr h24'))
                refine l_ahead134 hM hL hP h160 g2 g10 ?_
                first
                  | (have q1 : rkT K = 101 := e18.symm.trans h63
                     have q3 : mayB P.1 = true := b2i_ne h79
                     have q2 : K = 8 := (k1 q1).2.1.mp ((v1 q1).symm.trans h72)
                     rw [ahD, if_pos ⟨q2, q3⟩])
                  | (have g8 : ¬ (K = 8 ∧ mayB P.1 = true) := by
                       first
                         | exact fun q => (n1 (fun q2 => h63 (e18.trans q2))).2.2.2.1 q.1
                         | (have q1 : rkT K = 101 := e18.symm.trans h63
                            exact fun q => h72 (by rw [v1 q1]; exact (k1 q1).2.1.mpr q.1))
                         | exact fun q => b2i_eq h79 q.2
                     rw [ahD, if_neg g8]
                     first
                       | (have q1 : rkT K = 102 := e18.symm.trans h93
                          have q2 : K = 45 := (v2 q1).symm.trans h102
                          rw [if_pos q2])
                       | (have g45 : ¬ K = 45 := by
                            first
                              | exact (n2 (fun q => h93 (e18.trans q))).1
                              | (have q1 : rkT K = 102 := e18.symm.trans h93
                                 exact fun q => h102 (by rw [v2 q1]; exact q))
                          rw [if_neg g45]
                          first
                            | (have q1 : rkT K = 102 := e18.symm.trans h116
                               have q2 : K = 40 := (v2 q1).symm.trans h125
                               rw [if_pos q2])
                            | (have g40 : ¬ K = 40 := by
                                 first
                                   | exact (n2 (fun q => h116 (e18.trans q))).2.1
                                   | (have q1 : rkT K = 102 := e18.symm.trans h116
                                      exact fun q => h125 (by rw [v2 q1]; exact q))
                               rw [if_neg g40])))
              · refine ev_bipush (v := 10) dX12_ahead_128 (by decide) ?_
                refine ev_goto (tgt := 134) dX12_ahead_130 (by decide) ?_
                have g2 : ¬ K = 2 := fun q => h6 (e18.trans ((kd100 K hK).mpr q))
                have g10 : ¬ (10 ≤ K ∧ K ≤ 15) := by
                  first
                    | exact (n1 (fun q => h15 (e18.trans q))).1
                    | (have q1 : rkT K = 101 := e18.symm.trans h15
                       have h24' := h24
                       rw [v1 q1] at h24'
                       exact fun q => absurd ((k1 q1).1.mpr q.1) (Int32.not_lt.mpr h24'))
                refine l_ahead134 hM hL hP h160 g2 g10 ?_
                first
                  | (have q1 : rkT K = 101 := e18.symm.trans h63
                     have q3 : mayB P.1 = true := b2i_ne h79
                     have q2 : K = 8 := (k1 q1).2.1.mp ((v1 q1).symm.trans h72)
                     rw [ahD, if_pos ⟨q2, q3⟩])
                  | (have g8 : ¬ (K = 8 ∧ mayB P.1 = true) := by
                       first
                         | exact fun q => (n1 (fun q2 => h63 (e18.trans q2))).2.2.2.1 q.1
                         | (have q1 : rkT K = 101 := e18.symm.trans h63
                            exact fun q => h72 (by rw [v1 q1]; exact (k1 q1).2.1.mpr q.1))
                         | exact fun q => b2i_eq h79 q.2
                     rw [ahD, if_neg g8]
                     first
                       | (have q1 : rkT K = 102 := e18.symm.trans h93
                          have q2 : K = 45 := (v2 q1).symm.trans h102
                          rw [if_pos q2])
                       | (have g45 : ¬ K = 45 := by
                            first
                              | exact (n2 (fun q => h93 (e18.trans q))).1
                              | (have q1 : rkT K = 102 := e18.symm.trans h93
                                 exact fun q => h102 (by rw [v2 q1]; exact q))
                          rw [if_neg g45]
                          first
                            | (have q1 : rkT K = 102 := e18.symm.trans h116
                               have q2 : K = 40 := (v2 q1).symm.trans h125
                               rw [if_pos q2])
                            | (have g40 : ¬ K = 40 := by
                                 first
                                   | exact (n2 (fun q => h116 (e18.trans q))).2.1
                                   | (have q1 : rkT K = 102 := e18.symm.trans h116
                                      exact fun q => h125 (by rw [v2 q1]; exact q))
                               rw [if_neg g40])))
          · refine ev_aload_n dX12_ahead_96 rfl ?_
            refine ev_get dX12_ahead_97 flX12_112_12 hM.1 rfl ?_
            refine ev_bipush (v := 45) dX12_ahead_100 (by decide) ?_
            refine ev_icmp_ne (tgt := 110) dX12_ahead_102 (by decide) (fun h102 => ?_) (fun h102 => ?_)
            · refine ev_aload_n dX12_ahead_110 rfl ?_
              refine ev_get dX12_ahead_111 flX12_109_12 hM.1 rfl ?_
              refine ev_bipush (v := 102) dX12_ahead_114 (by decide) ?_
              refine ev_icmp_ne (tgt := 133) dX12_ahead_116 (by decide) (fun h116 => ?_) (fun h116 => ?_)
              · refine ev_iconst (v := 0) dX12_ahead_133 (by decide) ?_
                have g2 : ¬ K = 2 := fun q => h6 (e18.trans ((kd100 K hK).mpr q))
                have g10 : ¬ (10 ≤ K ∧ K ≤ 15) := by
                  first
                    | exact (n1 (fun q => h15 (e18.trans q))).1
                    | (have q1 : rkT K = 101 := e18.symm.trans h15
                       have h24' := h24
                       rw [v1 q1] at h24'
                       exact fun q => absurd ((k1 q1).1.mpr q.1) (Int32.not_lt.mpr h24'))
                refine l_ahead134 hM hL hP h160 g2 g10 ?_
                first
                  | (have q1 : rkT K = 101 := e18.symm.trans h63
                     have q3 : mayB P.1 = true := b2i_ne h79
                     have q2 : K = 8 := (k1 q1).2.1.mp ((v1 q1).symm.trans h72)
                     rw [ahD, if_pos ⟨q2, q3⟩])
                  | (have g8 : ¬ (K = 8 ∧ mayB P.1 = true) := by
                       first
                         | exact fun q => (n1 (fun q2 => h63 (e18.trans q2))).2.2.2.1 q.1
                         | (have q1 : rkT K = 101 := e18.symm.trans h63
                            exact fun q => h72 (by rw [v1 q1]; exact (k1 q1).2.1.mpr q.1))
                         | exact fun q => b2i_eq h79 q.2
                     rw [ahD, if_neg g8]
                     first
                       | (have q1 : rkT K = 102 := e18.symm.trans h93
                          have q2 : K = 45 := (v2 q1).symm.trans h102
                          rw [if_pos q2])
                       | (have g45 : ¬ K = 45 := by
                            first
                              | exact (n2 (fun q => h93 (e18.trans q))).1
                              | (have q1 : rkT K = 102 := e18.symm.trans h93
                                 exact fun q => h102 (by rw [v2 q1]; exact q))
                          rw [if_neg g45]
                          first
                            | (have q1 : rkT K = 102 := e18.symm.trans h116
                               have q2 : K = 40 := (v2 q1).symm.trans h125
                               rw [if_pos q2])
                            | (have g40 : ¬ K = 40 := by
                                 first
                                   | exact (n2 (fun q => h116 (e18.trans q))).2.1
                                   | (have q1 : rkT K = 102 := e18.symm.trans h116
                                      exact fun q => h125 (by rw [v2 q1]; exact q))
                               rw [if_neg g40])))
              · refine ev_aload_n dX12_ahead_119 rfl ?_
                refine ev_get dX12_ahead_120 flX12_112_12 hM.1 rfl ?_
                refine ev_bipush (v := 40) dX12_ahead_123 (by decide) ?_
                refine ev_icmp_ne (tgt := 133) dX12_ahead_125 (by decide) (fun h125 => ?_) (fun h125 => ?_)
                · refine ev_iconst (v := 0) dX12_ahead_133 (by decide) ?_
                  have g2 : ¬ K = 2 := fun q => h6 (e18.trans ((kd100 K hK).mpr q))
                  have g10 : ¬ (10 ≤ K ∧ K ≤ 15) := by
                    first
                      | exact (n1 (fun q => h15 (e18.trans q))).1
                      | (have q1 : rkT K = 101 := e18.symm.trans h15
                         have h24' := h24
                         rw [v1 q1] at h24'
                         exact fun q => absurd ((k1 q1).1.mpr q.1) (Int32.not_lt.mpr h24'))
                  refine l_ahead134 hM hL hP h160 g2 g10 ?_
                  first
                    | (have q1 : rkT K = 101 := e18.symm.trans h63
                       have q3 : mayB P.1 = true := b2i_ne h79
                       have q2 : K = 8 := (k1 q1).2.1.mp ((v1 q1).symm.trans h72)
                       rw [ahD, if_pos ⟨q2, q3⟩])
                    | (have g8 : ¬ (K = 8 ∧ mayB P.1 = true) := by
                         first
                           | exact fun q => (n1 (fun q2 => h63 (e18.trans q2))).2.2.2.1 q.1
                           | (have q1 : rkT K = 101 := e18.symm.trans h63
                              exact fun q => h72 (by rw [v1 q1]; exact (k1 q1).2.1.mpr q.1))
                           | exact fun q => b2i_eq h79 q.2
                       rw [ahD, if_neg g8]
                       first
                         | (have q1 : rkT K = 102 := e18.symm.trans h93
                            have q2 : K = 45 := (v2 q1).symm.trans h102
                            rw [if_pos q2])
                         | (have g45 : ¬ K = 45 := by
                              first
                                | exact (n2 (fun q => h93 (e18.trans q))).1
                                | (have q1 : rkT K = 102 := e18.symm.trans h93
                                   exact fun q => h102 (by rw [v2 q1]; exact q))
                            rw [if_neg g45]
                            first
                              | (have q1 : rkT K = 102 := e18.symm.trans h116
                                 have q2 : K = 40 := (v2 q1).symm.trans h125
                                 rw [if_pos q2])
                              | (have g40 : ¬ K = 40 := by
                                   first
                                     | exact (n2 (fun q => h116 (e18.trans q))).2.1
                                     | (have q1 : rkT K = 102 := e18.symm.trans h116
                                        exact fun q => h125 (by rw [v2 q1]; exact q))
                                 rw [if_neg g40])))
                · refine ev_bipush (v := 10) dX12_ahead_128 (by decide) ?_
                  refine ev_goto (tgt := 134) dX12_ahead_130 (by decide) ?_
                  have g2 : ¬ K = 2 := fun q => h6 (e18.trans ((kd100 K hK).mpr q))
                  have g10 : ¬ (10 ≤ K ∧ K ≤ 15) := by
                    first
                      | exact (n1 (fun q => h15 (e18.trans q))).1
                      | (have q1 : rkT K = 101 := e18.symm.trans h15
                         have h24' := h24
                         rw [v1 q1] at h24'
                         exact fun q => absurd ((k1 q1).1.mpr q.1) (Int32.not_lt.mpr h24'))
                  refine l_ahead134 hM hL hP h160 g2 g10 ?_
                  first
                    | (have q1 : rkT K = 101 := e18.symm.trans h63
                       have q3 : mayB P.1 = true := b2i_ne h79
                       have q2 : K = 8 := (k1 q1).2.1.mp ((v1 q1).symm.trans h72)
                       rw [ahD, if_pos ⟨q2, q3⟩])
                    | (have g8 : ¬ (K = 8 ∧ mayB P.1 = true) := by
                         first
                           | exact fun q => (n1 (fun q2 => h63 (e18.trans q2))).2.2.2.1 q.1
                           | (have q1 : rkT K = 101 := e18.symm.trans h63
                              exact fun q => h72 (by rw [v1 q1]; exact (k1 q1).2.1.mpr q.1))
                           | exact fun q => b2i_eq h79 q.2
                       rw [ahD, if_neg g8]
                       first
                         | (have q1 : rkT K = 102 := e18.symm.trans h93
                            have q2 : K = 45 := (v2 q1).symm.trans h102
                            rw [if_pos q2])
                         | (have g45 : ¬ K = 45 := by
                              first
                                | exact (n2 (fun q => h93 (e18.trans q))).1
                                | (have q1 : rkT K = 102 := e18.symm.trans h93
                                   exact fun q => h102 (by rw [v2 q1]; exact q))
                            rw [if_neg g45]
                            first
                              | (have q1 : rkT K = 102 := e18.symm.trans h116
                                 have q2 : K = 40 := (v2 q1).symm.trans h125
                                 rw [if_pos q2])
                              | (have g40 : ¬ K = 40 := by
                                   first
                                     | exact (n2 (fun q => h116 (e18.trans q))).2.1
                                     | (have q1 : rkT K = 102 := e18.symm.trans h116
                                        exact fun q => h125 (by rw [v2 q1]; exact q))
                                 rw [if_neg g40])))
            · refine ev_bipush (v := 9) dX12_ahead_105 (by decide) ?_
              refine ev_goto (tgt := 134) dX12_ahead_107 (by decide) ?_
              have g2 : ¬ K = 2 := fun q => h6 (e18.trans ((kd100 K hK).mpr q))
              have g10 : ¬ (10 ≤ K ∧ K ≤ 15) := by
                first
                  | exact (n1 (fun q => h15 (e18.trans q))).1
                  | (have q1 : rkT K = 101 := e18.symm.trans h15
                     have h24' := h24
                     rw [v1 q1] at h24'
                     exact fun q => absurd ((k1 q1).1.mpr q.1) (Int32.not_lt.mpr h24'))
              refine l_ahead134 hM hL hP h160 g2 g10 ?_
              first
                | (have q1 : rkT K = 101 := e18.symm.trans h63
                   have q3 : mayB P.1 = true := b2i_ne h79
                   have q2 : K = 8 := (k1 q1).2.1.mp ((v1 q1).symm.trans h72)
                   rw [ahD, if_pos ⟨q2, q3⟩])
                | (have g8 : ¬ (K = 8 ∧ mayB P.1 = true) := by
                     first
                       | exact fun q => (n1 (fun q2 => h63 (e18.trans q2))).2.2.2.1 q.1
                       | (have q1 : rkT K = 101 := e18.symm.trans h63
                          exact fun q => h72 (by rw [v1 q1]; exact (k1 q1).2.1.mpr q.1))
                       | exact fun q => b2i_eq h79 q.2
                   rw [ahD, if_neg g8]
                   first
                     | (have q1 : rkT K = 102 := e18.symm.trans h93
                        have q2 : K = 45 := (v2 q1).symm.trans h102
                        rw [if_pos q2])
                     | (have g45 : ¬ K = 45 := by
                          first
                            | exact (n2 (fun q => h93 (e18.trans q))).1
                            | (have q1 : rkT K = 102 := e18.symm.trans h93
                               exact fun q => h102 (by rw [v2 q1]; exact q))
                        rw [if_neg g45]
                        first
                          | (have q1 : rkT K = 102 := e18.symm.trans h116
                             have q2 : K = 40 := (v2 q1).symm.trans h125
                             rw [if_pos q2])
                          | (have g40 : ¬ K = 40 := by
                               first
                                 | exact (n2 (fun q => h116 (e18.trans q))).2.1
                                 | (have q1 : rkT K = 102 := e18.symm.trans h116
                                    exact fun q => h125 (by rw [v2 q1]; exact q))
                             rw [if_neg g40])))
        · refine ev_aload_n dX12_ahead_66 rfl ?_
          refine ev_get dX12_ahead_67 flX12_112_12 hM.1 rfl ?_
          refine ev_bipush (v := 11) dX12_ahead_70 (by decide) ?_
          refine ev_icmp_ne (tgt := 87) dX12_ahead_72 (by decide) (fun h72 => ?_) (fun h72 => ?_)
          · refine ev_aload_n dX12_ahead_87 rfl ?_
            refine ev_get dX12_ahead_88 flX12_109_12 hM.1 rfl ?_
            refine ev_bipush (v := 102) dX12_ahead_91 (by decide) ?_
            refine ev_icmp_ne (tgt := 110) dX12_ahead_93 (by decide) (fun h93 => ?_) (fun h93 => ?_)
            · refine ev_aload_n dX12_ahead_110 rfl ?_
              refine ev_get dX12_ahead_111 flX12_109_12 hM.1 rfl ?_
              refine ev_bipush (v := 102) dX12_ahead_114 (by decide) ?_
              refine ev_icmp_ne (tgt := 133) dX12_ahead_116 (by decide) (fun h116 => ?_) (fun h116 => ?_)
              · refine ev_iconst (v := 0) dX12_ahead_133 (by decide) ?_
                have g2 : ¬ K = 2 := fun q => h6 (e18.trans ((kd100 K hK).mpr q))
                have g10 : ¬ (10 ≤ K ∧ K ≤ 15) := by
                  first
                    | exact (n1 (fun q => h15 (e18.trans q))).1
                    | (have q1 : rkT K = 101 := e18.symm.trans h15
                       have h24' := h24
                       rw [v1 q1] at h24'
                       exact fun q => absurd ((k1 q1).1.mpr q.1) (Int32.not_lt.mpr h24'))
                refine l_ahead134 hM hL hP h160 g2 g10 ?_
                first
                  | (have q1 : rkT K = 101 := e18.symm.trans h63
                     have q3 : mayB P.1 = true := b2i_ne h79
                     have q2 : K = 8 := (k1 q1).2.1.mp ((v1 q1).symm.trans h72)
                     rw [ahD, if_pos ⟨q2, q3⟩])
                  | (have g8 : ¬ (K = 8 ∧ mayB P.1 = true) := by
                       first
                         | exact fun q => (n1 (fun q2 => h63 (e18.trans q2))).2.2.2.1 q.1
                         | (have q1 : rkT K = 101 := e18.symm.trans h63
                            exact fun q => h72 (by rw [v1 q1]; exact (k1 q1).2.1.mpr q.1))
                         | exact fun q => b2i_eq h79 q.2
                     rw [ahD, if_neg g8]
                     first
                       | (have q1 : rkT K = 102 := e18.symm.trans h93
                          have q2 : K = 45 := (v2 q1).symm.trans h102
                          rw [if_pos q2])
                       | (have g45 : ¬ K = 45 := by
                            first
                              | exact (n2 (fun q => h93 (e18.trans q))).1
                              | (have q1 : rkT K = 102 := e18.symm.trans h93
                                 exact fun q => h102 (by rw [v2 q1]; exact q))
                          rw [if_neg g45]
                          first
                            | (have q1 : rkT K = 102 := e18.symm.trans h116
                               have q2 : K = 40 := (v2 q1).symm.trans h125
                               rw [if_pos q2])
                            | (have g40 : ¬ K = 40 := by
                                 first
                                   | exact (n2 (fun q => h116 (e18.trans q))).2.1
                                   | (have q1 : rkT K = 102 := e18.symm.trans h116
                                      exact fun q => h125 (by rw [v2 q1]; exact q))
                               rw [if_neg g40])))
              · refine ev_aload_n dX12_ahead_119 rfl ?_
                refine ev_get dX12_ahead_120 flX12_112_12 hM.1 rfl ?_
                refine ev_bipush (v := 40) dX12_ahead_123 (by decide) ?_
                refine ev_icmp_ne (tgt := 133) dX12_ahead_125 (by decide) (fun h125 => ?_) (fun h125 => ?_)
                · refine ev_iconst (v := 0) dX12_ahead_133 (by decide) ?_
                  have g2 : ¬ K = 2 := fun q => h6 (e18.trans ((kd100 K hK).mpr q))
                  have g10 : ¬ (10 ≤ K ∧ K ≤ 15) := by
                    first
                      | exact (n1 (fun q => h15 (e18.trans q))).1
                      | (have q1 : rkT K = 101 := e18.symm.trans h15
                         have h24' := h24
                         rw [v1 q1] at h24'
                         exact fun q => absurd ((k1 q1).1.mpr q.1) (Int32.not_lt.mpr h24'))
                  refine l_ahead134 hM hL hP h160 g2 g10 ?_
                  first
                    | (have q1 : rkT K = 101 := e18.symm.trans h63
                       have q3 : mayB P.1 = true := b2i_ne h79
                       have q2 : K = 8 := (k1 q1).2.1.mp ((v1 q1).symm.trans h72)
                       rw [ahD, if_pos ⟨q2, q3⟩])
                    | (have g8 : ¬ (K = 8 ∧ mayB P.1 = true) := by
                         first
                           | exact fun q => (n1 (fun q2 => h63 (e18.trans q2))).2.2.2.1 q.1
                           | (have q1 : rkT K = 101 := e18.symm.trans h63
                              exact fun q => h72 (by rw [v1 q1]; exact (k1 q1).2.1.mpr q.1))
                           | exact fun q => b2i_eq h79 q.2
                       rw [ahD, if_neg g8]
                       first
                         | (have q1 : rkT K = 102 := e18.symm.trans h93
                            have q2 : K = 45 := (v2 q1).symm.trans h102
                            rw [if_pos q2])
                         | (have g45 : ¬ K = 45 := by
                              first
                                | exact (n2 (fun q => h93 (e18.trans q))).1
                                | (have q1 : rkT K = 102 := e18.symm.trans h93
                                   exact fun q => h102 (by rw [v2 q1]; exact q))
                            rw [if_neg g45]
                            first
                              | (have q1 : rkT K = 102 := e18.symm.trans h116
                                 have q2 : K = 40 := (v2 q1).symm.trans h125
                                 rw [if_pos q2])
                              | (have g40 : ¬ K = 40 := by
                                   first
                                     | exact (n2 (fun q => h116 (e18.trans q))).2.1
                                     | (have q1 : rkT K = 102 := e18.symm.trans h116
                                        exact fun q => h125 (by rw [v2 q1]; exact q))
                                 rw [if_neg g40])))
                · refine ev_bipush (v := 10) dX12_ahead_128 (by decide) ?_
                  refine ev_goto (tgt := 134) dX12_ahead_130 (by decide) ?_
                  have g2 : ¬ K = 2 := fun q => h6 (e18.trans ((kd100 K hK).mpr q))
                  have g10 : ¬ (10 ≤ K ∧ K ≤ 15) := by
                    first
                      | exact (n1 (fun q => h15 (e18.trans q))).1
                      | (have q1 : rkT K = 101 := e18.symm.trans h15
                         have h24' := h24
                         rw [v1 q1] at h24'
                         exact fun q => absurd ((k1 q1).1.mpr q.1) (Int32.not_lt.mpr h24'))
                  refine l_ahead134 hM hL hP h160 g2 g10 ?_
                  first
                    | (have q1 : rkT K = 101 := e18.symm.trans h63
                       have q3 : mayB P.1 = true := b2i_ne h79
                       have q2 : K = 8 := (k1 q1).2.1.mp ((v1 q1).symm.trans h72)
                       rw [ahD, if_pos ⟨q2, q3⟩])
                    | (have g8 : ¬ (K = 8 ∧ mayB P.1 = true) := by
                         first
                           | exact fun q => (n1 (fun q2 => h63 (e18.trans q2))).2.2.2.1 q.1
                           | (have q1 : rkT K = 101 := e18.symm.trans h63
                              exact fun q => h72 (by rw [v1 q1]; exact (k1 q1).2.1.mpr q.1))
                           | exact fun q => b2i_eq h79 q.2
                       rw [ahD, if_neg g8]
                       first
                         | (have q1 : rkT K = 102 := e18.symm.trans h93
                            have q2 : K = 45 := (v2 q1).symm.trans h102
                            rw [if_pos q2])
                         | (have g45 : ¬ K = 45 := by
                              first
                                | exact (n2 (fun q => h93 (e18.trans q))).1
                                | (have q1 : rkT K = 102 := e18.symm.trans h93
                                   exact fun q => h102 (by rw [v2 q1]; exact q))
                            rw [if_neg g45]
                            first
                              | (have q1 : rkT K = 102 := e18.symm.trans h116
                                 have q2 : K = 40 := (v2 q1).symm.trans h125
                                 rw [if_pos q2])
                              | (have g40 : ¬ K = 40 := by
                                   first
                                     | exact (n2 (fun q => h116 (e18.trans q))).2.1
                                     | (have q1 : rkT K = 102 := e18.symm.trans h116
                                        exact fun q => h125 (by rw [v2 q1]; exact q))
                                 rw [if_neg g40])))
            · refine ev_aload_n dX12_ahead_96 rfl ?_
              refine ev_get dX12_ahead_97 flX12_112_12 hM.1 rfl ?_
              refine ev_bipush (v := 45) dX12_ahead_100 (by decide) ?_
              refine ev_icmp_ne (tgt := 110) dX12_ahead_102 (by decide) (fun h102 => ?_) (fun h102 => ?_)
              · refine ev_aload_n dX12_ahead_110 rfl ?_
                refine ev_get dX12_ahead_111 flX12_109_12 hM.1 rfl ?_
                refine ev_bipush (v := 102) dX12_ahead_114 (by decide) ?_
                refine ev_icmp_ne (tgt := 133) dX12_ahead_116 (by decide) (fun h116 => ?_) (fun h116 => ?_)
                · refine ev_iconst (v := 0) dX12_ahead_133 (by decide) ?_
                  have g2 : ¬ K = 2 := fun q => h6 (e18.trans ((kd100 K hK).mpr q))
                  have g10 : ¬ (10 ≤ K ∧ K ≤ 15) := by
                    first
                      | exact (n1 (fun q => h15 (e18.trans q))).1
                      | (have q1 : rkT K = 101 := e18.symm.trans h15
                         have h24' := h24
                         rw [v1 q1] at h24'
                         exact fun q => absurd ((k1 q1).1.mpr q.1) (Int32.not_lt.mpr h24'))
                  refine l_ahead134 hM hL hP h160 g2 g10 ?_
                  first
                    | (have q1 : rkT K = 101 := e18.symm.trans h63
                       have q3 : mayB P.1 = true := b2i_ne h79
                       have q2 : K = 8 := (k1 q1).2.1.mp ((v1 q1).symm.trans h72)
                       rw [ahD, if_pos ⟨q2, q3⟩])
                    | (have g8 : ¬ (K = 8 ∧ mayB P.1 = true) := by
                         first
                           | exact fun q => (n1 (fun q2 => h63 (e18.trans q2))).2.2.2.1 q.1
                           | (have q1 : rkT K = 101 := e18.symm.trans h63
                              exact fun q => h72 (by rw [v1 q1]; exact (k1 q1).2.1.mpr q.1))
                           | exact fun q => b2i_eq h79 q.2
                       rw [ahD, if_neg g8]
                       first
                         | (have q1 : rkT K = 102 := e18.symm.trans h93
                            have q2 : K = 45 := (v2 q1).symm.trans h102
                            rw [if_pos q2])
                         | (have g45 : ¬ K = 45 := by
                              first
                                | exact (n2 (fun q => h93 (e18.trans q))).1
                                | (have q1 : rkT K = 102 := e18.symm.trans h93
                                   exact fun q => h102 (by rw [v2 q1]; exact q))
                            rw [if_neg g45]
                            first
                              | (have q1 : rkT K = 102 := e18.symm.trans h116
                                 have q2 : K = 40 := (v2 q1).symm.trans h125
                                 rw [if_pos q2])
                              | (have g40 : ¬ K = 40 := by
                                   first
                                     | exact (n2 (fun q => h116 (e18.trans q))).2.1
                                     | (have q1 : rkT K = 102 := e18.symm.trans h116
                                        exact fun q => h125 (by rw [v2 q1]; exact q))
                                 rw [if_neg g40])))
                · refine ev_aload_n dX12_ahead_119 rfl ?_
                  refine ev_get dX12_ahead_120 flX12_112_12 hM.1 rfl ?_
                  refine ev_bipush (v := 40) dX12_ahead_123 (by decide) ?_
                  refine ev_icmp_ne (tgt := 133) dX12_ahead_125 (by decide) (fun h125 => ?_) (fun h125 => ?_)
                  · refine ev_iconst (v := 0) dX12_ahead_133 (by decide) ?_
                    have g2 : ¬ K = 2 := fun q => h6 (e18.trans ((kd100 K hK).mpr q))
                    have g10 : ¬ (10 ≤ K ∧ K ≤ 15) := by
                      first
                        | exact (n1 (fun q => h15 (e18.trans q))).1
                        | (have q1 : rkT K = 101 := e18.symm.trans h15
                           have h24' := h24
                           rw [v1 q1] at h24'
                           exact fun q => absurd ((k1 q1).1.mpr q.1) (Int32.not_lt.mpr h24'))
                    refine l_ahead134 hM hL hP h160 g2 g10 ?_
                    first
                      | (have q1 : rkT K = 101 := e18.symm.trans h63
                         have q3 : mayB P.1 = true := b2i_ne h79
                         have q2 : K = 8 := (k1 q1).2.1.mp ((v1 q1).symm.trans h72)
                         rw [ahD, if_pos ⟨q2, q3⟩])
                      | (have g8 : ¬ (K = 8 ∧ mayB P.1 = true) := by
                           first
                             | exact fun q => (n1 (fun q2 => h63 (e18.trans q2))).2.2.2.1 q.1
                             | (have q1 : rkT K = 101 := e18.symm.trans h63
                                exact fun q => h72 (by rw [v1 q1]; exact (k1 q1).2.1.mpr q.1))
                             | exact fun q => b2i_eq h79 q.2
                         rw [ahD, if_neg g8]
                         first
                           | (have q1 : rkT K = 102 := e18.symm.trans h93
                              have q2 : K = 45 := (v2 q1).symm.trans h102
                              rw [if_pos q2])
                           | (have g45 : ¬ K = 45 := by
                                first
                                  | exact (n2 (fun q => h93 (e18.trans q))).1
                                  | (have q1 : rkT K = 102 := e18.symm.trans h93
                                     exact fun q => h102 (by rw [v2 q1]; exact q))
                              rw [if_neg g45]
                              first
                                | (have q1 : rkT K = 102 := e18.symm.trans h116
                                   have q2 : K = 40 := (v2 q1).symm.trans h125
                                   rw [if_pos q2])
                                | (have g40 : ¬ K = 40 := by
                                     first
                                       | exact (n2 (fun q => h116 (e18.trans q))).2.1
                                       | (have q1 : rkT K = 102 := e18.symm.trans h116
                                          exact fun q => h125 (by rw [v2 q1]; exact q))
                                   rw [if_neg g40])))
                  · refine ev_bipush (v := 10) dX12_ahead_128 (by decide) ?_
                    refine ev_goto (tgt := 134) dX12_ahead_130 (by decide) ?_
                    have g2 : ¬ K = 2 := fun q => h6 (e18.trans ((kd100 K hK).mpr q))
                    have g10 : ¬ (10 ≤ K ∧ K ≤ 15) := by
                      first
                        | exact (n1 (fun q => h15 (e18.trans q))).1
                        | (have q1 : rkT K = 101 := e18.symm.trans h15
                           have h24' := h24
                           rw [v1 q1] at h24'
                           exact fun q => absurd ((k1 q1).1.mpr q.1) (Int32.not_lt.mpr h24'))
                    refine l_ahead134 hM hL hP h160 g2 g10 ?_
                    first
                      | (have q1 : rkT K = 101 := e18.symm.trans h63
                         have q3 : mayB P.1 = true := b2i_ne h79
                         have q2 : K = 8 := (k1 q1).2.1.mp ((v1 q1).symm.trans h72)
                         rw [ahD, if_pos ⟨q2, q3⟩])
                      | (have g8 : ¬ (K = 8 ∧ mayB P.1 = true) := by
                           first
                             | exact fun q => (n1 (fun q2 => h63 (e18.trans q2))).2.2.2.1 q.1
                             | (have q1 : rkT K = 101 := e18.symm.trans h63
                                exact fun q => h72 (by rw [v1 q1]; exact (k1 q1).2.1.mpr q.1))
                             | exact fun q => b2i_eq h79 q.2
                         rw [ahD, if_neg g8]
                         first
                           | (have q1 : rkT K = 102 := e18.symm.trans h93
                              have q2 : K = 45 := (v2 q1).symm.trans h102
                              rw [if_pos q2])
                           | (have g45 : ¬ K = 45 := by
                                first
                                  | exact (n2 (fun q => h93 (e18.trans q))).1
                                  | (have q1 : rkT K = 102 := e18.symm.trans h93
                                     exact fun q => h102 (by rw [v2 q1]; exact q))
                              rw [if_neg g45]
                              first
                                | (have q1 : rkT K = 102 := e18.symm.trans h116
                                   have q2 : K = 40 := (v2 q1).symm.trans h125
                                   rw [if_pos q2])
                                | (have g40 : ¬ K = 40 := by
                                     first
                                       | exact (n2 (fun q => h116 (e18.trans q))).2.1
                                       | (have q1 : rkT K = 102 := e18.symm.trans h116
                                          exact fun q => h125 (by rw [v2 q1]; exact q))
                                   rw [if_neg g40])))
              · refine ev_bipush (v := 9) dX12_ahead_105 (by decide) ?_
                refine ev_goto (tgt := 134) dX12_ahead_107 (by decide) ?_
                have g2 : ¬ K = 2 := fun q => h6 (e18.trans ((kd100 K hK).mpr q))
                have g10 : ¬ (10 ≤ K ∧ K ≤ 15) := by
                  first
                    | exact (n1 (fun q => h15 (e18.trans q))).1
                    | (have q1 : rkT K = 101 := e18.symm.trans h15
                       have h24' := h24
                       rw [v1 q1] at h24'
                       exact fun q => absurd ((k1 q1).1.mpr q.1) (Int32.not_lt.mpr h24'))
                refine l_ahead134 hM hL hP h160 g2 g10 ?_
                first
                  | (have q1 : rkT K = 101 := e18.symm.trans h63
                     have q3 : mayB P.1 = true := b2i_ne h79
                     have q2 : K = 8 := (k1 q1).2.1.mp ((v1 q1).symm.trans h72)
                     rw [ahD, if_pos ⟨q2, q3⟩])
                  | (have g8 : ¬ (K = 8 ∧ mayB P.1 = true) := by
                       first
                         | exact fun q => (n1 (fun q2 => h63 (e18.trans q2))).2.2.2.1 q.1
                         | (have q1 : rkT K = 101 := e18.symm.trans h63
                            exact fun q => h72 (by rw [v1 q1]; exact (k1 q1).2.1.mpr q.1))
                         | exact fun q => b2i_eq h79 q.2
                     rw [ahD, if_neg g8]
                     first
                       | (have q1 : rkT K = 102 := e18.symm.trans h93
                          have q2 : K = 45 := (v2 q1).symm.trans h102
                          rw [if_pos q2])
                       | (have g45 : ¬ K = 45 := by
                            first
                              | exact (n2 (fun q => h93 (e18.trans q))).1
                              | (have q1 : rkT K = 102 := e18.symm.trans h93
                                 exact fun q => h102 (by rw [v2 q1]; exact q))
                          rw [if_neg g45]
                          first
                            | (have q1 : rkT K = 102 := e18.symm.trans h116
                               have q2 : K = 40 := (v2 q1).symm.trans h125
                               rw [if_pos q2])
                            | (have g40 : ¬ K = 40 := by
                                 first
                                   | exact (n2 (fun q => h116 (e18.trans q))).2.1
                                   | (have q1 : rkT K = 102 := e18.symm.trans h116
                                      exact fun q => h125 (by rw [v2 q1]; exact q))
                               rw [if_neg g40])))
          · refine ev_aload_n dX12_ahead_75 rfl ?_
            refine k_v (c_mayNot hM hL hP (by omega)) (by decide) dX12_ahead_76 cbX12_mayNot (mt5 153 rfl rfl) (mt5 155 rfl rfl) (ms0 50 rfl rfl) (ci := 12) rfl hM.1 rfl rfl (Nat.le_of_ble_eq_true rfl) (fun v μ1 hq => ?_)
            obtain ⟨rfl, hμ⟩ := hq
            have hμ := hμ.symm
            subst hμ
            simp only [Option.toList, List.cons_append, List.nil_append]
            refine ev_if_eq (tgt := 87) dX12_ahead_79 (by decide) (fun h79 => ?_) (fun h79 => ?_)
            · refine ev_aload_n dX12_ahead_87 rfl ?_
              refine ev_get dX12_ahead_88 flX12_109_12 hM.1 rfl ?_
              refine ev_bipush (v := 102) dX12_ahead_91 (by decide) ?_
              refine ev_icmp_ne (tgt := 110) dX12_ahead_93 (by decide) (fun h93 => ?_) (fun h93 => ?_)
              · refine ev_aload_n dX12_ahead_110 rfl ?_
                refine ev_get dX12_ahead_111 flX12_109_12 hM.1 rfl ?_
                refine ev_bipush (v := 102) dX12_ahead_114 (by decide) ?_
                refine ev_icmp_ne (tgt := 133) dX12_ahead_116 (by decide) (fun h116 => ?_) (fun h116 => ?_)
                · refine ev_iconst (v := 0) dX12_ahead_133 (by decide) ?_
                  have g2 : ¬ K = 2 := fun q => h6 (e18.trans ((kd100 K hK).mpr q))
                  have g10 : ¬ (10 ≤ K ∧ K ≤ 15) := by
                    first
                      | exact (n1 (fun q => h15 (e18.trans q))).1
                      | (have q1 : rkT K = 101 := e18.symm.trans h15
                         have h24' := h24
                         rw [v1 q1] at h24'
                         exact fun q => absurd ((k1 q1).1.mpr q.1) (Int32.not_lt.mpr h24'))
                  refine l_ahead134 hM hL hP h160 g2 g10 ?_
                  first
                    | (have q1 : rkT K = 101 := e18.symm.trans h63
                       have q3 : mayB P.1 = true := b2i_ne h79
                       have q2 : K = 8 := (k1 q1).2.1.mp ((v1 q1).symm.trans h72)
                       rw [ahD, if_pos ⟨q2, q3⟩])
                    | (have g8 : ¬ (K = 8 ∧ mayB P.1 = true) := by
                         first
                           | exact fun q => (n1 (fun q2 => h63 (e18.trans q2))).2.2.2.1 q.1
                           | (have q1 : rkT K = 101 := e18.symm.trans h63
                              exact fun q => h72 (by rw [v1 q1]; exact (k1 q1).2.1.mpr q.1))
                           | exact fun q => b2i_eq h79 q.2
                       rw [ahD, if_neg g8]
                       first
                         | (have q1 : rkT K = 102 := e18.symm.trans h93
                            have q2 : K = 45 := (v2 q1).symm.trans h102
                            rw [if_pos q2])
                         | (have g45 : ¬ K = 45 := by
                              first
                                | exact (n2 (fun q => h93 (e18.trans q))).1
                                | (have q1 : rkT K = 102 := e18.symm.trans h93
                                   exact fun q => h102 (by rw [v2 q1]; exact q))
                            rw [if_neg g45]
                            first
                              | (have q1 : rkT K = 102 := e18.symm.trans h116
                                 have q2 : K = 40 := (v2 q1).symm.trans h125
                                 rw [if_pos q2])
                              | (have g40 : ¬ K = 40 := by
                                   first
                                     | exact (n2 (fun q => h116 (e18.trans q))).2.1
                                     | (have q1 : rkT K = 102 := e18.symm.trans h116
                                        exact fun q => h125 (by rw [v2 q1]; exact q))
                                 rw [if_neg g40])))
                · refine ev_aload_n dX12_ahead_119 rfl ?_
                  refine ev_get dX12_ahead_120 flX12_112_12 hM.1 rfl ?_
                  refine ev_bipush (v := 40) dX12_ahead_123 (by decide) ?_
                  refine ev_icmp_ne (tgt := 133) dX12_ahead_125 (by decide) (fun h125 => ?_) (fun h125 => ?_)
                  · refine ev_iconst (v := 0) dX12_ahead_133 (by decide) ?_
                    have g2 : ¬ K = 2 := fun q => h6 (e18.trans ((kd100 K hK).mpr q))
                    have g10 : ¬ (10 ≤ K ∧ K ≤ 15) := by
                      first
                        | exact (n1 (fun q => h15 (e18.trans q))).1
                        | (have q1 : rkT K = 101 := e18.symm.trans h15
                           have h24' := h24
                           rw [v1 q1] at h24'
                           exact fun q => absurd ((k1 q1).1.mpr q.1) (Int32.not_lt.mpr h24'))
                    refine l_ahead134 hM hL hP h160 g2 g10 ?_
                    first
                      | (have q1 : rkT K = 101 := e18.symm.trans h63
                         have q3 : mayB P.1 = true := b2i_ne h79
                         have q2 : K = 8 := (k1 q1).2.1.mp ((v1 q1).symm.trans h72)
                         rw [ahD, if_pos ⟨q2, q3⟩])
                      | (have g8 : ¬ (K = 8 ∧ mayB P.1 = true) := by
                           first
                             | exact fun q => (n1 (fun q2 => h63 (e18.trans q2))).2.2.2.1 q.1
                             | (have q1 : rkT K = 101 := e18.symm.trans h63
                                exact fun q => h72 (by rw [v1 q1]; exact (k1 q1).2.1.mpr q.1))
                             | exact fun q => b2i_eq h79 q.2
                         rw [ahD, if_neg g8]
                         first
                           | (have q1 : rkT K = 102 := e18.symm.trans h93
                              have q2 : K = 45 := (v2 q1).symm.trans h102
                              rw [if_pos q2])
                           | (have g45 : ¬ K = 45 := by
                                first
                                  | exact (n2 (fun q => h93 (e18.trans q))).1
                                  | (have q1 : rkT K = 102 := e18.symm.trans h93
                                     exact fun q => h102 (by rw [v2 q1]; exact q))
                              rw [if_neg g45]
                              first
                                | (have q1 : rkT K = 102 := e18.symm.trans h116
                                   have q2 : K = 40 := (v2 q1).symm.trans h125
                                   rw [if_pos q2])
                                | (have g40 : ¬ K = 40 := by
                                     first
                                       | exact (n2 (fun q => h116 (e18.trans q))).2.1
                                       | (have q1 : rkT K = 102 := e18.symm.trans h116
                                          exact fun q => h125 (by rw [v2 q1]; exact q))
                                   rw [if_neg g40])))
                  · refine ev_bipush (v := 10) dX12_ahead_128 (by decide) ?_
                    refine ev_goto (tgt := 134) dX12_ahead_130 (by decide) ?_
                    have g2 : ¬ K = 2 := fun q => h6 (e18.trans ((kd100 K hK).mpr q))
                    have g10 : ¬ (10 ≤ K ∧ K ≤ 15) := by
                      first
                        | exact (n1 (fun q => h15 (e18.trans q))).1
                        | (have q1 : rkT K = 101 := e18.symm.trans h15
                           have h24' := h24
                           rw [v1 q1] at h24'
                           exact fun q => absurd ((k1 q1).1.mpr q.1) (Int32.not_lt.mpr h24'))
                    refine l_ahead134 hM hL hP h160 g2 g10 ?_
                    first
                      | (have q1 : rkT K = 101 := e18.symm.trans h63
                         have q3 : mayB P.1 = true := b2i_ne h79
                         have q2 : K = 8 := (k1 q1).2.1.mp ((v1 q1).symm.trans h72)
                         rw [ahD, if_pos ⟨q2, q3⟩])
                      | (have g8 : ¬ (K = 8 ∧ mayB P.1 = true) := by
                           first
                             | exact fun q => (n1 (fun q2 => h63 (e18.trans q2))).2.2.2.1 q.1
                             | (have q1 : rkT K = 101 := e18.symm.trans h63
                                exact fun q => h72 (by rw [v1 q1]; exact (k1 q1).2.1.mpr q.1))
                             | exact fun q => b2i_eq h79 q.2
                         rw [ahD, if_neg g8]
                         first
                           | (have q1 : rkT K = 102 := e18.symm.trans h93
                              have q2 : K = 45 := (v2 q1).symm.trans h102
                              rw [if_pos q2])
                           | (have g45 : ¬ K = 45 := by
                                first
                                  | exact (n2 (fun q => h93 (e18.trans q))).1
                                  | (have q1 : rkT K = 102 := e18.symm.trans h93
                                     exact fun q => h102 (by rw [v2 q1]; exact q))
                              rw [if_neg g45]
                              first
                                | (have q1 : rkT K = 102 := e18.symm.trans h116
                                   have q2 : K = 40 := (v2 q1).symm.trans h125
                                   rw [if_pos q2])
                                | (have g40 : ¬ K = 40 := by
                                     first
                                       | exact (n2 (fun q => h116 (e18.trans q))).2.1
                                       | (have q1 : rkT K = 102 := e18.symm.trans h116
                                          exact fun q => h125 (by rw [v2 q1]; exact q))
                                   rw [if_neg g40])))
              · refine ev_aload_n dX12_ahead_96 rfl ?_
                refine ev_get dX12_ahead_97 flX12_112_12 hM.1 rfl ?_
                refine ev_bipush (v := 45) dX12_ahead_100 (by decide) ?_
                refine ev_icmp_ne (tgt := 110) dX12_ahead_102 (by decide) (fun h102 => ?_) (fun h102 => ?_)
                · refine ev_aload_n dX12_ahead_110 rfl ?_
                  refine ev_get dX12_ahead_111 flX12_109_12 hM.1 rfl ?_
                  refine ev_bipush (v := 102) dX12_ahead_114 (by decide) ?_
                  refine ev_icmp_ne (tgt := 133) dX12_ahead_116 (by decide) (fun h116 => ?_) (fun h116 => ?_)
                  · refine ev_iconst (v := 0) dX12_ahead_133 (by decide) ?_
                    have g2 : ¬ K = 2 := fun q => h6 (e18.trans ((kd100 K hK).mpr q))
                    have g10 : ¬ (10 ≤ K ∧ K ≤ 15) := by
                      first
                        | exact (n1 (fun q => h15 (e18.trans q))).1
                        | (have q1 : rkT K = 101 := e18.symm.trans h15
                           have h24' := h24
                           rw [v1 q1] at h24'
                           exact fun q => absurd ((k1 q1).1.mpr q.1) (Int32.not_lt.mpr h24'))
                    refine l_ahead134 hM hL hP h160 g2 g10 ?_
                    first
                      | (have q1 : rkT K = 101 := e18.symm.trans h63
                         have q3 : mayB P.1 = true := b2i_ne h79
                         have q2 : K = 8 := (k1 q1).2.1.mp ((v1 q1).symm.trans h72)
                         rw [ahD, if_pos ⟨q2, q3⟩])
                      | (have g8 : ¬ (K = 8 ∧ mayB P.1 = true) := by
                           first
                             | exact fun q => (n1 (fun q2 => h63 (e18.trans q2))).2.2.2.1 q.1
                             | (have q1 : rkT K = 101 := e18.symm.trans h63
                                exact fun q => h72 (by rw [v1 q1]; exact (k1 q1).2.1.mpr q.1))
                             | exact fun q => b2i_eq h79 q.2
                         rw [ahD, if_neg g8]
                         first
                           | (have q1 : rkT K = 102 := e18.symm.trans h93
                              have q2 : K = 45 := (v2 q1).symm.trans h102
                              rw [if_pos q2])
                           | (have g45 : ¬ K = 45 := by
                                first
                                  | exact (n2 (fun q => h93 (e18.trans q))).1
                                  | (have q1 : rkT K = 102 := e18.symm.trans h93
                                     exact fun q => h102 (by rw [v2 q1]; exact q))
                              rw [if_neg g45]
                              first
                                | (have q1 : rkT K = 102 := e18.symm.trans h116
                                   have q2 : K = 40 := (v2 q1).symm.trans h125
                                   rw [if_pos q2])
                                | (have g40 : ¬ K = 40 := by
                                     first
                                       | exact (n2 (fun q => h116 (e18.trans q))).2.1
                                       | (have q1 : rkT K = 102 := e18.symm.trans h116
                                          exact fun q => h125 (by rw [v2 q1]; exact q))
                                   rw [if_neg g40])))
                  · refine ev_aload_n dX12_ahead_119 rfl ?_
                    refine ev_get dX12_ahead_120 flX12_112_12 hM.1 rfl ?_
                    refine ev_bipush (v := 40) dX12_ahead_123 (by decide) ?_
                    refine ev_icmp_ne (tgt := 133) dX12_ahead_125 (by decide) (fun h125 => ?_) (fun h125 => ?_)
                    · refine ev_iconst (v := 0) dX12_ahead_133 (by decide) ?_
                      have g2 : ¬ K = 2 := fun q => h6 (e18.trans ((kd100 K hK).mpr q))
                      have g10 : ¬ (10 ≤ K ∧ K ≤ 15) := by
                        first
                          | exact (n1 (fun q => h15 (e18.trans q))).1
                          | (have q1 : rkT K = 101 := e18.symm.trans h15
                             have h24' := h24
                             rw [v1 q1] at h24'
                             exact fun q => absurd ((k1 q1).1.mpr q.1) (Int32.not_lt.mpr h24'))
                      refine l_ahead134 hM hL hP h160 g2 g10 ?_
                      first
                        | (have q1 : rkT K = 101 := e18.symm.trans h63
                           have q3 : mayB P.1 = true := b2i_ne h79
                           have q2 : K = 8 := (k1 q1).2.1.mp ((v1 q1).symm.trans h72)
                           rw [ahD, if_pos ⟨q2, q3⟩])
                        | (have g8 : ¬ (K = 8 ∧ mayB P.1 = true) := by
                             first
                               | exact fun q => (n1 (fun q2 => h63 (e18.trans q2))).2.2.2.1 q.1
                               | (have q1 : rkT K = 101 := e18.symm.trans h63
                                  exact fun q => h72 (by rw [v1 q1]; exact (k1 q1).2.1.mpr q.1))
                               | exact fun q => b2i_eq h79 q.2
                           rw [ahD, if_neg g8]
                           first
                             | (have q1 : rkT K = 102 := e18.symm.trans h93
                                have q2 : K = 45 := (v2 q1).symm.trans h102
                                rw [if_pos q2])
                             | (have g45 : ¬ K = 45 := by
                                  first
                                    | exact (n2 (fun q => h93 (e18.trans q))).1
                                    | (have q1 : rkT K = 102 := e18.symm.trans h93
                                       exact fun q => h102 (by rw [v2 q1]; exact q))
                                rw [if_neg g45]
                                first
                                  | (have q1 : rkT K = 102 := e18.symm.trans h116
                                     have q2 : K = 40 := (v2 q1).symm.trans h125
                                     rw [if_pos q2])
                                  | (have g40 : ¬ K = 40 := by
                                       first
                                         | exact (n2 (fun q => h116 (e18.trans q))).2.1
                                         | (have q1 : rkT K = 102 := e18.symm.trans h116
                                            exact fun q => h125 (by rw [v2 q1]; exact q))
                                     rw [if_neg g40])))
                    · refine ev_bipush (v := 10) dX12_ahead_128 (by decide) ?_
                      refine ev_goto (tgt := 134) dX12_ahead_130 (by decide) ?_
                      have g2 : ¬ K = 2 := fun q => h6 (e18.trans ((kd100 K hK).mpr q))
                      have g10 : ¬ (10 ≤ K ∧ K ≤ 15) := by
                        first
                          | exact (n1 (fun q => h15 (e18.trans q))).1
                          | (have q1 : rkT K = 101 := e18.symm.trans h15
                             have h24' := h24
                             rw [v1 q1] at h24'
                             exact fun q => absurd ((k1 q1).1.mpr q.1) (Int32.not_lt.mpr h24'))
                      refine l_ahead134 hM hL hP h160 g2 g10 ?_
                      first
                        | (have q1 : rkT K = 101 := e18.symm.trans h63
                           have q3 : mayB P.1 = true := b2i_ne h79
                           have q2 : K = 8 := (k1 q1).2.1.mp ((v1 q1).symm.trans h72)
                           rw [ahD, if_pos ⟨q2, q3⟩])
                        | (have g8 : ¬ (K = 8 ∧ mayB P.1 = true) := by
                             first
                               | exact fun q => (n1 (fun q2 => h63 (e18.trans q2))).2.2.2.1 q.1
                               | (have q1 : rkT K = 101 := e18.symm.trans h63
                                  exact fun q => h72 (by rw [v1 q1]; exact (k1 q1).2.1.mpr q.1))
                               | exact fun q => b2i_eq h79 q.2
                           rw [ahD, if_neg g8]
                           first
                             | (have q1 : rkT K = 102 := e18.symm.trans h93
                                have q2 : K = 45 := (v2 q1).symm.trans h102
                                rw [if_pos q2])
                             | (have g45 : ¬ K = 45 := by
                                  first
                                    | exact (n2 (fun q => h93 (e18.trans q))).1
                                    | (have q1 : rkT K = 102 := e18.symm.trans h93
                                       exact fun q => h102 (by rw [v2 q1]; exact q))
                                rw [if_neg g45]
                                first
                                  | (have q1 : rkT K = 102 := e18.symm.trans h116
                                     have q2 : K = 40 := (v2 q1).symm.trans h125
                                     rw [if_pos q2])
                                  | (have g40 : ¬ K = 40 := by
                                       first
                                         | exact (n2 (fun q => h116 (e18.trans q))).2.1
                                         | (have q1 : rkT K = 102 := e18.symm.trans h116
                                            exact fun q => h125 (by rw [v2 q1]; exact q))
                                     rw [if_neg g40])))
                · refine ev_bipush (v := 9) dX12_ahead_105 (by decide) ?_
                  refine ev_goto (tgt := 134) dX12_ahead_107 (by decide) ?_
                  have g2 : ¬ K = 2 := fun q => h6 (e18.trans ((kd100 K hK).mpr q))
                  have g10 : ¬ (10 ≤ K ∧ K ≤ 15) := by
                    first
                      | exact (n1 (fun q => h15 (e18.trans q))).1
                      | (have q1 : rkT K = 101 := e18.symm.trans h15
                         have h24' := h24
                         rw [v1 q1] at h24'
                         exact fun q => absurd ((k1 q1).1.mpr q.1) (Int32.not_lt.mpr h24'))
                  refine l_ahead134 hM hL hP h160 g2 g10 ?_
                  first
                    | (have q1 : rkT K = 101 := e18.symm.trans h63
                       have q3 : mayB P.1 = true := b2i_ne h79
                       have q2 : K = 8 := (k1 q1).2.1.mp ((v1 q1).symm.trans h72)
                       rw [ahD, if_pos ⟨q2, q3⟩])
                    | (have g8 : ¬ (K = 8 ∧ mayB P.1 = true) := by
                         first
                           | exact fun q => (n1 (fun q2 => h63 (e18.trans q2))).2.2.2.1 q.1
                           | (have q1 : rkT K = 101 := e18.symm.trans h63
                              exact fun q => h72 (by rw [v1 q1]; exact (k1 q1).2.1.mpr q.1))
                           | exact fun q => b2i_eq h79 q.2
                       rw [ahD, if_neg g8]
                       first
                         | (have q1 : rkT K = 102 := e18.symm.trans h93
                            have q2 : K = 45 := (v2 q1).symm.trans h102
                            rw [if_pos q2])
                         | (have g45 : ¬ K = 45 := by
                              first
                                | exact (n2 (fun q => h93 (e18.trans q))).1
                                | (have q1 : rkT K = 102 := e18.symm.trans h93
                                   exact fun q => h102 (by rw [v2 q1]; exact q))
                            rw [if_neg g45]
                            first
                              | (have q1 : rkT K = 102 := e18.symm.trans h116
                                 have q2 : K = 40 := (v2 q1).symm.trans h125
                                 rw [if_pos q2])
                              | (have g40 : ¬ K = 40 := by
                                   first
                                     | exact (n2 (fun q => h116 (e18.trans q))).2.1
                                     | (have q1 : rkT K = 102 := e18.symm.trans h116
                                        exact fun q => h125 (by rw [v2 q1]; exact q))
                                 rw [if_neg g40])))
            · refine ev_bipush (v := 8) dX12_ahead_82 (by decide) ?_
              refine ev_goto (tgt := 134) dX12_ahead_84 (by decide) ?_
              have g2 : ¬ K = 2 := fun q => h6 (e18.trans ((kd100 K hK).mpr q))
              have g10 : ¬ (10 ≤ K ∧ K ≤ 15) := by
                first
                  | exact (n1 (fun q => h15 (e18.trans q))).1
                  | (have q1 : rkT K = 101 := e18.symm.trans h15
                     have h24' := h24
                     rw [v1 q1] at h24'
                     exact fun q => absurd ((k1 q1).1.mpr q.1) (Int32.not_lt.mpr h24'))
              refine l_ahead134 hM hL hP h160 g2 g10 ?_
              first
                | (have q1 : rkT K = 101 := e18.symm.trans h63
                   have q3 : mayB P.1 = true := b2i_ne h79
                   have q2 : K = 8 := (k1 q1).2.1.mp ((v1 q1).symm.trans h72)
                   rw [ahD, if_pos ⟨q2, q3⟩])
                | (have g8 : ¬ (K = 8 ∧ mayB P.1 = true) := by
                     first
                       | exact fun q => (n1 (fun q2 => h63 (e18.trans q2))).2.2.2.1 q.1
                       | (have q1 : rkT K = 101 := e18.symm.trans h63
                          exact fun q => h72 (by rw [v1 q1]; exact (k1 q1).2.1.mpr q.1))
                       | exact fun q => b2i_eq h79 q.2
                   rw [ahD, if_neg g8]
                   first
                     | (have q1 : rkT K = 102 := e18.symm.trans h93
                        have q2 : K = 45 := (v2 q1).symm.trans h102
                        rw [if_pos q2])
                     | (have g45 : ¬ K = 45 := by
                          first
                            | exact (n2 (fun q => h93 (e18.trans q))).1
                            | (have q1 : rkT K = 102 := e18.symm.trans h93
                               exact fun q => h102 (by rw [v2 q1]; exact q))
                        rw [if_neg g45]
                        first
                          | (have q1 : rkT K = 102 := e18.symm.trans h116
                             have q2 : K = 40 := (v2 q1).symm.trans h125
                             rw [if_pos q2])
                          | (have g40 : ¬ K = 40 := by
                               first
                                 | exact (n2 (fun q => h116 (e18.trans q))).2.1
                                 | (have q1 : rkT K = 102 := e18.symm.trans h116
                                    exact fun q => h125 (by rw [v2 q1]; exact q))
                             rw [if_neg g40])))
      · refine ev_aload_n dX12_ahead_27 rfl ?_
        refine ev_aload_n dX12_ahead_28 rfl ?_
        refine ev_get dX12_ahead_29 flX12_109_12 hM.1 rfl ?_
        refine ev_bipush (v := 100) dX12_ahead_32 (by decide) ?_
        refine ev_icmp_ne (tgt := 44) dX12_ahead_34 (by decide) (fun h34 => ?_) (fun h34 => ?_)
        · refine ev_sipush (v := 20000) dX12_ahead_44 (by decide) ?_
          refine ev_aload_n dX12_ahead_47 rfl ?_
          refine ev_get dX12_ahead_48 flX12_112_12 hM.1 rfl ?_
          refine ev_iadd dX12_ahead_51 ?_
          refine k_v (c_writes hM hL hr hP (by omega) _) (by decide) dX12_ahead_52 cbX12_writes (mt5 3 rfl rfl) (mt5 5 rfl rfl) (ms0 44 rfl rfl) (ci := 12) rfl hM.1 rfl rfl (Nat.le_of_ble_eq_true rfl) (fun v μ1 hq => ?_)
          obtain ⟨rfl, hR2, hF2⟩ := hq
          simp only [Option.toList, List.cons_append, List.nil_append]
          refine ev_iconst (v := 1) dX12_ahead_55 (by decide) ?_
          refine ev_iret dX12_ahead_56 rfl ?_
          first
            | (have q := (kd100 K hK).mp (e18.symm.trans h6)
               rw [ahd, if_pos q]
               have e : ρ.2 20 = V := by rw [e20 (by rw [q]; decide), q]; rfl
               rw [e] at hR2
               exact ⟨rfl, hR2, hF2⟩)
            | (have q1 : rkT K = 101 := e18.symm.trans h15
               have q2 : 10 ≤ K := (k1 q1).1.mp (by rw [← v1 q1]; exact Int32.not_le.mp h24)
               rw [ahd, if_neg (k1 q1).2.2.2.2.2.1, if_pos ⟨q2, (k1 q1).2.2.2.2.2.2.2.1⟩]
               rw [v1 q1, (k1 q1).2.2.2.2.1 q2] at hR2
               exact ⟨rfl, hR2, hF2⟩)
            | exact absurd h34 (by rw [h15]; decide)
            | exact absurd h6 h34
        · refine ev_aload_n dX12_ahead_37 rfl ?_
          refine ev_get dX12_ahead_38 flX12_112_12 hM.1 rfl ?_
          refine ev_goto (tgt := 52) dX12_ahead_41 (by decide) ?_
          refine k_v (c_writes hM hL hr hP (by omega) _) (by decide) dX12_ahead_52 cbX12_writes (mt5 3 rfl rfl) (mt5 5 rfl rfl) (ms0 44 rfl rfl) (ci := 12) rfl hM.1 rfl rfl (Nat.le_of_ble_eq_true rfl) (fun v μ1 hq => ?_)
          obtain ⟨rfl, hR2, hF2⟩ := hq
          simp only [Option.toList, List.cons_append, List.nil_append]
          refine ev_iconst (v := 1) dX12_ahead_55 (by decide) ?_
          refine ev_iret dX12_ahead_56 rfl ?_
          first
            | (have q := (kd100 K hK).mp (e18.symm.trans h6)
               rw [ahd, if_pos q]
               have e : ρ.2 20 = V := by rw [e20 (by rw [q]; decide), q]; rfl
               rw [e] at hR2
               exact ⟨rfl, hR2, hF2⟩)
            | (have q1 : rkT K = 101 := e18.symm.trans h15
               have q2 : 10 ≤ K := (k1 q1).1.mp (by rw [← v1 q1]; exact Int32.not_le.mp h24)
               rw [ahd, if_neg (k1 q1).2.2.2.2.2.1, if_pos ⟨q2, (k1 q1).2.2.2.2.2.2.2.1⟩]
               rw [v1 q1, (k1 q1).2.2.2.2.1 q2] at hR2
               exact ⟨rfl, hR2, hF2⟩)
            | exact absurd h34 (by rw [h15]; decide)
            | exact absurd h6 h34
theorem PE.tk {ρ' : MS} (h : PE r ρ' ρ) : ρ'.2 18 = ρ.2 18 ∧ ρ'.2 20 = ρ.2 20 := ⟨h.2.1.2 18 (by decide), h.2.1.2 20 (by decide)⟩
theorem l_behind72 {ρ0 : MS} {μ0 μ : Mm} (hM : RM b ρ μ) (hE : PE r ρ ρ0) (hF : FM b μ0 μ) (hr : r < 18) {P : PS} (hP : PM ρ r (ltP 7 P)) (h160 : szP P ≤ 159) {K V : Int32} (hK : K ∈ kinds) (hT : TkV ρ K V) {x : Int32} (hx : bhD K = x) : Ev g 3 mX12_behind 72 [some (.ref b), none] [.int x] μ (fun v μ' => v = some (.int (bhd K P).1) ∧ WrQ b r ρ0 (bhd K P).2 μ0 μ') := by
  have e18 := hT.1
  have e20 := hT.2
  have k2 := kd102 K hK
  have n2 := kdn2 K hK
  have v2 : rkT K = 102 → ρ.2 20 = K := fun q => by rw [e20 (k2 q).2.2.1, rkV_v (k2 q).2.1, (k2 q).1]
  rw [bhd, hx]
  have hz : szP (ltP 7 P) ≤ 159 := by rw [ltP_sz]; exact h160
  generalize ltP 7 P = Q at hP hz ⊢
  have hz5 : ∀ h, szP (ltP h Q) ≤ 159 := fun h => by rw [ltP_sz]; exact hz
  have hl5 : ∀ h, (ltP h Q).1.length ≤ 159 := fun h => by have := hz5 h; simp only [szP] at this; omega
  refine ev_istore_n dX12_behind_72 (by decide) ?_
  dsimp only [List.set]
  refine ev_iload_n dX12_behind_73 rfl ?_
  refine ev_if_eq (tgt := 125) dX12_behind_74 (by decide) (fun h74 => ?_) (fun h74 => ?_)
  · refine ev_aload_n dX12_behind_125 rfl ?_
    refine ev_get dX12_behind_126 flX12_109_12 hM.1 rfl ?_
    refine ev_bipush (v := 102) dX12_behind_129 (by decide) ?_
    refine ev_icmp_ne (tgt := 152) dX12_behind_131 (by decide) (fun h131 => ?_) (fun h131 => ?_)
    · refine ev_iconst (v := (-1)) dX12_behind_152 (by decide) ?_
      refine ev_iret dX12_behind_153 rfl ?_
      rw [if_neg (fun q => q h74), if_neg (by first | exact (n2 (fun q => h131 (e18.trans q))).2.2.1 | exact fun q => h140 (by rw [v2 (e18.symm.trans h131)]; exact q)), if_neg (by first | exact (n2 (fun q => h131 (e18.trans q))).2.2.2.1 | exact fun q => h149 (by rw [v2 (e18.symm.trans h131)]; exact q))]
      exact ⟨rfl, ⟨ρ, hM, hE, hP⟩, hF⟩
    · refine ev_aload_n dX12_behind_134 rfl ?_
      refine ev_get dX12_behind_135 flX12_112_12 hM.1 rfl ?_
      refine ev_bipush (v := 59) dX12_behind_138 (by decide) ?_
      refine ev_icmp_eq (tgt := 154) dX12_behind_140 (by decide) (fun h140 => ?_) (fun h140 => ?_)
      · rw [if_neg (fun q => q h74)]
        have hKv := v2 (e18.symm.trans h131)
        refine ev_aload_n dX12_behind_154 rfl ?_
        refine ev_iconst (v := 1) dX12_behind_155 (by decide) ?_
        refine k_v (c_letsFrom hM hE.1 hr hP (by omega) 1) (by decide) dX12_behind_156 cbX12_letsFrom (mt5 169 rfl rfl) (mt5 171 rfl rfl) (ms0 54 rfl rfl) (ci := 12) rfl hM.1 rfl rfl (Nat.le_of_ble_eq_true rfl) (fun v μ1 hq => ?_)
        obtain ⟨rfl, ⟨ρ2, hM, hE2, hP⟩, hF2⟩ := hq; have hF := hF.tr hF2; have hE := hE2.tr hE; have g20 := hE2.tk.2; rw [hKv] at g20; have g22 : ρ2.2 22 = 0 ↔ (ltP 1 Q).1.length = 0 := by rw [hP.2.2.1, nI_eq0' (by have := hl5 1; omega)]
        simp only [Option.toList, List.cons_append, List.nil_append]
        refine ev_aload_n dX12_behind_159 rfl ?_
        refine ev_get dX12_behind_160 flX12_112_12 hM.1 rfl ?_
        refine ev_bipush (v := 59) dX12_behind_163 (by decide) ?_
        refine ev_icmp_ne (tgt := 181) dX12_behind_165 (by decide) (fun h165 => ?_) (fun h165 => ?_)
        · have g59 : ¬ K = 59 := by rw [← g20]; exact h165
          have g41 : K = 41 := by first | exact absurd (hKv.symm.trans h140) g59 | exact hKv.symm.trans h149
          rw [if_neg g59, if_pos g41]
          refine ev_aload_n dX12_behind_181 rfl ?_
          refine ev_get dX12_behind_182 flX12_123_12 hM.1 rfl ?_
          refine ev_if_ne (tgt := 190) dX12_behind_185 (by decide) (fun h185 => ?_) (fun h185 => ?_)
          · rw [if_neg (fun q => h185 (g22.mpr q))]
            refine ev_aload_n dX12_behind_190 rfl ?_
            refine ev_dup dX12_behind_191 rfl ?_
            refine ev_get dX12_behind_192 flX12_123_12 hM.1 rfl ?_
            refine ev_iconst (v := 1) dX12_behind_195 (by decide) ?_
            refine ev_isub dX12_behind_196 ?_
            refine evM_put hM hF (k := 22) (by decide) dX12_behind_197 fpX12_123_12 rfl rfl (fun μ hM hF => ?_)
            refine ev_aload_n dX12_behind_200 rfl ?_
            refine ev_dup dX12_behind_201 rfl ?_
            refine ev_get dX12_behind_202 flX12_126_12 hM.1 rfl ?_
            refine ev_iconst (v := 1) dX12_behind_205 (by decide) ?_
            refine ev_isub dX12_behind_206 ?_
            refine evM_put hM hF (k := 21) (by decide) dX12_behind_207 fpX12_126_12 rfl rfl (fun μ hM hF => ?_)
            refine ev_iconst (v := 0) dX12_behind_210 (by decide) ?_
            refine ev_iret dX12_behind_211 rfl ?_
            refine ⟨rfl, ⟨_, hM, PE.tr ⟨ML.setI (ML.setI hE.1), (EqE.rf.sI (by decide)).sI (by decide), fun _ _ => rfl, fun _ _ => rfl⟩ hE, ?_⟩, hF⟩
            have hne : ¬ (ltP 1 Q).1.length = 0 := fun q => h185 (g22.mpr q)
            generalize ltP 1 Q = Q1 at hP hne ⊢
            obtain ⟨H, C, o⟩ := Q1
            rcases H with _ | ⟨y, H⟩
            · exact absurd rfl hne
            · refine ⟨hP.1, hP.2.1.pop, ?_, ?_, hP.2.2.2.2⟩
              · show ρ2.2 22 - 1 = _
                rw [hP.2.2.1]; exact nI_pred _
              · show ρ2.2 21 - 1 = _
                rw [hP.2.2.2.1]
          · refine ev_iconst (v := (-1)) dX12_behind_188 (by decide) ?_
            refine ev_iret dX12_behind_189 rfl ?_
            rw [if_pos (g22.mp h185)]
            exact ⟨rfl, ⟨ρ2, hM, hE, hP⟩, hF⟩
        · refine ev_aload_n dX12_behind_168 rfl ?_
          refine ev_get dX12_behind_169 flX12_123_12 hM.1 rfl ?_
          refine ev_if_ne (tgt := 179) dX12_behind_172 (by decide) (fun h172 => ?_) (fun h172 => ?_)
          · refine ev_iconst (v := (-1)) dX12_behind_179 (by decide) ?_
            refine ev_iret dX12_behind_180 rfl ?_
            rw [if_pos (show K = 59 by rw [← g20]; exact h165)]
            first
              | (rw [if_pos (g22.mp h172)]; exact ⟨rfl, ⟨ρ2, hM, hE, hP⟩, hF⟩)
              | (rw [if_neg (fun q => h172 (g22.mpr q))]; exact ⟨rfl, ⟨ρ2, hM, hE, hP⟩, hF⟩)
          · refine ev_iconst (v := 2) dX12_behind_175 (by decide) ?_
            refine ev_goto (tgt := 180) dX12_behind_176 (by decide) ?_
            refine ev_iret dX12_behind_180 rfl ?_
            rw [if_pos (show K = 59 by rw [← g20]; exact h165)]
            first
              | (rw [if_pos (g22.mp h172)]; exact ⟨rfl, ⟨ρ2, hM, hE, hP⟩, hF⟩)
              | (rw [if_neg (fun q => h172 (g22.mpr q))]; exact ⟨rfl, ⟨ρ2, hM, hE, hP⟩, hF⟩)
      · refine ev_aload_n dX12_behind_143 rfl ?_
        refine ev_get dX12_behind_144 flX12_112_12 hM.1 rfl ?_
        refine ev_bipush (v := 41) dX12_behind_147 (by decide) ?_
        refine ev_icmp_eq (tgt := 154) dX12_behind_149 (by decide) (fun h149 => ?_) (fun h149 => ?_)
        · rw [if_neg (fun q => q h74)]
          have hKv := v2 (e18.symm.trans h131)
          refine ev_aload_n dX12_behind_154 rfl ?_
          refine ev_iconst (v := 1) dX12_behind_155 (by decide) ?_
          refine k_v (c_letsFrom hM hE.1 hr hP (by omega) 1) (by decide) dX12_behind_156 cbX12_letsFrom (mt5 169 rfl rfl) (mt5 171 rfl rfl) (ms0 54 rfl rfl) (ci := 12) rfl hM.1 rfl rfl (Nat.le_of_ble_eq_true rfl) (fun v μ1 hq => ?_)
          obtain ⟨rfl, ⟨ρ2, hM, hE2, hP⟩, hF2⟩ := hq; have hF := hF.tr hF2; have hE := hE2.tr hE; have g20 := hE2.tk.2; rw [hKv] at g20; have g22 : ρ2.2 22 = 0 ↔ (ltP 1 Q).1.length = 0 := by rw [hP.2.2.1, nI_eq0' (by have := hl5 1; omega)]
          simp only [Option.toList, List.cons_append, List.nil_append]
          refine ev_aload_n dX12_behind_159 rfl ?_
          refine ev_get dX12_behind_160 flX12_112_12 hM.1 rfl ?_
          refine ev_bipush (v := 59) dX12_behind_163 (by decide) ?_
          refine ev_icmp_ne (tgt := 181) dX12_behind_165 (by decide) (fun h165 => ?_) (fun h165 => ?_)
          · have g59 : ¬ K = 59 := by rw [← g20]; exact h165
            have g41 : K = 41 := by first | exact absurd (hKv.symm.trans h140) g59 | exact hKv.symm.trans h149
            rw [if_neg g59, if_pos g41]
            refine ev_aload_n dX12_behind_181 rfl ?_
            refine ev_get dX12_behind_182 flX12_123_12 hM.1 rfl ?_
            refine ev_if_ne (tgt := 190) dX12_behind_185 (by decide) (fun h185 => ?_) (fun h185 => ?_)
            · rw [if_neg (fun q => h185 (g22.mpr q))]
              refine ev_aload_n dX12_behind_190 rfl ?_
              refine ev_dup dX12_behind_191 rfl ?_
              refine ev_get dX12_behind_192 flX12_123_12 hM.1 rfl ?_
              refine ev_iconst (v := 1) dX12_behind_195 (by decide) ?_
              refine ev_isub dX12_behind_196 ?_
              refine evM_put hM hF (k := 22) (by decide) dX12_behind_197 fpX12_123_12 rfl rfl (fun μ hM hF => ?_)
              refine ev_aload_n dX12_behind_200 rfl ?_
              refine ev_dup dX12_behind_201 rfl ?_
              refine ev_get dX12_behind_202 flX12_126_12 hM.1 rfl ?_
              refine ev_iconst (v := 1) dX12_behind_205 (by decide) ?_
              refine ev_isub dX12_behind_206 ?_
              refine evM_put hM hF (k := 21) (by decide) dX12_behind_207 fpX12_126_12 rfl rfl (fun μ hM hF => ?_)
              refine ev_iconst (v := 0) dX12_behind_210 (by decide) ?_
              refine ev_iret dX12_behind_211 rfl ?_
              refine ⟨rfl, ⟨_, hM, PE.tr ⟨ML.setI (ML.setI hE.1), (EqE.rf.sI (by decide)).sI (by decide), fun _ _ => rfl, fun _ _ => rfl⟩ hE, ?_⟩, hF⟩
              have hne : ¬ (ltP 1 Q).1.length = 0 := fun q => h185 (g22.mpr q)
              generalize ltP 1 Q = Q1 at hP hne ⊢
              obtain ⟨H, C, o⟩ := Q1
              rcases H with _ | ⟨y, H⟩
              · exact absurd rfl hne
              · refine ⟨hP.1, hP.2.1.pop, ?_, ?_, hP.2.2.2.2⟩
                · show ρ2.2 22 - 1 = _
                  rw [hP.2.2.1]; exact nI_pred _
                · show ρ2.2 21 - 1 = _
                  rw [hP.2.2.2.1]
            · refine ev_iconst (v := (-1)) dX12_behind_188 (by decide) ?_
              refine ev_iret dX12_behind_189 rfl ?_
              rw [if_pos (g22.mp h185)]
              exact ⟨rfl, ⟨ρ2, hM, hE, hP⟩, hF⟩
          · refine ev_aload_n dX12_behind_168 rfl ?_
            refine ev_get dX12_behind_169 flX12_123_12 hM.1 rfl ?_
            refine ev_if_ne (tgt := 179) dX12_behind_172 (by decide) (fun h172 => ?_) (fun h172 => ?_)
            · refine ev_iconst (v := (-1)) dX12_behind_179 (by decide) ?_
              refine ev_iret dX12_behind_180 rfl ?_
              rw [if_pos (show K = 59 by rw [← g20]; exact h165)]
              first
                | (rw [if_pos (g22.mp h172)]; exact ⟨rfl, ⟨ρ2, hM, hE, hP⟩, hF⟩)
                | (rw [if_neg (fun q => h172 (g22.mpr q))]; exact ⟨rfl, ⟨ρ2, hM, hE, hP⟩, hF⟩)
            · refine ev_iconst (v := 2) dX12_behind_175 (by decide) ?_
              refine ev_goto (tgt := 180) dX12_behind_176 (by decide) ?_
              refine ev_iret dX12_behind_180 rfl ?_
              rw [if_pos (show K = 59 by rw [← g20]; exact h165)]
              first
                | (rw [if_pos (g22.mp h172)]; exact ⟨rfl, ⟨ρ2, hM, hE, hP⟩, hF⟩)
                | (rw [if_neg (fun q => h172 (g22.mpr q))]; exact ⟨rfl, ⟨ρ2, hM, hE, hP⟩, hF⟩)
        · refine ev_iconst (v := (-1)) dX12_behind_152 (by decide) ?_
          refine ev_iret dX12_behind_153 rfl ?_
          rw [if_neg (fun q => q h74), if_neg (by first | exact (n2 (fun q => h131 (e18.trans q))).2.2.1 | exact fun q => h140 (by rw [v2 (e18.symm.trans h131)]; exact q)), if_neg (by first | exact (n2 (fun q => h131 (e18.trans q))).2.2.2.1 | exact fun q => h149 (by rw [v2 (e18.symm.trans h131)]; exact q))]
          exact ⟨rfl, ⟨ρ, hM, hE, hP⟩, hF⟩
  · refine ev_iload_n dX12_behind_77 rfl ?_
    refine ev_iconst (v := 4) dX12_behind_78 (by decide) ?_
    refine ev_icmp_eq (tgt := 87) dX12_behind_79 (by decide) (fun h79 => ?_) (fun h79 => ?_)
    · refine ev_aload_n dX12_behind_87 rfl ?_
      refine ev_iconst (v := 5) dX12_behind_88 (by decide) ?_
      refine k_v (c_letsFrom hM hE.1 hr hP (by omega) 5) (by decide) dX12_behind_89 cbX12_letsFrom (mt5 169 rfl rfl) (mt5 171 rfl rfl) (ms0 54 rfl rfl) (ci := 12) rfl hM.1 rfl rfl (Nat.le_of_ble_eq_true rfl) (fun v μ1 hq => ?_)
      obtain ⟨rfl, ⟨ρ2, hM, hE2, hP⟩, hF2⟩ := hq; have hF := hF.tr hF2; have hE := hE2.tr hE
      simp only [Option.toList, List.cons_append, List.nil_append]
      refine ev_aload_n dX12_behind_92 rfl ?_
      refine k_v (c_top hM hE.1 hP (by have := hl5 5; omega)) (by decide) dX12_behind_93 cbX12_top (mt5 157 rfl rfl) (mt5 159 rfl rfl) (ms0 51 rfl rfl) (ci := 12) rfl hM.1 rfl rfl (Nat.le_of_ble_eq_true rfl) (fun v μ1 hq => ?_)
      obtain ⟨rfl, hμ⟩ := hq
      have hμ := hμ.symm
      subst hμ
      simp only [Option.toList, List.cons_append, List.nil_append]
      refine ev_iconst (v := 4) dX12_behind_96 (by decide) ?_
      refine ev_icmp_eq (tgt := 108) dX12_behind_97 (by decide) (fun h97 => ?_) (fun h97 => ?_)
      · refine ev_iconst (v := (-1)) dX12_behind_108 (by decide) ?_
        refine ev_iret dX12_behind_109 rfl ?_
        rw [if_pos h74, if_pos (by first | exact Or.inl h79 | exact Or.inr h84), if_pos (by first | exact Or.inl h97 | exact Or.inr h105)]
        exact ⟨rfl, ⟨ρ2, hM, hE, hP⟩, hF⟩
      · refine ev_aload_n dX12_behind_100 rfl ?_
        refine k_v (c_top hM hE.1 hP (by have := hl5 5; omega)) (by decide) dX12_behind_101 cbX12_top (mt5 157 rfl rfl) (mt5 159 rfl rfl) (ms0 51 rfl rfl) (ci := 12) rfl hM.1 rfl rfl (Nat.le_of_ble_eq_true rfl) (fun v μ1 hq => ?_)
        obtain ⟨rfl, hμ⟩ := hq
        have hμ := hμ.symm
        subst hμ
        simp only [Option.toList, List.cons_append, List.nil_append]
        refine ev_iconst (v := 5) dX12_behind_104 (by decide) ?_
        refine ev_icmp_ne (tgt := 118) dX12_behind_105 (by decide) (fun h105 => ?_) (fun h105 => ?_)
        · refine ev_aload_n dX12_behind_118 rfl ?_
          refine ev_iload_n dX12_behind_119 rfl ?_
          refine k_v (c_holds hM hE.1 hP (by first | (have := hl5 5; omega) | (have := hl5 (hgt x); omega)) x) (by decide) dX12_behind_120 cbX12_holds (mt5 161 rfl rfl) (mt5 163 rfl rfl) (ms0 52 rfl rfl) (ci := 12) rfl hM.1 rfl rfl (Nat.le_of_ble_eq_true rfl) (fun v μ1 hq => ?_)
          obtain ⟨rfl, ⟨ρ3, hM, hE3, hP⟩, hF3⟩ := hq; have hF := hF.tr hF3; have hE := hE3.tr hE
          simp only [Option.toList, List.cons_append, List.nil_append]
          refine ev_iconst (v := 1) dX12_behind_123 (by decide) ?_
          refine ev_iret dX12_behind_124 rfl ?_
          rw [if_pos h74]
          first
            | (rw [if_pos (by first | exact Or.inl h79 | exact Or.inr h84), if_neg (fun q => q.elim h97 h105)]; exact ⟨rfl, ⟨ρ3, hM, hE, hP⟩, hF⟩)
            | (rw [if_neg (fun q => q.elim h79 h84)]; exact ⟨rfl, ⟨ρ3, hM, hE, hP⟩, hF⟩)
        · refine ev_iconst (v := (-1)) dX12_behind_108 (by decide) ?_
          refine ev_iret dX12_behind_109 rfl ?_
          rw [if_pos h74, if_pos (by first | exact Or.inl h79 | exact Or.inr h84), if_pos (by first | exact Or.inl h97 | exact Or.inr h105)]
          exact ⟨rfl, ⟨ρ2, hM, hE, hP⟩, hF⟩
    · refine ev_iload_n dX12_behind_82 rfl ?_
      refine ev_iconst (v := 5) dX12_behind_83 (by decide) ?_
      refine ev_icmp_ne (tgt := 110) dX12_behind_84 (by decide) (fun h84 => ?_) (fun h84 => ?_)
      · refine ev_aload_n dX12_behind_110 rfl ?_
        refine ev_iload_n dX12_behind_111 rfl ?_
        refine k_s (show Pu g 0 mX12_heightOf [.int x] _ (hgt x) from c_heightOf x) (by decide) dX12_behind_112 cbX12_heightOf (mt5 173 rfl rfl) (mt5 174 rfl rfl) rfl rfl (Nat.le_of_ble_eq_true rfl) (fun v μ1 hq => ?_)
        obtain ⟨rfl, hμ⟩ := hq
        have hμ := hμ.symm
        subst hμ
        simp only [Option.toList, List.cons_append, List.nil_append]
        refine k_v (c_letsFrom hM hE.1 hr hP (by omega) (hgt x)) (by decide) dX12_behind_115 cbX12_letsFrom (mt5 169 rfl rfl) (mt5 171 rfl rfl) (ms0 54 rfl rfl) (ci := 12) rfl hM.1 rfl rfl (Nat.le_of_ble_eq_true rfl) (fun v μ1 hq => ?_)
        obtain ⟨rfl, ⟨ρ2, hM, hE2, hP⟩, hF2⟩ := hq; have hF := hF.tr hF2; have hE := hE2.tr hE
        simp only [Option.toList, List.cons_append, List.nil_append]
        refine ev_aload_n dX12_behind_118 rfl ?_
        refine ev_iload_n dX12_behind_119 rfl ?_
        refine k_v (c_holds hM hE.1 hP (by first | (have := hl5 5; omega) | (have := hl5 (hgt x); omega)) x) (by decide) dX12_behind_120 cbX12_holds (mt5 161 rfl rfl) (mt5 163 rfl rfl) (ms0 52 rfl rfl) (ci := 12) rfl hM.1 rfl rfl (Nat.le_of_ble_eq_true rfl) (fun v μ1 hq => ?_)
        obtain ⟨rfl, ⟨ρ3, hM, hE3, hP⟩, hF3⟩ := hq; have hF := hF.tr hF3; have hE := hE3.tr hE
        simp only [Option.toList, List.cons_append, List.nil_append]
        refine ev_iconst (v := 1) dX12_behind_123 (by decide) ?_
        refine ev_iret dX12_behind_124 rfl ?_
        rw [if_pos h74]
        first
          | (rw [if_pos (by first | exact Or.inl h79 | exact Or.inr h84), if_neg (fun q => q.elim h97 h105)]; exact ⟨rfl, ⟨ρ3, hM, hE, hP⟩, hF⟩)
          | (rw [if_neg (fun q => q.elim h79 h84)]; exact ⟨rfl, ⟨ρ3, hM, hE, hP⟩, hF⟩)
      · refine ev_aload_n dX12_behind_87 rfl ?_
        refine ev_iconst (v := 5) dX12_behind_88 (by decide) ?_
        refine k_v (c_letsFrom hM hE.1 hr hP (by omega) 5) (by decide) dX12_behind_89 cbX12_letsFrom (mt5 169 rfl rfl) (mt5 171 rfl rfl) (ms0 54 rfl rfl) (ci := 12) rfl hM.1 rfl rfl (Nat.le_of_ble_eq_true rfl) (fun v μ1 hq => ?_)
        obtain ⟨rfl, ⟨ρ2, hM, hE2, hP⟩, hF2⟩ := hq; have hF := hF.tr hF2; have hE := hE2.tr hE
        simp only [Option.toList, List.cons_append, List.nil_append]
        refine ev_aload_n dX12_behind_92 rfl ?_
        refine k_v (c_top hM hE.1 hP (by have := hl5 5; omega)) (by decide) dX12_behind_93 cbX12_top (mt5 157 rfl rfl) (mt5 159 rfl rfl) (ms0 51 rfl rfl) (ci := 12) rfl hM.1 rfl rfl (Nat.le_of_ble_eq_true rfl) (fun v μ1 hq => ?_)
        obtain ⟨rfl, hμ⟩ := hq
        have hμ := hμ.symm
        subst hμ
        simp only [Option.toList, List.cons_append, List.nil_append]
        refine ev_iconst (v := 4) dX12_behind_96 (by decide) ?_
        refine ev_icmp_eq (tgt := 108) dX12_behind_97 (by decide) (fun h97 => ?_) (fun h97 => ?_)
        · refine ev_iconst (v := (-1)) dX12_behind_108 (by decide) ?_
          refine ev_iret dX12_behind_109 rfl ?_
          rw [if_pos h74, if_pos (by first | exact Or.inl h79 | exact Or.inr h84), if_pos (by first | exact Or.inl h97 | exact Or.inr h105)]
          exact ⟨rfl, ⟨ρ2, hM, hE, hP⟩, hF⟩
        · refine ev_aload_n dX12_behind_100 rfl ?_
          refine k_v (c_top hM hE.1 hP (by have := hl5 5; omega)) (by decide) dX12_behind_101 cbX12_top (mt5 157 rfl rfl) (mt5 159 rfl rfl) (ms0 51 rfl rfl) (ci := 12) rfl hM.1 rfl rfl (Nat.le_of_ble_eq_true rfl) (fun v μ1 hq => ?_)
          obtain ⟨rfl, hμ⟩ := hq
          have hμ := hμ.symm
          subst hμ
          simp only [Option.toList, List.cons_append, List.nil_append]
          refine ev_iconst (v := 5) dX12_behind_104 (by decide) ?_
          refine ev_icmp_ne (tgt := 118) dX12_behind_105 (by decide) (fun h105 => ?_) (fun h105 => ?_)
          · refine ev_aload_n dX12_behind_118 rfl ?_
            refine ev_iload_n dX12_behind_119 rfl ?_
            refine k_v (c_holds hM hE.1 hP (by first | (have := hl5 5; omega) | (have := hl5 (hgt x); omega)) x) (by decide) dX12_behind_120 cbX12_holds (mt5 161 rfl rfl) (mt5 163 rfl rfl) (ms0 52 rfl rfl) (ci := 12) rfl hM.1 rfl rfl (Nat.le_of_ble_eq_true rfl) (fun v μ1 hq => ?_)
            obtain ⟨rfl, ⟨ρ3, hM, hE3, hP⟩, hF3⟩ := hq; have hF := hF.tr hF3; have hE := hE3.tr hE
            simp only [Option.toList, List.cons_append, List.nil_append]
            refine ev_iconst (v := 1) dX12_behind_123 (by decide) ?_
            refine ev_iret dX12_behind_124 rfl ?_
            rw [if_pos h74]
            first
              | (rw [if_pos (by first | exact Or.inl h79 | exact Or.inr h84), if_neg (fun q => q.elim h97 h105)]; exact ⟨rfl, ⟨ρ3, hM, hE, hP⟩, hF⟩)
              | (rw [if_neg (fun q => q.elim h79 h84)]; exact ⟨rfl, ⟨ρ3, hM, hE, hP⟩, hF⟩)
          · refine ev_iconst (v := (-1)) dX12_behind_108 (by decide) ?_
            refine ev_iret dX12_behind_109 rfl ?_
            rw [if_pos h74, if_pos (by first | exact Or.inl h79 | exact Or.inr h84), if_pos (by first | exact Or.inl h97 | exact Or.inr h105)]
            exact ⟨rfl, ⟨ρ2, hM, hE, hP⟩, hF⟩
theorem c_behind {μ : Mm} (hM : RM b ρ μ) (hL : ML ρ) (hr : r < 18) {P : PS} (hP : PM ρ r P) (h160 : szP P ≤ 159) {K V : Int32} (hK : K ∈ kinds) (hT : TkV ρ K V) : Mt g 3 mX12_behind [.ref b] μ (fun v μ' => v = some (.int (bhd K P).1) ∧ WrQ b r ρ (bhd K P).2 μ μ') := by
  refine Mt.of0 (ls0 := [some (.ref b), none]) (by decide) (by simp [Value.category]) (Nat.le_of_ble_eq_true rfl) rfl ?_
  have k1 := kd101 K hK
  have k2 := kd102 K hK
  have n1 := kdn1 K hK
  have n2 := kdn2 K hK
  refine ev_aload_n dX12_behind_0 rfl ?_
  refine ev_bipush (v := 7) dX12_behind_1 (by decide) ?_
  refine k_v (c_letsFrom hM hL hr hP (by omega) 7) (by decide) dX12_behind_3 cbX12_letsFrom (mt5 169 rfl rfl) (mt5 171 rfl rfl) (ms0 54 rfl rfl) (ci := 12) rfl hM.1 rfl rfl (Nat.le_of_ble_eq_true rfl) (fun v μ1 hq => ?_)
  obtain ⟨rfl, ⟨ρ2, hM, hE, hP⟩, hF⟩ := hq
  have hT2 : TkV ρ2 K V := ⟨hE.tk.1.trans hT.1, fun q => hE.tk.2.trans (hT.2 q)⟩
  have e18 := hT2.1
  have e20 := hT2.2
  have v1 : rkT K = 101 → ρ2.2 20 = rkV K 0 := fun q => by rw [e20 (k1 q).2.2.2.2.2.2.1, rkV_v (k1 q).2.2.2.2.2.1]
  have v2 : rkT K = 102 → ρ2.2 20 = K := fun q => by rw [e20 (k2 q).2.2.1, rkV_v (k2 q).2.1, (k2 q).1]
  simp only [Option.toList, List.cons_append, List.nil_append]
  refine ev_aload_n dX12_behind_6 rfl ?_
  refine ev_get dX12_behind_7 flX12_109_12 hM.1 rfl ?_
  refine ev_bipush (v := 102) dX12_behind_10 (by decide) ?_
  refine ev_icmp_ne (tgt := 25) dX12_behind_12 (by decide) (fun h12 => ?_) (fun h12 => ?_)
  · refine ev_aload_n dX12_behind_25 rfl ?_
    refine ev_get dX12_behind_26 flX12_109_12 hM.1 rfl ?_
    refine ev_bipush (v := 101) dX12_behind_29 (by decide) ?_
    refine ev_icmp_ne (tgt := 48) dX12_behind_31 (by decide) (fun h31 => ?_) (fun h31 => ?_)
    · refine ev_aload_n dX12_behind_48 rfl ?_
      refine ev_get dX12_behind_49 flX12_109_12 hM.1 rfl ?_
      refine ev_bipush (v := 101) dX12_behind_52 (by decide) ?_
      refine ev_icmp_ne (tgt := 71) dX12_behind_54 (by decide) (fun h54 => ?_) (fun h54 => ?_)
      · refine ev_iconst (v := 0) dX12_behind_71 (by decide) ?_
        refine l_behind72 hM hE hF hr hP h160 hK hT2 ?_
        first
          | (have q1 : rkT K = 102 := e18.symm.trans h12
             rw [bhD, if_neg (k2 q1).2.2.2.2.1, if_neg (k2 q1).2.2.2.2.2.1, v2 q1])
          | (have q1 : rkT K = 101 := e18.symm.trans h31
             have q6 : K = 6 := (k1 q1).2.2.1.mp ((v1 q1).symm.trans h40)
             rw [q6]; decide)
          | (have q1 : rkT K = 101 := e18.symm.trans h54
             have q7 : K = 7 := (k1 q1).2.2.2.1.mp ((v1 q1).symm.trans h63)
             rw [q7]; decide)
          | (have g := (n2 (fun q => h12 (e18.trans q))).2.2.2.2
             have g6 : ¬ K = 6 := by
               first
                 | exact (n1 (fun q => h31 (e18.trans q))).2.1
                 | (have q1 : rkT K = 101 := e18.symm.trans h31
                    exact fun q => h40 (by rw [v1 q1]; exact (k1 q1).2.2.1.mpr q))
             have g7 : ¬ K = 7 := by
               first
                 | exact (n1 (fun q => h54 (e18.trans q))).2.2.1
                 | (have q1 : rkT K = 101 := e18.symm.trans h54
                    exact fun q => h63 (by rw [v1 q1]; exact (k1 q1).2.2.2.1.mpr q))
             rw [bhD, if_neg g6, if_neg g7, g])
      · refine ev_aload_n dX12_behind_57 rfl ?_
        refine ev_get dX12_behind_58 flX12_112_12 hM.1 rfl ?_
        refine ev_bipush (v := 10) dX12_behind_61 (by decide) ?_
        refine ev_icmp_ne (tgt := 71) dX12_behind_63 (by decide) (fun h63 => ?_) (fun h63 => ?_)
        · refine ev_iconst (v := 0) dX12_behind_71 (by decide) ?_
          refine l_behind72 hM hE hF hr hP h160 hK hT2 ?_
          first
            | (have q1 : rkT K = 102 := e18.symm.trans h12
               rw [bhD, if_neg (k2 q1).2.2.2.2.1, if_neg (k2 q1).2.2.2.2.2.1, v2 q1])
            | (have q1 : rkT K = 101 := e18.symm.trans h31
               have q6 : K = 6 := (k1 q1).2.2.1.mp ((v1 q1).symm.trans h40)
               rw [q6]; decide)
            | (have q1 : rkT K = 101 := e18.symm.trans h54
               have q7 : K = 7 := (k1 q1).2.2.2.1.mp ((v1 q1).symm.trans h63)
               rw [q7]; decide)
            | (have g := (n2 (fun q => h12 (e18.trans q))).2.2.2.2
               have g6 : ¬ K = 6 := by
                 first
                   | exact (n1 (fun q => h31 (e18.trans q))).2.1
                   | (have q1 : rkT K = 101 := e18.symm.trans h31
                      exact fun q => h40 (by rw [v1 q1]; exact (k1 q1).2.2.1.mpr q))
               have g7 : ¬ K = 7 := by
                 first
                   | exact (n1 (fun q => h54 (e18.trans q))).2.2.1
                   | (have q1 : rkT K = 101 := e18.symm.trans h54
                      exact fun q => h63 (by rw [v1 q1]; exact (k1 q1).2.2.2.1.mpr q))
               rw [bhD, if_neg g6, if_neg g7, g])
        · refine ev_bipush (v := 6) dX12_behind_66 (by decide) ?_
          refine ev_goto (tgt := 72) dX12_behind_68 (by decide) ?_
          refine l_behind72 hM hE hF hr hP h160 hK hT2 ?_
          first
            | (have q1 : rkT K = 102 := e18.symm.trans h12
               rw [bhD, if_neg (k2 q1).2.2.2.2.1, if_neg (k2 q1).2.2.2.2.2.1, v2 q1])
            | (have q1 : rkT K = 101 := e18.symm.trans h31
               have q6 : K = 6 := (k1 q1).2.2.1.mp ((v1 q1).symm.trans h40)
               rw [q6]; decide)
            | (have q1 : rkT K = 101 := e18.symm.trans h54
               have q7 : K = 7 := (k1 q1).2.2.2.1.mp ((v1 q1).symm.trans h63)
               rw [q7]; decide)
            | (have g := (n2 (fun q => h12 (e18.trans q))).2.2.2.2
               have g6 : ¬ K = 6 := by
                 first
                   | exact (n1 (fun q => h31 (e18.trans q))).2.1
                   | (have q1 : rkT K = 101 := e18.symm.trans h31
                      exact fun q => h40 (by rw [v1 q1]; exact (k1 q1).2.2.1.mpr q))
               have g7 : ¬ K = 7 := by
                 first
                   | exact (n1 (fun q => h54 (e18.trans q))).2.2.1
                   | (have q1 : rkT K = 101 := e18.symm.trans h54
                      exact fun q => h63 (by rw [v1 q1]; exact (k1 q1).2.2.2.1.mpr q))
               rw [bhD, if_neg g6, if_neg g7, g])
    · refine ev_aload_n dX12_behind_34 rfl ?_
      refine ev_get dX12_behind_35 flX12_112_12 hM.1 rfl ?_
      refine ev_bipush (v := 9) dX12_behind_38 (by decide) ?_
      refine ev_icmp_ne (tgt := 48) dX12_behind_40 (by decide) (fun h40 => ?_) (fun h40 => ?_)
      · refine ev_aload_n dX12_behind_48 rfl ?_
        refine ev_get dX12_behind_49 flX12_109_12 hM.1 rfl ?_
        refine ev_bipush (v := 101) dX12_behind_52 (by decide) ?_
        refine ev_icmp_ne (tgt := 71) dX12_behind_54 (by decide) (fun h54 => ?_) (fun h54 => ?_)
        · refine ev_iconst (v := 0) dX12_behind_71 (by decide) ?_
          refine l_behind72 hM hE hF hr hP h160 hK hT2 ?_
          first
            | (have q1 : rkT K = 102 := e18.symm.trans h12
               rw [bhD, if_neg (k2 q1).2.2.2.2.1, if_neg (k2 q1).2.2.2.2.2.1, v2 q1])
            | (have q1 : rkT K = 101 := e18.symm.trans h31
               have q6 : K = 6 := (k1 q1).2.2.1.mp ((v1 q1).symm.trans h40)
               rw [q6]; decide)
            | (have q1 : rkT K = 101 := e18.symm.trans h54
               have q7 : K = 7 := (k1 q1).2.2.2.1.mp ((v1 q1).symm.trans h63)
               rw [q7]; decide)
            | (have g := (n2 (fun q => h12 (e18.trans q))).2.2.2.2
               have g6 : ¬ K = 6 := by
                 first
                   | exact (n1 (fun q => h31 (e18.trans q))).2.1
                   | (have q1 : rkT K = 101 := e18.symm.trans h31
                      exact fun q => h40 (by rw [v1 q1]; exact (k1 q1).2.2.1.mpr q))
               have g7 : ¬ K = 7 := by
                 first
                   | exact (n1 (fun q => h54 (e18.trans q))).2.2.1
                   | (have q1 : rkT K = 101 := e18.symm.trans h54
                      exact fun q => h63 (by rw [v1 q1]; exact (k1 q1).2.2.2.1.mpr q))
               rw [bhD, if_neg g6, if_neg g7, g])
        · refine ev_aload_n dX12_behind_57 rfl ?_
          refine ev_get dX12_behind_58 flX12_112_12 hM.1 rfl ?_
          refine ev_bipush (v := 10) dX12_behind_61 (by decide) ?_
          refine ev_icmp_ne (tgt := 71) dX12_behind_63 (by decide) (fun h63 => ?_) (fun h63 => ?_)
          · refine ev_iconst (v := 0) dX12_behind_71 (by decide) ?_
            refine l_behind72 hM hE hF hr hP h160 hK hT2 ?_
            first
              | (have q1 : rkT K = 102 := e18.symm.trans h12
                 rw [bhD, if_neg (k2 q1).2.2.2.2.1, if_neg (k2 q1).2.2.2.2.2.1, v2 q1])
              | (have q1 : rkT K = 101 := e18.symm.trans h31
                 have q6 : K = 6 := (k1 q1).2.2.1.mp ((v1 q1).symm.trans h40)
                 rw [q6]; decide)
              | (have q1 : rkT K = 101 := e18.symm.trans h54
                 have q7 : K = 7 := (k1 q1).2.2.2.1.mp ((v1 q1).symm.trans h63)
                 rw [q7]; decide)
              | (have g := (n2 (fun q => h12 (e18.trans q))).2.2.2.2
                 have g6 : ¬ K = 6 := by
                   first
                     | exact (n1 (fun q => h31 (e18.trans q))).2.1
                     | (have q1 : rkT K = 101 := e18.symm.trans h31
                        exact fun q => h40 (by rw [v1 q1]; exact (k1 q1).2.2.1.mpr q))
                 have g7 : ¬ K = 7 := by
                   first
                     | exact (n1 (fun q => h54 (e18.trans q))).2.2.1
                     | (have q1 : rkT K = 101 := e18.symm.trans h54
                        exact fun q => h63 (by rw [v1 q1]; exact (k1 q1).2.2.2.1.mpr q))
                 rw [bhD, if_neg g6, if_neg g7, g])
          · refine ev_bipush (v := 6) dX12_behind_66 (by decide) ?_
            refine ev_goto (tgt := 72) dX12_behind_68 (by decide) ?_
            refine l_behind72 hM hE hF hr hP h160 hK hT2 ?_
            first
              | (have q1 : rkT K = 102 := e18.symm.trans h12
                 rw [bhD, if_neg (k2 q1).2.2.2.2.1, if_neg (k2 q1).2.2.2.2.2.1, v2 q1])
              | (have q1 : rkT K = 101 := e18.symm.trans h31
                 have q6 : K = 6 := (k1 q1).2.2.1.mp ((v1 q1).symm.trans h40)
                 rw [q6]; decide)
              | (have q1 : rkT K = 101 := e18.symm.trans h54
                 have q7 : K = 7 := (k1 q1).2.2.2.1.mp ((v1 q1).symm.trans h63)
                 rw [q7]; decide)
              | (have g := (n2 (fun q => h12 (e18.trans q))).2.2.2.2
                 have g6 : ¬ K = 6 := by
                   first
                     | exact (n1 (fun q => h31 (e18.trans q))).2.1
                     | (have q1 : rkT K = 101 := e18.symm.trans h31
                        exact fun q => h40 (by rw [v1 q1]; exact (k1 q1).2.2.1.mpr q))
                 have g7 : ¬ K = 7 := by
                   first
                     | exact (n1 (fun q => h54 (e18.trans q))).2.2.1
                     | (have q1 : rkT K = 101 := e18.symm.trans h54
                        exact fun q => h63 (by rw [v1 q1]; exact (k1 q1).2.2.2.1.mpr q))
                 rw [bhD, if_neg g6, if_neg g7, g])
      · refine ev_bipush (v := 7) dX12_behind_43 (by decide) ?_
        refine ev_goto (tgt := 72) dX12_behind_45 (by decide) ?_
        refine l_behind72 hM hE hF hr hP h160 hK hT2 ?_
        first
          | (have q1 : rkT K = 102 := e18.symm.trans h12
             rw [bhD, if_neg (k2 q1).2.2.2.2.1, if_neg (k2 q1).2.2.2.2.2.1, v2 q1])
          | (have q1 : rkT K = 101 := e18.symm.trans h31
             have q6 : K = 6 := (k1 q1).2.2.1.mp ((v1 q1).symm.trans h40)
             rw [q6]; decide)
          | (have q1 : rkT K = 101 := e18.symm.trans h54
             have q7 : K = 7 := (k1 q1).2.2.2.1.mp ((v1 q1).symm.trans h63)
             rw [q7]; decide)
          | (have g := (n2 (fun q => h12 (e18.trans q))).2.2.2.2
             have g6 : ¬ K = 6 := by
               first
                 | exact (n1 (fun q => h31 (e18.trans q))).2.1
                 | (have q1 : rkT K = 101 := e18.symm.trans h31
                    exact fun q => h40 (by rw [v1 q1]; exact (k1 q1).2.2.1.mpr q))
             have g7 : ¬ K = 7 := by
               first
                 | exact (n1 (fun q => h54 (e18.trans q))).2.2.1
                 | (have q1 : rkT K = 101 := e18.symm.trans h54
                    exact fun q => h63 (by rw [v1 q1]; exact (k1 q1).2.2.2.1.mpr q))
             rw [bhD, if_neg g6, if_neg g7, g])
  · refine ev_aload_n dX12_behind_15 rfl ?_
    refine ev_get dX12_behind_16 flX12_112_12 hM.1 rfl ?_
    refine k_s (show Pu g 0 mX12_deedOf [.int (ρ2.2 20)] _ (dOf (ρ2.2 20)) from c_deedOf _) (by decide) dX12_behind_19 cbX12_deedOf (mt5 180 rfl rfl) (mt5 181 rfl rfl) rfl rfl (Nat.le_of_ble_eq_true rfl) (fun v μ1 hq => ?_)
    obtain ⟨rfl, hμ⟩ := hq
    have hμ := hμ.symm
    subst hμ
    simp only [Option.toList, List.cons_append, List.nil_append]
    refine ev_goto (tgt := 72) dX12_behind_22 (by decide) ?_
    refine l_behind72 hM hE hF hr hP h160 hK hT2 ?_
    first
      | (have q1 : rkT K = 102 := e18.symm.trans h12
         rw [bhD, if_neg (k2 q1).2.2.2.2.1, if_neg (k2 q1).2.2.2.2.2.1, v2 q1])
      | (have q1 : rkT K = 101 := e18.symm.trans h31
         have q6 : K = 6 := (k1 q1).2.2.1.mp ((v1 q1).symm.trans h40)
         rw [q6]; decide)
      | (have q1 : rkT K = 101 := e18.symm.trans h54
         have q7 : K = 7 := (k1 q1).2.2.2.1.mp ((v1 q1).symm.trans h63)
         rw [q7]; decide)
      | (have g := (n2 (fun q => h12 (e18.trans q))).2.2.2.2
         have g6 : ¬ K = 6 := by
           first
             | exact (n1 (fun q => h31 (e18.trans q))).2.1
             | (have q1 : rkT K = 101 := e18.symm.trans h31
                exact fun q => h40 (by rw [v1 q1]; exact (k1 q1).2.2.1.mpr q))
         have g7 : ¬ K = 7 := by
           first
             | exact (n1 (fun q => h54 (e18.trans q))).2.2.1
             | (have q1 : rkT K = 101 := e18.symm.trans h54
                exact fun q => h63 (by rw [v1 q1]; exact (k1 q1).2.2.2.1.mpr q))
         rw [bhD, if_neg g6, if_neg g7, g])
end MBEHIND
