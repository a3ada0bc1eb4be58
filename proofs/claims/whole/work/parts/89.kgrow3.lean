/-! ===== the class's search: grow, all depths ===== -/
section KGROW3
variable {g : Gl} {a m tx n t o so' : Nat} {ρ : MS} {cd : Nat → List Int32}
theorem c_grow (hV : VF (Fc ρ)) (hS : VS (Se ρ)) (hn7 : n ≤ 7) (h6 : (ρ.1 6).length = 10) : ∀ (m' d u : Nat) (P bo : List Nat) (z : W6) (p s : Int32) (σ : KS) (μ : Mm), KHs ρ n m σ → σ.1 3 = ρ.1 6 → SX a ρ n t cd so' o σ → GrP a m tx n o m' d u P z p s bo σ μ → Mt g (6 + 2 * m') mX6_grow [.ref (a + o), .int (nI d), .int (nI u), .int p] μ (GrQ a m tx o d σ μ (srK (VlS ρ t cd so' z p) P (pmK m' (usd u n 0)) (s, bo))) := by
  intro m'
  induction m' with
  | zero =>
    intro d u P bo z p s σ μ hH h3 hX hP
    exact c_grow0 hV hS hn7 hH h3 (by rw [h3]; exact h6) hX hP
  | succ m' ih =>
    intro d u P bo z p s σ μ hH h3 hX hP
    rw [show 6 + 2 * (m' + 1) = 6 + 2 * m' + 1 + 1 by omega]
    obtain ⟨g1, g2, g3, g4, g5, g6, g7, g8, g9, g10, hM, g12, g13, g14, g15⟩ := hP
    have hl3 : (σ.1 3).length = 10 := by rw [h3]; exact h6
    have ho := hX.so
    have hobj := hM.srch ho hX.2.2.2.2.1
    have e10 := hX.2.2.2.1
    rw [e10, g12] at hobj
    have hwl := kWl_at hM ho
    have hwk := hM.o (o + 7 + d) 10 (ho.w (by omega))
    have ez : kI σ (o + 7 + d) 0 = z.1 := by rw [← g5]
    have hF : FC a μ μ := FC.rf
    refine Mt.of0 (ls0 := [some (.ref (a + o)), some (.int (nI d)), some (.int (nI u)), some (.int p), none, none]) (by decide) (by simp [Value.category]) (Nat.le_of_ble_eq_true rfl) rfl ?_
    by_cases hs : s < hpK (Fc ρ) (Se ρ) (HTs (Fc ρ) (Se ρ) (cdt t cd) (nI so')) (nI so') (usd u n 0) z p
    · have epm : pmK (m' + 1) (usd u n 0) = (usd u n 0).flatMap (fun h => (pmK m' ((usd u n 0).erase h)).map (fun r => h :: r)) := rfl
      rw [epm, srK_pm]
      refine ev_aload_n dX6_grow_0 rfl ?_
      refine ev_aload_n dX6_grow_1 rfl ?_
      refine ev_get dX6_grow_2 flX6_25_6 hobj rfl ?_
      refine ev_iload_n dX6_grow_5 rfl ?_
      refine ev_aald dX6_grow_6 hwl (by decide) (by decide) (ix_n (by omega)) (kWl_i (by omega)) ?_
      refine ev_get dX6_grow_7 flX6_93_10 hwk rfl ?_
      rw [ez]
      refine ev_iload_n dX6_grow_10 rfl ?_
      refine ev_iload_n dX6_grow_11 rfl ?_
      refine k_v (c_kHopeOf hV hS hn7 hM hH h3 hl3 hX u z p) (Nat.le_trans (show 5 ≤ 6 by decide) (Nat.le_trans (Nat.le_add_right 6 (2 * m')) (Nat.le_succ _))) dX6_grow_12 cbX6_hopeOf (mt4 99 rfl rfl) (mt4 101 rfl rfl) (ms0 36 rfl rfl) (ci := 6) rfl hobj rfl rfl (Nat.le_of_ble_eq_true rfl) (fun v μ1 hq => ?_)
      obtain ⟨rfl, hμ⟩ := hq
      have hμ := hμ.symm
      subst hμ
      simp only [Option.toList, List.cons_append, List.nil_append]
      refine ev_istore dX6_grow_15 (by decide) ?_
      dsimp only [List.set]
      refine ev_iload dX6_grow_17 rfl ?_
      refine ev_aload_n dX6_grow_19 rfl ?_
      refine ev_get dX6_grow_20 flX6_15_6 hobj rfl ?_
      refine ev_icmp_gt (tgt := 27) dX6_grow_23 (by decide) (fun _ => ?_) (fun h23 => absurd (hs) h23)
      refine ev_iload_n dX6_grow_27 rfl ?_
      refine ev_aload_n dX6_grow_28 rfl ?_
      refine ev_get dX6_grow_29 flX6_41_6 hobj rfl ?_
      refine ev_icmp_lt (tgt := 59) dX6_grow_32 (by decide) (fun _ => ?_) (fun h32 => absurd ((show nI d < nI n from nI_lt (by omega) (by omega))) h32)
      refine ev_iconst (v := 0) dX6_grow_59 (by decide) ?_
      refine ev_istore dX6_grow_60 (by decide) ?_
      dsimp only [List.set]
      exact l_grow hV hS hn7 hH h3 hl3 hX g1 g2 g3 g4 g6 g7 g8 g9 g5 g10 g14 g15 (fun u' P' bo z' p' s σ μ hH h3 hX hP => ih (d + 1) u' P' bo z' p' s σ μ hH h3 hX hP) n 0 s bo σ _ (by omega) hM EqD.rf g12 g13 hF
    · rw [gr_no hV hS hn7 g4 (by omega) g6 g7 g8 g9 hs]
      refine ev_aload_n dX6_grow_0 rfl ?_
      refine ev_aload_n dX6_grow_1 rfl ?_
      refine ev_get dX6_grow_2 flX6_25_6 hobj rfl ?_
      refine ev_iload_n dX6_grow_5 rfl ?_
      refine ev_aald dX6_grow_6 hwl (by decide) (by decide) (ix_n (by omega)) (kWl_i (by omega)) ?_
      refine ev_get dX6_grow_7 flX6_93_10 hwk rfl ?_
      rw [ez]
      refine ev_iload_n dX6_grow_10 rfl ?_
      refine ev_iload_n dX6_grow_11 rfl ?_
      refine k_v (c_kHopeOf hV hS hn7 hM hH h3 hl3 hX u z p) (Nat.le_trans (show 5 ≤ 6 by decide) (Nat.le_trans (Nat.le_add_right 6 (2 * m')) (Nat.le_succ _))) dX6_grow_12 cbX6_hopeOf (mt4 99 rfl rfl) (mt4 101 rfl rfl) (ms0 36 rfl rfl) (ci := 6) rfl hobj rfl rfl (Nat.le_of_ble_eq_true rfl) (fun v μ1 hq => ?_)
      obtain ⟨rfl, hμ⟩ := hq
      have hμ := hμ.symm
      subst hμ
      simp only [Option.toList, List.cons_append, List.nil_append]
      refine ev_istore dX6_grow_15 (by decide) ?_
      dsimp only [List.set]
      refine ev_iload dX6_grow_17 rfl ?_
      refine ev_aload_n dX6_grow_19 rfl ?_
      refine ev_get dX6_grow_20 flX6_15_6 hobj rfl ?_
      refine ev_icmp_gt (tgt := 27) dX6_grow_23 (by decide) (fun h23 => absurd h23 (hs)) (fun _ => ?_)
      refine ev_vret dX6_grow_26 rfl ?_
      exact ⟨rfl, ⟨σ, hM, EqD.rf, g12, g13⟩, hF⟩
end KGROW3
