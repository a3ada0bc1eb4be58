/-! ===== the class: swap, bag, force, set, feed ===== -/
def KT8 (ρ : MS) (n t tx : Nat) (cd : Nat → List Int32) (Lf : Nat → Nat) (m : Nat) (σ : KS) : Prop := KLn σ ∧ σ.1 3 = ρ.1 6 ∧ KHs ρ n m σ ∧ KLs n Lf σ ∧ KRd ρ σ ∧ KRu t tx cd σ ∧ KSh ρ σ ∧ KKp ρ n tx σ
def KS0 (σ : KS) : Prop := ∀ so, so < 2 → kI σ (12 + 17 * so) 3 = nI so
def fgt (σ : KS) : KS := ksI (ksI σ 12 2 0) 29 2 0
abbrev fgtK (σ : KS) : KS := fgt σ
/-- the found orders hold for the settings as they are -/
def GI (ρ : MS) : Prop := ρ.1 99 = ρ.1 6
def gho (ρ : MS) : MS := setA ρ 99 (ρ.1 6)
theorem GI.eq {ρ : MS} (h : GI ρ) : gho ρ = ρ := by
  unfold gho
  rw [← h]
  exact setA_self
theorem gho_gi (ρ : MS) : GI (gho ρ) := by
  show (if 99 = 99 then ρ.1 6 else ρ.1 99) = (if 6 = 99 then ρ.1 6 else ρ.1 6)
  rw [if_pos rfl, if_neg (by decide)]
theorem gho_eqc {ρ : MS} : EqC (gho ρ) ρ := EqC.rf.sA (by decide)
section KT8S
variable {ρ ρ' : MS} {n t tx : Nat} {cd : Nat → List Int32} {Lf : Nat → Nat} {m : Nat} {σ : KS}
theorem KTie.t8 (h : KTie ρ n t tx cd Lf m σ) : KT8 ρ n t tx cd Lf m σ := ⟨h.1, h.2.1, h.2.2.1, h.2.2.2.1, h.2.2.2.2.1, h.2.2.2.2.2.1, h.2.2.2.2.2.2.1, h.2.2.2.2.2.2.2.1⟩
theorem KTie.bs (h : KTie ρ n t tx cd Lf m σ) : KBs ρ n t cd σ := h.2.2.2.2.2.2.2.2
theorem KTie.s0 (h : KTie ρ n t tx cd Lf m σ) : KS0 σ := fun so hso => (h.bs so hso).1
theorem KT8.tie (h : KT8 ρ n t tx cd Lf m σ) (hB : KBs ρ n t cd σ) : KTie ρ n t tx cd Lf m σ := ⟨h.1, h.2.1, h.2.2.1, h.2.2.2.1, h.2.2.2.2.1, h.2.2.2.2.2.1, h.2.2.2.2.2.2.1, h.2.2.2.2.2.2.2, hB⟩
theorem fgt_ne {o k : Nat} (h1 : o ≠ 12) (h2 : o ≠ 29) : kI (fgt σ) o k = kI σ o k := by
  unfold fgt
  rw [ksI_ne h2, ksI_ne h1]
theorem KBs.of0 (h : KS0 σ) (ρ : MS) (n t : Nat) (cd : Nat → List Int32) : KBs ρ n t cd (fgt σ) := by
  intro so hso
  have e : so = 0 ∨ so = 1 := by omega
  rcases e with rfl | rfl
  · exact ⟨h 0 hso, Or.inl rfl⟩
  · exact ⟨h 1 hso, Or.inl rfl⟩
theorem KT8.fgt (h : KT8 ρ n t tx cd Lf m σ) : KT8 ρ n t tx cd Lf m (fgt σ) := by
  obtain ⟨h1, h2, h3, h4, h5, h6, h7, h8⟩ := h
  refine ⟨h1, h2, ⟨h3.1, h3.2.1, fun x hx => ?_⟩, h4, h5, ⟨h6.1, h6.2.1, fun r hr => ?_⟩, fun s hs => ?_, h8⟩
  · obtain ⟨x1, x2, x3⟩ := h3.2.2 x hx
    exact ⟨x1, (fgt_ne (by omega) (by omega)).trans x2, fun k hk => (fgt_ne (by omega) (by omega)).trans (x3 k hk)⟩
  · obtain ⟨x1, x2, x3, x4, x5⟩ := h6.2.2 r hr
    exact ⟨x1, (fgt_ne (by omega) (by omega)).trans x2, (fgt_ne (by omega) (by omega)).trans x3, x4, x5⟩
  · obtain ⟨x1, x2, x3⟩ := h7 s hs
    exact ⟨(fgt_ne (by omega) (by omega)).trans x1, (fgt_ne (by omega) (by omega)).trans x2, x3⟩
theorem KT8.eqc (h : KT8 ρ n t tx cd Lf m σ) (e : EqC ρ' ρ) : KT8 ρ' n t tx cd Lf m σ := by
  obtain ⟨h1, h2, h3, h4, h5, h6, h7, h8⟩ := h
  have r := fun k (hk : k ∈ coreA) => e.1 k hk
  refine ⟨h1, by rw [r 6 (by decide)]; exact h2, ⟨h3.1, h3.2.1, fun x hx => ?_⟩, h4, ?_, h6, ?_, ?_⟩
  · rw [e.fc]; exact h3.2.2 x hx
  · unfold KRd; rw [e.2 15 (by decide), r 10 (by decide)]; exact h5
  · unfold KSh; rw [r 33 (by decide), r 34 (by decide), r 35 (by decide)]; exact h7
  · unfold KKp KImg; rw [e.2 30 (by decide), r 29 (by decide)]; exact h8
/-- all is told again, the found orders are forgotten -/
theorem KT8.kv {a : Nat} {μ : Mm} (h : KT8 ρ n t tx cd Lf m σ) (h0 : KS0 σ) (hM : KM a m tx (fgtK σ) μ) : KV a (gho ρ) n t tx cd Lf m μ := ⟨_, hM, (h.fgt.eqc gho_eqc).tie (KBs.of0 h0 _ _ _ _)⟩
theorem KV.gh {a : Nat} {μ : Mm} (hG : GI ρ) (h : KV a ρ n t tx cd Lf m μ) : KV a (gho ρ) n t tx cd Lf m μ := by rw [hG.eq]; exact h
end KT8S
theorem bst_eq {ρ ρ' : MS} (hF : Fc ρ' = Fc ρ) (hS : Se ρ' = Se ρ) {n t : Nat} {cd : Nat → List Int32} {so : Int32} : bst ρ' n t cd so = bst ρ n t cd so := by
  have e : eB ρ' n t cd so = eB ρ n t cd so := by
    funext os
    unfold eB
    rw [hF, hS]
  unfold bst
  rw [e]
theorem KBs.eq {ρ ρ' : MS} {n t : Nat} {cd : Nat → List Int32} {σ : KS} (h : KBs ρ n t cd σ) (hF : Fc ρ' = Fc ρ) (h99 : ρ'.1 99 = ρ.1 99) : KBs ρ' n t cd σ := by
  intro so hso
  have e1 : Fc (gst ρ') = Fc (gst ρ) := by unfold gst; rw [Fc_s6, Fc_s6, hF]
  have e2 : Se (gst ρ') = Se (gst ρ) := by
    funext i
    show ((setA ρ' 6 (ρ'.1 99)).1 6).getD i 0 = ((setA ρ 6 (ρ.1 99)).1 6).getD i 0
    rw [setA_at, setA_at, h99]
  rw [bst_eq e1 e2, bst_eq e1 e2, bst_eq e1 e2]
  exact h so hso
section KMUT
variable {g : Gl} {a m tx n t : Nat} {ρ : MS} {cd : Nat → List Int32} {Lf : Nat → Nat} {σ : KS} {μ : Mm}
theorem c_kForget (hM : KM a m tx σ μ) : Mt g 0 mX11_forgetBest [.ref a] μ (fun v μ' => v = none ∧ KM a m tx (fgt σ) μ' ∧ FC a μ μ') := by
  refine Mt.of0 (ls0 := [some (.ref a)]) (by decide) (by simp [Value.category]) (Nat.le_of_ble_eq_true rfl) rfl ?_
  have hF : FC a μ μ := FC.rf
  refine ev_aload_n dX11_forgetBest_0 rfl ?_
  refine ev_get dX11_forgetBest_1 flX11_77_11 (hM.o 0 11 (by decide)) rfl ?_
  refine ev_iconst (v := 0) dX11_forgetBest_4 (by decide) ?_
  refine evK_put hM hF (o := 12) (ci := 6) (k := 2) (by decide) (by decide) dX11_forgetBest_5 fpX11_317_6 (by decide) (by decide) (fun μ hM hF => ?_)
  refine ev_aload_n dX11_forgetBest_8 rfl ?_
  refine ev_get dX11_forgetBest_9 flX11_81_11 (hM.o 0 11 (by decide)) rfl ?_
  refine ev_iconst (v := 0) dX11_forgetBest_12 (by decide) ?_
  refine evK_put hM hF (o := 29) (ci := 6) (k := 2) (by decide) (by decide) dX11_forgetBest_13 fpX11_317_6 (by decide) (by decide) (fun μ hM hF => ?_)
  refine ev_vret dX11_forgetBest_16 rfl ?_
  exact ⟨rfl, hM, hF⟩
theorem c_kBag (hG : GI ρ) (hM : KM a m tx σ μ) (hT : KTie ρ n t tx cd Lf m σ) (w v : Int32) : Mt g 1 mX11_bag [.ref a, .int w, .int v] μ (fun r μ' => r = some (.int (opBag ρ w v).1) ∧ KV a (gho (opBag ρ w v).2) n t tx cd Lf m μ' ∧ FC a μ μ') := by
  refine Mt.of0 (ls0 := [some (.ref a), some (.int w), some (.int v), none]) (by decide) (by simp [Value.category]) (Nat.le_of_ble_eq_true rfl) rfl ?_
  have hF : FC a μ μ := FC.rf
  have hl3 : (σ.1 3).length = 10 := hT.ln (k := 3) (by decide)
  have e3 : σ.1 3 = ρ.1 6 := hT.tm
  have hw : ¬ w < 0 → ¬ 10 ≤ w → 0 ≤ w ∧ w ≤ 9 := by
    intro q1 q2
    refine ⟨Int32.not_lt.mp q1, ?_⟩
    rw [Int32.le_iff_toInt_le] at q2 ⊢
    simp only [Int32.reduceToInt] at q2 ⊢
    omega
  rw [opBag]
  refine ev_iload_n dX11_bag_0 rfl ?_
  refine ev_if_lt (tgt := 28) dX11_bag_1 (by decide) (fun h1 => ?_) (fun h1 => ?_)
  · refine ev_bipush (v := (-2)) dX11_bag_28 (by decide) ?_
    refine ev_iret dX11_bag_30 rfl ?_
    rw [if_neg (fun q => by first | exact Int32.not_lt.mpr q.1.1 h1 | exact absurd (Int32.le_trans h7 q.1.2) (by decide) | exact Int32.not_lt.mpr q.2.1 h16 | exact h25 q.2.2)]
    exact ⟨rfl, KV.gh hG ⟨σ, hM, hT⟩, hF⟩
  · refine ev_iload_n dX11_bag_4 rfl ?_
    refine ev_bipush (v := 10) dX11_bag_5 (by decide) ?_
    refine ev_icmp_ge (tgt := 28) dX11_bag_7 (by decide) (fun h7 => ?_) (fun h7 => ?_)
    · refine ev_bipush (v := (-2)) dX11_bag_28 (by decide) ?_
      refine ev_iret dX11_bag_30 rfl ?_
      rw [if_neg (fun q => by first | exact Int32.not_lt.mpr q.1.1 h1 | exact absurd (Int32.le_trans h7 q.1.2) (by decide) | exact Int32.not_lt.mpr q.2.1 h16 | exact h25 q.2.2)]
      exact ⟨rfl, KV.gh hG ⟨σ, hM, hT⟩, hF⟩
    · refine ev_iload_n dX11_bag_10 rfl ?_
      refine ev_gets (k := 1) dX11_bag_11 rfl (mt3 83 rfl rfl) ?_
      refine ev_iload_n dX11_bag_14 rfl ?_
      refine ev_stald dX11_bag_15 rfl (ix_r (Int32.not_lt.mp h1)) (show (saT.getD 1 ("", "", [])).2.2[w.toInt.toNat]? = some (lstS.getD w.toInt.toNat 0) from gd (bag_lt (hw h1 h7))) ?_
      refine ev_icmp_lt (tgt := 28) dX11_bag_16 (by decide) (fun h16 => ?_) (fun h16 => ?_)
      · refine ev_bipush (v := (-2)) dX11_bag_28 (by decide) ?_
        refine ev_iret dX11_bag_30 rfl ?_
        rw [if_neg (fun q => by first | exact Int32.not_lt.mpr q.1.1 h1 | exact absurd (Int32.le_trans h7 q.1.2) (by decide) | exact Int32.not_lt.mpr q.2.1 h16 | exact h25 q.2.2)]
        exact ⟨rfl, KV.gh hG ⟨σ, hM, hT⟩, hF⟩
      · refine ev_iload_n dX11_bag_19 rfl ?_
        refine ev_gets (k := 2) dX11_bag_20 rfl (mt3 85 rfl rfl) ?_
        refine ev_iload_n dX11_bag_23 rfl ?_
        refine ev_stald dX11_bag_24 rfl (ix_r (Int32.not_lt.mp h1)) (show (saT.getD 2 ("", "", [])).2.2[w.toInt.toNat]? = some (mstS.getD w.toInt.toNat 0) from gd (bag_lt (hw h1 h7))) ?_
        refine ev_icmp_le (tgt := 31) dX11_bag_25 (by decide) (fun h25 => ?_) (fun h25 => ?_)
        · rw [if_pos ⟨hw h1 h7, Int32.not_lt.mp h16, h25⟩]
          refine ev_aload_n dX11_bag_31 rfl ?_
          refine ev_get dX11_bag_32 flX11_31_11 (hM.o 0 11 (by decide)) rfl ?_
          refine ev_iload_n dX11_bag_35 rfl ?_
          refine ev_iald dX11_bag_36 (hM.r 3 (by decide)) (ix_r (Int32.not_lt.mp h1)) (gd (by rw [hl3]; exact bag_lt (hw h1 h7))) ?_
          refine ev_istore_n dX11_bag_37 (by decide) ?_
          dsimp only [List.set]
          refine ev_aload_n dX11_bag_38 rfl ?_
          refine ev_get dX11_bag_39 flX11_31_11 (hM.o 0 11 (by decide)) rfl ?_
          refine ev_iload_n dX11_bag_42 rfl ?_
          refine ev_iload_n dX11_bag_43 rfl ?_
          refine evK_iast hM hF (k := 3) (by decide) dX11_bag_44 (ix_r (Int32.not_lt.mp h1)) (show w.toInt.toNat < (σ.1 3).length by rw [hl3]; exact bag_lt (hw h1 h7)) (fun μ hM hF => ?_)
          refine ev_aload_n dX11_bag_45 rfl ?_
          refine k_v (c_kForget hM) (by decide) dX11_bag_46 cbX11_forgetBest (mt3 53 rfl rfl) (mt3 55 rfl rfl) (ms0 16 rfl rfl) (ci := 11) rfl (hM.o 0 11 (by decide)) rfl rfl (Nat.le_of_ble_eq_true rfl) (fun v μ1 hq => ?_)
          obtain ⟨rfl, hM, hF1⟩ := hq; have hF := hF.tr hF1
          simp only [Option.toList, List.cons_append, List.nil_append]
          refine ev_iload_n dX11_bag_49 rfl ?_
          refine ev_iret dX11_bag_50 rfl ?_
          have hz := (hT.s6 (l := (σ.1 3).set w.toInt.toNat v) (by rw [List.length_set]; exact hl3)).t8
          rw [← e3]
          exact ⟨rfl, hz.kv (fun so hso => hT.s0 so hso) hM, hF⟩
        · refine ev_bipush (v := (-2)) dX11_bag_28 (by decide) ?_
          refine ev_iret dX11_bag_30 rfl ?_
          rw [if_neg (fun q => by first | exact Int32.not_lt.mpr q.1.1 h1 | exact absurd (Int32.le_trans h7 q.1.2) (by decide) | exact Int32.not_lt.mpr q.2.1 h16 | exact h25 q.2.2)]
          exact ⟨rfl, KV.gh hG ⟨σ, hM, hT⟩, hF⟩
theorem KTie.rule (h : KTie ρ n t tx cd Lf m σ) {x : Nat} : KT8 (setI ρ 8 (nI x)) n x tx cd Lf m (ksI σ 0 7 (nI x)) := by
  obtain ⟨h1, h2, h3, h4, h5, h6, h7, h8, h9⟩ := h
  have e : ∀ o k, o ≠ 0 → kI (ksI σ 0 7 (nI x)) o k = kI σ o k := fun o k ho => ksI_ne ho
  have e0 : ∀ k, k ≠ 7 → kI (ksI σ 0 7 (nI x)) 0 k = kI σ 0 k := fun k hk => by
    show (if 0 = 0 ∧ k = 7 then nI x else σ.2.1 0 k) = _
    rw [if_neg (fun q => hk q.2)]
  refine ⟨h1, h2, ⟨h3.1, (e0 1 (by decide)).trans h3.2.1, fun y hy => ?_⟩, h4, ⟨(e 4 0 (by decide)).trans h5.1, h5.2⟩, ⟨(e0 6 (by decide)).trans h6.1, rfl, fun r hr => ?_⟩, fun s hs => ?_, ?_⟩
  · obtain ⟨x1, x2, x3⟩ := h3.2.2 y hy
    exact ⟨x1, (e _ _ (by omega)).trans x2, fun k hk => (e _ _ (by omega)).trans (x3 k hk)⟩
  · obtain ⟨x1, x2, x3, x4, x5⟩ := h6.2.2 r hr
    exact ⟨x1, (e _ _ (by omega)).trans x2, (e _ _ (by omega)).trans x3, x4, x5⟩
  · obtain ⟨x1, x2, x3⟩ := h7 s hs
    exact ⟨(e _ _ (by omega)).trans x1, (e _ _ (by omega)).trans x2, x3⟩
  · unfold KKp
    rw [e0 14 (by decide), e0 15 (by decide)]
    exact h8
theorem c_kForce (hG : GI ρ) (hI : IM ρ n t tx cd Lf) (hM : KM a m tx σ μ) (hT : KTie ρ n t tx cd Lf m σ) (x : Int32) : Mt g 1 mX11_force [.ref a, .int x] μ (fun v μ' => v = some (.int (opForce ρ tx x).1) ∧ (∃ t', IM (gho (opForce ρ tx x).2) n t' tx cd Lf ∧ KV a (gho (opForce ρ tx x).2) n t' tx cd Lf m μ') ∧ FC a μ μ') := by
  refine Mt.of0 (ls0 := [some (.ref a), some (.int x), none]) (by decide) (by simp [Value.category]) (Nat.le_of_ble_eq_true rfl) rfl ?_
  have hF : FC a μ μ := FC.rf
  have htx := hI.2.2.2.2.1.2
  have h1tx : 0 < tx := by have := hI.2.2.2.1.2; omega
  have e1 : nI tx - 1 = nI (tx - 1) := nI_sub (a := tx) (c := 1) (by omega)
  rw [opForce, e1]
  refine ev_iload_n dX11_force_0 rfl ?_
  refine ev_if_lt (tgt := 12) dX11_force_1 (by decide) (fun h1 => ?_) (fun h1 => ?_)
  · refine ev_bipush (v := (-2)) dX11_force_12 (by decide) ?_
    refine ev_iret dX11_force_14 rfl ?_
    rw [if_neg (fun q => by first | exact Int32.not_lt.mpr q.1 h1 | (have z := q.2; rw [Int32.le_iff_toInt_le, nI_i (by omega)] at z; rw [Int32.lt_iff_toInt_lt, nI_i (by omega)] at h9; omega))]
    exact ⟨rfl, ⟨t, by rw [hG.eq]; exact hI, KV.gh hG ⟨σ, hM, hT⟩⟩, hF⟩
  · refine ev_iload_n dX11_force_4 rfl ?_
    refine ev_aload_n dX11_force_5 rfl ?_
    refine ev_get dX11_force_6 flX11_47_11 (hM.o 0 11 (by decide)) rfl ?_
    rw [hT.ru.1]
    refine ev_icmp_lt (tgt := 15) dX11_force_9 (by decide) (fun h9 => ?_) (fun h9 => ?_)
    · have q0 := Int32.not_lt.mp h1
      have q9 := h9
      have hx : x.toInt.toNat < tx ∧ x = nI x.toInt.toNat := by
        rw [Int32.le_iff_toInt_le, Int32.toInt_zero] at q0
        rw [Int32.lt_iff_toInt_lt, nI_i (by omega)] at q9
        refine ⟨by omega, ?_⟩
        apply Int32.toInt_inj.mp
        rw [nI_i (by omega)]; omega
      obtain ⟨hx1, hx2⟩ := hx
      have hxc : 0 ≤ x ∧ x ≤ nI (tx - 1) := ⟨q0, by rw [hx2]; exact nI_le (by omega) (by omega)⟩
      rw [if_pos hxc]
      generalize x.toInt.toNat = x' at hx1 hx2
      subst hx2
      refine ev_aload_n dX11_force_15 rfl ?_
      refine ev_get dX11_force_16 flX11_50_11 (hM.o 0 11 (by decide)) rfl ?_
      refine ev_istore_n dX11_force_19 (by decide) ?_
      dsimp only [List.set]
      refine ev_aload_n dX11_force_20 rfl ?_
      refine ev_iload_n dX11_force_21 rfl ?_
      refine evK_put hM hF (o := 0) (ci := 11) (k := 7) (by decide) (by decide) dX11_force_22 fpX11_50_11 rfl rfl (fun μ hM hF => ?_)
      refine ev_aload_n dX11_force_25 rfl ?_
      refine k_v (c_kForget hM) (by decide) dX11_force_26 cbX11_forgetBest (mt3 53 rfl rfl) (mt3 55 rfl rfl) (ms0 16 rfl rfl) (ci := 11) rfl (hM.o 0 11 (by decide)) rfl rfl (Nat.le_of_ble_eq_true rfl) (fun v μ1 hq => ?_)
      obtain ⟨rfl, hM, hF1⟩ := hq; have hF := hF.tr hF1
      simp only [Option.toList, List.cons_append, List.nil_append]
      refine ev_iload_n dX11_force_29 rfl ?_
      refine ev_iret dX11_force_30 rfl ?_
      refine ⟨?_, ⟨x', ?_, hT.rule.kv (fun so hso => (ksI_ne (by omega)).trans (hT.s0 so hso)) hM⟩, hF⟩
      · rw [hT.ru.2.1, hI.2.2.2.1.1]
      · refine IM.eqc (ρ := setI ρ 8 (nI x')) ?_ gho_eqc
        obtain ⟨y1, y2, y3, y4, y5, y6, y7, y8⟩ := hI
        exact ⟨y1, y2, y3, ⟨rfl, hx1⟩, y5, y6, y7, y8⟩
    · refine ev_bipush (v := (-2)) dX11_force_12 (by decide) ?_
      refine ev_iret dX11_force_14 rfl ?_
      rw [if_neg (fun q => by first | exact Int32.not_lt.mpr q.1 h1 | (have z := q.2; rw [Int32.le_iff_toInt_le, nI_i (by omega)] at z; rw [Int32.lt_iff_toInt_lt, nI_i (by omega)] at h9; omega))]
      exact ⟨rfl, ⟨t, by rw [hG.eq]; exact hI, KV.gh hG ⟨σ, hM, hT⟩⟩, hF⟩
/-- the list with two places changed about -/
def swL (Lf : Nat → Nat) (i j : Nat) : Nat → Nat := fun k => if k = j then Lf i else if k = i then Lf j else Lf k
theorem IM.swap (hI : IM ρ n t tx cd Lf) (h5 : (ρ.1 5).length = 7) {i j : Nat} (hi : i < n) (hj : j < n) : IM (setA ρ 5 (((ρ.1 5).set i ((ρ.1 5).getD j 0)).set j ((ρ.1 5).getD i 0))) n t tx cd (swL Lf i j) := by
  obtain ⟨h1, h2, h3, h4, h5', h6, h7, h8⟩ := hI
  have hn7 := h3.2
  have gi : (ρ.1 5).getD i 0 = nI (Lf i) := Option.some.inj ((gd (by omega)).symm.trans (h7 i hi).1)
  have gj : (ρ.1 5).getD j 0 = nI (Lf j) := Option.some.inj ((gd (by omega)).symm.trans (h7 j hj).1)
  refine ⟨by rw [Fc_set5]; exact h1, h2, h3, h4, h5', h6, fun k hk => ?_, fun x hx => ?_⟩
  · rw [setA_at, gi, gj, List.getElem?_set, List.length_set]
    unfold swL
    by_cases e1 : j = k
    · subst e1; rw [if_pos rfl, if_pos (by omega), if_pos rfl]; exact ⟨rfl, (h7 i hi).2⟩
    · rw [if_neg e1, if_neg (Ne.symm e1), List.getElem?_set]
      by_cases e2 : i = k
      · subst e2; rw [if_pos rfl, if_pos (by omega), if_pos rfl]; exact ⟨rfl, (h7 j hj).2⟩
      · rw [if_neg e2, if_neg (Ne.symm e2)]; exact h7 k hk
  · obtain ⟨k, hk, e⟩ := h8 x hx
    by_cases e1 : k = i
    · refine ⟨j, hj, ?_⟩
      unfold swL
      rw [if_pos rfl, ← e1]; exact e
    · by_cases e2 : k = j
      · refine ⟨i, hi, ?_⟩
        unfold swL
        by_cases e3 : i = j
        · rw [if_pos e3, e3, ← e2]; exact e
        · rw [if_neg e3, if_pos rfl, ← e2]; exact e
      · refine ⟨k, hk, ?_⟩
        unfold swL
        rw [if_neg e2, if_neg e1]; exact e
/-- the list alone has changed -/
theorem KTie.list (h : KTie ρ n t tx cd Lf m σ) {l l' : List Int32} {Lf' : Nat → Nat} (hl : l'.length = 7) (hL : ∀ i, i < n → l'[i]? = some (nI (Lf' i))) : KTie (setA ρ 5 l) n t tx cd Lf' m (ksR σ 2 l') := by
  have hB := h.bs
  obtain ⟨h1, h2, h3, h4, h5, h6, h7, h8⟩ := h.t8
  have e : ∀ k, k ≠ 2 → (ksR σ 2 l').1 k = σ.1 k := fun k hk => by show (if k = 2 then l' else σ.1 k) = _; rw [if_neg hk]
  refine KT8.tie ⟨fun q hq => ?_, (e 3 (by decide)).trans h2, ⟨h3.1, h3.2.1, fun x hx => by rw [Fc_set5]; exact h3.2.2 x hx⟩, fun i hi => ?_, ⟨h5.1, fun i c hi hc => by rw [e 5 (by decide)]; exact h5.2 i c hi hc⟩, ⟨h6.1, h6.2.1, fun r hr => by rw [e _ (by omega), e _ (by omega)]; exact h6.2.2 r hr⟩, fun s hs => ?_, ?_⟩ ?_
  · by_cases q3 : q.1 = 2
    · have k3 : ∀ q ∈ kLen, q.1 = 2 → q.2 = 7 := by decide
      rw [k3 q hq q3, q3]
      exact hl
    · rw [e _ q3]; exact h1 q hq
  · show (if 2 = 2 then l' else σ.1 2)[i]? = _
    rw [if_pos rfl]; exact hL i hi
  · obtain ⟨x1, x2, x3⟩ := h7 s hs
    exact ⟨x1, x2, fun i hi => by rw [e _ (by omega)]; exact x3 i hi⟩
  · unfold KKp
    rw [e 46 (by decide), e 47 (by decide), e 48 (by decide)]
    exact h8
  · intro so hso
    rw [e _ (by omega)]
    exact hB.eq (ρ' := setA ρ 5 l) Fc_set5 rfl so hso
theorem c_kSwap (hI : IM ρ n t tx cd Lf) (hl5 : (ρ.1 5).length = 7) (hM : KM a m tx σ μ) (hT : KTie ρ n t tx cd Lf m σ) (i j : Int32) : Mt g 1 mX11_swap [.ref a, .int i, .int j] μ (fun v μ' => v = some (.int (opSwap ρ n i j).1) ∧ (∃ Lf', IM (opSwap ρ n i j).2 n t tx cd Lf' ∧ KV a (opSwap ρ n i j).2 n t tx cd Lf' m μ') ∧ FC a μ μ') := by
  refine Mt.of0 (ls0 := [some (.ref a), some (.int i), some (.int j), none]) (by decide) (by simp [Value.category]) (Nat.le_of_ble_eq_true rfl) rfl ?_
  have hF : FC a μ μ := FC.rf
  have hn7 := hI.2.2.1.2
  have hl2 : (σ.1 2).length = 7 := hT.ln (k := 2) (by decide)
  rw [opSwap]
  by_cases hij : (0 ≤ i ∧ i < nI n) ∧ 0 ≤ j ∧ j < nI n
  · obtain ⟨hi, ei⟩ := house_n hn7 hij.1.1 hij.1.2
    obtain ⟨hj, ej⟩ := house_n hn7 hij.2.1 hij.2.2
    have b1 := hij.1
    have b2 := hij.2
    rw [if_pos hij]
    generalize i.toInt.toNat = i' at hi ei ⊢
    generalize j.toInt.toNat = j' at hj ej ⊢
    subst ei
    subst ej
    have hIs := hI.swap hl5 hi hj
    have gi : (ρ.1 5).getD i' 0 = nI (Lf i') := Option.some.inj ((gd (by omega)).symm.trans (hI.2.2.2.2.2.2.1 i' hi).1)
    have gj : (ρ.1 5).getD j' 0 = nI (Lf j') := Option.some.inj ((gd (by omega)).symm.trans (hI.2.2.2.2.2.2.1 j' hj).1)
    have hsw : ∀ k, k < n → (((σ.1 2).set i' (nI (Lf j'))).set j' (nI (Lf i')))[k]? = some (nI (swL Lf i' j' k)) := by
      intro k hk
      rw [List.getElem?_set, List.length_set]
      unfold swL
      by_cases e1 : j' = k
      · subst e1; rw [if_pos rfl, if_pos (by omega), if_pos rfl]
      · rw [if_neg e1, if_neg (Ne.symm e1), List.getElem?_set]
        by_cases e2 : i' = k
        · subst e2; rw [if_pos rfl, if_pos (by omega), if_pos rfl]
        · rw [if_neg e2, if_neg (Ne.symm e2)]; exact hT.ls k hk
    refine ev_aload_n dX11_swap_0 rfl ?_
    refine ev_iload_n dX11_swap_1 rfl ?_
    refine k_v (c_kHouse hM hT.hc _) (by decide) dX11_swap_2 cbX11_isHouse (mt3 65 rfl rfl) (mt3 67 rfl rfl) (ms0 18 rfl rfl) (ci := 11) rfl (hM.o 0 11 (by decide)) rfl rfl (Nat.le_of_ble_eq_true rfl) (fun v μ1 hq => ?_)
    obtain ⟨rfl, hμ⟩ := hq
    have hμ := hμ.symm
    subst hμ
    simp only [Option.toList, List.cons_append, List.nil_append]
    rw [b2i_t b1]
    refine ev_if_eq (tgt := 16) dX11_swap_5 (by decide) (fun h5 => absurd h5 ((show ¬ (1 : Int32) = 0 by decide))) (fun _ => ?_)
    refine ev_aload_n dX11_swap_8 rfl ?_
    refine ev_iload_n dX11_swap_9 rfl ?_
    refine k_v (c_kHouse hM hT.hc _) (by decide) dX11_swap_10 cbX11_isHouse (mt3 65 rfl rfl) (mt3 67 rfl rfl) (ms0 18 rfl rfl) (ci := 11) rfl (hM.o 0 11 (by decide)) rfl rfl (Nat.le_of_ble_eq_true rfl) (fun v μ1 hq => ?_)
    obtain ⟨rfl, hμ⟩ := hq
    have hμ := hμ.symm
    subst hμ
    simp only [Option.toList, List.cons_append, List.nil_append]
    rw [b2i_t b2]
    refine ev_if_ne (tgt := 19) dX11_swap_13 (by decide) (fun _ => ?_) (fun h13 => absurd h13 ((show ¬ (1 : Int32) = 0 by decide)))
    refine ev_aload_n dX11_swap_19 rfl ?_
    refine ev_get dX11_swap_20 flX11_19_11 (hM.o 0 11 (by decide)) rfl ?_
    refine ev_iload_n dX11_swap_23 rfl ?_
    refine ev_iald dX11_swap_24 (hM.r 2 (by decide)) (ix_n (by omega)) (hT.ls i' hi) ?_
    refine ev_istore_n dX11_swap_25 (by decide) ?_
    dsimp only [List.set]
    refine ev_aload_n dX11_swap_26 rfl ?_
    refine ev_get dX11_swap_27 flX11_19_11 (hM.o 0 11 (by decide)) rfl ?_
    refine ev_iload_n dX11_swap_30 rfl ?_
    refine ev_aload_n dX11_swap_31 rfl ?_
    refine ev_get dX11_swap_32 flX11_19_11 (hM.o 0 11 (by decide)) rfl ?_
    refine ev_iload_n dX11_swap_35 rfl ?_
    refine ev_iald dX11_swap_36 (hM.r 2 (by decide)) (ix_n (by omega)) (hT.ls j' hj) ?_
    refine evK_iast hM hF (k := 2) (by decide) dX11_swap_37 (ix_n (by omega)) (show i' < (σ.1 2).length by omega) (fun μ hM hF => ?_)
    refine ev_aload_n dX11_swap_38 rfl ?_
    refine ev_get dX11_swap_39 flX11_19_11 (hM.o 0 11 (by decide)) rfl ?_
    refine ev_iload_n dX11_swap_42 rfl ?_
    refine ev_iload_n dX11_swap_43 rfl ?_
    refine evK_iast hM hF (k := 2) (by decide) dX11_swap_44 (ix_n (by omega)) (show j' < ((σ.1 2).set i' (nI (Lf j'))).length by rw [List.length_set]; omega) (fun μ hM hF => ?_)
    refine ev_aload_n dX11_swap_45 rfl ?_
    refine ev_get dX11_swap_46 flX11_19_11 (hM.o 0 11 (by decide)) rfl ?_
    refine ev_iload_n dX11_swap_49 rfl ?_
    refine ev_iald dX11_swap_50 (hM.r 2 (by decide)) (ix_n (by omega)) (show (((σ.1 2).set i' (nI (Lf j'))).set j' (nI (Lf i')))[i']? = some (nI (swL Lf i' j' i')) from hsw i' hi) ?_
    refine ev_iret dX11_swap_51 rfl ?_
    have hM2 : KM a m tx (ksR σ 2 (((σ.1 2).set i' (nI (Lf j'))).set j' (nI (Lf i')))) μ := by
      have e : ksR (ksR σ 2 ((σ.1 2).set i' (nI (Lf j')))) 2 (((σ.1 2).set i' (nI (Lf j'))).set j' (nI (Lf i'))) = ksR σ 2 (((σ.1 2).set i' (nI (Lf j'))).set j' (nI (Lf i'))) := by
        simp only [ksR]
        congr 1
        funext q
        split <;> rfl
      rw [← e]; exact hM
    refine ⟨?_, ⟨_, hIs, ⟨_, hM2, hT.list (by rw [List.length_set, List.length_set]; exact hl2) hsw⟩⟩, hF⟩
    have hz := (hIs.2.2.2.2.2.2.1 i' hi).1
    rw [setA_at] at hz
    rw [← Option.some.inj ((gd (List.getElem?_eq_some_iff.mp hz).1).symm.trans hz)]
  · rw [if_neg hij]
    refine ev_aload_n dX11_swap_0 rfl ?_
    refine ev_iload_n dX11_swap_1 rfl ?_
    refine k_v (c_kHouse hM hT.hc _) (by decide) dX11_swap_2 cbX11_isHouse (mt3 65 rfl rfl) (mt3 67 rfl rfl) (ms0 18 rfl rfl) (ci := 11) rfl (hM.o 0 11 (by decide)) rfl rfl (Nat.le_of_ble_eq_true rfl) (fun v μ1 hq => ?_)
    obtain ⟨rfl, hμ⟩ := hq
    have hμ := hμ.symm
    subst hμ
    simp only [Option.toList, List.cons_append, List.nil_append]
    refine ev_if_eq (tgt := 16) dX11_swap_5 (by decide) (fun h5 => ?_) (fun h5 => ?_)
    · refine ev_bipush (v := (-2)) dX11_swap_16 (by decide) ?_
      refine ev_iret dX11_swap_18 rfl ?_
      exact ⟨rfl, ⟨Lf, hI, ⟨σ, hM, hT⟩⟩, hF⟩
    · refine ev_aload_n dX11_swap_8 rfl ?_
      refine ev_iload_n dX11_swap_9 rfl ?_
      refine k_v (c_kHouse hM hT.hc _) (by decide) dX11_swap_10 cbX11_isHouse (mt3 65 rfl rfl) (mt3 67 rfl rfl) (ms0 18 rfl rfl) (ci := 11) rfl (hM.o 0 11 (by decide)) rfl rfl (Nat.le_of_ble_eq_true rfl) (fun v μ1 hq => ?_)
      obtain ⟨rfl, hμ⟩ := hq
      have hμ := hμ.symm
      subst hμ
      simp only [Option.toList, List.cons_append, List.nil_append]
      refine ev_if_ne (tgt := 19) dX11_swap_13 (by decide) (fun h13 => ?_) (fun h13 => ?_)
      · exact absurd ⟨b2i_ne h5, b2i_ne h13⟩ hij
      · refine ev_bipush (v := (-2)) dX11_swap_16 (by decide) ?_
        refine ev_iret dX11_swap_18 rfl ?_
        exact ⟨rfl, ⟨Lf, hI, ⟨σ, hM, hT⟩⟩, hF⟩
end KMUT
