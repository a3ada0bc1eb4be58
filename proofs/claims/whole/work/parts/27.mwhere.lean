/-! ===== the reference: where, judge, houses ===== -/
def irK (cells : List Int32) (base : Nat) (set : Int32) : Nat → Nat → Bool
  | 0, _ => true
  | m + 1, h => if cells.getD (base + h) 0 = (set >>> (nI h &&& 31)) &&& 1 then irK cells base set m (h + 1) else false
def dn : Nat → Int32
  | 0 => -1
  | m + 1 => nI m
theorem dn_step (m : Nat) : nI m + Int32.ofInt (-1) = dn m := by
  cases m with
  | zero => decide
  | succ m => exact nI_dec m
def whK (P : Nat → Bool) : Nat → Nat → Int32 → Nat × Int32
  | 0, many, least => (many, least)
  | m + 1, many, least => if P m then whK P m (many + 1) (nI m) else whK P m many least
def ansWhere (ρ : MS) (n t : Nat) (cd : Nat → List Int32) (Lf : Nat → Nat) (s w : Int32) : Int32 :=
  if (0 ≤ s ∧ s < 4) ∧ 0 ≤ w ∧ w ≤ 1 then (if (ρ.1 33).getD s.toInt.toNat 0 < 0 then -11 else if ¬ (ρ.1 34).getD s.toInt.toNat 0 = nI n then -2 else
    (if w = 0 then nI (whK (fun k => irK (ρ.1 35) (40 * s.toInt.toNat) (rngK (Fc ρ) (Se ρ) (cdt t cd) (thr ρ n Lf) n 0 (wrg (Fc ρ) Lf n k)) n 0) (n + 1) 0 (-1)).1 else (whK (fun k => irK (ρ.1 35) (40 * s.toInt.toNat) (rngK (Fc ρ) (Se ρ) (cdt t cd) (thr ρ n Lf) n 0 (wrg (Fc ρ) Lf n k)) n 0) (n + 1) 0 (-1)).2)) else -2
def jdK (cells : List Int32) (base : Nat) (th : List Int32) (Lf : Nat → Nat) : Nat → Nat → Int32
  | 0, _ => -1
  | m + 1, k => if cells.getD (base + k) 0 = th.getD (Lf k) 0 then jdK cells base th Lf m (k + 1) else nI k
def ansJudge (ρ : MS) (n : Nat) (Lf : Nat → Nat) (s : Int32) : Int32 :=
  if 0 ≤ s ∧ s < 4 then (if (ρ.1 33).getD s.toInt.toNat 0 < 0 then -11 else if ¬ (ρ.1 34).getD s.toInt.toNat 0 = nI n then -2 else jdK (ρ.1 35) (40 * s.toInt.toNat) (thr ρ n Lf) Lf n 0) else -2
theorem jdK_th {cells : List Int32} {base : Nat} {th th' : List Int32} {Lf : Nat → Nat} : ∀ (m k : Nat), (∀ i, i < k + m → th.getD (Lf i) 0 = th'.getD (Lf i) 0) → jdK cells base th Lf m k = jdK cells base th' Lf m k := by
  intro m
  induction m with
  | zero => intro k _; rfl
  | succ m ih => intro k e; rw [jdK, jdK, e k (by omega), ih _ (fun i hi => e i (by omega))]
section MWHERE
variable {g : Gl} {b : Nat} {ρ : MS}
theorem l_isRinging {μ : Mm} (hM : RM b ρ μ) (hL : ML ρ) {n s : Nat} (hN : ρ.2 7 = nI n) (hn : n ≤ 7) (hs : s < 4) {set : Int32} : ∀ (m h : Nat), h + m = n → Ev g 0 mX12_isRinging 2 [some (.ref b), some (.int set), some (.int (nI s)), some (.int (nI h))] [] μ (fun v μ' => v = some (.int (b2i (irK (ρ.1 35) (40 * s) set m h = true))) ∧ μ' = μ) := by
  intro m
  induction m with
  | zero =>
    intro h hh
    refine ev_iload_n dX12_isRinging_2 rfl ?_
    refine ev_aload_n dX12_isRinging_3 rfl ?_
    refine ev_get dX12_isRinging_4 flX12_82_12 hM.1 rfl ?_
    refine ev_icmp_ge (tgt := 37) dX12_isRinging_7 (by decide) (fun _ => ?_) (fun h7 => absurd ((show ρ.2 7 ≤ nI h by rw [hN]; exact nI_le (by omega) (by omega))) h7)
    refine ev_iconst (v := 1) dX12_isRinging_37 (by decide) ?_
    refine ev_zret dX12_isRinging_38 rfl rfl ?_
    exact ⟨rfl, rfl⟩
  | succ m ih =>
    intro h hh
    refine ev_iload_n dX12_isRinging_2 rfl ?_
    refine ev_aload_n dX12_isRinging_3 rfl ?_
    refine ev_get dX12_isRinging_4 flX12_82_12 hM.1 rfl ?_
    refine ev_icmp_ge (tgt := 37) dX12_isRinging_7 (by decide) (fun h7 => absurd h7 ((show ¬ ρ.2 7 ≤ nI h by rw [hN]; exact nI_ge (by omega) (by omega)))) (fun _ => ?_)
    refine ev_aload_n dX12_isRinging_10 rfl ?_
    refine ev_get dX12_isRinging_11 flX12_73_12 hM.1 rfl ?_
    refine ev_bipush (v := 40) dX12_isRinging_14 (by decide) ?_
    refine ev_iload_n dX12_isRinging_16 rfl ?_
    refine ev_imul dX12_isRinging_17 ?_
    refine ev_iload_n dX12_isRinging_18 rfl ?_
    refine ev_iadd dX12_isRinging_19 ?_
    refine ev_iald dX12_isRinging_20 (hM.a 35 32 (by decide)) (by rw [mul40]; exact ix_n (by omega)) (rd hL (k := 35) (n := 160) (by decide) (by omega)) ?_
    refine ev_iload_n dX12_isRinging_21 rfl ?_
    refine ev_iload_n dX12_isRinging_22 rfl ?_
    refine ev_ishr dX12_isRinging_23 ?_
    refine ev_iconst (v := 1) dX12_isRinging_24 (by decide) ?_
    refine ev_iand dX12_isRinging_25 ?_
    refine ev_icmp_eq (tgt := 31) dX12_isRinging_26 (by decide) (fun h26 => ?_) (fun h26 => ?_)
    · refine ev_iinc dX12_isRinging_31 rfl (by decide) ?_
      dsimp only [List.set]
      refine ev_goto (tgt := 2) dX12_isRinging_34 (by decide) ?_
      rw [nI_inc, irK, if_pos h26]
      exact ih (h + 1) (by omega)
    · refine ev_iconst (v := 0) dX12_isRinging_29 (by decide) ?_
      refine ev_zret dX12_isRinging_30 rfl rfl ?_
      rw [irK, if_neg h26]
      exact ⟨rfl, rfl⟩
theorem c_isRinging {μ : Mm} (hM : RM b ρ μ) (hL : ML ρ) {n s : Nat} (hN : ρ.2 7 = nI n) (hn : n ≤ 7) (hs : s < 4) (set : Int32) : Pu g 0 mX12_isRinging [.ref b, .int set, .int (nI s)] μ (b2i (irK (ρ.1 35) (40 * s) set n 0 = true)) := by
  refine Mt.of0 (ls0 := [some (.ref b), some (.int set), some (.int (nI s)), none]) (by decide) (by simp [Value.category]) (Nat.le_of_ble_eq_true rfl) rfl ?_
  refine ev_iconst (v := 0) dX12_isRinging_0 (by decide) ?_
  refine ev_istore_n dX12_isRinging_1 (by decide) ?_
  dsimp only [List.set]
  exact l_isRinging hM hL hN hn hs n 0 (by omega)
theorem l_where {ρ2 : MS} (w1 : ML ρ2) (w2 : EqC ρ2 ρ) {n t tx : Nat} {cd : Nat → List Int32} {Lf : Nat → Nat} (hI : IM ρ n t tx cd Lf) {s : Nat} (hs : s < 4) {w : Int32} {μ0 : Mm} (w5 : ∀ h, h < n → (ρ2.1 25).getD h 0 = (thr ρ n Lf).getD h 0) : ∀ (m many : Nat) (least : Int32) (μ : Mm), m ≤ n + 1 → many + m ≤ 8 → RS b ρ2 μ → FM b μ0 μ →
    Ev g 5 mX12_where 67 [some (.ref b), some (.int (nI s)), some (.int w), some (.int (nI many)), some (.int least), some (.int (dn m))] [] μ (fun v μ' => v = some (.int (if w = 0 then nI (whK (fun k => irK (ρ.1 35) (40 * s) (rngK (Fc ρ) (Se ρ) (cdt t cd) (thr ρ n Lf) n 0 (wrg (Fc ρ) Lf n k)) n 0) m many least).1 else (whK (fun k => irK (ρ.1 35) (40 * s) (rngK (Fc ρ) (Se ρ) (cdt t cd) (thr ρ n Lf) n 0 (wrg (Fc ρ) Lf n k)) n 0) m many least).2)) ∧ MW b ρ μ' ∧ FM b μ0 μ') := by
  have hI2 := hI.eqc w2
  have hn7 := hI.2.2.1.2
  intro m
  induction m with
  | zero =>
    intro many least μ hm hmm hR hF
    obtain ⟨l, hl, hM⟩ := id hR
    refine ev_iload dX12_where_67 rfl ?_
    refine ev_if_lt (tgt := 106) dX12_where_69 (by decide) (fun _ => ?_) (fun h69 => absurd ((show dn 0 < 0 by decide)) h69)
    refine ev_iload_n dX12_where_106 rfl ?_
    refine ev_if_ne (tgt := 114) dX12_where_107 (by decide) (fun h107 => ?_) (fun h107 => ?_)
    · refine ev_iload dX12_where_114 rfl ?_
      refine ev_iret dX12_where_116 rfl ?_
      rw [whK]
      first | (rw [if_pos h107]; exact ⟨rfl, hR.mw w1 w2, hF⟩) | (rw [if_neg h107]; exact ⟨rfl, hR.mw w1 w2, hF⟩)
    · refine ev_iload_n dX12_where_110 rfl ?_
      refine ev_goto (tgt := 116) dX12_where_111 (by decide) ?_
      refine ev_iret dX12_where_116 rfl ?_
      rw [whK]
      first | (rw [if_pos h107]; exact ⟨rfl, hR.mw w1 w2, hF⟩) | (rw [if_neg h107]; exact ⟨rfl, hR.mw w1 w2, hF⟩)
  | succ m ih =>
    intro many least μ hm hmm hR hF
    obtain ⟨l, hl, hM⟩ := id hR
    rw [whK]
    refine ev_iload dX12_where_67 rfl ?_
    refine ev_if_lt (tgt := 106) dX12_where_69 (by decide) (fun h69 => absurd h69 ((show ¬ nI m < 0 from nI_pos (by omega)))) (fun _ => ?_)
    refine ev_aload_n dX12_where_72 rfl ?_
    refine ev_aload_n dX12_where_73 rfl ?_
    refine ev_aload_n dX12_where_74 rfl ?_
    refine ev_iload dX12_where_75 rfl ?_
    refine k_v (show Pu g 0 mX12_wrongBy [.ref b, .int (nI m)] μ (wrg (Fc ρ) Lf n m) from by have hz := c_wrongBy (g := g) hM (S14 w1 hl) (hI.eqc (w2.sA (by decide))) (k := m) (by omega); rw [(w2.sA (k := 14) (l := l) (by decide)).fc] at hz; exact hz) (by decide) dX12_where_77 cbX12_wrongBy (mt6 64 rfl rfl) (mt6 66 rfl rfl) (ms0 73 rfl rfl) (ci := 12) rfl hM.1 rfl rfl (Nat.le_of_ble_eq_true rfl) (fun v μ1 hq => ?_)
    obtain ⟨rfl, hμ⟩ := hq
    have hμ := hμ.symm
    subst hμ
    simp only [Option.toList, List.cons_append, List.nil_append]
    refine k_v (c_ringing hR w1 hI2.ru hI2.2.2.1.1 hn7 _) (by decide) dX12_where_80 cbX12_ringing (mt6 52 rfl rfl) (mt6 54 rfl rfl) (ms0 71 rfl rfl) (ci := 12) rfl hM.1 rfl rfl (Nat.le_of_ble_eq_true rfl) (fun v μ1 hq => ?_)
    obtain ⟨rfl, hR, hF1⟩ := hq
    have hF := hF.tr hF1
    obtain ⟨l1, hl1, hM⟩ := id hR
    simp only [Option.toList, List.cons_append, List.nil_append]
    rw [w2.fc, w2.se, rngK_th (th' := thr ρ n Lf) n 0 _ (fun h hh => w5 h (by omega))]
    refine ev_iload_n dX12_where_83 rfl ?_
    refine k_v (c_isRinging hM (S14 w1 hl1) hI2.2.2.1.1 hn7 hs _) (by decide) dX12_where_84 cbX12_isRinging (mt6 75 rfl rfl) (mt6 77 rfl rfl) (ms0 74 rfl rfl) (ci := 12) rfl hM.1 rfl rfl (Nat.le_of_ble_eq_true rfl) (fun v μ1 hq => ?_)
    obtain ⟨rfl, hμ⟩ := hq
    have hμ := hμ.symm
    subst hμ
    simp only [Option.toList, List.cons_append, List.nil_append]
    refine ev_if_ne (tgt := 93) dX12_where_87 (by decide) (fun h87 => ?_) (fun h87 => ?_)
    · refine ev_iinc dX12_where_93 rfl (by decide) ?_
      dsimp only [List.set]
      refine ev_iload dX12_where_96 rfl ?_
      refine ev_istore dX12_where_98 (by decide) ?_
      dsimp only [List.set]
      refine ev_iinc dX12_where_100 rfl (by decide) ?_
      dsimp only [List.set]
      refine ev_goto (tgt := 67) dX12_where_103 (by decide) ?_
      rw [show dn (m + 1) + Int32.ofInt (-1) = dn m from dn_step m]
      have e35 : (setA ρ2 14 l1).1 35 = ρ.1 35 := w2.1 35 (by decide)
      rw [e35] at h87
      first
        | (rw [if_pos (b2i_ne h87)]; rw [nI_inc]; exact ih (many + 1) (nI m) _ (by omega) (by omega) hR hF)
        | (rw [if_neg (b2i_eq h87)]; exact ih many least _ (by omega) (by omega) hR hF)
    · refine ev_goto (tgt := 100) dX12_where_90 (by decide) ?_
      refine ev_iinc dX12_where_100 rfl (by decide) ?_
      dsimp only [List.set]
      refine ev_goto (tgt := 67) dX12_where_103 (by decide) ?_
      rw [show dn (m + 1) + Int32.ofInt (-1) = dn m from dn_step m]
      have e35 : (setA ρ2 14 l1).1 35 = ρ.1 35 := w2.1 35 (by decide)
      rw [e35] at h87
      first
        | (rw [if_pos (b2i_ne h87)]; rw [nI_inc]; exact ih (many + 1) (nI m) _ (by omega) (by omega) hR hF)
        | (rw [if_neg (b2i_eq h87)]; exact ih many least _ (by omega) (by omega) hR hF)
theorem c_where {μ0 : Mm} (hW : MW b ρ μ0) {n t tx : Nat} {cd : Nat → List Int32} {Lf : Nat → Nat} (hI : IM ρ n t tx cd Lf) (s w : Int32) : Mt g 5 mX12_where [.ref b, .int s, .int w] μ0 (fun v μ' => v = some (.int (ansWhere ρ n t cd Lf s w)) ∧ MW b ρ μ' ∧ FM b μ0 μ') := by
  refine Mt.of0 (ls0 := [some (.ref b), some (.int s), some (.int w), none, none, none]) (by decide) (by simp [Value.category]) (Nat.le_of_ble_eq_true rfl) rfl ?_
  obtain ⟨ρ0, hM, hL, hE⟩ := id hW
  have hF : FM b μ0 μ0 := FM.rf
  have hI0 := hI.eqc hE
  have hn7 := hI.2.2.1.2
  rw [ansWhere]
  refine ev_iload_n dX12_where_0 rfl ?_
  refine k_s (c_isSheet s) (by decide) dX12_where_1 cbX12_isSheet (mt6 72 rfl rfl) (mt6 73 rfl rfl) rfl rfl (Nat.le_of_ble_eq_true rfl) (fun v μ1 hq => ?_)
  obtain ⟨rfl, hμ⟩ := hq
  have hμ := hμ.symm
  subst hμ
  simp only [Option.toList, List.cons_append, List.nil_append]
  refine ev_if_eq (tgt := 16) dX12_where_4 (by decide) (fun h4 => ?_) (fun h4 => ?_)
  · refine ev_bipush (v := (-2)) dX12_where_16 (by decide) ?_
    refine ev_iret dX12_where_18 rfl ?_
    first
      | (rw [if_neg (fun q => b2i_eq h4 q.1)]; exact ⟨rfl, hW, hF⟩)
      | (rw [if_neg (fun q => b2i_eq h13 q.2)]; exact ⟨rfl, hW, hF⟩)
  · refine ev_iload_n dX12_where_7 rfl ?_
    refine ev_iconst (v := 0) dX12_where_8 (by decide) ?_
    refine ev_iconst (v := 1) dX12_where_9 (by decide) ?_
    refine k_s (c_isIn w 0 1) (by decide) dX12_where_10 cbX12_isIn (mt5 123 rfl rfl) (mt5 124 rfl rfl) rfl rfl (Nat.le_of_ble_eq_true rfl) (fun v μ1 hq => ?_)
    obtain ⟨rfl, hμ⟩ := hq
    have hμ := hμ.symm
    subst hμ
    simp only [Option.toList, List.cons_append, List.nil_append]
    refine ev_if_ne (tgt := 19) dX12_where_13 (by decide) (fun h13 => ?_) (fun h13 => ?_)
    · have h4' := b2i_ne h4
      rw [if_pos ⟨h4', b2i_ne h13⟩]
      obtain ⟨hi, ei⟩ := sheet_n h4'.1 h4'.2
      generalize s.toInt.toNat = s' at hi ei ⊢
      subst ei
      refine ev_aload_n dX12_where_19 rfl ?_
      refine ev_get dX12_where_20 flX12_67_12 hM.1 rfl ?_
      refine ev_iload_n dX12_where_23 rfl ?_
      refine ev_iald dX12_where_24 (hM.a 33 30 (by decide)) (ix_n (by omega)) (rd hL (k := 33) (n := 4) (by decide) hi) ?_
      refine ev_if_ge (tgt := 31) dX12_where_25 (by decide) (fun h25 => ?_) (fun h25 => ?_)
      · rw [← hE.1 33 (by decide), if_neg (Int32.not_lt.mpr h25)]
        refine ev_aload_n dX12_where_31 rfl ?_
        refine ev_get dX12_where_32 flX12_70_12 hM.1 rfl ?_
        refine ev_iload_n dX12_where_35 rfl ?_
        refine ev_iald dX12_where_36 (hM.a 34 31 (by decide)) (ix_n (by omega)) (rd hL (k := 34) (n := 4) (by decide) hi) ?_
        refine ev_aload_n dX12_where_37 rfl ?_
        refine ev_get dX12_where_38 flX12_82_12 hM.1 rfl ?_
        refine ev_icmp_eq (tgt := 47) dX12_where_41 (by decide) (fun h41 => ?_) (fun h41 => ?_)
        · rw [← hE.1 34 (by decide), if_neg (fun q => q (by rw [hI0.2.2.1.1] at h41; exact h41))]
          refine ev_aload_n dX12_where_47 rfl ?_
          refine k_v (c_takesList hM hL hI0) (by decide) dX12_where_48 cbX12_takesList (mt6 20 rfl rfl) (mt6 22 rfl rfl) (ms0 64 rfl rfl) (ci := 12) rfl hM.1 rfl rfl (Nat.le_of_ble_eq_true rfl) (fun v μ1 hq => ?_)
          obtain ⟨rfl, ⟨ρ1, hM, hL1, hE1, hO⟩, hF1⟩ := hq; have hF := hF.tr hF1; have hEq := hE1.tr hE; have hI1 := hI.eqc hEq
          simp only [Option.toList, List.cons_append, List.nil_append]
          refine ev_aload_n dX12_where_51 rfl ?_
          refine k_v (c_walks hM hL1 hI1.1 hI1.s3 hO) (by decide) dX12_where_52 cbX12_walks (mt6 24 rfl rfl) (mt6 26 rfl rfl) (ms0 65 rfl rfl) (ci := 12) rfl hM.1 rfl rfl (Nat.le_of_ble_eq_true rfl) (fun v μ1 hq => ?_)
          obtain ⟨rfl, hM, hF1⟩ := hq; have hF := hF.tr hF1; obtain ⟨w1, w2, w3, w4, w5⟩ := after_walk (bk := (wlk0 (Fc ρ1) (Se ρ1) (lsO n Lf) (ρ1.1 25)).2.1) hI hL1 hEq; have hR := RS.of w1 hM; have hI2 := hI.eqc w2
          simp only [Option.toList, List.cons_append, List.nil_append]
          refine ev_pop dX12_where_55 rfl ?_
          refine ev_iconst (v := 0) dX12_where_56 (by decide) ?_
          refine ev_istore_n dX12_where_57 (by decide) ?_
          dsimp only [List.set]
          refine ev_iconst (v := (-1)) dX12_where_58 (by decide) ?_
          refine ev_istore dX12_where_59 (by decide) ?_
          dsimp only [List.set]
          refine ev_aload_n dX12_where_61 rfl ?_
          refine ev_get dX12_where_62 flX12_82_12 hM.1 rfl ?_
          refine ev_istore dX12_where_65 (by decide) ?_
          dsimp only [List.set]
          rw [hI2.2.2.1.1]
          exact l_where w1 w2 hI hi w5 (n + 1) 0 (-1) _ (Nat.le_refl _) (by omega) hR hF
        · refine ev_bipush (v := (-2)) dX12_where_44 (by decide) ?_
          refine ev_iret dX12_where_46 rfl ?_
          rw [← hE.1 34 (by decide), if_pos (by rw [hI0.2.2.1.1] at h41; exact h41)]
          exact ⟨rfl, hW, hF⟩
      · refine ev_bipush (v := (-11)) dX12_where_28 (by decide) ?_
        refine ev_iret dX12_where_30 rfl ?_
        rw [← hE.1 33 (by decide), if_pos (Int32.not_le.mp h25)]
        exact ⟨rfl, hW, hF⟩
    · refine ev_bipush (v := (-2)) dX12_where_16 (by decide) ?_
      refine ev_iret dX12_where_18 rfl ?_
      first
        | (rw [if_neg (fun q => b2i_eq h4 q.1)]; exact ⟨rfl, hW, hF⟩)
        | (rw [if_neg (fun q => b2i_eq h13 q.2)]; exact ⟨rfl, hW, hF⟩)
theorem l_judge {ρ2 : MS} {μ : Mm} (hM : RM b ρ2 μ) (w1 : ML ρ2) (w2 : EqC ρ2 ρ) {n t tx : Nat} {cd : Nat → List Int32} {Lf : Nat → Nat} (hI : IM ρ n t tx cd Lf) {s : Nat} (hs : s < 4) {μ0 : Mm} (hF : FM b μ0 μ) : ∀ (m k : Nat), k + m = n → Ev g 5 mX12_judge 49 [some (.ref b), some (.int (nI s)), some (.int (nI k))] [] μ (fun v μ' => v = some (.int (jdK (ρ.1 35) (40 * s) (ρ2.1 25) Lf m k)) ∧ MW b ρ μ' ∧ FM b μ0 μ') := by
  have hI2 := hI.eqc w2
  have hn7 := hI.2.2.1.2
  intro m
  induction m with
  | zero =>
    intro k hk
    refine ev_iload_n dX12_judge_49 rfl ?_
    refine ev_aload_n dX12_judge_50 rfl ?_
    refine ev_get dX12_judge_51 flX12_82_12 hM.1 rfl ?_
    refine ev_icmp_ge (tgt := 90) dX12_judge_54 (by decide) (fun _ => ?_) (fun h54 => absurd ((show ρ2.2 7 ≤ nI k by rw [hI2.2.2.1.1]; exact nI_le (by omega) (by omega))) h54)
    refine ev_iconst (v := (-1)) dX12_judge_90 (by decide) ?_
    refine ev_iret dX12_judge_91 rfl ?_
    exact ⟨rfl, ⟨_, hM, w1, w2⟩, hF⟩
  | succ m ih =>
    intro k hk
    have hq := hI2.2.2.2.2.2.2.1 k (by omega)
    rw [jdK, ← w2.1 35 (by decide)]
    rw [← w2.1 35 (by decide)] at ih
    refine ev_iload_n dX12_judge_49 rfl ?_
    refine ev_aload_n dX12_judge_50 rfl ?_
    refine ev_get dX12_judge_51 flX12_82_12 hM.1 rfl ?_
    refine ev_icmp_ge (tgt := 90) dX12_judge_54 (by decide) (fun h54 => absurd h54 ((show ¬ ρ2.2 7 ≤ nI k by rw [hI2.2.2.1.1]; exact nI_ge (by omega) (by omega)))) (fun _ => ?_)
    refine ev_aload_n dX12_judge_57 rfl ?_
    refine ev_get dX12_judge_58 flX12_73_12 hM.1 rfl ?_
    refine ev_bipush (v := 40) dX12_judge_61 (by decide) ?_
    refine ev_iload_n dX12_judge_63 rfl ?_
    refine ev_imul dX12_judge_64 ?_
    refine ev_iload_n dX12_judge_65 rfl ?_
    refine ev_iadd dX12_judge_66 ?_
    refine ev_iald dX12_judge_67 (hM.a 35 32 (by decide)) (by rw [mul40]; exact ix_n (by omega)) (rd w1 (k := 35) (n := 160) (by decide) (by omega)) ?_
    refine ev_aload_n dX12_judge_68 rfl ?_
    refine ev_get dX12_judge_69 flX12_58_12 hM.1 rfl ?_
    refine ev_aload_n dX12_judge_72 rfl ?_
    refine ev_get dX12_judge_73 flX12_25_12 hM.1 rfl ?_
    refine ev_iload_n dX12_judge_76 rfl ?_
    refine ev_iald dX12_judge_77 (hM.a 5 6 (by decide)) (ix_n (by omega)) hq.1 ?_
    refine ev_iald dX12_judge_78 (hM.a 25 27 (by decide)) (ix_n (by omega)) (rd w1 (k := 25) (n := 7) (by decide) (by omega)) ?_
    refine ev_icmp_eq (tgt := 84) dX12_judge_79 (by decide) (fun h79 => ?_) (fun h79 => ?_)
    · refine ev_iinc dX12_judge_84 rfl (by decide) ?_
      dsimp only [List.set]
      refine ev_goto (tgt := 49) dX12_judge_87 (by decide) ?_
      rw [nI_inc, if_pos h79]
      exact ih (k + 1) (by omega)
    · refine ev_iload_n dX12_judge_82 rfl ?_
      refine ev_iret dX12_judge_83 rfl ?_
      rw [if_neg h79]
      exact ⟨rfl, ⟨_, hM, w1, w2⟩, hF⟩
theorem c_judge {μ0 : Mm} (hW : MW b ρ μ0) {n t tx : Nat} {cd : Nat → List Int32} {Lf : Nat → Nat} (hI : IM ρ n t tx cd Lf) (s : Int32) : Mt g 5 mX12_judge [.ref b, .int s] μ0 (fun v μ' => v = some (.int (ansJudge ρ n Lf s)) ∧ MW b ρ μ' ∧ FM b μ0 μ') := by
  refine Mt.of0 (ls0 := [some (.ref b), some (.int s), none]) (by decide) (by simp [Value.category]) (Nat.le_of_ble_eq_true rfl) rfl ?_
  obtain ⟨ρ0, hM, hL, hE⟩ := id hW
  have hF : FM b μ0 μ0 := FM.rf
  have hI0 := hI.eqc hE
  have hn7 := hI.2.2.1.2
  rw [ansJudge]
  refine ev_iload_n dX12_judge_0 rfl ?_
  refine k_s (c_isSheet s) (by decide) dX12_judge_1 cbX12_isSheet (mt6 72 rfl rfl) (mt6 73 rfl rfl) rfl rfl (Nat.le_of_ble_eq_true rfl) (fun v μ1 hq => ?_)
  obtain ⟨rfl, hμ⟩ := hq
  have hμ := hμ.symm
  subst hμ
  simp only [Option.toList, List.cons_append, List.nil_append]
  refine ev_if_ne (tgt := 10) dX12_judge_4 (by decide) (fun h4 => ?_) (fun h4 => ?_)
  · have h4' := b2i_ne h4
    rw [if_pos h4']
    obtain ⟨hi, ei⟩ := sheet_n h4'.1 h4'.2
    generalize s.toInt.toNat = s' at hi ei ⊢
    subst ei
    refine ev_aload_n dX12_judge_10 rfl ?_
    refine ev_get dX12_judge_11 flX12_67_12 hM.1 rfl ?_
    refine ev_iload_n dX12_judge_14 rfl ?_
    refine ev_iald dX12_judge_15 (hM.a 33 30 (by decide)) (ix_n (by omega)) (rd hL (k := 33) (n := 4) (by decide) hi) ?_
    refine ev_if_ge (tgt := 22) dX12_judge_16 (by decide) (fun h16 => ?_) (fun h16 => ?_)
    · rw [← hE.1 33 (by decide), if_neg (Int32.not_lt.mpr h16)]
      refine ev_aload_n dX12_judge_22 rfl ?_
      refine ev_get dX12_judge_23 flX12_70_12 hM.1 rfl ?_
      refine ev_iload_n dX12_judge_26 rfl ?_
      refine ev_iald dX12_judge_27 (hM.a 34 31 (by decide)) (ix_n (by omega)) (rd hL (k := 34) (n := 4) (by decide) hi) ?_
      refine ev_aload_n dX12_judge_28 rfl ?_
      refine ev_get dX12_judge_29 flX12_82_12 hM.1 rfl ?_
      refine ev_icmp_eq (tgt := 38) dX12_judge_32 (by decide) (fun h32 => ?_) (fun h32 => ?_)
      · rw [← hE.1 34 (by decide), if_neg (fun q => q (by rw [hI0.2.2.1.1] at h32; exact h32))]
        refine ev_aload_n dX12_judge_38 rfl ?_
        refine k_v (c_takesList hM hL hI0) (by decide) dX12_judge_39 cbX12_takesList (mt6 20 rfl rfl) (mt6 22 rfl rfl) (ms0 64 rfl rfl) (ci := 12) rfl hM.1 rfl rfl (Nat.le_of_ble_eq_true rfl) (fun v μ1 hq => ?_)
        obtain ⟨rfl, ⟨ρ1, hM, hL1, hE1, hO⟩, hF1⟩ := hq; have hF := hF.tr hF1; have hEq := hE1.tr hE; have hI1 := hI.eqc hEq
        simp only [Option.toList, List.cons_append, List.nil_append]
        refine ev_aload_n dX12_judge_42 rfl ?_
        refine k_v (c_walks hM hL1 hI1.1 hI1.s3 hO) (by decide) dX12_judge_43 cbX12_walks (mt6 24 rfl rfl) (mt6 26 rfl rfl) (ms0 65 rfl rfl) (ci := 12) rfl hM.1 rfl rfl (Nat.le_of_ble_eq_true rfl) (fun v μ1 hq => ?_)
        obtain ⟨rfl, hM, hF1⟩ := hq; have hF := hF.tr hF1; obtain ⟨w1, w2, w3, w4, w5⟩ := after_walk (bk := (wlk0 (Fc ρ1) (Se ρ1) (lsO n Lf) (ρ1.1 25)).2.1) hI hL1 hEq
        simp only [Option.toList, List.cons_append, List.nil_append]
        refine ev_pop dX12_judge_46 rfl ?_
        refine ev_iconst (v := 0) dX12_judge_47 (by decide) ?_
        refine ev_istore_n dX12_judge_48 (by decide) ?_
        dsimp only [List.set]
        refine Ev.imp (l_judge hM w1 w2 hI hi hF n 0 (by omega)) ?_
        rintro v μ' ⟨q1, q2, q3⟩
        refine ⟨q1.trans ?_, q2, q3⟩
        exact congrArg (fun z => some (Value.int z)) (jdK_th n 0 (fun i hi => w5 (Lf i) (hI.2.2.2.2.2.2.1 i (by omega)).2))
      · refine ev_bipush (v := (-2)) dX12_judge_35 (by decide) ?_
        refine ev_iret dX12_judge_37 rfl ?_
        rw [← hE.1 34 (by decide), if_pos (by rw [hI0.2.2.1.1] at h32; exact h32)]
        exact ⟨rfl, hW, hF⟩
    · refine ev_bipush (v := (-11)) dX12_judge_19 (by decide) ?_
      refine ev_iret dX12_judge_21 rfl ?_
      rw [← hE.1 33 (by decide), if_pos (Int32.not_le.mp h16)]
      exact ⟨rfl, hW, hF⟩
  · refine ev_bipush (v := (-2)) dX12_judge_7 (by decide) ?_
    refine ev_iret dX12_judge_9 rfl ?_
    rw [if_neg (b2i_eq h4)]
    exact ⟨rfl, hW, hF⟩
end MWHERE
