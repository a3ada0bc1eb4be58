/-! ===== the reference: best, arrange, houses ===== -/
def ansBest (ρ : MS) (n t : Nat) (cd : Nat → List Int32) (so p : Int32) : Int32 := if (0 ≤ so ∧ so ≤ 1) ∧ -1 ≤ p ∧ p ≤ nI n - 1 then (if p = -1 then (bst ρ n t cd so).1 else nI ((bst ρ n t cd so).2.getD p.toInt.toNat 0)) else -2
def arK (bo : List Nat) : Nat → Nat → List Int32 → List Int32
  | 0, _, l => l
  | m + 1, k, l => arK bo m (k + 1) (l.set k (nI (bo.getD k 0)))
theorem arK_len {bo : List Nat} : ∀ (m k : Nat) (l : List Int32), (arK bo m k l).length = l.length := by
  intro m
  induction m with
  | zero => intro k l; rfl
  | succ m ih => intro k l; rw [arK, ih, List.length_set]
theorem arK_at {bo : List Nat} : ∀ (m k : Nat) (l : List Int32) (q : Nat), k + m ≤ l.length → (arK bo m k l)[q]? = if k ≤ q ∧ q < k + m then some (nI (bo.getD q 0)) else l[q]? := by
  intro m
  induction m with
  | zero => intro k l q _; rw [arK, if_neg (by omega)]
  | succ m ih =>
    intro k l q hl
    rw [arK, ih _ _ _ (by rw [List.length_set]; omega), List.getElem?_set]
    by_cases h1 : k + 1 ≤ q ∧ q < k + 1 + m
    · rw [if_pos h1, if_pos (by omega)]
    · rw [if_neg h1]
      by_cases h2 : k = q
      · subst h2
        rw [if_pos rfl, if_pos (by omega), if_pos (by omega)]
      · rw [if_neg h2, if_neg (by omega)]
def opArrange (ρ : MS) (n t : Nat) (cd : Nat → List Int32) (so : Int32) : Int32 × MS := if 0 ≤ so ∧ so ≤ 1 then ((rd0 (Fc ρ) (Se ρ) (bst ρ n t cd so).2).1, setA ρ 5 (arK (bst ρ n t cd so).2 n 0 (ρ.1 5))) else (-2, ρ)
theorem bst_pm {ρ : MS} {n t : Nat} {cd : Nat → List Int32} {so : Int32} (hn : n ≤ 7) : (bst ρ n t cd so).2 ∈ pm n := by
  obtain ⟨Ps, hP⟩ := pm_ne n
  have hP := hP hn
  have e : bst ρ n t cd so = fbK so (eB ρ n t cd so) Ps (eB ρ n t cd so (List.range n)) (List.range n) := by rw [bst, hP]
  rw [e, hP]
  rcases fbK_in (so := so) (E := eB ρ n t cd so) Ps (eB ρ n t cd so (List.range n)) (List.range n) with h | h
  · rw [h]; exact List.mem_cons_self
  · exact List.mem_cons_of_mem _ h
theorem lsO_getD {n : Nat} {bo : List Nat} (h : bo.length = n) : lsO n (fun i => bo.getD i 0) = bo := by
  apply List.ext_getElem?
  intro i
  by_cases hi : i < n
  · rw [List.getElem?_eq_getElem (by rw [lsO_len]; exact hi), List.getElem?_eq_getElem (by omega)]
    simp [lsO, List.getD_eq_getElem?_getD, List.getElem?_eq_getElem (show i < bo.length by omega)]
  · rw [List.getElem?_eq_none (by rw [lsO_len]; omega), List.getElem?_eq_none (by omega)]
/-- another list, of all houses -/
theorem IM.arr {ρ : MS} {n t tx : Nat} {cd : Nat → List Int32} {Lf : Nat → Nat} (h : IM ρ n t tx cd Lf) {bo : List Nat} (hb : bo ∈ pm n) {l : List Int32} (hl : ∀ i, i < n → l[i]? = some (nI (bo.getD i 0))) : IM (setA ρ 5 l) n t tx cd (fun i => bo.getD i 0) := by
  obtain ⟨h1, h2, h3, h4, h5, h6, h7, h8⟩ := h
  obtain ⟨q1, q2⟩ := pm_mem hb
  have hd : ∀ i, i < n → bo[i]? = some (bo.getD i 0) := fun i hi => by rw [List.getD_eq_getElem?_getD, List.getElem?_eq_getElem (by omega)]; rfl
  refine ⟨h1, h2, h3, h4, h5, h6, fun i hi => ⟨by rw [setA_at]; exact hl i hi, (q2 _).mp (List.mem_of_getElem? (hd i hi))⟩, fun x hx => ?_⟩
  obtain ⟨i, hi⟩ := List.getElem?_of_mem ((q2 x).mpr hx)
  have hil := (List.getElem?_eq_some_iff.mp hi).1
  exact ⟨i, by omega, Option.some.inj ((hd i (by omega)).symm.trans hi)⟩
theorem Fc_set5 {ρ : MS} {l : List Int32} : Fc (setA ρ 5 l) = Fc ρ := by
  funext k x
  show (if k < 5 then (if k = 5 then l else ρ.1 k).getD x 0 else 0) = (if k < 5 then (ρ.1 k).getD x 0 else 0)
  split
  · rw [if_neg (by omega)]
  · rfl
section MARR
variable {g : Gl} {b : Nat} {ρ : MS}
theorem c_best {μ : Mm} (hW : MW b ρ μ) {n t tx : Nat} {cd : Nat → List Int32} {Lf : Nat → Nat} (hI : IM ρ n t tx cd Lf) (so p : Int32) : Mt g 7 mX12_best [.ref b, .int so, .int p] μ (fun v μ' => v = some (.int (ansBest ρ n t cd so p)) ∧ MW b ρ μ' ∧ FM b μ μ') := by
  refine Mt.of0 (ls0 := [some (.ref b), some (.int so), some (.int p), none]) (by decide) (by simp [Value.category]) (Nat.le_of_ble_eq_true rfl) rfl ?_
  obtain ⟨ρ0, hM, hL, hE⟩ := id hW
  have hF : FM b μ μ := FM.rf
  have hI0 := hI.eqc hE
  have hn7 := hI.2.2.1.2
  have hbp := bst_pm (ρ := ρ) (t := t) (cd := cd) (so := so) hn7
  rw [ansBest]
  refine ev_iload_n dX12_best_0 rfl ?_
  refine ev_iconst (v := 0) dX12_best_1 (by decide) ?_
  refine ev_iconst (v := 1) dX12_best_2 (by decide) ?_
  refine k_s (c_isIn so 0 1) (by decide) dX12_best_3 cbX12_isIn (mt5 123 rfl rfl) (mt5 124 rfl rfl) rfl rfl (Nat.le_of_ble_eq_true rfl) (fun v μ1 hq => ?_)
  obtain ⟨rfl, hμ⟩ := hq
  have hμ := hμ.symm
  subst hμ
  simp only [Option.toList, List.cons_append, List.nil_append]
  refine ev_if_eq (tgt := 23) dX12_best_6 (by decide) (fun h6 => ?_) (fun h6 => ?_)
  · refine ev_bipush (v := (-2)) dX12_best_23 (by decide) ?_
    refine ev_iret dX12_best_25 rfl ?_
    first
      | (rw [if_neg (fun q => b2i_eq h6 q.1)]; exact ⟨rfl, hW, hF⟩)
      | (rw [if_neg (fun q => b2i_eq h20 q.2)]; exact ⟨rfl, hW, hF⟩)
  · refine ev_iload_n dX12_best_9 rfl ?_
    refine ev_iconst (v := (-1)) dX12_best_10 (by decide) ?_
    refine ev_aload_n dX12_best_11 rfl ?_
    refine ev_get dX12_best_12 flX12_82_12 hM.1 rfl ?_
    refine ev_iconst (v := 1) dX12_best_15 (by decide) ?_
    refine ev_isub dX12_best_16 ?_
    rw [hI0.2.2.1.1]
    refine k_s (c_isIn p (-1) _) (by decide) dX12_best_17 cbX12_isIn (mt5 123 rfl rfl) (mt5 124 rfl rfl) rfl rfl (Nat.le_of_ble_eq_true rfl) (fun v μ1 hq => ?_)
    obtain ⟨rfl, hμ⟩ := hq
    have hμ := hμ.symm
    subst hμ
    simp only [Option.toList, List.cons_append, List.nil_append]
    refine ev_if_ne (tgt := 26) dX12_best_20 (by decide) (fun h20 => ?_) (fun h20 => ?_)
    · rw [if_pos ⟨b2i_ne h6, b2i_ne h20⟩]
      refine ev_aload_n dX12_best_26 rfl ?_
      refine ev_iload_n dX12_best_27 rfl ?_
      refine k_v (c_findBest hW hI so) (by decide) dX12_best_28 cbX12_findBest (mt6 83 rfl rfl) (mt6 85 rfl rfl) (ms0 75 rfl rfl) (ci := 12) rfl hM.1 rfl rfl (Nat.le_of_ble_eq_true rfl) (fun v μ1 hq => ?_)
      obtain ⟨rfl, ⟨ρ1, hM, hL1, hE1, hp⟩, hF1⟩ := hq; have hF := hF.tr hF1
      simp only [Option.toList, List.cons_append, List.nil_append]
      refine ev_istore_n dX12_best_31 (by decide) ?_
      dsimp only [List.set]
      refine ev_iload_n dX12_best_32 rfl ?_
      refine ev_iconst (v := (-1)) dX12_best_33 (by decide) ?_
      refine ev_icmp_ne (tgt := 41) dX12_best_34 (by decide) (fun h34 => ?_) (fun h34 => ?_)
      · have h20' := b2i_ne h20
        have hpn : p.toInt.toNat < n ∧ p = nI p.toInt.toNat := by
          have q1 := h20'.1
          have q2 := h20'.2
          have hne : ¬ p.toInt = (-1 : Int32).toInt := fun q => h34 (Int32.toInt_inj.mp q)
          rw [Int32.le_iff_toInt_le] at q1 q2
          rw [sub_i (by rw [nI_i (by omega)]; simp; omega) (by rw [nI_i (by omega)]; simp; omega), nI_i (by omega)] at q2
          have hm1 : (-1 : Int32).toInt = -1 := by decide
          have hp1 : (1 : Int32).toInt = 1 := by decide
          rw [hm1] at q1 hne
          rw [hp1] at q2
          refine ⟨by omega, ?_⟩
          apply Int32.toInt_inj.mp
          rw [nI_i (by omega)]; omega
        obtain ⟨hpl, ep⟩ := hpn
        rw [if_neg h34]
        generalize p.toInt.toNat = p' at hpl ep ⊢
        subst ep
        refine ev_aload_n dX12_best_41 rfl ?_
        refine ev_get dX12_best_42 flX12_61_12 hM.1 rfl ?_
        refine ev_iload_n dX12_best_45 rfl ?_
        refine ev_iald dX12_best_46 (hM.a 28 28 (by decide)) (ix_n (by omega)) (hp.at (by rw [(pm_mem hbp).1]; exact hpl)).1 ?_
        refine ev_iret dX12_best_47 rfl ?_
        first
          | (rw [if_pos h34]; exact ⟨rfl, ⟨_, hM, hL1, hE1⟩, hF⟩)
          | exact ⟨rfl, ⟨_, hM, hL1, hE1⟩, hF⟩
      · refine ev_iload_n dX12_best_37 rfl ?_
        refine ev_goto (tgt := 47) dX12_best_38 (by decide) ?_
        refine ev_iret dX12_best_47 rfl ?_
        first
          | (rw [if_pos h34]; exact ⟨rfl, ⟨_, hM, hL1, hE1⟩, hF⟩)
          | exact ⟨rfl, ⟨_, hM, hL1, hE1⟩, hF⟩
    · refine ev_bipush (v := (-2)) dX12_best_23 (by decide) ?_
      refine ev_iret dX12_best_25 rfl ?_
      first
        | (rw [if_neg (fun q => b2i_eq h6 q.1)]; exact ⟨rfl, hW, hF⟩)
        | (rw [if_neg (fun q => b2i_eq h20 q.2)]; exact ⟨rfl, hW, hF⟩)
theorem l_arrange {n t tx : Nat} {cd : Nat → List Int32} {Lf : Nat → Nat} (hI : IM ρ n t tx cd Lf) {bo : List Nat} (hb : bo ∈ pm n) {so : Int32} {μ0 : Mm} {ρ0 : MS} (hL : ML ρ0) (hE : EqC ρ0 ρ) (hp : PreL (ρ0.1 28) bo) : ∀ (m k : Nat) (l : List Int32) (μ : Mm), k + m = n → l.length = 7 → (∀ i, i < k → l[i]? = some (nI (bo.getD i 0))) → RM b (setA ρ0 5 l) μ → FM b μ0 μ → Ev g 7 mX12_arrange 20 [some (.ref b), some (.int so), some (.int (nI k))] [] μ (fun v μ' => v = some (.int (rd0 (Fc ρ) (Se ρ) bo).1) ∧ MW b (setA ρ 5 (arK bo m k l)) μ' ∧ FM b μ0 μ') := by
  have hn7 := hI.2.2.1.2
  have hI0 := hI.eqc hE
  have hlen := (pm_mem hb).1
  intro m
  induction m with
  | zero =>
    intro k l μ hk hl hi hM hF
    have hk : k = n := by omega
    subst hk
    have hI5 : IM (setA ρ 5 l) k t tx cd (fun i => bo.getD i 0) := hI.arr hb hi
    have hL5 : ML (setA ρ0 5 l) := ML.setA hL (hl.trans (hL.at (k := 5) (n := 7) (by decide)).symm)
    have hE5 : EqC (setA ρ0 5 l) (setA ρ 5 l) := hE.cA
    refine ev_iload_n dX12_arrange_20 rfl ?_
    refine ev_aload_n dX12_arrange_21 rfl ?_
    refine ev_get dX12_arrange_22 flX12_82_12 hM.1 rfl ?_
    refine ev_icmp_ge (tgt := 46) dX12_arrange_25 (by decide) (fun _ => ?_) (fun h25 => absurd ((show ρ0.2 7 ≤ nI k by rw [hI0.2.2.1.1]; exact nI_le (by omega) (by omega))) h25)
    refine ev_aload_n dX12_arrange_46 rfl ?_
    refine k_v (c_takesList hM hL5 (hI5.eqc hE5)) (by decide) dX12_arrange_47 cbX12_takesList (mt6 20 rfl rfl) (mt6 22 rfl rfl) (ms0 64 rfl rfl) (ci := 12) rfl hM.1 rfl rfl (Nat.le_of_ble_eq_true rfl) (fun v μ1 hq => ?_)
    obtain ⟨rfl, ⟨ρ1, hM, hL1, hE1, hO⟩, hF1⟩ := hq; have hF := hF.tr hF1; rw [lsO_getD hlen] at hO
    simp only [Option.toList, List.cons_append, List.nil_append]
    refine ev_aload_n dX12_arrange_50 rfl ?_
    refine k_v (c_walksO hM hL1 (hE1.tr hE5) hI5 hO) (by decide) dX12_arrange_51 cbX12_walks (mt6 24 rfl rfl) (mt6 26 rfl rfl) (ms0 65 rfl rfl) (ci := 12) rfl hM.1 rfl rfl (Nat.le_of_ble_eq_true rfl) (fun v μ1 hq => ?_)
    obtain ⟨rfl, hW1, hF1⟩ := hq; have hF := hF.tr hF1
    simp only [Option.toList, List.cons_append, List.nil_append]
    refine ev_iret dX12_arrange_54 rfl ?_
    refine ⟨?_, hW1, hF⟩
    rw [Fc_set5]
    rfl
  | succ m ih =>
    intro k l μ hk hl hi hM hF
    rw [arK]
    refine ev_iload_n dX12_arrange_20 rfl ?_
    refine ev_aload_n dX12_arrange_21 rfl ?_
    refine ev_get dX12_arrange_22 flX12_82_12 hM.1 rfl ?_
    refine ev_icmp_ge (tgt := 46) dX12_arrange_25 (by decide) (fun h25 => absurd h25 ((show ¬ ρ0.2 7 ≤ nI k by rw [hI0.2.2.1.1]; exact nI_ge (by omega) (by omega)))) (fun _ => ?_)
    refine ev_aload_n dX12_arrange_28 rfl ?_
    refine ev_get dX12_arrange_29 flX12_25_12 hM.1 rfl ?_
    refine ev_iload_n dX12_arrange_32 rfl ?_
    refine ev_aload_n dX12_arrange_33 rfl ?_
    refine ev_get dX12_arrange_34 flX12_61_12 hM.1 rfl ?_
    refine ev_iload_n dX12_arrange_37 rfl ?_
    refine ev_iald dX12_arrange_38 (hM.a 28 28 (by decide)) (ix_n (by omega)) (hp.at (i := k) (by omega)).1 ?_
    refine evM_iast hM hF (k := 5) (o := 6) (by decide) dX12_arrange_39 (ix_n (by omega)) (show k < ((setA ρ0 5 l).1 5).length by rw [setA_at, hl]; omega) (fun μ hM hF => ?_)
    rw [setA_at, setA_setA] at hM
    refine ev_iinc dX12_arrange_40 rfl (by decide) ?_
    dsimp only [List.set]
    refine ev_goto (tgt := 20) dX12_arrange_43 (by decide) ?_
    rw [nI_inc]
    refine ih (k + 1) _ μ (by omega) (by rw [List.length_set]; exact hl) (fun i h => ?_) hM hF
    rw [List.getElem?_set]
    split
    · rename_i e; subst e; rw [if_pos (by omega)]
    · exact hi i (by omega)
theorem c_arrange {μ : Mm} (hW : MW b ρ μ) {n t tx : Nat} {cd : Nat → List Int32} {Lf : Nat → Nat} (hI : IM ρ n t tx cd Lf) (so : Int32) : Mt g 7 mX12_arrange [.ref b, .int so] μ (fun v μ' => v = some (.int (opArrange ρ n t cd so).1) ∧ MW b (opArrange ρ n t cd so).2 μ' ∧ FM b μ μ') := by
  refine Mt.of0 (ls0 := [some (.ref b), some (.int so), none]) (by decide) (by simp [Value.category]) (Nat.le_of_ble_eq_true rfl) rfl ?_
  have hF : FM b μ μ := FM.rf
  obtain ⟨ρ0, hM, hL, hE⟩ := id hW
  have hn7 := hI.2.2.1.2
  have hbp := bst_pm (ρ := ρ) (t := t) (cd := cd) (so := so) hn7
  rw [opArrange]
  refine ev_iload_n dX12_arrange_0 rfl ?_
  refine ev_iconst (v := 0) dX12_arrange_1 (by decide) ?_
  refine ev_iconst (v := 1) dX12_arrange_2 (by decide) ?_
  refine k_s (c_isIn so 0 1) (by decide) dX12_arrange_3 cbX12_isIn (mt5 123 rfl rfl) (mt5 124 rfl rfl) rfl rfl (Nat.le_of_ble_eq_true rfl) (fun v μ1 hq => ?_)
  obtain ⟨rfl, hμ⟩ := hq
  have hμ := hμ.symm
  subst hμ
  simp only [Option.toList, List.cons_append, List.nil_append]
  refine ev_if_ne (tgt := 12) dX12_arrange_6 (by decide) (fun h6 => ?_) (fun h6 => ?_)
  · refine ev_aload_n dX12_arrange_12 rfl ?_
    refine ev_iload_n dX12_arrange_13 rfl ?_
    refine k_v (c_findBest hW hI so) (by decide) dX12_arrange_14 cbX12_findBest (mt6 83 rfl rfl) (mt6 85 rfl rfl) (ms0 75 rfl rfl) (ci := 12) rfl hM.1 rfl rfl (Nat.le_of_ble_eq_true rfl) (fun v μ1 hq => ?_)
    obtain ⟨rfl, ⟨ρ1, hM, hL1, hE1, hp⟩, hF1⟩ := hq; have hF := hF.tr hF1
    simp only [Option.toList, List.cons_append, List.nil_append]
    refine ev_pop dX12_arrange_17 rfl ?_
    refine ev_iconst (v := 0) dX12_arrange_18 (by decide) ?_
    refine ev_istore_n dX12_arrange_19 (by decide) ?_
    dsimp only [List.set]
    rw [if_pos (b2i_ne h6)]
    have hz := l_arrange (g := g) (so := so) hI hbp hL1 hE1 hp n 0 (ρ1.1 5) _ (by omega) (hL1.at (by decide)) (fun i h => absurd h (by omega)) (by have e : setA ρ1 5 (ρ1.1 5) = ρ1 := setA_self; rw [e]; exact hM) hF
    rw [hE1.1 5 (by decide)] at hz
    exact hz
  · refine ev_bipush (v := (-2)) dX12_arrange_9 (by decide) ?_
    refine ev_iret dX12_arrange_11 rfl ?_
    rw [if_neg (b2i_eq h6)]
    exact ⟨rfl, hW, hF⟩
end MARR
