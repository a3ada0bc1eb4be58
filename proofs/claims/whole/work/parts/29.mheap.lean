/-! ===== the reference: heap, begin ===== -/
/-- another setting -/
def stS (ρ : MS) (i : Nat) (v : Int32) : MS := setA ρ 6 ((ρ.1 6).set i v)
theorem stS_stS {ρ : MS} {i : Nat} {v v' : Int32} : setA (stS ρ i v) 6 (((stS ρ i v).1 6).set i v') = stS ρ i v' := by
  have e : (stS ρ i v).1 6 = (ρ.1 6).set i v := setA_at
  rw [e, List.set_set, stS, setA_setA]; rfl
theorem set_same {l : List Int32} {i : Nat} : l.set i (l.getD i 0) = l := by
  apply List.ext_getElem?
  intro q
  rw [List.getElem?_set]
  split
  · rename_i h
    subst h
    split
    · rename_i h; rw [List.getD_eq_getElem?_getD, List.getElem?_eq_getElem h]; rfl
    · rename_i h; rw [List.getElem?_eq_none (by omega)]
  · rfl
theorem stS_same {ρ : MS} {i : Nat} : stS ρ i ((ρ.1 6).getD i 0) = ρ := by
  rw [stS, set_same]; exact setA_self
theorem stS_L {ρ : MS} (hL : ML ρ) {i : Nat} {v : Int32} : ML (stS ρ i v) := ML.setA hL List.length_set
theorem stS_E {ρ ρ' : MS} (hE : EqC ρ ρ') {i : Nat} {v : Int32} : EqC (stS ρ i v) (stS ρ' i v) := by
  rw [stS, stS, hE.1 6 (by decide)]; exact hE.cA
theorem stS_F {ρ : MS} {i : Nat} {v : Int32} : Fc (stS ρ i v) = Fc ρ := by
  funext k x
  show (if k < 5 then ((stS ρ i v).1 k).getD x 0 else 0) = (if k < 5 then (ρ.1 k).getD x 0 else 0)
  split
  · rename_i hk
    have : (stS ρ i v).1 k = ρ.1 k := by
      simp only [stS, setA]
      rw [if_neg (by omega)]
    rw [this]
  · rfl
theorem stS_S {ρ : MS} (h : (ρ.1 6).length = 10) {i : Nat} (hi : i < 10) {v : Int32} : Se (stS ρ i v) = fun j => if j = i then v else Se ρ j := by
  funext j
  show ((stS ρ i v).1 6).getD j 0 = _
  have e : (stS ρ i v).1 6 = (ρ.1 6).set i v := setA_at
  rw [e, stg_D (by omega)]
def ansHeap (ρ : MS) (n : Nat) (Lf : Nat → Nat) (w : Int32) : Int32 := if 0 ≤ w ∧ w ≤ 1 then (if w = 0 then nI (argK (fun k => (rd0 (Fc ρ) (Se (stS ρ 1 (nI k))) (lsO n Lf)).1) 100 0 0 0).1 else (argK (fun k => (rd0 (Fc ρ) (Se (stS ρ 1 (nI k))) (lsO n Lf)).1) 100 0 0 0).2) else -2
def bgK (P : Nat → Bool) : Nat → Int32
  | 0 => -1
  | m + 1 => if P m then nI m else bgK P m
/-- whether nobody is late by a beginning -/
def noL (ρ : MS) (n t : Nat) (cd : Nat → List Int32) (Lf : Nat → Nat) (k : Nat) : Bool := decide (lmnK (Fc ρ) (Se (stS ρ 2 (nI k))) (cdt t cd) (rd0 (Fc ρ) (Se (stS ρ 2 (nI k))) (lsO n Lf)).2.2 n 0 0 = 0)
def ansBegin (ρ : MS) (n t : Nat) (cd : Nat → List Int32) (Lf : Nat → Nat) : Int32 := bgK (noL ρ n t cd Lf) 1000
section MHEAP
variable {g : Gl} {b : Nat} {ρ : MS}
theorem c_walksP {μ : Mm} {ρ1 : MS} (hM : RM b ρ1 μ) (hL1 : ML ρ1) (hE : EqC ρ1 ρ) (hV : VF (Fc ρ)) (h3 : ¬ Se ρ 3 = 0) {os : List Nat} (hO : OM ρ1 os) : Mt g 3 mX12_walks [.ref b] μ (fun v μ' => v = some (.int (rd0 (Fc ρ) (Se ρ) os).1) ∧ (∃ ρ2, RM b ρ2 μ' ∧ ML ρ2 ∧ EqC ρ2 ρ ∧ OM ρ2 os ∧ ∀ h ∈ os, (ρ2.1 25).getD h 0 = (rd0 (Fc ρ) (Se ρ) os).2.2.getD h 0) ∧ FM b μ μ') := by
  refine Mt.imp (c_walks hM hL1 (by rw [hE.fc]; exact hV) (by have e := congrFun hE.se 3; show ¬ Se ρ1 3 = 0; rw [e]; exact h3) hO) ?_
  rintro v μ' ⟨q1, q2, q3⟩
  have hr : ∀ h ∈ os, h < 7 := fun h hh => by
    obtain ⟨i, hi⟩ := List.getElem?_of_mem hh
    exact (hO.2.2 i h hi).2
  have h25 := hL1.at (k := 25) (n := 7) (by decide)
  obtain ⟨a1, a2, a3, a4⟩ := wlk0_rd (F := Fc ρ1) (S := Se ρ1) h25 hr
  refine ⟨by rw [q1, a1, hE.fc, hE.se], ⟨_, q2, wst_L hL1 a3, (hE.sI (by decide)).sA (by decide), hO, fun h hh => ?_⟩, q3⟩
  have e : (wst ρ1 (wlk0 (Fc ρ1) (Se ρ1) os (ρ1.1 25)).2.1 (wlk0 (Fc ρ1) (Se ρ1) os (ρ1.1 25)).2.2).1 25 = (wlk0 (Fc ρ1) (Se ρ1) os (ρ1.1 25)).2.2 := setA_at
  rw [e, a4 h hh, hE.fc, hE.se]
theorem l_heap {n t tx : Nat} {cd : Nat → List Int32} {Lf : Nat → Nat} (hI : IM ρ n t tx cd Lf) (h10 : (ρ.1 6).length = 10) {w : Int32} {μ0 : Mm} : ∀ (m k best : Nat) (least : Int32) (o6 : Option Value) (v0 : Int32) (μ : Mm), k + m = 100 → (∃ ρ', RM b ρ' μ ∧ ML ρ' ∧ EqC ρ' (stS ρ 1 v0) ∧ OM ρ' (lsO n Lf)) → FM b μ0 μ → Ev g 4 mX12_heap 31 [some (.ref b), some (.int w), some (.int (Se ρ 1)), some (.int (nI best)), some (.int least), some (.int (nI k)), o6] [] μ (fun v μ' => v = some (.int (if w = 0 then nI (argK (fun k => (rd0 (Fc ρ) (Se (stS ρ 1 (nI k))) (lsO n Lf)).1) m k best least).1 else (argK (fun k => (rd0 (Fc ρ) (Se (stS ρ 1 (nI k))) (lsO n Lf)).1) m k best least).2)) ∧ MW b ρ μ' ∧ FM b μ0 μ') := by
  intro m
  induction m with
  | zero =>
    intro k best least o6 v0 μ hk hW hF
    obtain ⟨ρ0, hM, hL, hE, hO⟩ := id hW
    refine ev_iload dX12_heap_31 rfl ?_
    refine ev_bipush (v := 100) dX12_heap_33 (by decide) ?_
    refine ev_icmp_ge (tgt := 80) dX12_heap_35 (by decide) (fun _ => ?_) (fun h35 => absurd ((show (100 : Int32) ≤ nI k by rw [show (100 : Int32) = nI 100 from rfl]; exact nI_le (by omega) (by omega))) h35)
    refine ev_aload_n dX12_heap_80 rfl ?_
    refine ev_get dX12_heap_81 flX12_28_12 hM.1 rfl ?_
    refine ev_iconst (v := 1) dX12_heap_84 (by decide) ?_
    refine ev_iload_n dX12_heap_85 rfl ?_
    refine evM_iast hM hF (k := 6) (o := 7) (by decide) dX12_heap_86 ixl1 (by rw [hL.at (k := 6) (n := 10) (by decide)]; decide) (fun μ hM hF => ?_)
    refine ev_iload_n dX12_heap_87 rfl ?_
    refine ev_if_ne (tgt := 95) dX12_heap_88 (by decide) (fun h88 => ?_) (fun h88 => ?_)
    · refine ev_iload dX12_heap_95 rfl ?_
      refine ev_iret dX12_heap_97 rfl ?_
      have hE2 := stS_E (i := 1) (v := Se ρ 1) hE
      have e2 : stS (stS ρ 1 v0) 1 (Se ρ 1) = stS ρ 1 (Se ρ 1) := stS_stS
      rw [e2, stS_same] at hE2
      rw [argK]
      first | (rw [if_pos h88]; exact ⟨rfl, ⟨_, hM, stS_L hL, hE2⟩, hF⟩) | (rw [if_neg h88]; exact ⟨rfl, ⟨_, hM, stS_L hL, hE2⟩, hF⟩)
    · refine ev_iload_n dX12_heap_91 rfl ?_
      refine ev_goto (tgt := 97) dX12_heap_92 (by decide) ?_
      refine ev_iret dX12_heap_97 rfl ?_
      have hE2 := stS_E (i := 1) (v := Se ρ 1) hE
      have e2 : stS (stS ρ 1 v0) 1 (Se ρ 1) = stS ρ 1 (Se ρ 1) := stS_stS
      rw [e2, stS_same] at hE2
      rw [argK]
      first | (rw [if_pos h88]; exact ⟨rfl, ⟨_, hM, stS_L hL, hE2⟩, hF⟩) | (rw [if_neg h88]; exact ⟨rfl, ⟨_, hM, stS_L hL, hE2⟩, hF⟩)
  | succ m ih =>
    intro k best least o6 v0 μ hk hW hF
    obtain ⟨ρ0, hM, hL, hE, hO⟩ := id hW
    have hE2 := stS_E (i := 1) (v := nI k) hE
    have e2 : stS (stS ρ 1 v0) 1 (nI k) = stS ρ 1 (nI k) := stS_stS
    rw [e2] at hE2
    have h3 : ¬ Se (stS ρ 1 (nI k)) 3 = 0 := by rw [stS_S h10 (by decide)]; exact hI.s3
    rw [argK]
    refine ev_iload dX12_heap_31 rfl ?_
    refine ev_bipush (v := 100) dX12_heap_33 (by decide) ?_
    refine ev_icmp_ge (tgt := 80) dX12_heap_35 (by decide) (fun h35 => absurd h35 ((show ¬ (100 : Int32) ≤ nI k by rw [show (100 : Int32) = nI 100 from rfl]; exact nI_ge (by omega) (by omega)))) (fun _ => ?_)
    refine ev_aload_n dX12_heap_38 rfl ?_
    refine ev_get dX12_heap_39 flX12_28_12 hM.1 rfl ?_
    refine ev_iconst (v := 1) dX12_heap_42 (by decide) ?_
    refine ev_iload dX12_heap_43 rfl ?_
    refine evM_iast hM hF (k := 6) (o := 7) (by decide) dX12_heap_45 ixl1 (by rw [hL.at (k := 6) (n := 10) (by decide)]; decide) (fun μ hM hF => ?_)
    refine ev_aload_n dX12_heap_46 rfl ?_
    refine k_v (c_walksP hM (stS_L hL) hE2 (by rw [stS_F]; exact hI.1) h3 hO) (by decide) dX12_heap_47 cbX12_walks (mt6 24 rfl rfl) (mt6 26 rfl rfl) (ms0 65 rfl rfl) (ci := 12) rfl hM.1 rfl rfl (Nat.le_of_ble_eq_true rfl) (fun v μ1 hq => ?_)
    obtain ⟨rfl, ⟨ρ2, hM, hL2, hE3, hO2, -⟩, hF1⟩ := hq; have hF := hF.tr hF1; rw [stS_F]; have hW2 : (∃ ρ', RM b ρ' μ1 ∧ ML ρ' ∧ EqC ρ' (stS ρ 1 (nI k)) ∧ OM ρ' (lsO n Lf)) := ⟨ρ2, hM, hL2, hE3, hO2⟩
    simp only [Option.toList, List.cons_append, List.nil_append]
    refine ev_istore dX12_heap_50 (by decide) ?_
    dsimp only [List.set]
    refine ev_iload dX12_heap_52 rfl ?_
    refine ev_if_le (tgt := 67) dX12_heap_54 (by decide) (fun h54 => ?_) (fun h54 => ?_)
    · refine ev_iload dX12_heap_67 rfl ?_
      refine ev_istore_n dX12_heap_69 (by decide) ?_
      dsimp only [List.set]
      refine ev_iload dX12_heap_70 rfl ?_
      refine ev_istore dX12_heap_72 (by decide) ?_
      dsimp only [List.set]
      refine ev_iinc dX12_heap_74 rfl (by decide) ?_
      dsimp only [List.set]
      refine ev_goto (tgt := 31) dX12_heap_77 (by decide) ?_
      rw [nI_inc]
      first
        | (rw [nI_le0 (by omega)] at h54; rw [if_neg (c := 0 < k ∧ least ≤ (rd0 (Fc ρ) (Se (stS ρ 1 (nI k))) (lsO n Lf)).1) (fun q => by omega)]; exact ih (k + 1) k _ _ _ _ (by omega) hW2 hF)
        | (rw [nI_le0 (by omega)] at h54; rw [if_neg (c := 0 < k ∧ least ≤ (rd0 (Fc ρ) (Se (stS ρ 1 (nI k))) (lsO n Lf)).1) (fun q => Int32.not_le.mpr h61 q.2)]; exact ih (k + 1) k _ _ _ _ (by omega) hW2 hF)
        | (rw [nI_le0 (by omega)] at h54; rw [if_pos (c := 0 < k ∧ least ≤ (rd0 (Fc ρ) (Se (stS ρ 1 (nI k))) (lsO n Lf)).1) ⟨by omega, Int32.not_lt.mp h61⟩]; exact ih (k + 1) best _ _ _ _ (by omega) hW2 hF)
    · refine ev_iload dX12_heap_57 rfl ?_
      refine ev_iload dX12_heap_59 rfl ?_
      refine ev_icmp_lt (tgt := 67) dX12_heap_61 (by decide) (fun h61 => ?_) (fun h61 => ?_)
      · refine ev_iload dX12_heap_67 rfl ?_
        refine ev_istore_n dX12_heap_69 (by decide) ?_
        dsimp only [List.set]
        refine ev_iload dX12_heap_70 rfl ?_
        refine ev_istore dX12_heap_72 (by decide) ?_
        dsimp only [List.set]
        refine ev_iinc dX12_heap_74 rfl (by decide) ?_
        dsimp only [List.set]
        refine ev_goto (tgt := 31) dX12_heap_77 (by decide) ?_
        rw [nI_inc]
        first
          | (rw [nI_le0 (by omega)] at h54; rw [if_neg (c := 0 < k ∧ least ≤ (rd0 (Fc ρ) (Se (stS ρ 1 (nI k))) (lsO n Lf)).1) (fun q => by omega)]; exact ih (k + 1) k _ _ _ _ (by omega) hW2 hF)
          | (rw [nI_le0 (by omega)] at h54; rw [if_neg (c := 0 < k ∧ least ≤ (rd0 (Fc ρ) (Se (stS ρ 1 (nI k))) (lsO n Lf)).1) (fun q => Int32.not_le.mpr h61 q.2)]; exact ih (k + 1) k _ _ _ _ (by omega) hW2 hF)
          | (rw [nI_le0 (by omega)] at h54; rw [if_pos (c := 0 < k ∧ least ≤ (rd0 (Fc ρ) (Se (stS ρ 1 (nI k))) (lsO n Lf)).1) ⟨by omega, Int32.not_lt.mp h61⟩]; exact ih (k + 1) best _ _ _ _ (by omega) hW2 hF)
      · refine ev_goto (tgt := 74) dX12_heap_64 (by decide) ?_
        refine ev_iinc dX12_heap_74 rfl (by decide) ?_
        dsimp only [List.set]
        refine ev_goto (tgt := 31) dX12_heap_77 (by decide) ?_
        rw [nI_inc]
        first
          | (rw [nI_le0 (by omega)] at h54; rw [if_neg (c := 0 < k ∧ least ≤ (rd0 (Fc ρ) (Se (stS ρ 1 (nI k))) (lsO n Lf)).1) (fun q => by omega)]; exact ih (k + 1) k _ _ _ _ (by omega) hW2 hF)
          | (rw [nI_le0 (by omega)] at h54; rw [if_neg (c := 0 < k ∧ least ≤ (rd0 (Fc ρ) (Se (stS ρ 1 (nI k))) (lsO n Lf)).1) (fun q => Int32.not_le.mpr h61 q.2)]; exact ih (k + 1) k _ _ _ _ (by omega) hW2 hF)
          | (rw [nI_le0 (by omega)] at h54; rw [if_pos (c := 0 < k ∧ least ≤ (rd0 (Fc ρ) (Se (stS ρ 1 (nI k))) (lsO n Lf)).1) ⟨by omega, Int32.not_lt.mp h61⟩]; exact ih (k + 1) best _ _ _ _ (by omega) hW2 hF)
theorem c_heap {μ : Mm} (hW : MW b ρ μ) {n t tx : Nat} {cd : Nat → List Int32} {Lf : Nat → Nat} (hI : IM ρ n t tx cd Lf) (w : Int32) : Mt g 4 mX12_heap [.ref b, .int w] μ (fun v μ' => v = some (.int (ansHeap ρ n Lf w)) ∧ MW b ρ μ' ∧ FM b μ μ') := by
  refine Mt.of0 (ls0 := [some (.ref b), some (.int w), none, none, none, none, none]) (by decide) (by simp [Value.category]) (Nat.le_of_ble_eq_true rfl) rfl ?_
  obtain ⟨ρ0, hM, hL, hE⟩ := id hW
  have hF : FM b μ μ := FM.rf
  have hI0 := hI.eqc hE
  have h10 : (ρ.1 6).length = 10 := by rw [← hE.1 6 (by decide)]; exact hL.at (by decide)
  rw [ansHeap]
  refine ev_iload_n dX12_heap_0 rfl ?_
  refine ev_iconst (v := 0) dX12_heap_1 (by decide) ?_
  refine ev_iconst (v := 1) dX12_heap_2 (by decide) ?_
  refine k_s (c_isIn w 0 1) (by decide) dX12_heap_3 cbX12_isIn (mt5 123 rfl rfl) (mt5 124 rfl rfl) rfl rfl (Nat.le_of_ble_eq_true rfl) (fun v μ1 hq => ?_)
  obtain ⟨rfl, hμ⟩ := hq
  have hμ := hμ.symm
  subst hμ
  simp only [Option.toList, List.cons_append, List.nil_append]
  refine ev_if_ne (tgt := 12) dX12_heap_6 (by decide) (fun h6 => ?_) (fun h6 => ?_)
  · refine ev_aload_n dX12_heap_12 rfl ?_
    refine k_v (c_takesList hM hL hI0) (by decide) dX12_heap_13 cbX12_takesList (mt6 20 rfl rfl) (mt6 22 rfl rfl) (ms0 64 rfl rfl) (ci := 12) rfl hM.1 rfl rfl (Nat.le_of_ble_eq_true rfl) (fun v μ1 hq => ?_)
    obtain ⟨rfl, ⟨ρ1, hM, hL1, hE1, hO⟩, hF1⟩ := hq; have hF := hF.tr hF1; have hEq := hE1.tr hE
    simp only [Option.toList, List.cons_append, List.nil_append]
    refine ev_aload_n dX12_heap_16 rfl ?_
    refine ev_get dX12_heap_17 flX12_28_12 hM.1 rfl ?_
    refine ev_iconst (v := 1) dX12_heap_20 (by decide) ?_
    refine ev_iald dX12_heap_21 (hM.a 6 7 (by decide)) ixl1 (rd hL1 (k := 6) (n := 10) (by decide) (by decide)) ?_
    refine ev_istore_n dX12_heap_22 (by decide) ?_
    dsimp only [List.set]
    refine ev_iconst (v := 0) dX12_heap_23 (by decide) ?_
    refine ev_istore_n dX12_heap_24 (by decide) ?_
    dsimp only [List.set]
    refine ev_iconst (v := 0) dX12_heap_25 (by decide) ?_
    refine ev_istore dX12_heap_26 (by decide) ?_
    dsimp only [List.set]
    refine ev_iconst (v := 0) dX12_heap_28 (by decide) ?_
    refine ev_istore dX12_heap_29 (by decide) ?_
    dsimp only [List.set]
    rw [if_pos (b2i_ne h6), hEq.1 6 (by decide)]
    exact l_heap hI h10 100 0 0 0 _ (Se ρ 1) _ (by omega) ⟨ρ1, hM, hL1, by rw [stS_same]; exact hEq, hO⟩ hF
  · refine ev_bipush (v := (-2)) dX12_heap_9 (by decide) ?_
    refine ev_iret dX12_heap_11 rfl ?_
    rw [if_neg (b2i_eq h6)]
    exact ⟨rfl, hW, hF⟩
end MHEAP
