/-! ===== the reference: sheets ===== -/
def SH (ρ : MS) : Prop := ∀ s, s < 4 → rg ((ρ.1 33).getD s 0) (-1) 2 ∧ rg ((ρ.1 34).getD s 0) 0 40
theorem mul40 {s k : Nat} : (40 : Int32) * nI s + nI k = nI (40 * s + k) := by
  have h1 : (40 : Int32) * nI s = nI (40 * s) := (Int32.ofNat_mul 40 s).symm
  rw [h1, nI_add]
theorem sheet_n {h : Int32} (h0 : 0 ≤ h) (h1 : h < 4) : h.toInt.toNat < 4 ∧ h = nI h.toInt.toNat := by
  rw [Int32.le_iff_toInt_le, Int32.toInt_zero] at h0
  simp only [Int32.lt_iff_toInt_lt, Int32.reduceToInt] at h1
  refine ⟨by omega, ?_⟩
  apply Int32.toInt_inj.mp
  rw [nI_i (by omega)]
  omega
theorem size_n {x : Int32} (h : rg x 0 40) : ∃ z, z ≤ 40 ∧ x = nI z := by
  refine ⟨x.toInt.toNat, by have := h.1; have := h.2; omega, ?_⟩
  apply Int32.toInt_inj.mp
  have := h.1; have := h.2
  rw [nI_i (by omega)]
  omega
def zerK (base : Nat) : Nat → Nat → List Int32 → List Int32
  | 0, _, l => l
  | m + 1, k, l => zerK base m (k + 1) (l.set (base + k) 0)
theorem zerK_len {base : Nat} : ∀ (m k : Nat) (l : List Int32), (zerK base m k l).length = l.length := by
  intro m
  induction m with
  | zero => intro k l; rfl
  | succ m ih => intro k l; rw [zerK, ih, List.length_set]
def opSheet (ρ : MS) (s so n : Int32) : Int32 × MS :=
  if (0 ≤ s ∧ s < 4) ∧ -1 ≤ so ∧ so ≤ 2 then
    (if 0 ≤ so ∧ 40 < n then (-2, ρ) else if 0 ≤ so ∧ n < 0 then (-14, ρ) else
      (1, setA (setA (setA ρ 33 ((ρ.1 33).set s.toInt.toNat so)) 34 ((ρ.1 34).set s.toInt.toNat (if so < 0 then 0 else n))) 35 (zerK (40 * s.toInt.toNat) (if so < 0 then 0 else n).toInt.toNat 0 (ρ.1 35))))
  else (-2, ρ)
def cutS (so v : Int32) : Int32 := if so = 0 then v.toInt8.toInt32 else if so = 1 then v.toInt16.toInt32 else v
def opCell (ρ : MS) (s i v : Int32) : Int32 × MS :=
  if 0 ≤ s ∧ s < 4 then (if (ρ.1 33).getD s.toInt.toNat 0 < 0 then (-11, ρ) else if 0 ≤ i ∧ i ≤ (ρ.1 34).getD s.toInt.toNat 0 - 1 then (1, setA ρ 35 ((ρ.1 35).set (40 * s.toInt.toNat + i.toInt.toNat) (cutS ((ρ.1 33).getD s.toInt.toNat 0) v))) else (-12, ρ)) else (-2, ρ)
def hasC (z i n : Int32) : Prop := 0 ≤ i ∧ i ≤ z ∧ n ≤ z - i
section MSHEET
variable {g : Gl} {μ : Mm} {b : Nat} {ρ : MS}
theorem l_sheet {ρ0 : MS} (hL : ML ρ0) (hE : EqC ρ0 ρ) {s z : Nat} {so n : Int32} (hs : s < 4) (hz : (ρ0.1 34).getD s 0 = nI z) (hz4 : z ≤ 40) {μ0 : Mm} : ∀ (m k : Nat) (l : List Int32) (μ : Mm), k + m = z → l.length = 160 → RM b (setA ρ0 35 l) μ → FM b μ0 μ → Ev g 1 mX12_sheet 68 [some (.ref b), some (.int (nI s)), some (.int so), some (.int n), some (.int (nI k))] [] μ (fun r μ' => r = some (.int 1) ∧ MW b (setA ρ 35 (zerK (40 * s) m k l)) μ' ∧ FM b μ0 μ') := by
  intro m
  induction m with
  | zero =>
    intro k l μ hk hl hM hF
    refine ev_iload dX12_sheet_68 rfl ?_
    refine ev_aload_n dX12_sheet_70 rfl ?_
    refine ev_get dX12_sheet_71 flX12_70_12 hM.1 rfl ?_
    refine ev_iload_n dX12_sheet_74 rfl ?_
    refine ev_iald dX12_sheet_75 (hM.a 34 31 (by decide)) (ix_n (by omega)) (rd hL (k := 34) (n := 4) (by decide) hs) ?_
    refine ev_icmp_ge (tgt := 98) dX12_sheet_76 (by decide) (fun _ => ?_) (fun h76 => absurd ((show (ρ0.1 34).getD s 0 ≤ nI k by rw [hz]; exact nI_le (by omega) (by omega))) h76)
    refine ev_iconst (v := 1) dX12_sheet_98 (by decide) ?_
    refine ev_iret dX12_sheet_99 rfl ?_
    exact ⟨rfl, ⟨_, hM, ML.setA hL (by rw [hl]; exact (hL.at (k := 35) (n := 160) (by decide)).symm), hE.cA⟩, hF⟩
  | succ m ih =>
    intro k l μ hk hl hM hF
    rw [zerK]
    refine ev_iload dX12_sheet_68 rfl ?_
    refine ev_aload_n dX12_sheet_70 rfl ?_
    refine ev_get dX12_sheet_71 flX12_70_12 hM.1 rfl ?_
    refine ev_iload_n dX12_sheet_74 rfl ?_
    refine ev_iald dX12_sheet_75 (hM.a 34 31 (by decide)) (ix_n (by omega)) (rd hL (k := 34) (n := 4) (by decide) hs) ?_
    refine ev_icmp_ge (tgt := 98) dX12_sheet_76 (by decide) (fun h76 => absurd h76 ((show ¬ (ρ0.1 34).getD s 0 ≤ nI k by rw [hz]; exact nI_ge (by omega) (by omega)))) (fun _ => ?_)
    refine ev_aload_n dX12_sheet_79 rfl ?_
    refine ev_get dX12_sheet_80 flX12_73_12 hM.1 rfl ?_
    refine ev_bipush (v := 40) dX12_sheet_83 (by decide) ?_
    refine ev_iload_n dX12_sheet_85 rfl ?_
    refine ev_imul dX12_sheet_86 ?_
    refine ev_iload dX12_sheet_87 rfl ?_
    refine ev_iadd dX12_sheet_89 ?_
    refine ev_iconst (v := 0) dX12_sheet_90 (by decide) ?_
    refine evM_iast hM hF (k := 35) (o := 32) (by decide) dX12_sheet_91 (by rw [mul40]; exact ix_n (by omega)) (show 40 * s + k < ((setA ρ0 35 l).1 35).length by rw [setA_at, hl]; omega) (fun μ hM hF => ?_)
    rw [setA_at, setA_setA] at hM
    refine ev_iinc dX12_sheet_92 rfl (by decide) ?_
    dsimp only [List.set]
    refine ev_goto (tgt := 68) dX12_sheet_95 (by decide) ?_
    rw [nI_inc]
    exact ih (k + 1) _ μ (by omega) (by rw [List.length_set]; exact hl) hM hF
theorem c_sheet {μ0 : Mm} (hW : MW b ρ μ0) (s so n : Int32) : Mt g 1 mX12_sheet [.ref b, .int s, .int so, .int n] μ0 (fun r μ' => r = some (.int (opSheet ρ s so n).1) ∧ MW b (opSheet ρ s so n).2 μ' ∧ FM b μ0 μ') := by
  refine Mt.of0 (ls0 := [some (.ref b), some (.int s), some (.int so), some (.int n), none]) (by decide) (by simp [Value.category]) (Nat.le_of_ble_eq_true rfl) rfl ?_
  obtain ⟨ρ0, hM, hL, hE⟩ := id hW
  have hF : FM b μ0 μ0 := FM.rf
  rw [opSheet]
  refine ev_iload_n dX12_sheet_0 rfl ?_
  refine k_s (c_isSheet s) (by decide) dX12_sheet_1 cbX12_isSheet (mt6 72 rfl rfl) (mt6 73 rfl rfl) rfl rfl (Nat.le_of_ble_eq_true rfl) (fun v μ1 hq => ?_)
  obtain ⟨rfl, hμ⟩ := hq
  have hμ := hμ.symm
  subst hμ
  simp only [Option.toList, List.cons_append, List.nil_append]
  refine ev_if_eq (tgt := 16) dX12_sheet_4 (by decide) (fun h4 => ?_) (fun h4 => ?_)
  · refine ev_bipush (v := (-2)) dX12_sheet_16 (by decide) ?_
    refine ev_iret dX12_sheet_18 rfl ?_
    first
      | (rw [if_neg (fun q => b2i_eq h4 q.1)]; exact ⟨rfl, hW, hF⟩)
      | (rw [if_neg (fun q => b2i_eq h13 q.2)]; exact ⟨rfl, hW, hF⟩)
  · refine ev_iload_n dX12_sheet_7 rfl ?_
    refine ev_iconst (v := (-1)) dX12_sheet_8 (by decide) ?_
    refine ev_iconst (v := 2) dX12_sheet_9 (by decide) ?_
    refine k_s (c_isIn so (-1) 2) (by decide) dX12_sheet_10 cbX12_isIn (mt5 123 rfl rfl) (mt5 124 rfl rfl) rfl rfl (Nat.le_of_ble_eq_true rfl) (fun v μ1 hq => ?_)
    obtain ⟨rfl, hμ⟩ := hq
    have hμ := hμ.symm
    subst hμ
    simp only [Option.toList, List.cons_append, List.nil_append]
    refine ev_if_ne (tgt := 19) dX12_sheet_13 (by decide) (fun h13 => ?_) (fun h13 => ?_)
    · refine ev_iload_n dX12_sheet_19 rfl ?_
      refine ev_if_lt (tgt := 32) dX12_sheet_20 (by decide) (fun h20 => ?_) (fun h20 => ?_)
      · refine ev_iload_n dX12_sheet_32 rfl ?_
        refine ev_if_lt (tgt := 43) dX12_sheet_33 (by decide) (fun h33 => ?_) (fun h33 => ?_)
        · have h4' := b2i_ne h4
          rw [if_pos ⟨h4', b2i_ne h13⟩, if_neg (fun q => by (simp only [Fc, Se, Nat.reduceLT, ↓reduceIte, ← Int32.toInt_inj, Int32.le_iff_toInt_le, Int32.lt_iff_toInt_lt, Int32.reduceToInt] at *; omega)), if_neg (fun q => by (simp only [Fc, Se, Nat.reduceLT, ↓reduceIte, ← Int32.toInt_inj, Int32.le_iff_toInt_le, Int32.lt_iff_toInt_lt, Int32.reduceToInt] at *; omega))]
          obtain ⟨hi, ei⟩ := sheet_n h4'.1 h4'.2
          generalize s.toInt.toNat = s' at hi ei ⊢
          subst ei
          refine ev_aload_n dX12_sheet_43 rfl ?_
          refine ev_get dX12_sheet_44 flX12_67_12 hM.1 rfl ?_
          refine ev_iload_n dX12_sheet_47 rfl ?_
          refine ev_iload_n dX12_sheet_48 rfl ?_
          refine evM_iast hM hF (k := 33) (o := 30) (by decide) dX12_sheet_49 (ix_n (by omega)) (by rw [hL.at (k := 33) (n := 4) (by decide)]; exact hi) (fun μ hM hF => ?_)
          refine ev_aload_n dX12_sheet_50 rfl ?_
          refine ev_get dX12_sheet_51 flX12_70_12 hM.1 rfl ?_
          refine ev_iload_n dX12_sheet_54 rfl ?_
          refine ev_iload_n dX12_sheet_55 rfl ?_
          refine ev_if_ge (tgt := 63) dX12_sheet_56 (by decide) (fun h56 => ?_) (fun h56 => ?_)
          · refine ev_iload_n dX12_sheet_63 rfl ?_
            refine evM_iast hM hF (k := 34) (o := 31) (by decide) dX12_sheet_64 (ix_n (by omega)) (show s' < (ρ0.1 34).length by rw [hL.at (k := 34) (n := 4) (by decide)]; exact hi) (fun μ hM hF => ?_)
            refine ev_iconst (v := 0) dX12_sheet_65 (by decide) ?_
            refine ev_istore dX12_sheet_66 (by decide) ?_
            dsimp only [List.set]
            have fin : ∀ (V : Int32) (z : Nat), V = nI z → z ≤ 40 → RM b (setA (setA ρ0 33 ((ρ0.1 33).set s' so)) 34 ((ρ0.1 34).set s' V)) μ → Ev g 1 mX12_sheet 68 [some (.ref b), some (.int (nI s')), some (.int so), some (.int n), some (.int (nI 0))] [] μ (fun r μ' => r = some (.int 1) ∧ MW b (setA (setA (setA ρ 33 ((ρ.1 33).set s' so)) 34 ((ρ.1 34).set s' V)) 35 (zerK (40 * s') z 0 (ρ.1 35))) μ' ∧ FM b μ0 μ') := by
              intro V z hV hz hMz
              have hLz : ML (setA (setA ρ0 33 ((ρ0.1 33).set s' so)) 34 ((ρ0.1 34).set s' V)) := ML.setA (ML.setA hL List.length_set) List.length_set
              have hEz : EqC (setA (setA ρ0 33 ((ρ0.1 33).set s' so)) 34 ((ρ0.1 34).set s' V)) (setA (setA ρ 33 ((ρ.1 33).set s' so)) 34 ((ρ.1 34).set s' V)) := by
                rw [hE.1 33 (by decide), hE.1 34 (by decide)]; exact hE.cA.cA
              rw [← hE.1 35 (by decide)]
              refine l_sheet hLz hEz hi ?_ hz z 0 (ρ0.1 35) μ (by omega) (hL.at (by decide)) ?_ hF
              · rw [setA_at, stg_D (by rw [hL.at (k := 34) (n := 4) (by decide)]; exact hi), if_pos rfl]; exact hV
              · have e : setA (setA (setA ρ0 33 ((ρ0.1 33).set s' so)) 34 ((ρ0.1 34).set s' V)) 35 (ρ0.1 35) = setA (setA ρ0 33 ((ρ0.1 33).set s' so)) 34 ((ρ0.1 34).set s' V) := setA_self
                rw [e]; exact hMz
            first
              | (rw [if_pos (Int32.not_le.mp h56)]; exact fin 0 0 rfl (by omega) hM)
              | (rw [if_neg (Int32.not_lt.mpr h56)]
                 have hz : 0 ≤ n.toInt ∧ n.toInt ≤ 40 := by
                   simp only [Int32.le_iff_toInt_le, Int32.lt_iff_toInt_lt, Int32.reduceToInt] at *; omega
                 exact fin n n.toInt.toNat (by apply Int32.toInt_inj.mp; rw [nI_i (by omega)]; omega) (by omega) hM)
          · refine ev_iconst (v := 0) dX12_sheet_59 (by decide) ?_
            refine ev_goto (tgt := 64) dX12_sheet_60 (by decide) ?_
            refine evM_iast hM hF (k := 34) (o := 31) (by decide) dX12_sheet_64 (ix_n (by omega)) (show s' < (ρ0.1 34).length by rw [hL.at (k := 34) (n := 4) (by decide)]; exact hi) (fun μ hM hF => ?_)
            refine ev_iconst (v := 0) dX12_sheet_65 (by decide) ?_
            refine ev_istore dX12_sheet_66 (by decide) ?_
            dsimp only [List.set]
            have fin : ∀ (V : Int32) (z : Nat), V = nI z → z ≤ 40 → RM b (setA (setA ρ0 33 ((ρ0.1 33).set s' so)) 34 ((ρ0.1 34).set s' V)) μ → Ev g 1 mX12_sheet 68 [some (.ref b), some (.int (nI s')), some (.int so), some (.int n), some (.int (nI 0))] [] μ (fun r μ' => r = some (.int 1) ∧ MW b (setA (setA (setA ρ 33 ((ρ.1 33).set s' so)) 34 ((ρ.1 34).set s' V)) 35 (zerK (40 * s') z 0 (ρ.1 35))) μ' ∧ FM b μ0 μ') := by
              intro V z hV hz hMz
              have hLz : ML (setA (setA ρ0 33 ((ρ0.1 33).set s' so)) 34 ((ρ0.1 34).set s' V)) := ML.setA (ML.setA hL List.length_set) List.length_set
              have hEz : EqC (setA (setA ρ0 33 ((ρ0.1 33).set s' so)) 34 ((ρ0.1 34).set s' V)) (setA (setA ρ 33 ((ρ.1 33).set s' so)) 34 ((ρ.1 34).set s' V)) := by
                rw [hE.1 33 (by decide), hE.1 34 (by decide)]; exact hE.cA.cA
              rw [← hE.1 35 (by decide)]
              refine l_sheet hLz hEz hi ?_ hz z 0 (ρ0.1 35) μ (by omega) (hL.at (by decide)) ?_ hF
              · rw [setA_at, stg_D (by rw [hL.at (k := 34) (n := 4) (by decide)]; exact hi), if_pos rfl]; exact hV
              · have e : setA (setA (setA ρ0 33 ((ρ0.1 33).set s' so)) 34 ((ρ0.1 34).set s' V)) 35 (ρ0.1 35) = setA (setA ρ0 33 ((ρ0.1 33).set s' so)) 34 ((ρ0.1 34).set s' V) := setA_self
                rw [e]; exact hMz
            first
              | (rw [if_pos (Int32.not_le.mp h56)]; exact fin 0 0 rfl (by omega) hM)
              | (rw [if_neg (Int32.not_lt.mpr h56)]
                 have hz : 0 ≤ n.toInt ∧ n.toInt ≤ 40 := by
                   simp only [Int32.le_iff_toInt_le, Int32.lt_iff_toInt_lt, Int32.reduceToInt] at *; omega
                 exact fin n n.toInt.toNat (by apply Int32.toInt_inj.mp; rw [nI_i (by omega)]; omega) (by omega) hM)
        · refine ev_iload_n dX12_sheet_36 rfl ?_
          refine ev_if_ge (tgt := 43) dX12_sheet_37 (by decide) (fun h37 => ?_) (fun h37 => ?_)
          · have h4' := b2i_ne h4
            rw [if_pos ⟨h4', b2i_ne h13⟩, if_neg (fun q => by (simp only [Fc, Se, Nat.reduceLT, ↓reduceIte, ← Int32.toInt_inj, Int32.le_iff_toInt_le, Int32.lt_iff_toInt_lt, Int32.reduceToInt] at *; omega)), if_neg (fun q => by (simp only [Fc, Se, Nat.reduceLT, ↓reduceIte, ← Int32.toInt_inj, Int32.le_iff_toInt_le, Int32.lt_iff_toInt_lt, Int32.reduceToInt] at *; omega))]
            obtain ⟨hi, ei⟩ := sheet_n h4'.1 h4'.2
            generalize s.toInt.toNat = s' at hi ei ⊢
            subst ei
            refine ev_aload_n dX12_sheet_43 rfl ?_
            refine ev_get dX12_sheet_44 flX12_67_12 hM.1 rfl ?_
            refine ev_iload_n dX12_sheet_47 rfl ?_
            refine ev_iload_n dX12_sheet_48 rfl ?_
            refine evM_iast hM hF (k := 33) (o := 30) (by decide) dX12_sheet_49 (ix_n (by omega)) (by rw [hL.at (k := 33) (n := 4) (by decide)]; exact hi) (fun μ hM hF => ?_)
            refine ev_aload_n dX12_sheet_50 rfl ?_
            refine ev_get dX12_sheet_51 flX12_70_12 hM.1 rfl ?_
            refine ev_iload_n dX12_sheet_54 rfl ?_
            refine ev_iload_n dX12_sheet_55 rfl ?_
            refine ev_if_ge (tgt := 63) dX12_sheet_56 (by decide) (fun h56 => ?_) (fun h56 => ?_)
            · refine ev_iload_n dX12_sheet_63 rfl ?_
              refine evM_iast hM hF (k := 34) (o := 31) (by decide) dX12_sheet_64 (ix_n (by omega)) (show s' < (ρ0.1 34).length by rw [hL.at (k := 34) (n := 4) (by decide)]; exact hi) (fun μ hM hF => ?_)
              refine ev_iconst (v := 0) dX12_sheet_65 (by decide) ?_
              refine ev_istore dX12_sheet_66 (by decide) ?_
              dsimp only [List.set]
              have fin : ∀ (V : Int32) (z : Nat), V = nI z → z ≤ 40 → RM b (setA (setA ρ0 33 ((ρ0.1 33).set s' so)) 34 ((ρ0.1 34).set s' V)) μ → Ev g 1 mX12_sheet 68 [some (.ref b), some (.int (nI s')), some (.int so), some (.int n), some (.int (nI 0))] [] μ (fun r μ' => r = some (.int 1) ∧ MW b (setA (setA (setA ρ 33 ((ρ.1 33).set s' so)) 34 ((ρ.1 34).set s' V)) 35 (zerK (40 * s') z 0 (ρ.1 35))) μ' ∧ FM b μ0 μ') := by
                intro V z hV hz hMz
                have hLz : ML (setA (setA ρ0 33 ((ρ0.1 33).set s' so)) 34 ((ρ0.1 34).set s' V)) := ML.setA (ML.setA hL List.length_set) List.length_set
                have hEz : EqC (setA (setA ρ0 33 ((ρ0.1 33).set s' so)) 34 ((ρ0.1 34).set s' V)) (setA (setA ρ 33 ((ρ.1 33).set s' so)) 34 ((ρ.1 34).set s' V)) := by
                  rw [hE.1 33 (by decide), hE.1 34 (by decide)]; exact hE.cA.cA
                rw [← hE.1 35 (by decide)]
                refine l_sheet hLz hEz hi ?_ hz z 0 (ρ0.1 35) μ (by omega) (hL.at (by decide)) ?_ hF
                · rw [setA_at, stg_D (by rw [hL.at (k := 34) (n := 4) (by decide)]; exact hi), if_pos rfl]; exact hV
                · have e : setA (setA (setA ρ0 33 ((ρ0.1 33).set s' so)) 34 ((ρ0.1 34).set s' V)) 35 (ρ0.1 35) = setA (setA ρ0 33 ((ρ0.1 33).set s' so)) 34 ((ρ0.1 34).set s' V) := setA_self
                  rw [e]; exact hMz
              first
                | (rw [if_pos (Int32.not_le.mp h56)]; exact fin 0 0 rfl (by omega) hM)
                | (rw [if_neg (Int32.not_lt.mpr h56)]
                   have hz : 0 ≤ n.toInt ∧ n.toInt ≤ 40 := by
                     simp only [Int32.le_iff_toInt_le, Int32.lt_iff_toInt_lt, Int32.reduceToInt] at *; omega
                   exact fin n n.toInt.toNat (by apply Int32.toInt_inj.mp; rw [nI_i (by omega)]; omega) (by omega) hM)
            · refine ev_iconst (v := 0) dX12_sheet_59 (by decide) ?_
              refine ev_goto (tgt := 64) dX12_sheet_60 (by decide) ?_
              refine evM_iast hM hF (k := 34) (o := 31) (by decide) dX12_sheet_64 (ix_n (by omega)) (show s' < (ρ0.1 34).length by rw [hL.at (k := 34) (n := 4) (by decide)]; exact hi) (fun μ hM hF => ?_)
              refine ev_iconst (v := 0) dX12_sheet_65 (by decide) ?_
              refine ev_istore dX12_sheet_66 (by decide) ?_
              dsimp only [List.set]
              have fin : ∀ (V : Int32) (z : Nat), V = nI z → z ≤ 40 → RM b (setA (setA ρ0 33 ((ρ0.1 33).set s' so)) 34 ((ρ0.1 34).set s' V)) μ → Ev g 1 mX12_sheet 68 [some (.ref b), some (.int (nI s')), some (.int so), some (.int n), some (.int (nI 0))] [] μ (fun r μ' => r = some (.int 1) ∧ MW b (setA (setA (setA ρ 33 ((ρ.1 33).set s' so)) 34 ((ρ.1 34).set s' V)) 35 (zerK (40 * s') z 0 (ρ.1 35))) μ' ∧ FM b μ0 μ') := by
                intro V z hV hz hMz
                have hLz : ML (setA (setA ρ0 33 ((ρ0.1 33).set s' so)) 34 ((ρ0.1 34).set s' V)) := ML.setA (ML.setA hL List.length_set) List.length_set
                have hEz : EqC (setA (setA ρ0 33 ((ρ0.1 33).set s' so)) 34 ((ρ0.1 34).set s' V)) (setA (setA ρ 33 ((ρ.1 33).set s' so)) 34 ((ρ.1 34).set s' V)) := by
                  rw [hE.1 33 (by decide), hE.1 34 (by decide)]; exact hE.cA.cA
                rw [← hE.1 35 (by decide)]
                refine l_sheet hLz hEz hi ?_ hz z 0 (ρ0.1 35) μ (by omega) (hL.at (by decide)) ?_ hF
                · rw [setA_at, stg_D (by rw [hL.at (k := 34) (n := 4) (by decide)]; exact hi), if_pos rfl]; exact hV
                · have e : setA (setA (setA ρ0 33 ((ρ0.1 33).set s' so)) 34 ((ρ0.1 34).set s' V)) 35 (ρ0.1 35) = setA (setA ρ0 33 ((ρ0.1 33).set s' so)) 34 ((ρ0.1 34).set s' V) := setA_self
                  rw [e]; exact hMz
              first
                | (rw [if_pos (Int32.not_le.mp h56)]; exact fin 0 0 rfl (by omega) hM)
                | (rw [if_neg (Int32.not_lt.mpr h56)]
                   have hz : 0 ≤ n.toInt ∧ n.toInt ≤ 40 := by
                     simp only [Int32.le_iff_toInt_le, Int32.lt_iff_toInt_lt, Int32.reduceToInt] at *; omega
                   exact fin n n.toInt.toNat (by apply Int32.toInt_inj.mp; rw [nI_i (by omega)]; omega) (by omega) hM)
          · refine ev_bipush (v := (-14)) dX12_sheet_40 (by decide) ?_
            refine ev_iret dX12_sheet_42 rfl ?_
            rw [if_pos ⟨b2i_ne h4, b2i_ne h13⟩, if_neg (fun q => by (simp only [Fc, Se, Nat.reduceLT, ↓reduceIte, ← Int32.toInt_inj, Int32.le_iff_toInt_le, Int32.lt_iff_toInt_lt, Int32.reduceToInt] at *; omega)), if_pos ⟨Int32.not_lt.mp h33, Int32.not_le.mp h37⟩]
            exact ⟨rfl, hW, hF⟩
      · refine ev_iload_n dX12_sheet_23 rfl ?_
        refine ev_bipush (v := 40) dX12_sheet_24 (by decide) ?_
        refine ev_icmp_le (tgt := 32) dX12_sheet_26 (by decide) (fun h26 => ?_) (fun h26 => ?_)
        · refine ev_iload_n dX12_sheet_32 rfl ?_
          refine ev_if_lt (tgt := 43) dX12_sheet_33 (by decide) (fun h33 => ?_) (fun h33 => ?_)
          · have h4' := b2i_ne h4
            rw [if_pos ⟨h4', b2i_ne h13⟩, if_neg (fun q => by (simp only [Fc, Se, Nat.reduceLT, ↓reduceIte, ← Int32.toInt_inj, Int32.le_iff_toInt_le, Int32.lt_iff_toInt_lt, Int32.reduceToInt] at *; omega)), if_neg (fun q => by (simp only [Fc, Se, Nat.reduceLT, ↓reduceIte, ← Int32.toInt_inj, Int32.le_iff_toInt_le, Int32.lt_iff_toInt_lt, Int32.reduceToInt] at *; omega))]
            obtain ⟨hi, ei⟩ := sheet_n h4'.1 h4'.2
            generalize s.toInt.toNat = s' at hi ei ⊢
            subst ei
            refine ev_aload_n dX12_sheet_43 rfl ?_
            refine ev_get dX12_sheet_44 flX12_67_12 hM.1 rfl ?_
            refine ev_iload_n dX12_sheet_47 rfl ?_
            refine ev_iload_n dX12_sheet_48 rfl ?_
            refine evM_iast hM hF (k := 33) (o := 30) (by decide) dX12_sheet_49 (ix_n (by omega)) (by rw [hL.at (k := 33) (n := 4) (by decide)]; exact hi) (fun μ hM hF => ?_)
            refine ev_aload_n dX12_sheet_50 rfl ?_
            refine ev_get dX12_sheet_51 flX12_70_12 hM.1 rfl ?_
            refine ev_iload_n dX12_sheet_54 rfl ?_
            refine ev_iload_n dX12_sheet_55 rfl ?_
            refine ev_if_ge (tgt := 63) dX12_sheet_56 (by decide) (fun h56 => ?_) (fun h56 => ?_)
            · refine ev_iload_n dX12_sheet_63 rfl ?_
              refine evM_iast hM hF (k := 34) (o := 31) (by decide) dX12_sheet_64 (ix_n (by omega)) (show s' < (ρ0.1 34).length by rw [hL.at (k := 34) (n := 4) (by decide)]; exact hi) (fun μ hM hF => ?_)
              refine ev_iconst (v := 0) dX12_sheet_65 (by decide) ?_
              refine ev_istore dX12_sheet_66 (by decide) ?_
              dsimp only [List.set]
              have fin : ∀ (V : Int32) (z : Nat), V = nI z → z ≤ 40 → RM b (setA (setA ρ0 33 ((ρ0.1 33).set s' so)) 34 ((ρ0.1 34).set s' V)) μ → Ev g 1 mX12_sheet 68 [some (.ref b), some (.int (nI s')), some (.int so), some (.int n), some (.int (nI 0))] [] μ (fun r μ' => r = some (.int 1) ∧ MW b (setA (setA (setA ρ 33 ((ρ.1 33).set s' so)) 34 ((ρ.1 34).set s' V)) 35 (zerK (40 * s') z 0 (ρ.1 35))) μ' ∧ FM b μ0 μ') := by
                intro V z hV hz hMz
                have hLz : ML (setA (setA ρ0 33 ((ρ0.1 33).set s' so)) 34 ((ρ0.1 34).set s' V)) := ML.setA (ML.setA hL List.length_set) List.length_set
                have hEz : EqC (setA (setA ρ0 33 ((ρ0.1 33).set s' so)) 34 ((ρ0.1 34).set s' V)) (setA (setA ρ 33 ((ρ.1 33).set s' so)) 34 ((ρ.1 34).set s' V)) := by
                  rw [hE.1 33 (by decide), hE.1 34 (by decide)]; exact hE.cA.cA
                rw [← hE.1 35 (by decide)]
                refine l_sheet hLz hEz hi ?_ hz z 0 (ρ0.1 35) μ (by omega) (hL.at (by decide)) ?_ hF
                · rw [setA_at, stg_D (by rw [hL.at (k := 34) (n := 4) (by decide)]; exact hi), if_pos rfl]; exact hV
                · have e : setA (setA (setA ρ0 33 ((ρ0.1 33).set s' so)) 34 ((ρ0.1 34).set s' V)) 35 (ρ0.1 35) = setA (setA ρ0 33 ((ρ0.1 33).set s' so)) 34 ((ρ0.1 34).set s' V) := setA_self
                  rw [e]; exact hMz
              first
                | (rw [if_pos (Int32.not_le.mp h56)]; exact fin 0 0 rfl (by omega) hM)
                | (rw [if_neg (Int32.not_lt.mpr h56)]
                   have hz : 0 ≤ n.toInt ∧ n.toInt ≤ 40 := by
                     simp only [Int32.le_iff_toInt_le, Int32.lt_iff_toInt_lt, Int32.reduceToInt] at *; omega
                   exact fin n n.toInt.toNat (by apply Int32.toInt_inj.mp; rw [nI_i (by omega)]; omega) (by omega) hM)
            · refine ev_iconst (v := 0) dX12_sheet_59 (by decide) ?_
              refine ev_goto (tgt := 64) dX12_sheet_60 (by decide) ?_
              refine evM_iast hM hF (k := 34) (o := 31) (by decide) dX12_sheet_64 (ix_n (by omega)) (show s' < (ρ0.1 34).length by rw [hL.at (k := 34) (n := 4) (by decide)]; exact hi) (fun μ hM hF => ?_)
              refine ev_iconst (v := 0) dX12_sheet_65 (by decide) ?_
              refine ev_istore dX12_sheet_66 (by decide) ?_
              dsimp only [List.set]
              have fin : ∀ (V : Int32) (z : Nat), V = nI z → z ≤ 40 → RM b (setA (setA ρ0 33 ((ρ0.1 33).set s' so)) 34 ((ρ0.1 34).set s' V)) μ → Ev g 1 mX12_sheet 68 [some (.ref b), some (.int (nI s')), some (.int so), some (.int n), some (.int (nI 0))] [] μ (fun r μ' => r = some (.int 1) ∧ MW b (setA (setA (setA ρ 33 ((ρ.1 33).set s' so)) 34 ((ρ.1 34).set s' V)) 35 (zerK (40 * s') z 0 (ρ.1 35))) μ' ∧ FM b μ0 μ') := by
                intro V z hV hz hMz
                have hLz : ML (setA (setA ρ0 33 ((ρ0.1 33).set s' so)) 34 ((ρ0.1 34).set s' V)) := ML.setA (ML.setA hL List.length_set) List.length_set
                have hEz : EqC (setA (setA ρ0 33 ((ρ0.1 33).set s' so)) 34 ((ρ0.1 34).set s' V)) (setA (setA ρ 33 ((ρ.1 33).set s' so)) 34 ((ρ.1 34).set s' V)) := by
                  rw [hE.1 33 (by decide), hE.1 34 (by decide)]; exact hE.cA.cA
                rw [← hE.1 35 (by decide)]
                refine l_sheet hLz hEz hi ?_ hz z 0 (ρ0.1 35) μ (by omega) (hL.at (by decide)) ?_ hF
                · rw [setA_at, stg_D (by rw [hL.at (k := 34) (n := 4) (by decide)]; exact hi), if_pos rfl]; exact hV
                · have e : setA (setA (setA ρ0 33 ((ρ0.1 33).set s' so)) 34 ((ρ0.1 34).set s' V)) 35 (ρ0.1 35) = setA (setA ρ0 33 ((ρ0.1 33).set s' so)) 34 ((ρ0.1 34).set s' V) := setA_self
                  rw [e]; exact hMz
              first
                | (rw [if_pos (Int32.not_le.mp h56)]; exact fin 0 0 rfl (by omega) hM)
                | (rw [if_neg (Int32.not_lt.mpr h56)]
                   have hz : 0 ≤ n.toInt ∧ n.toInt ≤ 40 := by
                     simp only [Int32.le_iff_toInt_le, Int32.lt_iff_toInt_lt, Int32.reduceToInt] at *; omega
                   exact fin n n.toInt.toNat (by apply Int32.toInt_inj.mp; rw [nI_i (by omega)]; omega) (by omega) hM)
          · refine ev_iload_n dX12_sheet_36 rfl ?_
            refine ev_if_ge (tgt := 43) dX12_sheet_37 (by decide) (fun h37 => ?_) (fun h37 => ?_)
            · have h4' := b2i_ne h4
              rw [if_pos ⟨h4', b2i_ne h13⟩, if_neg (fun q => by (simp only [Fc, Se, Nat.reduceLT, ↓reduceIte, ← Int32.toInt_inj, Int32.le_iff_toInt_le, Int32.lt_iff_toInt_lt, Int32.reduceToInt] at *; omega)), if_neg (fun q => by (simp only [Fc, Se, Nat.reduceLT, ↓reduceIte, ← Int32.toInt_inj, Int32.le_iff_toInt_le, Int32.lt_iff_toInt_lt, Int32.reduceToInt] at *; omega))]
              obtain ⟨hi, ei⟩ := sheet_n h4'.1 h4'.2
              generalize s.toInt.toNat = s' at hi ei ⊢
              subst ei
              refine ev_aload_n dX12_sheet_43 rfl ?_
              refine ev_get dX12_sheet_44 flX12_67_12 hM.1 rfl ?_
              refine ev_iload_n dX12_sheet_47 rfl ?_
              refine ev_iload_n dX12_sheet_48 rfl ?_
              refine evM_iast hM hF (k := 33) (o := 30) (by decide) dX12_sheet_49 (ix_n (by omega)) (by rw [hL.at (k := 33) (n := 4) (by decide)]; exact hi) (fun μ hM hF => ?_)
              refine ev_aload_n dX12_sheet_50 rfl ?_
              refine ev_get dX12_sheet_51 flX12_70_12 hM.1 rfl ?_
              refine ev_iload_n dX12_sheet_54 rfl ?_
              refine ev_iload_n dX12_sheet_55 rfl ?_
              refine ev_if_ge (tgt := 63) dX12_sheet_56 (by decide) (fun h56 => ?_) (fun h56 => ?_)
              · refine ev_iload_n dX12_sheet_63 rfl ?_
                refine evM_iast hM hF (k := 34) (o := 31) (by decide) dX12_sheet_64 (ix_n (by omega)) (show s' < (ρ0.1 34).length by rw [hL.at (k := 34) (n := 4) (by decide)]; exact hi) (fun μ hM hF => ?_)
                refine ev_iconst (v := 0) dX12_sheet_65 (by decide) ?_
                refine ev_istore dX12_sheet_66 (by decide) ?_
                dsimp only [List.set]
                have fin : ∀ (V : Int32) (z : Nat), V = nI z → z ≤ 40 → RM b (setA (setA ρ0 33 ((ρ0.1 33).set s' so)) 34 ((ρ0.1 34).set s' V)) μ → Ev g 1 mX12_sheet 68 [some (.ref b), some (.int (nI s')), some (.int so), some (.int n), some (.int (nI 0))] [] μ (fun r μ' => r = some (.int 1) ∧ MW b (setA (setA (setA ρ 33 ((ρ.1 33).set s' so)) 34 ((ρ.1 34).set s' V)) 35 (zerK (40 * s') z 0 (ρ.1 35))) μ' ∧ FM b μ0 μ') := by
                  intro V z hV hz hMz
                  have hLz : ML (setA (setA ρ0 33 ((ρ0.1 33).set s' so)) 34 ((ρ0.1 34).set s' V)) := ML.setA (ML.setA hL List.length_set) List.length_set
                  have hEz : EqC (setA (setA ρ0 33 ((ρ0.1 33).set s' so)) 34 ((ρ0.1 34).set s' V)) (setA (setA ρ 33 ((ρ.1 33).set s' so)) 34 ((ρ.1 34).set s' V)) := by
                    rw [hE.1 33 (by decide), hE.1 34 (by decide)]; exact hE.cA.cA
                  rw [← hE.1 35 (by decide)]
                  refine l_sheet hLz hEz hi ?_ hz z 0 (ρ0.1 35) μ (by omega) (hL.at (by decide)) ?_ hF
                  · rw [setA_at, stg_D (by rw [hL.at (k := 34) (n := 4) (by decide)]; exact hi), if_pos rfl]; exact hV
                  · have e : setA (setA (setA ρ0 33 ((ρ0.1 33).set s' so)) 34 ((ρ0.1 34).set s' V)) 35 (ρ0.1 35) = setA (setA ρ0 33 ((ρ0.1 33).set s' so)) 34 ((ρ0.1 34).set s' V) := setA_self
                    rw [e]; exact hMz
                first
                  | (rw [if_pos (Int32.not_le.mp h56)]; exact fin 0 0 rfl (by omega) hM)
                  | (rw [if_neg (Int32.not_lt.mpr h56)]
                     have hz : 0 ≤ n.toInt ∧ n.toInt ≤ 40 := by
                       simp only [Int32.le_iff_toInt_le, Int32.lt_iff_toInt_lt, Int32.reduceToInt] at *; omega
                     exact fin n n.toInt.toNat (by apply Int32.toInt_inj.mp; rw [nI_i (by omega)]; omega) (by omega) hM)
              · refine ev_iconst (v := 0) dX12_sheet_59 (by decide) ?_
                refine ev_goto (tgt := 64) dX12_sheet_60 (by decide) ?_
                refine evM_iast hM hF (k := 34) (o := 31) (by decide) dX12_sheet_64 (ix_n (by omega)) (show s' < (ρ0.1 34).length by rw [hL.at (k := 34) (n := 4) (by decide)]; exact hi) (fun μ hM hF => ?_)
                refine ev_iconst (v := 0) dX12_sheet_65 (by decide) ?_
                refine ev_istore dX12_sheet_66 (by decide) ?_
                dsimp only [List.set]
                have fin : ∀ (V : Int32) (z : Nat), V = nI z → z ≤ 40 → RM b (setA (setA ρ0 33 ((ρ0.1 33).set s' so)) 34 ((ρ0.1 34).set s' V)) μ → Ev g 1 mX12_sheet 68 [some (.ref b), some (.int (nI s')), some (.int so), some (.int n), some (.int (nI 0))] [] μ (fun r μ' => r = some (.int 1) ∧ MW b (setA (setA (setA ρ 33 ((ρ.1 33).set s' so)) 34 ((ρ.1 34).set s' V)) 35 (zerK (40 * s') z 0 (ρ.1 35))) μ' ∧ FM b μ0 μ') := by
                  intro V z hV hz hMz
                  have hLz : ML (setA (setA ρ0 33 ((ρ0.1 33).set s' so)) 34 ((ρ0.1 34).set s' V)) := ML.setA (ML.setA hL List.length_set) List.length_set
                  have hEz : EqC (setA (setA ρ0 33 ((ρ0.1 33).set s' so)) 34 ((ρ0.1 34).set s' V)) (setA (setA ρ 33 ((ρ.1 33).set s' so)) 34 ((ρ.1 34).set s' V)) := by
                    rw [hE.1 33 (by decide), hE.1 34 (by decide)]; exact hE.cA.cA
                  rw [← hE.1 35 (by decide)]
                  refine l_sheet hLz hEz hi ?_ hz z 0 (ρ0.1 35) μ (by omega) (hL.at (by decide)) ?_ hF
                  · rw [setA_at, stg_D (by rw [hL.at (k := 34) (n := 4) (by decide)]; exact hi), if_pos rfl]; exact hV
                  · have e : setA (setA (setA ρ0 33 ((ρ0.1 33).set s' so)) 34 ((ρ0.1 34).set s' V)) 35 (ρ0.1 35) = setA (setA ρ0 33 ((ρ0.1 33).set s' so)) 34 ((ρ0.1 34).set s' V) := setA_self
                    rw [e]; exact hMz
                first
                  | (rw [if_pos (Int32.not_le.mp h56)]; exact fin 0 0 rfl (by omega) hM)
                  | (rw [if_neg (Int32.not_lt.mpr h56)]
                     have hz : 0 ≤ n.toInt ∧ n.toInt ≤ 40 := by
                       simp only [Int32.le_iff_toInt_le, Int32.lt_iff_toInt_lt, Int32.reduceToInt] at *; omega
                     exact fin n n.toInt.toNat (by apply Int32.toInt_inj.mp; rw [nI_i (by omega)]; omega) (by omega) hM)
            · refine ev_bipush (v := (-14)) dX12_sheet_40 (by decide) ?_
              refine ev_iret dX12_sheet_42 rfl ?_
              rw [if_pos ⟨b2i_ne h4, b2i_ne h13⟩, if_neg (fun q => by (simp only [Fc, Se, Nat.reduceLT, ↓reduceIte, ← Int32.toInt_inj, Int32.le_iff_toInt_le, Int32.lt_iff_toInt_lt, Int32.reduceToInt] at *; omega)), if_pos ⟨Int32.not_lt.mp h33, Int32.not_le.mp h37⟩]
              exact ⟨rfl, hW, hF⟩
        · refine ev_bipush (v := (-2)) dX12_sheet_29 (by decide) ?_
          refine ev_iret dX12_sheet_31 rfl ?_
          rw [if_pos ⟨b2i_ne h4, b2i_ne h13⟩, if_pos ⟨Int32.not_lt.mp h20, Int32.not_le.mp h26⟩]
          exact ⟨rfl, hW, hF⟩
    · refine ev_bipush (v := (-2)) dX12_sheet_16 (by decide) ?_
      refine ev_iret dX12_sheet_18 rfl ?_
      first
        | (rw [if_neg (fun q => b2i_eq h4 q.1)]; exact ⟨rfl, hW, hF⟩)
        | (rw [if_neg (fun q => b2i_eq h13 q.2)]; exact ⟨rfl, hW, hF⟩)
theorem c_hasCells (hM : RM b ρ μ) (hL : ML ρ) {s : Nat} (hs : s < 4) (i n : Int32) : Pu g 0 mX12_hasCells [.ref b, .int (nI s), .int i, .int n] μ (b2i (0 ≤ i ∧ i ≤ (ρ.1 34).getD s 0 ∧ n ≤ (ρ.1 34).getD s 0 - i)) := by
  refine Mt.of0 (ls0 := [some (.ref b), some (.int (nI s)), some (.int i), some (.int n)]) (by decide) (by simp [Value.category]) (Nat.le_of_ble_eq_true rfl) rfl ?_
  refine ev_iload_n dX12_hasCells_0 rfl ?_
  refine ev_if_lt (tgt := 30) dX12_hasCells_1 (by decide) (fun h1 => ?_) (fun h1 => ?_)
  · refine ev_iconst (v := 0) dX12_hasCells_30 (by decide) ?_
    refine ev_zret dX12_hasCells_31 rfl (by decide) ?_
    refine ⟨?_, rfl⟩
    first | (rw [b2i_t (by (simp only [Fc, Se, Nat.reduceLT, ↓reduceIte, ← Int32.toInt_inj, Int32.le_iff_toInt_le, Int32.lt_iff_toInt_lt, Int32.reduceToInt] at *; omega))]; done) | (rw [b2i_f (by (simp only [Fc, Se, Nat.reduceLT, ↓reduceIte, ← Int32.toInt_inj, Int32.le_iff_toInt_le, Int32.lt_iff_toInt_lt, Int32.reduceToInt] at *; omega))]; done) | (exfalso; (simp only [Fc, Se, Nat.reduceLT, ↓reduceIte, ← Int32.toInt_inj, Int32.le_iff_toInt_le, Int32.lt_iff_toInt_lt, Int32.reduceToInt] at *; omega))
  · refine ev_iload_n dX12_hasCells_4 rfl ?_
    refine ev_aload_n dX12_hasCells_5 rfl ?_
    refine ev_get dX12_hasCells_6 flX12_70_12 hM.1 rfl ?_
    refine ev_iload_n dX12_hasCells_9 rfl ?_
    refine ev_iald dX12_hasCells_10 (hM.a 34 31 (by decide)) (ix_n (by omega)) (rd hL (k := 34) (n := 4) (by decide) hs) ?_
    refine ev_icmp_gt (tgt := 30) dX12_hasCells_11 (by decide) (fun h11 => ?_) (fun h11 => ?_)
    · refine ev_iconst (v := 0) dX12_hasCells_30 (by decide) ?_
      refine ev_zret dX12_hasCells_31 rfl (by decide) ?_
      refine ⟨?_, rfl⟩
      first | (rw [b2i_t (by (simp only [Fc, Se, Nat.reduceLT, ↓reduceIte, ← Int32.toInt_inj, Int32.le_iff_toInt_le, Int32.lt_iff_toInt_lt, Int32.reduceToInt] at *; omega))]; done) | (rw [b2i_f (by (simp only [Fc, Se, Nat.reduceLT, ↓reduceIte, ← Int32.toInt_inj, Int32.le_iff_toInt_le, Int32.lt_iff_toInt_lt, Int32.reduceToInt] at *; omega))]; done) | (exfalso; (simp only [Fc, Se, Nat.reduceLT, ↓reduceIte, ← Int32.toInt_inj, Int32.le_iff_toInt_le, Int32.lt_iff_toInt_lt, Int32.reduceToInt] at *; omega))
    · refine ev_iload_n dX12_hasCells_14 rfl ?_
      refine ev_aload_n dX12_hasCells_15 rfl ?_
      refine ev_get dX12_hasCells_16 flX12_70_12 hM.1 rfl ?_
      refine ev_iload_n dX12_hasCells_19 rfl ?_
      refine ev_iald dX12_hasCells_20 (hM.a 34 31 (by decide)) (ix_n (by omega)) (rd hL (k := 34) (n := 4) (by decide) hs) ?_
      refine ev_iload_n dX12_hasCells_21 rfl ?_
      refine ev_isub dX12_hasCells_22 ?_
      refine ev_icmp_gt (tgt := 30) dX12_hasCells_23 (by decide) (fun h23 => ?_) (fun h23 => ?_)
      · refine ev_iconst (v := 0) dX12_hasCells_30 (by decide) ?_
        refine ev_zret dX12_hasCells_31 rfl (by decide) ?_
        refine ⟨?_, rfl⟩
        first | (rw [b2i_t (by (simp only [Fc, Se, Nat.reduceLT, ↓reduceIte, ← Int32.toInt_inj, Int32.le_iff_toInt_le, Int32.lt_iff_toInt_lt, Int32.reduceToInt] at *; omega))]; done) | (rw [b2i_f (by (simp only [Fc, Se, Nat.reduceLT, ↓reduceIte, ← Int32.toInt_inj, Int32.le_iff_toInt_le, Int32.lt_iff_toInt_lt, Int32.reduceToInt] at *; omega))]; done) | (exfalso; (simp only [Fc, Se, Nat.reduceLT, ↓reduceIte, ← Int32.toInt_inj, Int32.le_iff_toInt_le, Int32.lt_iff_toInt_lt, Int32.reduceToInt] at *; omega))
      · refine ev_iconst (v := 1) dX12_hasCells_26 (by decide) ?_
        refine ev_goto (tgt := 31) dX12_hasCells_27 (by decide) ?_
        refine ev_zret dX12_hasCells_31 rfl (by decide) ?_
        refine ⟨?_, rfl⟩
        first | (rw [b2i_t (by (simp only [Fc, Se, Nat.reduceLT, ↓reduceIte, ← Int32.toInt_inj, Int32.le_iff_toInt_le, Int32.lt_iff_toInt_lt, Int32.reduceToInt] at *; omega))]; done) | (rw [b2i_f (by (simp only [Fc, Se, Nat.reduceLT, ↓reduceIte, ← Int32.toInt_inj, Int32.le_iff_toInt_le, Int32.lt_iff_toInt_lt, Int32.reduceToInt] at *; omega))]; done) | (exfalso; (simp only [Fc, Se, Nat.reduceLT, ↓reduceIte, ← Int32.toInt_inj, Int32.le_iff_toInt_le, Int32.lt_iff_toInt_lt, Int32.reduceToInt] at *; omega))
theorem c_cell (hW : MW b ρ μ) (hS : SH ρ) (s i v : Int32) : Mt g 1 mX12_cell [.ref b, .int s, .int i, .int v] μ (fun r μ' => r = some (.int (opCell ρ s i v).1) ∧ MW b (opCell ρ s i v).2 μ' ∧ FM b μ μ') := by
  refine Mt.of0 (ls0 := [some (.ref b), some (.int s), some (.int i), some (.int v)]) (by decide) (by simp [Value.category]) (Nat.le_of_ble_eq_true rfl) rfl ?_
  obtain ⟨ρ0, hM, hL, hE⟩ := id hW
  have hF : FM b μ μ := FM.rf
  rw [opCell]
  refine ev_iload_n dX12_cell_0 rfl ?_
  refine k_s (c_isSheet s) (by decide) dX12_cell_1 cbX12_isSheet (mt6 72 rfl rfl) (mt6 73 rfl rfl) rfl rfl (Nat.le_of_ble_eq_true rfl) (fun v μ1 hq => ?_)
  obtain ⟨rfl, hμ⟩ := hq
  have hμ := hμ.symm
  subst hμ
  simp only [Option.toList, List.cons_append, List.nil_append]
  refine ev_if_ne (tgt := 10) dX12_cell_4 (by decide) (fun h4 => ?_) (fun h4 => ?_)
  · have h4' := b2i_ne h4
    rw [if_pos h4']
    obtain ⟨hi, ei⟩ := sheet_n h4'.1 h4'.2
    generalize s.toInt.toNat = s' at hi ei ⊢
    subst ei
    obtain ⟨z, hz, ez⟩ := size_n (hS s' hi).2
    rw [← hE.1 33 (by decide), ← hE.1 34 (by decide)]
    rw [← hE.1 34 (by decide)] at ez
    refine ev_aload_n dX12_cell_10 rfl ?_
    refine ev_get dX12_cell_11 flX12_67_12 hM.1 rfl ?_
    refine ev_iload_n dX12_cell_14 rfl ?_
    refine ev_iald dX12_cell_15 (hM.a 33 30 (by decide)) (ix_n (by omega)) (rd hL (k := 33) (n := 4) (by decide) hi) ?_
    refine ev_if_ge (tgt := 22) dX12_cell_16 (by decide) (fun h16 => ?_) (fun h16 => ?_)
    · refine ev_iload_n dX12_cell_22 rfl ?_
      refine ev_iconst (v := 0) dX12_cell_23 (by decide) ?_
      refine ev_aload_n dX12_cell_24 rfl ?_
      refine ev_get dX12_cell_25 flX12_70_12 hM.1 rfl ?_
      refine ev_iload_n dX12_cell_28 rfl ?_
      refine ev_iald dX12_cell_29 (hM.a 34 31 (by decide)) (ix_n (by omega)) (rd hL (k := 34) (n := 4) (by decide) hi) ?_
      refine ev_iconst (v := 1) dX12_cell_30 (by decide) ?_
      refine ev_isub dX12_cell_31 ?_
      refine k_s (c_isIn i 0 _) (by decide) dX12_cell_32 cbX12_isIn (mt5 123 rfl rfl) (mt5 124 rfl rfl) rfl rfl (Nat.le_of_ble_eq_true rfl) (fun v μ1 hq => ?_)
      obtain ⟨rfl, hμ⟩ := hq
      have hμ := hμ.symm
      subst hμ
      simp only [Option.toList, List.cons_append, List.nil_append]
      refine ev_if_ne (tgt := 41) dX12_cell_35 (by decide) (fun h35 => ?_) (fun h35 => ?_)
      · have h35' := b2i_ne h35
        rw [if_neg (Int32.not_lt.mpr h16), if_pos h35']
        have hi2 : i.toInt.toNat < 40 ∧ i = nI i.toInt.toNat := by
          have q1 := h35'.1
          have q2 := h35'.2
          rw [ez] at q2
          rw [Int32.le_iff_toInt_le, Int32.toInt_zero] at q1
          rw [Int32.le_iff_toInt_le, sub_i (by rw [nI_i (by omega)]; simp; omega) (by rw [nI_i (by omega)]; simp; omega), nI_i (by omega)] at q2
          simp only [Int32.reduceToInt] at q2
          refine ⟨by omega, ?_⟩
          apply Int32.toInt_inj.mp
          rw [nI_i (by omega)]; omega
        obtain ⟨hi3, e3⟩ := hi2
        generalize i.toInt.toNat = i' at hi3 e3 ⊢
        subst e3
        refine ev_aload_n dX12_cell_41 rfl ?_
        refine ev_get dX12_cell_42 flX12_73_12 hM.1 rfl ?_
        refine ev_bipush (v := 40) dX12_cell_45 (by decide) ?_
        refine ev_iload_n dX12_cell_47 rfl ?_
        refine ev_imul dX12_cell_48 ?_
        refine ev_iload_n dX12_cell_49 rfl ?_
        refine ev_iadd dX12_cell_50 ?_
        refine ev_aload_n dX12_cell_51 rfl ?_
        refine ev_get dX12_cell_52 flX12_67_12 hM.1 rfl ?_
        refine ev_iload_n dX12_cell_55 rfl ?_
        refine ev_iald dX12_cell_56 (hM.a 33 30 (by decide)) (ix_n (by omega)) (rd hL (k := 33) (n := 4) (by decide) hi) ?_
        refine ev_if_ne (tgt := 65) dX12_cell_57 (by decide) (fun h57 => ?_) (fun h57 => ?_)
        · refine ev_aload_n dX12_cell_65 rfl ?_
          refine ev_get dX12_cell_66 flX12_67_12 hM.1 rfl ?_
          refine ev_iload_n dX12_cell_69 rfl ?_
          refine ev_iald dX12_cell_70 (hM.a 33 30 (by decide)) (ix_n (by omega)) (rd hL (k := 33) (n := 4) (by decide) hi) ?_
          refine ev_iconst (v := 1) dX12_cell_71 (by decide) ?_
          refine ev_icmp_ne (tgt := 80) dX12_cell_72 (by decide) (fun h72 => ?_) (fun h72 => ?_)
          · refine ev_iload_n dX12_cell_80 rfl ?_
            refine evM_iast hM hF (k := 35) (o := 32) (by decide) dX12_cell_81 (by rw [mul40]; exact ix_n (by omega)) (show 40 * s' + i' < (ρ0.1 35).length by rw [hL.at (k := 35) (n := 160) (by decide)]; omega) (fun μ hM hF => ?_)
            refine ev_iconst (v := 1) dX12_cell_82 (by decide) ?_
            refine ev_iret dX12_cell_83 rfl ?_
            refine ⟨rfl, ⟨_, hM, ML.setA hL List.length_set, ?_⟩, hF⟩
            rw [cutS]
            first | rw [if_pos h57] | rw [if_neg h57, if_pos h72] | rw [if_neg h57, if_neg h72]
            rw [hE.1 35 (by decide)]
            exact hE.cA
          · refine ev_iload_n dX12_cell_75 rfl ?_
            refine ev_i2s dX12_cell_76 ?_
            refine ev_goto (tgt := 81) dX12_cell_77 (by decide) ?_
            refine evM_iast hM hF (k := 35) (o := 32) (by decide) dX12_cell_81 (by rw [mul40]; exact ix_n (by omega)) (show 40 * s' + i' < (ρ0.1 35).length by rw [hL.at (k := 35) (n := 160) (by decide)]; omega) (fun μ hM hF => ?_)
            refine ev_iconst (v := 1) dX12_cell_82 (by decide) ?_
            refine ev_iret dX12_cell_83 rfl ?_
            refine ⟨rfl, ⟨_, hM, ML.setA hL List.length_set, ?_⟩, hF⟩
            rw [cutS]
            first | rw [if_pos h57] | rw [if_neg h57, if_pos h72] | rw [if_neg h57, if_neg h72]
            rw [hE.1 35 (by decide)]
            exact hE.cA
        · refine ev_iload_n dX12_cell_60 rfl ?_
          refine ev_i2b dX12_cell_61 ?_
          refine ev_goto (tgt := 81) dX12_cell_62 (by decide) ?_
          refine evM_iast hM hF (k := 35) (o := 32) (by decide) dX12_cell_81 (by rw [mul40]; exact ix_n (by omega)) (show 40 * s' + i' < (ρ0.1 35).length by rw [hL.at (k := 35) (n := 160) (by decide)]; omega) (fun μ hM hF => ?_)
          refine ev_iconst (v := 1) dX12_cell_82 (by decide) ?_
          refine ev_iret dX12_cell_83 rfl ?_
          refine ⟨rfl, ⟨_, hM, ML.setA hL List.length_set, ?_⟩, hF⟩
          rw [cutS]
          first | rw [if_pos h57] | rw [if_neg h57, if_pos h72] | rw [if_neg h57, if_neg h72]
          rw [hE.1 35 (by decide)]
          exact hE.cA
      · refine ev_bipush (v := (-12)) dX12_cell_38 (by decide) ?_
        refine ev_iret dX12_cell_40 rfl ?_
        rw [if_neg (Int32.not_lt.mpr h16), if_neg (b2i_eq h35)]
        exact ⟨rfl, hW, hF⟩
    · refine ev_bipush (v := (-11)) dX12_cell_19 (by decide) ?_
      refine ev_iret dX12_cell_21 rfl ?_
      rw [if_pos (Int32.not_le.mp h16)]
      exact ⟨rfl, hW, hF⟩
  · refine ev_bipush (v := (-2)) dX12_cell_7 (by decide) ?_
    refine ev_iret dX12_cell_9 rfl ?_
    rw [if_neg (b2i_eq h4)]
    exact ⟨rfl, hW, hF⟩
end MSHEET
