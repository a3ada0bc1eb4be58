/-! ===== the class: split, heap ===== -/
theorem endsP_rg {ρ : MS} {n t tx : Nat} {cd : Nat → List Int32} {Lf : Nat → Nat} (hI : IM ρ n t tx cd Lf) {f c : Nat} (h : f + c ≤ n) : (endsP ρ Lf f c).toInt ≤ 2749 := by
  have hn7 := hI.2.2.1.2
  unfold endsP
  refine (rd0_rg hI.1 hI.2.1 (fun x hx => ?_) (by simp; omega)).2.1
  obtain ⟨i, hi, rfl⟩ := List.mem_map.mp hx
  have := List.mem_range.mp hi
  have := (hI.2.2.2.2.2.2.1 (f + i) (by omega)).2
  omega
theorem max_sp {x y : Int32} : (if x < y then y else x) = if x ≤ y then y else x := by
  split <;> split <;> rename_i q1 q2
  · rfl
  · exact absurd (Int32.le_of_lt q1) q2
  · exact Int32.le_antisymm q2 (Int32.not_lt.mp q1)
  · rfl
theorem splE_rg {ρ : MS} {n t tx : Nat} {cd : Nat → List Int32} {Lf : Nat → Nat} (hI : IM ρ n t tx cd Lf) {k : Nat} (hk : k ≤ n) : splE ρ n Lf k < 1000000 := by
  have h1 := endsP_rg hI (f := 0) (c := k) (by omega)
  have h2 := endsP_rg hI (f := k) (c := n - k) (by omega)
  rw [Int32.lt_iff_toInt_lt]
  simp only [Int32.reduceToInt]
  unfold splE
  split <;> omega
theorem Fc_s6 {ρ : MS} {l : List Int32} : Fc (setA ρ 6 l) = Fc ρ := by
  funext k x
  show (if k < 5 then (if k = 6 then l else ρ.1 k).getD x 0 else 0) = (if k < 5 then (ρ.1 k).getD x 0 else 0)
  split
  · rw [if_neg (by omega)]
  · rfl
theorem IM.s6 {ρ : MS} {n t tx : Nat} {cd : Nat → List Int32} {Lf : Nat → Nat} (h : IM ρ n t tx cd Lf) {l : List Int32} (hS : VS (Se (setA ρ 6 l))) : IM (setA ρ 6 l) n t tx cd Lf := by
  obtain ⟨h1, h2, h3, h4, h5, h6, h7, h8⟩ := h
  exact ⟨by rw [Fc_s6]; exact h1, hS, h3, h4, h5, h6, h7, h8⟩
theorem gst_s6 {ρ : MS} {l : List Int32} : gst (setA ρ 6 l) = gst ρ := setA_setA
theorem KTie.s6 {ρ : MS} {n t tx : Nat} {cd : Nat → List Int32} {Lf : Nat → Nat} {m : Nat} {σ : KS} (h : KTie ρ n t tx cd Lf m σ) {l : List Int32} (hl : l.length = 10) : KTie (setA ρ 6 l) n t tx cd Lf m (ksR σ 3 l) := by
  obtain ⟨h1, h2, h3, h4, h5, h6, h7, h8, h9⟩ := h
  have e : ∀ k, k ≠ 3 → (ksR σ 3 l).1 k = σ.1 k := fun k hk => by show (if k = 3 then l else σ.1 k) = _; rw [if_neg hk]
  refine ⟨fun q hq => ?_, ?_, ?_, ?_, ?_, ?_, ?_, ?_, ?_⟩
  · by_cases q3 : q.1 = 3
    · have k3 : ∀ q ∈ kLen, q.1 = 3 → q.2 = 10 := by decide
      rw [k3 q hq q3, q3]
      exact hl
    · rw [e _ q3]; exact h1 q hq
  · exact setA_at.symm
  · refine ⟨h3.1, h3.2.1, fun x hx => ?_⟩
    rw [Fc_s6]; exact h3.2.2 x hx
  · intro i hi; rw [e 2 (by decide)]; exact h4 i hi
  · refine ⟨h5.1, fun i c hi hc => ?_⟩
    rw [e 5 (by decide)]; exact h5.2 i c hi hc
  · refine ⟨h6.1, h6.2.1, fun r hr => ?_⟩
    rw [e _ (by omega), e _ (by omega)]; exact h6.2.2 r hr
  · intro s hs
    obtain ⟨x1, x2, x3⟩ := h7 s hs
    exact ⟨x1, x2, fun i hi => by rw [e _ (by omega)]; exact x3 i hi⟩
  · unfold KKp
    rw [e 46 (by decide), e 47 (by decide), e 48 (by decide)]
    exact h8
  · intro so hso
    rw [gst_s6, e _ (by omega)]
    exact h9 so hso
theorem VS.heap {S S' : Nat → Int32} (h : VS S) (e : ∀ i, i ≠ 1 → S' i = S i) (h1 : rg (S' 1) 0 99) : VS S' := by
  obtain ⟨a0, a1, a2, a3, a4, a5, a6, a7, a8, a9⟩ := h
  unfold VS
  rw [e 0 (by decide), e 2 (by decide), e 3 (by decide), e 4 (by decide), e 5 (by decide), e 6 (by decide), e 7 (by decide), e 8 (by decide), e 9 (by decide)]
  exact ⟨a0, h1, a2, a3, a4, a5, a6, a7, a8, a9⟩
section KSPLIT
variable {g : Gl} {a m tx n t : Nat} {ρ : MS} {cd : Nat → List Int32} {Lf : Nat → Nat}
theorem l_kSplit (hI : IM ρ n t tx cd Lf) {w : Int32} {μ0 : Mm} : ∀ (k i best : Nat) (least : Int32) (o5 : Option Value) (σ : KS) (μ : Mm), i + k = n + 1 → (i = 0 → splE ρ n Lf 0 < least) → KM a m tx σ μ → KTie ρ n t tx cd Lf m σ → FC a μ0 μ → Ev g 5 mX11_split 20 [some (.ref a), some (.int w), some (.int (nI best)), some (.int least), some (.int (nI i)), o5] [] μ (fun v μ' => v = some (.int (if w = 0 then nI (argK (splE ρ n Lf) k i best least).1 else (argK (splE ρ n Lf) k i best least).2)) ∧ KV a ρ n t tx cd Lf m μ' ∧ FC a μ0 μ') := by
  have hn7 := hI.2.2.1.2
  intro k
  induction k with
  | zero =>
    intro i best least o5 σ μ hi h0 hM hT hF
    refine ev_iload dX11_split_20 rfl ?_
    refine ev_aload_n dX11_split_22 rfl ?_
    refine ev_get dX11_split_23 flX11_15_11 (hM.o 0 11 (by decide)) rfl ?_
    rw [hT.hc]
    refine ev_icmp_gt (tgt := 77) dX11_split_26 (by decide) (fun _ => ?_) (fun h26 => absurd ((show nI n < nI i from nI_lt (by omega) (by omega))) h26)
    refine ev_iload_n dX11_split_77 rfl ?_
    refine ev_if_ne (tgt := 85) dX11_split_78 (by decide) (fun h78 => ?_) (fun h78 => ?_)
    · refine ev_iload_n dX11_split_85 rfl ?_
      refine ev_iret dX11_split_86 rfl ?_
      rw [argK]
      first
        | (rw [if_pos h78]; exact ⟨rfl, ⟨σ, hM, hT⟩, hF⟩)
        | (rw [if_neg h78]; exact ⟨rfl, ⟨σ, hM, hT⟩, hF⟩)
    · refine ev_iload_n dX11_split_81 rfl ?_
      refine ev_goto (tgt := 86) dX11_split_82 (by decide) ?_
      refine ev_iret dX11_split_86 rfl ?_
      rw [argK]
      first
        | (rw [if_pos h78]; exact ⟨rfl, ⟨σ, hM, hT⟩, hF⟩)
        | (rw [if_neg h78]; exact ⟨rfl, ⟨σ, hM, hT⟩, hF⟩)
  | succ k ih =>
    intro i best least o5 σ μ hi h0 hM hT hF
    have hgo : ∀ (σ : KS) (μ : Mm), KM a m tx σ μ → KTie ρ n t tx cd Lf m σ → ∀ f c to : Nat, to = f + c → to ≤ n → Mt g 4 mX11_goThrough [.ref a, .ref (a + 2), .int (nI f), .int (nI to)] μ (fun v μ' => v = some (.int (endsP ρ Lf f c)) ∧ (∃ σ', KM a m tx σ' μ' ∧ KTie ρ n t tx cd Lf m σ') ∧ FC a μ μ') := by
      intro σ μ hM hT f c to ht htn
      refine Mt.imp (c_kGo (fr := f) (to := to) (os := (List.range c).map (fun i => Lf (f + i))) hI.1 hI.2.1 hn7 hM hT (o := 2) (Or.inl rfl) (fun i h hh => ?_) (by simp; omega) (by omega)) ?_
      · have hi := (List.getElem?_eq_some_iff.mp hh).1
        simp only [List.length_map, List.length_range] at hi
        have h2 := (List.getElem?_eq_some_iff.mp hh).2
        simp at h2
        rw [← h2]
        exact ⟨hT.ls (f + i) (by omega), (hI.2.2.2.2.2.2.1 (f + i) (by omega)).2⟩
      · rintro v μ' ⟨rfl, ⟨σ', hM', hE', hl', hb', ha'⟩, hF'⟩
        exact ⟨rfl, ⟨σ', hM', hT.sc (ScK.of10 hE' (hl'.trans (hT.ln (k := 10) (z := 7) (by decide)).symm))⟩, hF'⟩
    have hE0 := splE_rg hI (k := i) (by omega)
    rw [argK]
    refine ev_iload dX11_split_20 rfl ?_
    refine ev_aload_n dX11_split_22 rfl ?_
    refine ev_get dX11_split_23 flX11_15_11 (hM.o 0 11 (by decide)) rfl ?_
    rw [hT.hc]
    refine ev_icmp_gt (tgt := 77) dX11_split_26 (by decide) (fun h26 => absurd h26 ((show ¬ nI n < nI i from nI_nlt (by omega) (by omega)))) (fun _ => ?_)
    refine ev_aload_n dX11_split_29 rfl ?_
    refine ev_aload_n dX11_split_30 rfl ?_
    refine ev_get dX11_split_31 flX11_19_11 (hM.o 0 11 (by decide)) rfl ?_
    refine ev_iconst (v := 0) dX11_split_34 (by decide) ?_
    refine ev_iload dX11_split_35 rfl ?_
    refine k_v (hgo σ _ hM hT 0 i i (by omega) (by omega)) (by decide) dX11_split_37 cbX11_goThrough (mt3 194 rfl rfl) (mt3 196 rfl rfl) (ms0 22 rfl rfl) (ci := 11) rfl (hM.o 0 11 (by decide)) rfl rfl (Nat.le_of_ble_eq_true rfl) (fun v μ1 hq => ?_)
    obtain ⟨rfl, ⟨σ1, hM1, hT1⟩, hF1⟩ := hq
    have hM := hM1
    simp only [Option.toList, List.cons_append, List.nil_append]
    refine ev_aload_n dX11_split_40 rfl ?_
    refine ev_aload_n dX11_split_41 rfl ?_
    refine ev_get dX11_split_42 flX11_19_11 (hM.o 0 11 (by decide)) rfl ?_
    refine ev_iload dX11_split_45 rfl ?_
    refine ev_aload_n dX11_split_47 rfl ?_
    refine ev_get dX11_split_48 flX11_15_11 (hM.o 0 11 (by decide)) rfl ?_
    rw [hT1.hc]
    refine k_v (hgo σ1 _ hM1 hT1 i (n - i) n (by omega) (Nat.le_refl _)) (by decide) dX11_split_51 cbX11_goThrough (mt3 194 rfl rfl) (mt3 196 rfl rfl) (ms0 22 rfl rfl) (ci := 11) rfl (hM.o 0 11 (by decide)) rfl rfl (Nat.le_of_ble_eq_true rfl) (fun v μ1 hq => ?_)
    obtain ⟨rfl, ⟨σ2, hM2, hT2⟩, hF2⟩ := hq
    have hM := hM2
    simp only [Option.toList, List.cons_append, List.nil_append]
    refine ev_mmax dX11_split_54 (mt3 224 rfl rfl) (Nat.le_of_ble_eq_true rfl) ?_
    rw [max_sp, show (if endsP ρ Lf 0 i ≤ endsP ρ Lf i (n - i) then endsP ρ Lf i (n - i) else endsP ρ Lf 0 i) = splE ρ n Lf i from rfl]
    refine ev_istore dX11_split_57 (by decide) ?_
    dsimp only [List.set]
    refine ev_iload dX11_split_59 rfl ?_
    refine ev_iload_n dX11_split_61 rfl ?_
    refine ev_icmp_ge (tgt := 71) dX11_split_62 (by decide) (fun h62 => ?_) (fun h62 => ?_)
    · refine ev_iinc dX11_split_71 rfl (by decide) ?_
      dsimp only [List.set]
      refine ev_goto (tgt := 20) dX11_split_74 (by decide) ?_
      rw [nI_inc]
      first
        | (have q : ¬ (0 < i ∧ least ≤ splE ρ n Lf i) := fun z => Int32.not_le.mpr (Int32.not_le.mp h62) z.2
           rw [if_neg q]
           exact ih (i + 1) i _ _ σ2 _ (by omega) (fun z => by omega) hM2 hT2 ((hF.tr hF1).tr hF2))
        | (have q : 0 < i ∧ least ≤ splE ρ n Lf i := by
             refine ⟨?_, h62⟩
             rcases Nat.eq_zero_or_pos i with z | z
             · exfalso
               have h00 := h0 z
               rw [z] at h62
               exact Int32.not_lt.mpr h62 h00
             · exact z
           rw [if_pos q]
           exact ih (i + 1) best _ _ σ2 _ (by omega) (fun z => by omega) hM2 hT2 ((hF.tr hF1).tr hF2))
    · refine ev_iload dX11_split_65 rfl ?_
      refine ev_istore_n dX11_split_67 (by decide) ?_
      dsimp only [List.set]
      refine ev_iload dX11_split_68 rfl ?_
      refine ev_istore_n dX11_split_70 (by decide) ?_
      dsimp only [List.set]
      refine ev_iinc dX11_split_71 rfl (by decide) ?_
      dsimp only [List.set]
      refine ev_goto (tgt := 20) dX11_split_74 (by decide) ?_
      rw [nI_inc]
      first
        | (have q : ¬ (0 < i ∧ least ≤ splE ρ n Lf i) := fun z => Int32.not_le.mpr (Int32.not_le.mp h62) z.2
           rw [if_neg q]
           exact ih (i + 1) i _ _ σ2 _ (by omega) (fun z => by omega) hM2 hT2 ((hF.tr hF1).tr hF2))
        | (have q : 0 < i ∧ least ≤ splE ρ n Lf i := by
             refine ⟨?_, h62⟩
             rcases Nat.eq_zero_or_pos i with z | z
             · exfalso
               have h00 := h0 z
               rw [z] at h62
               exact Int32.not_lt.mpr h62 h00
             · exact z
           rw [if_pos q]
           exact ih (i + 1) best _ _ σ2 _ (by omega) (fun z => by omega) hM2 hT2 ((hF.tr hF1).tr hF2))
theorem argK_0 {E : Nat → Int32} {k best : Nat} {least best' : Nat} {l l' : Int32} : argK E (k + 1) 0 best l = argK E (k + 1) 0 best' l' := by
  rw [argK, argK, if_neg (fun q => absurd q.1 (by omega)), if_neg (fun q => absurd q.1 (by omega))]
theorem c_kSplit {σ : KS} {μ : Mm} (hI : IM ρ n t tx cd Lf) (hM : KM a m tx σ μ) (hT : KTie ρ n t tx cd Lf m σ) (w : Int32) : Mt g 5 mX11_split [.ref a, .int w] μ (fun v μ' => v = some (.int (ansSplit ρ n Lf w)) ∧ KV a ρ n t tx cd Lf m μ' ∧ FC a μ μ') := by
  refine Mt.of0 (ls0 := [some (.ref a), some (.int w), none, none, none, none]) (by decide) (by simp [Value.category]) (Nat.le_of_ble_eq_true rfl) rfl ?_
  rw [ansSplit]
  refine ev_iload_n dX11_split_0 rfl ?_
  refine ev_if_lt (tgt := 9) dX11_split_1 (by decide) (fun h1 => ?_) (fun h1 => ?_)
  · refine ev_bipush (v := (-2)) dX11_split_9 (by decide) ?_
    refine ev_iret dX11_split_11 rfl ?_
    rw [if_neg (fun q => by first | exact Int32.not_lt.mpr q.1 h1 | exact h6 q.2)]
    exact ⟨rfl, ⟨σ, hM, hT⟩, FC.rf⟩
  · refine ev_iload_n dX11_split_4 rfl ?_
    refine ev_iconst (v := 1) dX11_split_5 (by decide) ?_
    refine ev_icmp_le (tgt := 12) dX11_split_6 (by decide) (fun h6 => ?_) (fun h6 => ?_)
    · refine ev_iconst (v := 0) dX11_split_12 (by decide) ?_
      refine ev_istore_n dX11_split_13 (by decide) ?_
      dsimp only [List.set]
      refine ev_ldc dX11_split_14 (mt4 141 rfl rfl) ?_
      refine ev_istore_n dX11_split_16 (by decide) ?_
      dsimp only [List.set]
      refine ev_iconst (v := 0) dX11_split_17 (by decide) ?_
      refine ev_istore dX11_split_18 (by decide) ?_
      dsimp only [List.set]
      rw [if_pos ⟨Int32.not_lt.mp h1, h6⟩, argK_0 (least := 0) (best' := 0) (l' := 1000000)]
      exact l_kSplit hI (n + 1) 0 0 1000000 _ σ _ (by omega) (fun _ => splE_rg hI (Nat.zero_le _)) hM hT FC.rf
    · refine ev_bipush (v := (-2)) dX11_split_9 (by decide) ?_
      refine ev_iret dX11_split_11 rfl ?_
      rw [if_neg (fun q => by first | exact Int32.not_lt.mpr q.1 h1 | exact h6 q.2)]
      exact ⟨rfl, ⟨σ, hM, hT⟩, FC.rf⟩
theorem l_kHeap (hI : IM ρ n t tx cd Lf) (h10 : (ρ.1 6).length = 10) {w : Int32} {μ0 : Mm} : ∀ (k i best : Nat) (least : Int32) (o6 : Option Value) (σ : KS) (μ : Mm), i + k = 100 → (i = 0 → (rd0 (Fc ρ) (Se (stS ρ 1 (nI 0))) (lsO n Lf)).1 < least) → KM a m tx σ μ → (∃ v0, KTie (stS ρ 1 v0) n t tx cd Lf m σ) → FC a μ0 μ → Ev g 6 mX11_heap 28 [some (.ref a), some (.int w), some (.int (Se ρ 1)), some (.int (nI best)), some (.int least), some (.int (nI i)), o6] [] μ (fun v μ' => v = some (.int (if w = 0 then nI (argK (fun k => (rd0 (Fc ρ) (Se (stS ρ 1 (nI k))) (lsO n Lf)).1) k i best least).1 else (argK (fun k => (rd0 (Fc ρ) (Se (stS ρ 1 (nI k))) (lsO n Lf)).1) k i best least).2)) ∧ KV a ρ n t tx cd Lf m μ' ∧ FC a μ0 μ') := by
  have hst : ∀ v0 v : Int32, setA (stS ρ 1 v0) 6 ((((ρ.1 6).set 1 v0)).set 1 v) = stS ρ 1 v := fun v0 v => by rw [stS, setA_setA, List.set_set]; rfl
  intro k
  induction k with
  | zero =>
    intro i best least o6 σ μ hi h0 hM hTe hF
    obtain ⟨v0, hT⟩ := hTe
    have e3 : σ.1 3 = (ρ.1 6).set 1 v0 := hT.tm.trans setA_at
    have hl3 : (σ.1 3).length = 10 := hT.ln (k := 3) (by decide)
    have hT' := hT.s6 (l := (σ.1 3).set 1 (Se ρ 1)) (by rw [List.length_set]; exact hl3)
    rw [e3, hst, stS_same, ← e3] at hT'
    refine ev_iload dX11_heap_28 rfl ?_
    refine ev_bipush (v := 99) dX11_heap_30 (by decide) ?_
    refine ev_icmp_gt (tgt := 69) dX11_heap_32 (by decide) (fun _ => ?_) (fun h32 => absurd ((show nI 99 < nI i from nI_lt (by omega) (by omega))) h32)
    refine ev_aload_n dX11_heap_69 rfl ?_
    refine ev_get dX11_heap_70 flX11_31_11 (hM.o 0 11 (by decide)) rfl ?_
    refine ev_iconst (v := 1) dX11_heap_73 (by decide) ?_
    refine ev_iload_n dX11_heap_74 rfl ?_
    refine evK_iast hM hF (k := 3) (by decide) dX11_heap_75 ixl1 (show 1 < (σ.1 3).length by omega) (fun μ hM hF => ?_)
    refine ev_iload_n dX11_heap_76 rfl ?_
    refine ev_if_ne (tgt := 84) dX11_heap_77 (by decide) (fun h77 => ?_) (fun h77 => ?_)
    · refine ev_iload dX11_heap_84 rfl ?_
      refine ev_iret dX11_heap_86 rfl ?_
      rw [argK]
      first
        | (rw [if_pos h77]; exact ⟨rfl, ⟨_, hM, hT'⟩, hF⟩)
        | (rw [if_neg h77]; exact ⟨rfl, ⟨_, hM, hT'⟩, hF⟩)
    · refine ev_iload_n dX11_heap_80 rfl ?_
      refine ev_goto (tgt := 86) dX11_heap_81 (by decide) ?_
      refine ev_iret dX11_heap_86 rfl ?_
      rw [argK]
      first
        | (rw [if_pos h77]; exact ⟨rfl, ⟨_, hM, hT'⟩, hF⟩)
        | (rw [if_neg h77]; exact ⟨rfl, ⟨_, hM, hT'⟩, hF⟩)
  | succ k ih =>
    intro i best least o6 σ μ hi h0 hM hTe hF
    obtain ⟨v0, hT⟩ := hTe
    have e3 : σ.1 3 = (ρ.1 6).set 1 v0 := hT.tm.trans setA_at
    have hl3 : (σ.1 3).length = 10 := hT.ln (k := 3) (by decide)
    have hT' := hT.s6 (l := (σ.1 3).set 1 (nI i)) (by rw [List.length_set]; exact hl3)
    rw [e3, hst, ← e3] at hT'
    have hI' : IM (stS ρ 1 (nI i)) n t tx cd Lf := hI.s6 (VS.heap hI.2.1 (fun j hj => by show (Se (stS ρ 1 (nI i))) j = _; rw [stS_S h10 (by decide)]; exact if_neg hj) (by show rg (Se (stS ρ 1 (nI i)) 1) 0 99; rw [stS_S h10 (by decide)]; show rg (if 1 = 1 then nI i else _) 0 99; rw [if_pos rfl]; unfold rg; rw [nI_i (by omega)]; omega))
    rw [argK]
    refine ev_iload dX11_heap_28 rfl ?_
    refine ev_bipush (v := 99) dX11_heap_30 (by decide) ?_
    refine ev_icmp_gt (tgt := 69) dX11_heap_32 (by decide) (fun h32 => absurd h32 ((show ¬ nI 99 < nI i from nI_nlt (by omega) (by decide)))) (fun _ => ?_)
    refine ev_aload_n dX11_heap_35 rfl ?_
    refine ev_get dX11_heap_36 flX11_31_11 (hM.o 0 11 (by decide)) rfl ?_
    refine ev_iconst (v := 1) dX11_heap_39 (by decide) ?_
    refine ev_iload dX11_heap_40 rfl ?_
    refine evK_iast hM hF (k := 3) (by decide) dX11_heap_42 ixl1 (show 1 < (σ.1 3).length by omega) (fun μ hM hF => ?_)
    refine ev_aload_n dX11_heap_43 rfl ?_
    refine k_v (c_kGoList hI' hM hT') (by decide) dX11_heap_44 cbX11_goList (mt3 190 rfl rfl) (mt3 192 rfl rfl) (ms0 21 rfl rfl) (ci := 11) rfl (hM.o 0 11 (by decide)) rfl rfl (Nat.le_of_ble_eq_true rfl) (fun v μ1 hq => ?_)
    obtain ⟨rfl, ⟨σ1, hM1, hE1, hb1, ha1⟩, hF1⟩ := hq
    have hT1 := hT'.sc hE1
    rw [stS_F]
    simp only [Option.toList, List.cons_append, List.nil_append]
    refine ev_istore dX11_heap_47 (by decide) ?_
    dsimp only [List.set]
    refine ev_iload dX11_heap_49 rfl ?_
    refine ev_iload dX11_heap_51 rfl ?_
    refine ev_icmp_ge (tgt := 63) dX11_heap_53 (by decide) (fun h53 => ?_) (fun h53 => ?_)
    · refine ev_iinc dX11_heap_63 rfl (by decide) ?_
      dsimp only [List.set]
      refine ev_goto (tgt := 28) dX11_heap_66 (by decide) ?_
      rw [nI_inc]
      first
        | (have q : ¬ (0 < i ∧ least ≤ (rd0 (Fc ρ) (Se (stS ρ 1 (nI i))) (lsO n Lf)).1) := fun z => Int32.not_le.mpr (Int32.not_le.mp h53) z.2
           rw [if_neg q]
           exact ih (i + 1) i _ _ σ1 _ (by omega) (fun z => by omega) hM1 ⟨_, hT1⟩ (hF.tr hF1))
        | (have q : 0 < i ∧ least ≤ (rd0 (Fc ρ) (Se (stS ρ 1 (nI i))) (lsO n Lf)).1 := by
             refine ⟨?_, h53⟩
             rcases Nat.eq_zero_or_pos i with z | z
             · exfalso
               have h00 := h0 z
               rw [z] at h53
               exact Int32.not_lt.mpr h53 h00
             · exact z
           rw [if_pos q]
           exact ih (i + 1) best _ _ σ1 _ (by omega) (fun z => by omega) hM1 ⟨_, hT1⟩ (hF.tr hF1))
    · refine ev_iload dX11_heap_56 rfl ?_
      refine ev_istore dX11_heap_58 (by decide) ?_
      dsimp only [List.set]
      refine ev_iload dX11_heap_60 rfl ?_
      refine ev_istore_n dX11_heap_62 (by decide) ?_
      dsimp only [List.set]
      refine ev_iinc dX11_heap_63 rfl (by decide) ?_
      dsimp only [List.set]
      refine ev_goto (tgt := 28) dX11_heap_66 (by decide) ?_
      rw [nI_inc]
      first
        | (have q : ¬ (0 < i ∧ least ≤ (rd0 (Fc ρ) (Se (stS ρ 1 (nI i))) (lsO n Lf)).1) := fun z => Int32.not_le.mpr (Int32.not_le.mp h53) z.2
           rw [if_neg q]
           exact ih (i + 1) i _ _ σ1 _ (by omega) (fun z => by omega) hM1 ⟨_, hT1⟩ (hF.tr hF1))
        | (have q : 0 < i ∧ least ≤ (rd0 (Fc ρ) (Se (stS ρ 1 (nI i))) (lsO n Lf)).1 := by
             refine ⟨?_, h53⟩
             rcases Nat.eq_zero_or_pos i with z | z
             · exfalso
               have h00 := h0 z
               rw [z] at h53
               exact Int32.not_lt.mpr h53 h00
             · exact z
           rw [if_pos q]
           exact ih (i + 1) best _ _ σ1 _ (by omega) (fun z => by omega) hM1 ⟨_, hT1⟩ (hF.tr hF1))
theorem c_kHeap {σ : KS} {μ : Mm} (hI : IM ρ n t tx cd Lf) (hM : KM a m tx σ μ) (hT : KTie ρ n t tx cd Lf m σ) (w : Int32) : Mt g 6 mX11_heap [.ref a, .int w] μ (fun v μ' => v = some (.int (ansHeap ρ n Lf w)) ∧ KV a ρ n t tx cd Lf m μ' ∧ FC a μ μ') := by
  refine Mt.of0 (ls0 := [some (.ref a), some (.int w), none, none, none, none, none]) (by decide) (by simp [Value.category]) (Nat.le_of_ble_eq_true rfl) rfl ?_
  have hl3 : (σ.1 3).length = 10 := hT.ln (k := 3) (by decide)
  have h10 : (ρ.1 6).length = 10 := by rw [← hT.tm]; exact hl3
  have e1 : (σ.1 3).getD 1 0 = Se ρ 1 := by rw [hT.tm]
  rw [ansHeap]
  refine ev_iload_n dX11_heap_0 rfl ?_
  refine ev_if_lt (tgt := 9) dX11_heap_1 (by decide) (fun h1 => ?_) (fun h1 => ?_)
  · refine ev_bipush (v := (-2)) dX11_heap_9 (by decide) ?_
    refine ev_iret dX11_heap_11 rfl ?_
    rw [if_neg (fun q => by first | exact Int32.not_lt.mpr q.1 h1 | exact h6 q.2)]
    exact ⟨rfl, ⟨σ, hM, hT⟩, FC.rf⟩
  · refine ev_iload_n dX11_heap_4 rfl ?_
    refine ev_iconst (v := 1) dX11_heap_5 (by decide) ?_
    refine ev_icmp_le (tgt := 12) dX11_heap_6 (by decide) (fun h6 => ?_) (fun h6 => ?_)
    · refine ev_aload_n dX11_heap_12 rfl ?_
      refine ev_get dX11_heap_13 flX11_31_11 (hM.o 0 11 (by decide)) rfl ?_
      refine ev_iconst (v := 1) dX11_heap_16 (by decide) ?_
      refine ev_iald dX11_heap_17 (hM.r 3 (by decide)) ixl1 (gd (by omega)) ?_
      rw [e1]
      refine ev_istore_n dX11_heap_18 (by decide) ?_
      dsimp only [List.set]
      refine ev_iconst (v := 0) dX11_heap_19 (by decide) ?_
      refine ev_istore_n dX11_heap_20 (by decide) ?_
      dsimp only [List.set]
      refine ev_ldc dX11_heap_21 (mt4 141 rfl rfl) ?_
      refine ev_istore dX11_heap_23 (by decide) ?_
      dsimp only [List.set]
      refine ev_iconst (v := 0) dX11_heap_25 (by decide) ?_
      refine ev_istore dX11_heap_26 (by decide) ?_
      dsimp only [List.set]
      rw [if_pos ⟨Int32.not_lt.mp h1, h6⟩, argK_0 (least := 0) (best' := 0) (l' := 1000000)]
      refine l_kHeap hI h10 100 0 0 1000000 _ σ _ (by omega) (fun _ => ?_) hM ⟨Se ρ 1, by rw [stS_same]; exact hT⟩ FC.rf
      have hV0 : VS (Se (stS ρ 1 (nI 0))) := VS.heap hI.2.1 (fun j hj => by rw [stS_S h10 (by decide)]; exact if_neg hj) (by rw [stS_S h10 (by decide)]; show rg (if 1 = 1 then nI 0 else _) 0 99; rw [if_pos rfl]; exact ⟨by decide, by decide⟩)
      have hz := (rd0_rg hI.1 hV0 (os := lsO n Lf) (fun x hx => by obtain ⟨i, hi⟩ := List.getElem?_of_mem hx; obtain ⟨q1, rfl⟩ := lsO_at hi; have := (hI.2.2.2.2.2.2.1 i q1).2; have := hI.2.2.1.2; omega) (by rw [lsO_len]; exact hI.2.2.1.2)).2.1
      rw [Int32.lt_iff_toInt_lt]
      simp only [Int32.reduceToInt]
      omega
    · refine ev_bipush (v := (-2)) dX11_heap_9 (by decide) ?_
      refine ev_iret dX11_heap_11 rfl ?_
      rw [if_neg (fun q => by first | exact Int32.not_lt.mpr q.1 h1 | exact h6 q.2)]
      exact ⟨rfl, ⟨σ, hM, hT⟩, FC.rf⟩
end KSPLIT
