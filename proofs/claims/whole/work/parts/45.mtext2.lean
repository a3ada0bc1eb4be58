/-! ===== the reference: text, its three rows ===== -/
def txK : Nat → Nat → List Int32 → Bool × (List Int32 × List (List Int32))
  | 0, _, s => (true, s, [])
  | m + 1, k, s => if tkK s = nI (3 + k) then
      (if (rowR true (nxT s) ([], [], 0)).1 = true then ((txK m (k + 1) (rowR true (nxT s) ([], [], 0)).2.1).1, (txK m (k + 1) (rowR true (nxT s) ([], [], 0)).2.1).2.1, (rowR true (nxT s) ([], [], 0)).2.2.2.1 :: (txK m (k + 1) (rowR true (nxT s) ([], [], 0)).2.1).2.2) else (false, (rowR true (nxT s) ([], [], 0)).2.1, []))
    else (false, s, [])
/-- what reading rows a .. leaves as it was -/
def TX (a z : Nat) (ρ' ρ : MS) : Prop := ML ρ' ∧ EqE [11, 12, 13] [17, 18, 19, 20, 21, 22, 23] ρ' ρ ∧ (∀ i, (i < 170 * a ∨ 170 * z ≤ i) → (ρ'.1 11)[i]? = (ρ.1 11)[i]?) ∧ ∀ i, (i < a ∨ z ≤ i) → (ρ'.1 12)[i]? = (ρ.1 12)[i]?
theorem TX.tr {a a' z : Nat} {x y w : MS} (h : TX a' z x y) (k : TX a z y w) (ha : a ≤ a') : TX a z x w := ⟨h.1, h.2.1.tr k.2.1, fun i hi => (h.2.2.1 i (by omega)).trans (k.2.2.1 i hi), fun i hi => (h.2.2.2 i (by omega)).trans (k.2.2.2 i hi)⟩
theorem PX.tx {a z r : Nat} {x y : MS} (h : PX r x y) (h1 : a ≤ r) (h2 : r < z) : TX a z x y := ⟨h.1, h.2.1.wd (fun _ h => h) (by decide), fun i hi => h.2.2.1 i (by omega), fun i hi => h.2.2.2 i (by omega)⟩
theorem RC.tx {a z : Nat} {x y : MS} {r : Nat} {c : List Int32} (h : RC y r c) (e : TX a z x y) (hr : r < a) : RC x r c := by
  refine ⟨by rw [e.2.2.2 r (Or.inl hr)]; exact h.1, h.2.1, fun k v hk => ?_⟩
  have := (List.getElem?_eq_some_iff.mp hk).1
  have := h.2.1
  rw [e.2.2.1 _ (Or.inl (by omega))]
  exact h.2.2 k v hk
section MTEXT2
variable {g : Gl} {b : Nat} {tp : List Int32}
theorem l_text {tx : Nat} (htx : tx < 6) {ρ0 : MS} {μ0 : Mm} (hT : TP ρ0 tp) (h16 : ρ0.2 16 = nI tx) {Q : Option Value → Mm → Prop} : ∀ (m k : Nat) (s : List Int32) (ρ : MS) (μ : Mm), k + m = 3 → RM b ρ μ → FM b μ0 μ → TX (3 * tx) (3 * tx + 3) ρ ρ0 → TokM ρ tp s →
    (∀ (ρ' : MS) (μ' : Mm) (x : Int32), RM b ρ' μ' → FM b μ0 μ' → TX (3 * tx + k) (3 * tx + 3) ρ' ρ → TokM ρ' tp (txK m k s).2.1 → ((txK m k s).1 = true → ∀ (j : Nat) (C : List Int32), (txK m k s).2.2[j]? = some C → RC ρ' (3 * tx + (k + j)) C) → Ev g 5 mX12_text 94 [some (.ref b), some (.int (b2i ((txK m k s).1 = true))), some (.int x)] [] μ' Q) →
    Ev g 5 mX12_text 25 [some (.ref b), some (.int 1), some (.int (nI k))] [] μ Q := by
  intro m
  induction m with
  | zero =>
    intro k s ρ μ hk hM hF hE hK go
    have hk : k = 3 := by omega
    subst hk
    refine ev_iload_n dX12_text_25 rfl ?_
    refine ev_iconst (v := 3) dX12_text_26 (by decide) ?_
    refine ev_icmp_ge (tgt := 94) dX12_text_27 (by decide) (fun _ => ?_) (fun h27 => absurd ((show (3 : Int32) ≤ nI 3 from Int32.le_refl _)) h27)
    exact go ρ μ _ hM hF ⟨hE.1, EqE.rf, fun _ _ => rfl, fun _ _ => rfl⟩ hK (fun _ j C hj => by simp [txK] at hj)
  | succ m ih =>
    intro k s ρ μ hk hM hF hE hK go
    have hkd := kds s
    have k1 := kd101 _ hkd
    have n1 := kdn1 _ hkd
    have hTk := hK.tk
    have e18 := hTk.1
    have v1 : rkT (tkK s) = 101 → ρ.2 20 = rkV (tkK s) 0 := fun q => by rw [hTk.2 (k1 q).2.2.2.2.2.2.1, rkV_v (k1 q).2.2.2.2.2.1]
    have hkey : (ρ.2 18 = 101 ∧ ρ.2 20 = 6 + nI k) ↔ tkK s = nI (3 + k) := by
      constructor
      · rintro ⟨q1, q2⟩
        have q1 := e18.symm.trans q1
        rw [v1 q1] at q2
        have kk : k = 0 ∨ k = 1 ∨ k = 2 := by omega
        rcases kk with rfl | rfl | rfl
        · exact (k1 q1).2.2.2.2.2.2.2.2.2.2.2.2.2.1.mp q2
        · exact (k1 q1).2.2.2.2.2.2.2.2.2.2.2.2.2.2.1.mp q2
        · exact (k1 q1).2.2.2.2.2.2.2.2.2.2.2.2.2.2.2.mp q2
      · intro q
        have kk : k = 0 ∨ k = 1 ∨ k = 2 := by omega
        have h3 : ∀ k, k < 3 → rkT (nI (3 + k)) = 101 ∧ rkV (nI (3 + k)) 0 = 6 + nI k := by decide
        have q1 : rkT (tkK s) = 101 := by rw [q]; exact (h3 k (by omega)).1
        exact ⟨e18.trans q1, by rw [v1 q1, q]; exact (h3 k (by omega)).2⟩
    have bad : ∀ (s' : List Int32) (ρ' : MS) (μ' : Mm) (j : Nat), k ≤ j → j < 3 → (txK (m + 1) k s).1 = false → (txK (m + 1) k s).2.1 = s' → RM b ρ' μ' → FM b μ0 μ' → TX (3 * tx + k) (3 * tx + 3) ρ' ρ → TokM ρ' tp s' → Ev g 5 mX12_text 88 [some (.ref b), some (.int 0), some (.int (nI j))] [] μ' Q := by
      intro s' ρ' μ' j hj1 hj2 z1 z2 hM hF hE' hK'
      have gg := fun x => go ρ' μ' x hM hF hE' (by rw [z2]; exact hK') (fun q => by rw [z1] at q; exact absurd q (by decide))
      rw [z1] at gg
      have ex : nI j + Int32.ofInt 1 = nI (j + 1) := nI_inc j
      by_cases h3 : j + 1 < 3
      · skip
        refine ev_iinc dX12_text_88 rfl (by decide) ?_
        dsimp only [List.set]
        rw [ex]
        refine ev_goto (tgt := 25) dX12_text_91 (by decide) ?_
        refine ev_iload_n dX12_text_25 rfl ?_
        refine ev_iconst (v := 3) dX12_text_26 (by decide) ?_
        refine ev_icmp_ge (tgt := 94) dX12_text_27 (by decide) (fun h27 => absurd h27 ((show ¬ nI 3 ≤ nI (j + 1) from nI_ge h3 (by decide)))) (fun _ => ?_)
        refine ev_iload_n dX12_text_30 rfl ?_
        refine ev_if_eq (tgt := 94) dX12_text_31 (by decide) (fun _ => ?_) (fun h31 => absurd (rfl) h31)
        exact gg _
      · skip
        refine ev_iinc dX12_text_88 rfl (by decide) ?_
        dsimp only [List.set]
        rw [ex]
        refine ev_goto (tgt := 25) dX12_text_91 (by decide) ?_
        refine ev_iload_n dX12_text_25 rfl ?_
        refine ev_iconst (v := 3) dX12_text_26 (by decide) ?_
        refine ev_icmp_ge (tgt := 94) dX12_text_27 (by decide) (fun _ => ?_) (fun h27 => absurd ((show nI 3 ≤ nI (j + 1) from nI_le (by omega) (by omega))) h27)
        exact gg _
    have e16 : ρ.2 16 = nI tx := (hE.2.1.2 16 (by decide)).trans h16
    by_cases hq : tkK s = nI (3 + k)
    · obtain ⟨q1, q2⟩ := hkey.mpr hq
      have hne0 : ¬ tkK s = 0 ∧ ¬ tkK s = 1 := by
        have h3 : ∀ k, k < 3 → ¬ nI (3 + k) = 0 ∧ ¬ nI (3 + k) = 1 := by decide
        rw [hq]; exact h3 k (by omega)
      have hl := nxT_lt hne0.1
      have hpl := psn_lt hK.1 hl
      have h2 := hK.2.2.2 hne0.2
      have hr : 3 * tx + k < 18 := by omega
      have e3 : (3 : Int32) * nI tx + nI k = nI (3 * tx + k) := by rw [show (3 : Int32) * nI tx = nI (3 * tx) from (Int32.ofNat_mul 3 tx).symm, nI_add]
      have hz : rowP ((nxT s).length + 1) true (nxT s) ([], [], 0) = rowR true (nxT s) ([], [], 0) := rfl
      refine ev_iload_n dX12_text_25 rfl ?_
      refine ev_iconst (v := 3) dX12_text_26 (by decide) ?_
      refine ev_icmp_ge (tgt := 94) dX12_text_27 (by decide) (fun h27 => absurd h27 ((show ¬ nI 3 ≤ nI k from nI_ge (by omega) (by decide)))) (fun _ => ?_)
      refine ev_iload_n dX12_text_30 rfl ?_
      refine ev_if_eq (tgt := 94) dX12_text_31 (by decide) (fun h31 => absurd h31 ((show ¬ (1 : Int32) = 0 by decide))) (fun _ => ?_)
      refine ev_aload_n dX12_text_34 rfl ?_
      refine ev_get dX12_text_35 flX12_109_12 hM.1 rfl ?_
      refine ev_bipush (v := 101) dX12_text_38 (by decide) ?_
      refine ev_icmp_ne (tgt := 58) dX12_text_40 (by decide) (fun h40 => absurd (q1) h40) (fun _ => ?_)
      refine ev_aload_n dX12_text_43 rfl ?_
      refine ev_get dX12_text_44 flX12_112_12 hM.1 rfl ?_
      refine ev_bipush (v := 6) dX12_text_47 (by decide) ?_
      refine ev_iload_n dX12_text_49 rfl ?_
      refine ev_iadd dX12_text_50 ?_
      refine ev_icmp_ne (tgt := 58) dX12_text_51 (by decide) (fun h51 => absurd (q2) h51) (fun _ => ?_)
      refine ev_iconst (v := 1) dX12_text_54 (by decide) ?_
      refine ev_goto (tgt := 59) dX12_text_55 (by decide) ?_
      refine ev_istore_n dX12_text_59 (by decide) ?_
      dsimp only [List.set]
      refine ev_iload_n dX12_text_60 rfl ?_
      refine ev_if_ne (tgt := 67) dX12_text_61 (by decide) (fun _ => ?_) (fun h61 => absurd h61 ((show ¬ (1 : Int32) = 0 by decide)))
      refine ev_aload_n dX12_text_67 rfl ?_
      refine k_v (c_reads hM hE.1 (hT.eq hE.2.1 (by decide) (by decide)) ⟨hK.1.tr tkR_sfx, h2.2⟩) (by decide) dX12_text_68 cbX12_reads (mt5 130 rfl rfl) (mt5 132 rfl rfl) (ms0 45 rfl rfl) (ci := 12) rfl hM.1 rfl rfl (Nat.le_of_ble_eq_true rfl) (fun v μ1 hq => ?_)
      obtain ⟨rfl, ⟨ρ1, hM, hE1, hK1⟩, hF2⟩ := hq; have hF := hF.tr hF2; have hL1 := eqe_ml hE.1 hE1; have f16 : ρ1.2 16 = nI tx := (hE1.2 16 (by decide)).trans e16
      simp only [Option.toList, List.cons_append, List.nil_append]
      refine ev_aload_n dX12_text_71 rfl ?_
      refine ev_iconst (v := 3) dX12_text_72 (by decide) ?_
      refine ev_aload_n dX12_text_73 rfl ?_
      refine ev_get dX12_text_74 flX12_51_12 hM.1 rfl ?_
      rw [f16]
      refine ev_imul dX12_text_77 ?_
      refine ev_iload_n dX12_text_78 rfl ?_
      refine ev_iadd dX12_text_79 ?_
      rw [e3]
      refine evM_put hM hF (k := 23) (by decide) dX12_text_80 fpX12_85_12 rfl rfl (fun μ hM hF => ?_)
      refine ev_aload_n dX12_text_83 rfl ?_
      refine k_v (c_readsRow (r := 3 * tx + k) hr (hT.eq ((EqE.rf.sI (a := ρ1) (k := 23) (v := nI (3 * tx + k)) (I := [17, 18, 19, 20, 21, 22, 23]) (A := [11, 12, 13]) (by decide)).tr ((hE1.wd (by simp) (by decide)).tr hE.2.1)) (by decide) (by decide)) hM (ML.setI hL1) rfl (show TokM (setI ρ1 23 (nI (3 * tx + k))) tp (nxT s) from hK1) (by omega)) (by decide) dX12_text_84 cbX12_readsRow (mt5 145 rfl rfl) (mt5 147 rfl rfl) (ms0 48 rfl rfl) (ci := 12) rfl hM.1 rfl rfl (Nat.le_of_ble_eq_true rfl) (fun v μ1 hq => ?_)
      obtain ⟨rfl, ⟨ρ2, hM, hE2, hP2, hK2, hz2⟩, hF2⟩ := hq; have hF := hF.tr hF2
      simp only [Option.toList, List.cons_append, List.nil_append]
      refine ev_istore_n dX12_text_87 (by decide) ?_
      dsimp only [List.set]
      have t1 : TX (3 * tx + k) (3 * tx + 3) ρ2 ρ := (hE2.tx (Nat.le_refl _) (by omega)).tr ⟨ML.setI hL1, (EqE.rf.sI (by decide)).tr (hE1.wd (by simp) (by decide)), fun i _ => by show (ρ1.1 11)[i]? = _; rw [hE1.1 11 (by simp)], fun i _ => by show (ρ1.1 12)[i]? = _; rw [hE1.1 12 (by simp)]⟩ (Nat.le_refl _)
      by_cases hg : (rowR true (nxT s) ([], [], 0)).1 = true
      · rw [b2i_t hg]
        refine ev_iinc dX12_text_88 rfl (by decide) ?_
        dsimp only [List.set]
        rw [nI_inc]
        refine ev_goto (tgt := 25) dX12_text_91 (by decide) ?_
        refine ih (k + 1) _ ρ2 _ (by omega) hM hF (t1.tr hE (by omega)) hK2 (fun ρ' μ' x hM' hF' hE' hK' hC' => ?_)
        have hg2 := go ρ' μ' x hM' hF' (hE'.tr t1 (by omega))
        rw [txK, if_pos hq, if_pos hg] at hg2
        refine hg2 hK' (fun hz j C hj => ?_)
        rcases j with _ | j
        · have hC : (rowR true (nxT s) ([], [], 0)).2.2.2.1 = C := by simpa using hj
          rw [← hC]
          exact RC.tx ⟨hP2.1.1, by simp only [szP] at hz2; omega, hP2.1.2⟩ hE' (by omega)
        · rw [show k + (j + 1) = k + 1 + j by omega]
          exact hC' hz j C (by simpa using hj)
      · rw [b2i_f hg]
        refine bad _ ρ2 _ k (Nat.le_refl _) (by omega) (by rw [txK, if_pos hq, if_neg hg]) (by rw [txK, if_pos hq, if_neg hg]) hM hF t1 hK2
    · have hq2 : ¬ (ρ.2 18 = 101 ∧ ρ.2 20 = 6 + nI k) := fun q => hq (hkey.mp q)
      refine ev_iload_n dX12_text_25 rfl ?_
      refine ev_iconst (v := 3) dX12_text_26 (by decide) ?_
      refine ev_icmp_ge (tgt := 94) dX12_text_27 (by decide) (fun h27 => absurd h27 ((show ¬ nI 3 ≤ nI k from nI_ge (by omega) (by decide)))) (fun _ => ?_)
      refine ev_iload_n dX12_text_30 rfl ?_
      refine ev_if_eq (tgt := 94) dX12_text_31 (by decide) (fun h31 => absurd h31 ((show ¬ (1 : Int32) = 0 by decide))) (fun _ => ?_)
      refine ev_aload_n dX12_text_34 rfl ?_
      refine ev_get dX12_text_35 flX12_109_12 hM.1 rfl ?_
      refine ev_bipush (v := 101) dX12_text_38 (by decide) ?_
      refine ev_icmp_ne (tgt := 58) dX12_text_40 (by decide) (fun h40 => ?_) (fun h40 => ?_)
      · refine ev_iconst (v := 0) dX12_text_58 (by decide) ?_
        refine ev_istore_n dX12_text_59 (by decide) ?_
        dsimp only [List.set]
        refine ev_iload_n dX12_text_60 rfl ?_
        refine ev_if_ne (tgt := 67) dX12_text_61 (by decide) (fun h61 => ?_) (fun h61 => ?_)
        · first
            | exact absurd rfl h61
            | (have w1 : ρ.2 18 = 101 := h40
               have w2 : ρ.2 20 = 6 + nI k := h51
               exact absurd ⟨w1, w2⟩ hq2)
        · refine ev_goto (tgt := 88) dX12_text_64 (by decide) ?_
          first
            | exact bad s ρ _ k (Nat.le_refl _) (by omega) (by rw [txK, if_neg hq]) (by rw [txK, if_neg hq]) hM hF ⟨hE.1, EqE.rf, fun _ _ => rfl, fun _ _ => rfl⟩ hK
            | exact absurd h61 (by decide)
      · refine ev_aload_n dX12_text_43 rfl ?_
        refine ev_get dX12_text_44 flX12_112_12 hM.1 rfl ?_
        refine ev_bipush (v := 6) dX12_text_47 (by decide) ?_
        refine ev_iload_n dX12_text_49 rfl ?_
        refine ev_iadd dX12_text_50 ?_
        refine ev_icmp_ne (tgt := 58) dX12_text_51 (by decide) (fun h51 => ?_) (fun h51 => ?_)
        · refine ev_iconst (v := 0) dX12_text_58 (by decide) ?_
          refine ev_istore_n dX12_text_59 (by decide) ?_
          dsimp only [List.set]
          refine ev_iload_n dX12_text_60 rfl ?_
          refine ev_if_ne (tgt := 67) dX12_text_61 (by decide) (fun h61 => ?_) (fun h61 => ?_)
          · first
              | exact absurd rfl h61
              | (have w1 : ρ.2 18 = 101 := h40
                 have w2 : ρ.2 20 = 6 + nI k := h51
                 exact absurd ⟨w1, w2⟩ hq2)
          · refine ev_goto (tgt := 88) dX12_text_64 (by decide) ?_
            first
              | exact bad s ρ _ k (Nat.le_refl _) (by omega) (by rw [txK, if_neg hq]) (by rw [txK, if_neg hq]) hM hF ⟨hE.1, EqE.rf, fun _ _ => rfl, fun _ _ => rfl⟩ hK
              | exact absurd h61 (by decide)
        · refine ev_iconst (v := 1) dX12_text_54 (by decide) ?_
          refine ev_goto (tgt := 59) dX12_text_55 (by decide) ?_
          refine ev_istore_n dX12_text_59 (by decide) ?_
          dsimp only [List.set]
          refine ev_iload_n dX12_text_60 rfl ?_
          refine ev_if_ne (tgt := 67) dX12_text_61 (by decide) (fun h61 => ?_) (fun h61 => ?_)
          · first
              | exact absurd rfl h61
              | (have w1 : ρ.2 18 = 101 := h40
                 have w2 : ρ.2 20 = 6 + nI k := h51
                 exact absurd ⟨w1, w2⟩ hq2)
          · refine ev_goto (tgt := 88) dX12_text_64 (by decide) ?_
            first
              | exact bad s ρ _ k (Nat.le_refl _) (by omega) (by rw [txK, if_neg hq]) (by rw [txK, if_neg hq]) hM hF ⟨hE.1, EqE.rf, fun _ _ => rfl, fun _ _ => rfl⟩ hK
              | exact absurd h61 (by decide)
/-- the tape that the state holds -/
def txB (tp : List Int32) : Bool := decide ((txK 3 0 (skp tp)).1 = true ∧ tkK (txK 3 0 (skp tp)).2.1 = 0)
def txA (tx : Nat) (tp : List Int32) : Int32 := if tx = 6 then -4 else if txB tp = true then nI tx else -100 - nI (psn tp (txK 3 0 (skp tp)).2.1)
/-- the state behind text() -/
def TxR (tx : Nat) (tp : List Int32) (ρ' ρ : MS) : Prop := if tx = 6 then ρ' = ρ else
  (∀ k ∈ coreA, k ≠ 11 → k ≠ 12 → ρ'.1 k = ρ.1 k) ∧ (∀ k ∈ coreI, k ≠ 15 → k ≠ 16 → ρ'.2 k = ρ.2 k) ∧ ρ'.2 15 = 0 ∧ ρ'.2 16 = (if txB tp = true then nI (tx + 1) else nI tx) ∧ (∀ r c, r < 3 * tx → RC ρ r c → RC ρ' r c) ∧ (txB tp = true → ∀ (j : Nat) (C : List Int32), (txK 3 0 (skp tp)).2.2[j]? = some C → RC ρ' (3 * tx + j) C)
theorem l_text94 {ρ ρ0 ρ2 : MS} {μ0 μ : Mm} (hE : EqC ρ0 ρ) {tx : Nat} (h6 : ¬ tx = 6) (htx : tx < 6) (hM : RM b ρ2 μ) (hF : FM b μ0 μ) (hE3 : TX (3 * tx) (3 * tx + 3) ρ2 ρ0) (hK : TokM ρ2 tp (txK 3 0 (skp tp)).2.1) (h160 : tp.length ≤ 160) (f16 : ρ0.2 16 = nI tx) (hC : (txK 3 0 (skp tp)).1 = true → ∀ (j : Nat) (C : List Int32), (txK 3 0 (skp tp)).2.2[j]? = some C → RC ρ2 (3 * tx + j) C) {x : Int32} : Ev g 5 mX12_text 94 [some (.ref b), some (.int (b2i ((txK 3 0 (skp tp)).1 = true))), some (.int x)] [] μ (fun v μ' => v = some (.int (txA tx tp)) ∧ (∃ ρ', MW b ρ' μ' ∧ TxR tx tp ρ' ρ) ∧ FM b μ0 μ') := by
  have e18 := hK.2.2.1
  have k0 := kd0 _ (kds (txK 3 0 (skp tp)).2.1)
  have g16 : ρ2.2 16 = nI tx := (hE3.2.1.2 16 (by decide)).trans f16
  have hB : ∀ p : Prop, txB tp = true ↔ ((txK 3 0 (skp tp)).1 = true ∧ tkK (txK 3 0 (skp tp)).2.1 = 0) := fun _ => decide_eq_true_iff
  have hA : ∀ k ∈ coreA, k ≠ 11 → k ≠ 12 → ρ2.1 k = ρ.1 k := fun k hk q1 q2 => (hE3.2.1.1 k (by simp only [coreA, List.mem_cons, List.not_mem_nil, or_false] at hk ⊢; omega)).trans (hE.1 k hk)
  have hI : ∀ k ∈ coreI, k ≠ 15 → k ≠ 16 → ρ2.2 k = ρ.2 k := fun k hk q1 q2 => (hE3.2.1.2 k (by simp only [coreI, List.mem_cons, List.not_mem_nil, or_false] at hk ⊢; omega)).trans (hE.2 k hk)
  have hR : ∀ r c, r < 3 * tx → RC ρ r c → RC ρ2 r c := fun r c hr hc => RC.tx (hE.rc hc) hE3 hr
  rw [txA, if_neg h6]
  refine ev_iload_n dX12_text_94 rfl ?_
  refine ev_if_eq (tgt := 111) dX12_text_95 (by decide) (fun h95 => ?_) (fun h95 => ?_)
  · refine ev_iconst (v := 0) dX12_text_111 (by decide) ?_
    refine ev_istore_n dX12_text_112 (by decide) ?_
    dsimp only [List.set]
    refine ev_aload_n dX12_text_113 rfl ?_
    refine ev_get dX12_text_114 flX12_102_12 hM.1 rfl ?_
    refine ev_istore_n dX12_text_117 (by decide) ?_
    dsimp only [List.set]
    refine ev_aload_n dX12_text_118 rfl ?_
    refine ev_iconst (v := 0) dX12_text_119 (by decide) ?_
    refine evM_put hM hF (k := 15) (by decide) dX12_text_120 fpX12_96_12 rfl rfl (fun μ hM hF => ?_)
    refine ev_iload_n dX12_text_123 rfl ?_
    refine ev_if_ne (tgt := 132) dX12_text_124 (by decide) (fun h124 => ?_) (fun h124 => ?_)
    · refine ev_aload_n dX12_text_132 rfl ?_
      refine ev_dup dX12_text_133 rfl ?_
      refine ev_get dX12_text_134 flX12_51_12 hM.1 rfl ?_
      refine ev_iconst (v := 1) dX12_text_137 (by decide) ?_
      refine ev_iadd dX12_text_138 ?_
      refine evM_put hM hF (k := 16) (by decide) dX12_text_139 fpX12_51_12 rfl rfl (fun μ hM hF => ?_)
      refine ev_aload_n dX12_text_142 rfl ?_
      refine ev_get dX12_text_143 flX12_51_12 hM.1 rfl ?_
      refine ev_iconst (v := 1) dX12_text_146 (by decide) ?_
      refine ev_isub dX12_text_147 ?_
      refine ev_iret dX12_text_148 rfl ?_
      first
        | exact absurd rfl h124
        | (have nb : txB tp = true := by
             rw [hB True]
             exact ⟨b2i_ne h95, k0.mp (e18.symm.trans h104)⟩
           rw [if_pos nb]
           refine ⟨?_, ⟨_, ⟨_, hM, ML.setI (ML.setI hE3.1), EqC.rf⟩, ?_⟩, hF⟩
           · show some (Value.int (ρ2.2 16 + 1 - 1)) = _
             rw [g16, nI_1, nI_pred]
           · rw [TxR, if_neg h6, if_pos nb]
             refine ⟨hA, fun k hk q1 q2 => ?_, rfl, ?_, hR, fun _ => hC ((hB True).mp nb).1⟩
             · show (if k = 16 then _ else if k = 15 then 0 else ρ2.2 k) = ρ.2 k
               rw [if_neg q2, if_neg q1]; exact hI k hk q1 q2
             · show ρ2.2 16 + 1 = _
               rw [g16, nI_1])
    · refine ev_bipush (v := (-100)) dX12_text_127 (by decide) ?_
      refine ev_iload_n dX12_text_129 rfl ?_
      refine ev_isub dX12_text_130 ?_
      refine ev_iret dX12_text_131 rfl ?_
      first
        | exact absurd h124 (show ¬ (1 : Int32) = 0 by decide)
        | (have nb : ¬ txB tp = true := by
             rw [hB True]
             first
               | exact fun q => b2i_eq h95 q.1
               | exact fun q => h104 (e18.trans (k0.mpr q.2))
           rw [if_neg nb]
           refine ⟨by rw [hK.2.1], ⟨_, ⟨_, hM, ML.setI hE3.1, EqC.rf⟩, ?_⟩, hF⟩
           rw [TxR, if_neg h6, if_neg nb]
           refine ⟨hA, fun k hk q1 q2 => ?_, rfl, g16, hR, fun q => absurd q nb⟩
           show (if k = 15 then 0 else ρ2.2 k) = ρ.2 k
           rw [if_neg q1]; exact hI k hk q1 q2)
  · refine ev_aload_n dX12_text_98 rfl ?_
    refine ev_get dX12_text_99 flX12_109_12 hM.1 rfl ?_
    refine ev_bipush (v := 103) dX12_text_102 (by decide) ?_
    refine ev_icmp_ne (tgt := 111) dX12_text_104 (by decide) (fun h104 => ?_) (fun h104 => ?_)
    · refine ev_iconst (v := 0) dX12_text_111 (by decide) ?_
      refine ev_istore_n dX12_text_112 (by decide) ?_
      dsimp only [List.set]
      refine ev_aload_n dX12_text_113 rfl ?_
      refine ev_get dX12_text_114 flX12_102_12 hM.1 rfl ?_
      refine ev_istore_n dX12_text_117 (by decide) ?_
      dsimp only [List.set]
      refine ev_aload_n dX12_text_118 rfl ?_
      refine ev_iconst (v := 0) dX12_text_119 (by decide) ?_
      refine evM_put hM hF (k := 15) (by decide) dX12_text_120 fpX12_96_12 rfl rfl (fun μ hM hF => ?_)
      refine ev_iload_n dX12_text_123 rfl ?_
      refine ev_if_ne (tgt := 132) dX12_text_124 (by decide) (fun h124 => ?_) (fun h124 => ?_)
      · refine ev_aload_n dX12_text_132 rfl ?_
        refine ev_dup dX12_text_133 rfl ?_
        refine ev_get dX12_text_134 flX12_51_12 hM.1 rfl ?_
        refine ev_iconst (v := 1) dX12_text_137 (by decide) ?_
        refine ev_iadd dX12_text_138 ?_
        refine evM_put hM hF (k := 16) (by decide) dX12_text_139 fpX12_51_12 rfl rfl (fun μ hM hF => ?_)
        refine ev_aload_n dX12_text_142 rfl ?_
        refine ev_get dX12_text_143 flX12_51_12 hM.1 rfl ?_
        refine ev_iconst (v := 1) dX12_text_146 (by decide) ?_
        refine ev_isub dX12_text_147 ?_
        refine ev_iret dX12_text_148 rfl ?_
        first
          | exact absurd rfl h124
          | (have nb : txB tp = true := by
               rw [hB True]
               exact ⟨b2i_ne h95, k0.mp (e18.symm.trans h104)⟩
             rw [if_pos nb]
             refine ⟨?_, ⟨_, ⟨_, hM, ML.setI (ML.setI hE3.1), EqC.rf⟩, ?_⟩, hF⟩
             · show some (Value.int (ρ2.2 16 + 1 - 1)) = _
               rw [g16, nI_1, nI_pred]
             · rw [TxR, if_neg h6, if_pos nb]
               refine ⟨hA, fun k hk q1 q2 => ?_, rfl, ?_, hR, fun _ => hC ((hB True).mp nb).1⟩
               · show (if k = 16 then _ else if k = 15 then 0 else ρ2.2 k) = ρ.2 k
                 rw [if_neg q2, if_neg q1]; exact hI k hk q1 q2
               · show ρ2.2 16 + 1 = _
                 rw [g16, nI_1])
      · refine ev_bipush (v := (-100)) dX12_text_127 (by decide) ?_
        refine ev_iload_n dX12_text_129 rfl ?_
        refine ev_isub dX12_text_130 ?_
        refine ev_iret dX12_text_131 rfl ?_
        first
          | exact absurd h124 (show ¬ (1 : Int32) = 0 by decide)
          | (have nb : ¬ txB tp = true := by
               rw [hB True]
               first
                 | exact fun q => b2i_eq h95 q.1
                 | exact fun q => h104 (e18.trans (k0.mpr q.2))
             rw [if_neg nb]
             refine ⟨by rw [hK.2.1], ⟨_, ⟨_, hM, ML.setI hE3.1, EqC.rf⟩, ?_⟩, hF⟩
             rw [TxR, if_neg h6, if_neg nb]
             refine ⟨hA, fun k hk q1 q2 => ?_, rfl, g16, hR, fun q => absurd q nb⟩
             show (if k = 15 then 0 else ρ2.2 k) = ρ.2 k
             rw [if_neg q1]; exact hI k hk q1 q2)
    · refine ev_iconst (v := 1) dX12_text_107 (by decide) ?_
      refine ev_goto (tgt := 112) dX12_text_108 (by decide) ?_
      refine ev_istore_n dX12_text_112 (by decide) ?_
      dsimp only [List.set]
      refine ev_aload_n dX12_text_113 rfl ?_
      refine ev_get dX12_text_114 flX12_102_12 hM.1 rfl ?_
      refine ev_istore_n dX12_text_117 (by decide) ?_
      dsimp only [List.set]
      refine ev_aload_n dX12_text_118 rfl ?_
      refine ev_iconst (v := 0) dX12_text_119 (by decide) ?_
      refine evM_put hM hF (k := 15) (by decide) dX12_text_120 fpX12_96_12 rfl rfl (fun μ hM hF => ?_)
      refine ev_iload_n dX12_text_123 rfl ?_
      refine ev_if_ne (tgt := 132) dX12_text_124 (by decide) (fun h124 => ?_) (fun h124 => ?_)
      · refine ev_aload_n dX12_text_132 rfl ?_
        refine ev_dup dX12_text_133 rfl ?_
        refine ev_get dX12_text_134 flX12_51_12 hM.1 rfl ?_
        refine ev_iconst (v := 1) dX12_text_137 (by decide) ?_
        refine ev_iadd dX12_text_138 ?_
        refine evM_put hM hF (k := 16) (by decide) dX12_text_139 fpX12_51_12 rfl rfl (fun μ hM hF => ?_)
        refine ev_aload_n dX12_text_142 rfl ?_
        refine ev_get dX12_text_143 flX12_51_12 hM.1 rfl ?_
        refine ev_iconst (v := 1) dX12_text_146 (by decide) ?_
        refine ev_isub dX12_text_147 ?_
        refine ev_iret dX12_text_148 rfl ?_
        first
          | exact absurd rfl h124
          | (have nb : txB tp = true := by
               rw [hB True]
               exact ⟨b2i_ne h95, k0.mp (e18.symm.trans h104)⟩
             rw [if_pos nb]
             refine ⟨?_, ⟨_, ⟨_, hM, ML.setI (ML.setI hE3.1), EqC.rf⟩, ?_⟩, hF⟩
             · show some (Value.int (ρ2.2 16 + 1 - 1)) = _
               rw [g16, nI_1, nI_pred]
             · rw [TxR, if_neg h6, if_pos nb]
               refine ⟨hA, fun k hk q1 q2 => ?_, rfl, ?_, hR, fun _ => hC ((hB True).mp nb).1⟩
               · show (if k = 16 then _ else if k = 15 then 0 else ρ2.2 k) = ρ.2 k
                 rw [if_neg q2, if_neg q1]; exact hI k hk q1 q2
               · show ρ2.2 16 + 1 = _
                 rw [g16, nI_1])
      · refine ev_bipush (v := (-100)) dX12_text_127 (by decide) ?_
        refine ev_iload_n dX12_text_129 rfl ?_
        refine ev_isub dX12_text_130 ?_
        refine ev_iret dX12_text_131 rfl ?_
        first
          | exact absurd h124 (show ¬ (1 : Int32) = 0 by decide)
          | (have nb : ¬ txB tp = true := by
               rw [hB True]
               first
                 | exact fun q => b2i_eq h95 q.1
                 | exact fun q => h104 (e18.trans (k0.mpr q.2))
             rw [if_neg nb]
             refine ⟨by rw [hK.2.1], ⟨_, ⟨_, hM, ML.setI hE3.1, EqC.rf⟩, ?_⟩, hF⟩
             rw [TxR, if_neg h6, if_neg nb]
             refine ⟨hA, fun k hk q1 q2 => ?_, rfl, g16, hR, fun q => absurd q nb⟩
             show (if k = 15 then 0 else ρ2.2 k) = ρ.2 k
             rw [if_neg q1]; exact hI k hk q1 q2)
theorem c_text {ρ : MS} {μ : Mm} (hW : MW b ρ μ) (hT : TP ρ tp) {tx : Nat} (htx : tx ≤ 6) (h16 : ρ.2 16 = nI tx) : Mt g 5 mX12_text [.ref b] μ (fun v μ' => v = some (.int (txA tx tp)) ∧ (∃ ρ', MW b ρ' μ' ∧ TxR tx tp ρ' ρ) ∧ FM b μ μ') := by
  refine Mt.of0 (ls0 := [some (.ref b), none, none]) (by decide) (by simp [Value.category]) (Nat.le_of_ble_eq_true rfl) rfl ?_
  obtain ⟨ρ0, hM, hL, hE⟩ := id hW
  have hF : FM b μ μ := FM.rf
  have f16 : ρ0.2 16 = nI tx := (hE.2 16 (by decide)).trans h16
  have hT0 : TP ρ0 tp := ⟨(hE.2 15 (by decide)).trans hT.1, hT.2.1, fun i c hc => by rw [hE.1 10 (by decide)]; exact hT.2.2 i c hc⟩
  have e6 : ρ0.2 16 = 6 ↔ tx = 6 := by rw [f16]; exact nI_eq (b := 6) (by omega) (by decide)
  by_cases hx6 : tx = 6
  · skip
    refine ev_aload_n dX12_text_0 rfl ?_
    refine ev_get dX12_text_1 flX12_51_12 hM.1 rfl ?_
    refine ev_bipush (v := 6) dX12_text_4 (by decide) ?_
    refine ev_icmp_ne (tgt := 12) dX12_text_6 (by decide) (fun h6 => absurd ((e6.mpr hx6)) h6) (fun _ => ?_)
    refine ev_bipush (v := (-4)) dX12_text_9 (by decide) ?_
    refine ev_iret dX12_text_11 rfl ?_
    rw [txA, if_pos hx6]
    exact ⟨rfl, ⟨ρ, hW, by rw [TxR, if_pos hx6]⟩, hF⟩
  · skip
    refine ev_aload_n dX12_text_0 rfl ?_
    refine ev_get dX12_text_1 flX12_51_12 hM.1 rfl ?_
    refine ev_bipush (v := 6) dX12_text_4 (by decide) ?_
    refine ev_icmp_ne (tgt := 12) dX12_text_6 (by decide) (fun _ => ?_) (fun h6 => absurd h6 ((fun q => hx6 (e6.mp q))))
    refine ev_aload_n dX12_text_12 rfl ?_
    refine ev_iconst (v := 0) dX12_text_13 (by decide) ?_
    refine evM_put hM hF (k := 17) (by decide) dX12_text_14 fpX12_99_12 rfl rfl (fun μ hM hF => ?_)
    refine ev_aload_n dX12_text_17 rfl ?_
    refine k_v (c_reads hM (ML.setI hL) (show TP (setI ρ0 17 0) tp from hT0) (s := tp) ⟨Sfx.rf, by show (0 : Int32) = _; simp [psn]; rfl⟩) (by decide) dX12_text_18 cbX12_reads (mt5 130 rfl rfl) (mt5 132 rfl rfl) (ms0 45 rfl rfl) (ci := 12) rfl hM.1 rfl rfl (Nat.le_of_ble_eq_true rfl) (fun v μ1 hq => ?_)
    obtain ⟨rfl, ⟨ρ1, hM, hE1, hK1⟩, hF2⟩ := hq; have hF := hF.tr hF2
    simp only [Option.toList, List.cons_append, List.nil_append]
    refine ev_iconst (v := 1) dX12_text_21 (by decide) ?_
    refine ev_istore_n dX12_text_22 (by decide) ?_
    dsimp only [List.set]
    refine ev_iconst (v := 0) dX12_text_23 (by decide) ?_
    refine ev_istore_n dX12_text_24 (by decide) ?_
    dsimp only [List.set]
    have hL1 := eqe_ml (ML.setI hL) hE1
    have t0 : TX (3 * tx) (3 * tx + 3) ρ1 ρ0 := ⟨hL1, (hE1.wd (by simp) (by decide)).tr (EqE.rf.sI (by decide)), fun i _ => by rw [hE1.1 11 (by simp)]; rfl, fun i _ => by rw [hE1.1 12 (by simp)]; rfl⟩
    refine l_text (tx := tx) (by omega) hT0 f16 3 0 (skp tp) ρ1 _ rfl hM hF t0 hK1 ?_
    clear hM hF
    intro ρ2 μ2 x hM hF hE2 hK2 hC2
    have hE3 := hE2.tr t0 (by omega)
    refine l_text94 hE hx6 (by omega) hM hF hE3 hK2 hT.2.1 f16 ?_
    intro hg j C hj
    have := hC2 hg j C hj
    rw [Nat.zero_add] at this
    exact this
end MTEXT2
