/-! ===== the reference: image and back ===== -/
def pkK (A : List Int32) : Nat → Nat → Nat → List Int32 → List Int32
  | 0, _, _, K => K
  | m + 1, k, c, K => pkK A m (k + 1) (c + 1) (K.set c (A.getD k 0))
def bkK (K : List Int32) : Nat → Nat → Nat → List Int32 → List Int32
  | 0, _, _, A => A
  | m + 1, k, c, A => bkK K m (k + 1) (c + 1) (A.set k (K.getD c 0))
theorem pkK_len {A : List Int32} : ∀ (m k c : Nat) (K : List Int32), (pkK A m k c K).length = K.length := by
  intro m
  induction m with
  | zero => intro k c K; rfl
  | succ m ih => intro k c K; rw [pkK, ih, List.length_set]
theorem bkK_len {K : List Int32} : ∀ (m k c : Nat) (A : List Int32), (bkK K m k c A).length = A.length := by
  intro m
  induction m with
  | zero => intro k c A; rfl
  | succ m ih => intro k c A; rw [bkK, ih, List.length_set]
/-- the two numbers of a pass -/
def pst (ρ : MS) (kf : Nat) (l : List Int32) (c : Nat) : MS := setI (setA ρ kf l) 32 (nI c)
theorem pst_l {ρ : MS} {kf c : Nat} {l l' : List Int32} : setA (pst ρ kf l c) kf l' = pst ρ kf l' c := by
  have : setA (pst ρ kf l c) kf l' = setI (setA (setA ρ kf l) kf l') 32 (nI c) := rfl
  rw [this, setA_setA]; rfl
theorem pst_c {ρ : MS} {kf c : Nat} {l : List Int32} {v : Int32} : setI (pst ρ kf l c) 32 v = setI (setA ρ kf l) 32 v := by
  simp only [pst, setI]
  congr 1
  funext q
  split <;> rfl
theorem pst_i {ρ : MS} {kf c : Nat} {l : List Int32} : setI (pst ρ kf l c) 32 ((pst ρ kf l c).2 32 + 1) = pst ρ kf l (c + 1) := by
  rw [pst_c]
  show setI (setA ρ kf l) 32 (nI c + 1) = setI (setA ρ kf l) 32 (nI (c + 1))
  rw [nI_succ]
theorem pst_at {ρ : MS} {kf c : Nat} {l : List Int32} : (pst ρ kf l c).1 kf = l := setA_at
theorem pst_self {ρ : MS} {kf c : Nat} (h : ρ.2 32 = nI c) : pst ρ kf (ρ.1 kf) c = ρ := by
  have e : setA ρ kf (ρ.1 kf) = ρ := setA_self
  rw [pst, e]
  refine Prod.ext rfl ?_
  funext q
  show (if q = 32 then nI c else ρ.2 q) = ρ.2 q
  split
  · rename_i z; rw [z, h]
  · rfl
section MPASS
variable {g : Gl} {μ : Mm} {b : Nat} {ρ : MS}
theorem l_passK1 (hL : ML ρ) (hk : ρ.2 31 = 1) {μ0 : Mm} : ∀ (m k c : Nat) (K : List Int32) (μ : Mm), k + m = 7 → K.length = 60 → c + m ≤ 60 → RM b (pst ρ 29 K c) μ → FM b μ0 μ → Ev g 0 mX12_passes 2 [some (.ref b), some (.ref (b + 2)), some (.int (nI k))] [] μ (fun v μ' => v = none ∧ RM b (pst ρ 29 (pkK (ρ.1 1) m k c K) (c + m)) μ' ∧ FM b μ0 μ') := by
  have hA := hL.at (k := 1) (n := 7) (by decide)
  intro m
  induction m with
  | zero =>
    intro k c K μ hkm hl hc hM hF
    refine ev_iload_n dX12_passes_2 rfl ?_
    refine ev_aload_n dX12_passes_3 rfl ?_
    refine ev_alen dX12_passes_4 (hM.a 1 2 (by decide)) ?_
    refine ev_icmp_ge (tgt := 58) dX12_passes_5 (by decide) (fun _ => ?_) (fun h5 => absurd ((show nI (ρ.1 1).length ≤ nI k by rw [hA]; exact nI_le (by omega) (by omega))) h5)
    refine ev_vret dX12_passes_58 rfl ?_
    exact ⟨rfl, hM, hF⟩
  | succ m ih =>
    intro k c K μ hkm hl hc hM hF
    rw [pkK, show c + (m + 1) = c + 1 + m by omega]
    refine ev_iload_n dX12_passes_2 rfl ?_
    refine ev_aload_n dX12_passes_3 rfl ?_
    refine ev_alen dX12_passes_4 (hM.a 1 2 (by decide)) ?_
    refine ev_icmp_ge (tgt := 58) dX12_passes_5 (by decide) (fun h5 => absurd h5 ((show ¬ nI (ρ.1 1).length ≤ nI k by rw [hA]; exact nI_ge (by omega) (by omega)))) (fun _ => ?_)
    refine ev_aload_n dX12_passes_8 rfl ?_
    refine ev_get dX12_passes_9 flX12_280_12 hM.1 rfl ?_
    refine ev_if_eq (tgt := 30) dX12_passes_12 (by decide) (fun h12 => absurd h12 ((show ¬ ρ.2 31 = 0 by rw [hk]; decide))) (fun _ => ?_)
    refine ev_aload_n dX12_passes_15 rfl ?_
    refine ev_get dX12_passes_16 flX12_64_12 hM.1 rfl ?_
    refine ev_aload_n dX12_passes_19 rfl ?_
    refine ev_get dX12_passes_20 flX12_284_12 hM.1 rfl ?_
    refine ev_aload_n dX12_passes_23 rfl ?_
    refine ev_iload_n dX12_passes_24 rfl ?_
    refine ev_iald dX12_passes_25 (hM.a 1 2 (by decide)) (ix_n (by omega)) (rd hL (k := 1) (n := 7) (by decide) (by omega)) ?_
    refine evM_iast hM hF (k := 29) (o := 29) (by decide) dX12_passes_26 (show ix (nI c) c from ix_n (by omega)) (show c < ((pst ρ 29 K c).1 29).length by rw [pst_at, hl]; omega) (fun μ hM hF => ?_)
    rw [pst_at, pst_l] at hM
    refine ev_goto (tgt := 42) dX12_passes_27 (by decide) ?_
    refine ev_aload_n dX12_passes_42 rfl ?_
    refine ev_dup dX12_passes_43 rfl ?_
    refine ev_get dX12_passes_44 flX12_284_12 hM.1 rfl ?_
    refine ev_iconst (v := 1) dX12_passes_47 (by decide) ?_
    refine ev_iadd dX12_passes_48 ?_
    refine evM_put hM hF (k := 32) (by decide) dX12_passes_49 fpX12_284_12 rfl rfl (fun μ hM hF => ?_)
    rw [pst_i] at hM
    refine ev_iinc dX12_passes_52 rfl (by decide) ?_
    dsimp only [List.set]
    refine ev_goto (tgt := 2) dX12_passes_55 (by decide) ?_
    rw [nI_inc]
    exact ih (k + 1) (c + 1) _ μ (by omega) (by rw [List.length_set]; exact hl) (by omega) hM hF
theorem l_passB1 (hL : ML ρ) (hk : ρ.2 31 = 0) {μ0 : Mm} : ∀ (m k c : Nat) (A : List Int32) (μ : Mm), k + m = 7 → A.length = 7 → c + m ≤ 60 → RM b (pst ρ 1 A c) μ → FM b μ0 μ → Ev g 0 mX12_passes 2 [some (.ref b), some (.ref (b + 2)), some (.int (nI k))] [] μ (fun v μ' => v = none ∧ RM b (pst ρ 1 (bkK (ρ.1 29) m k c A) (c + m)) μ' ∧ FM b μ0 μ') := by
  intro m
  induction m with
  | zero =>
    intro k c A μ hkm hl hc hM hF
    refine ev_iload_n dX12_passes_2 rfl ?_
    refine ev_aload_n dX12_passes_3 rfl ?_
    refine ev_alen dX12_passes_4 (hM.a 1 2 (by decide)) ?_
    refine ev_icmp_ge (tgt := 58) dX12_passes_5 (by decide) (fun _ => ?_) (fun h5 => absurd ((show nI ((pst ρ 1 A c).1 1).length ≤ nI k by rw [pst_at, hl]; exact nI_le (by omega) (by omega))) h5)
    refine ev_vret dX12_passes_58 rfl ?_
    exact ⟨rfl, hM, hF⟩
  | succ m ih =>
    intro k c A μ hkm hl hc hM hF
    rw [bkK, show c + (m + 1) = c + 1 + m by omega]
    refine ev_iload_n dX12_passes_2 rfl ?_
    refine ev_aload_n dX12_passes_3 rfl ?_
    refine ev_alen dX12_passes_4 (hM.a 1 2 (by decide)) ?_
    refine ev_icmp_ge (tgt := 58) dX12_passes_5 (by decide) (fun h5 => absurd h5 ((show ¬ nI ((pst ρ 1 A c).1 1).length ≤ nI k by rw [pst_at, hl]; exact nI_ge (by omega) (by omega)))) (fun _ => ?_)
    refine ev_aload_n dX12_passes_8 rfl ?_
    refine ev_get dX12_passes_9 flX12_280_12 hM.1 rfl ?_
    refine ev_if_eq (tgt := 30) dX12_passes_12 (by decide) (fun _ => ?_) (fun h12 => absurd (hk) h12)
    refine ev_aload_n dX12_passes_30 rfl ?_
    refine ev_iload_n dX12_passes_31 rfl ?_
    refine ev_aload_n dX12_passes_32 rfl ?_
    refine ev_get dX12_passes_33 flX12_64_12 hM.1 rfl ?_
    refine ev_aload_n dX12_passes_36 rfl ?_
    refine ev_get dX12_passes_37 flX12_284_12 hM.1 rfl ?_
    refine ev_iald dX12_passes_40 (hM.a 29 29 (by decide)) (show ix (nI c) c from ix_n (by omega)) (rd hL (k := 29) (n := 60) (by decide) (by omega)) ?_
    refine evM_iast hM hF (k := 1) (o := 2) (by decide) dX12_passes_41 (ix_n (by omega)) (show k < ((pst ρ 1 A c).1 1).length by rw [pst_at, hl]; omega) (fun μ hM hF => ?_)
    rw [pst_at, pst_l] at hM
    refine ev_aload_n dX12_passes_42 rfl ?_
    refine ev_dup dX12_passes_43 rfl ?_
    refine ev_get dX12_passes_44 flX12_284_12 hM.1 rfl ?_
    refine ev_iconst (v := 1) dX12_passes_47 (by decide) ?_
    refine ev_iadd dX12_passes_48 ?_
    refine evM_put hM hF (k := 32) (by decide) dX12_passes_49 fpX12_284_12 rfl rfl (fun μ hM hF => ?_)
    rw [pst_i] at hM
    refine ev_iinc dX12_passes_52 rfl (by decide) ?_
    dsimp only [List.set]
    refine ev_goto (tgt := 2) dX12_passes_55 (by decide) ?_
    rw [nI_inc]
    exact ih (k + 1) (c + 1) _ μ (by omega) (by rw [List.length_set]; exact hl) (by omega) hM hF
theorem c_passK1 (hM : RM b ρ μ) (hL : ML ρ) (hk : ρ.2 31 = 1) {c : Nat} (hc : ρ.2 32 = nI c) (hc6 : c + 7 ≤ 60) : Mt g 0 mX12_passes [.ref b, .ref (b + 2)] μ (fun v μ' => v = none ∧ RM b (pst ρ 29 (pkK (ρ.1 1) 7 0 c (ρ.1 29)) (c + 7)) μ' ∧ FM b μ μ') := by
  refine Mt.of0 (ls0 := [some (.ref b), some (.ref (b + 2)), none]) (by decide) (by simp [Value.category]) (Nat.le_of_ble_eq_true rfl) rfl ?_
  have hF : FM b μ μ := FM.rf
  refine ev_iconst (v := 0) dX12_passes_0 (by decide) ?_
  refine ev_istore_n dX12_passes_1 (by decide) ?_
  dsimp only [List.set]
  exact l_passK1 hL hk 7 0 c (ρ.1 29) μ (by omega) (hL.at (by decide)) hc6 (by rw [pst_self hc]; exact hM) hF
theorem c_passB1 (hM : RM b ρ μ) (hL : ML ρ) (hk : ρ.2 31 = 0) {c : Nat} (hc : ρ.2 32 = nI c) (hc6 : c + 7 ≤ 60) : Mt g 0 mX12_passes [.ref b, .ref (b + 2)] μ (fun v μ' => v = none ∧ RM b (pst ρ 1 (bkK (ρ.1 29) 7 0 c (ρ.1 1)) (c + 7)) μ' ∧ FM b μ μ') := by
  refine Mt.of0 (ls0 := [some (.ref b), some (.ref (b + 2)), none]) (by decide) (by simp [Value.category]) (Nat.le_of_ble_eq_true rfl) rfl ?_
  have hF : FM b μ μ := FM.rf
  refine ev_iconst (v := 0) dX12_passes_0 (by decide) ?_
  refine ev_istore_n dX12_passes_1 (by decide) ?_
  dsimp only [List.set]
  exact l_passB1 hL hk 7 0 c (ρ.1 1) μ (by omega) (hL.at (by decide)) hc6 (by rw [pst_self hc]; exact hM) hF
theorem l_passK2 (hL : ML ρ) (hk : ρ.2 31 = 1) {μ0 : Mm} : ∀ (m k c : Nat) (K : List Int32) (μ : Mm), k + m = 7 → K.length = 60 → c + m ≤ 60 → RM b (pst ρ 29 K c) μ → FM b μ0 μ → Ev g 0 mX12_passes 2 [some (.ref b), some (.ref (b + 3)), some (.int (nI k))] [] μ (fun v μ' => v = none ∧ RM b (pst ρ 29 (pkK (ρ.1 2) m k c K) (c + m)) μ' ∧ FM b μ0 μ') := by
  have hA := hL.at (k := 2) (n := 7) (by decide)
  intro m
  induction m with
  | zero =>
    intro k c K μ hkm hl hc hM hF
    refine ev_iload_n dX12_passes_2 rfl ?_
    refine ev_aload_n dX12_passes_3 rfl ?_
    refine ev_alen dX12_passes_4 (hM.a 2 3 (by decide)) ?_
    refine ev_icmp_ge (tgt := 58) dX12_passes_5 (by decide) (fun _ => ?_) (fun h5 => absurd ((show nI (ρ.1 2).length ≤ nI k by rw [hA]; exact nI_le (by omega) (by omega))) h5)
    refine ev_vret dX12_passes_58 rfl ?_
    exact ⟨rfl, hM, hF⟩
  | succ m ih =>
    intro k c K μ hkm hl hc hM hF
    rw [pkK, show c + (m + 1) = c + 1 + m by omega]
    refine ev_iload_n dX12_passes_2 rfl ?_
    refine ev_aload_n dX12_passes_3 rfl ?_
    refine ev_alen dX12_passes_4 (hM.a 2 3 (by decide)) ?_
    refine ev_icmp_ge (tgt := 58) dX12_passes_5 (by decide) (fun h5 => absurd h5 ((show ¬ nI (ρ.1 2).length ≤ nI k by rw [hA]; exact nI_ge (by omega) (by omega)))) (fun _ => ?_)
    refine ev_aload_n dX12_passes_8 rfl ?_
    refine ev_get dX12_passes_9 flX12_280_12 hM.1 rfl ?_
    refine ev_if_eq (tgt := 30) dX12_passes_12 (by decide) (fun h12 => absurd h12 ((show ¬ ρ.2 31 = 0 by rw [hk]; decide))) (fun _ => ?_)
    refine ev_aload_n dX12_passes_15 rfl ?_
    refine ev_get dX12_passes_16 flX12_64_12 hM.1 rfl ?_
    refine ev_aload_n dX12_passes_19 rfl ?_
    refine ev_get dX12_passes_20 flX12_284_12 hM.1 rfl ?_
    refine ev_aload_n dX12_passes_23 rfl ?_
    refine ev_iload_n dX12_passes_24 rfl ?_
    refine ev_iald dX12_passes_25 (hM.a 2 3 (by decide)) (ix_n (by omega)) (rd hL (k := 2) (n := 7) (by decide) (by omega)) ?_
    refine evM_iast hM hF (k := 29) (o := 29) (by decide) dX12_passes_26 (show ix (nI c) c from ix_n (by omega)) (show c < ((pst ρ 29 K c).1 29).length by rw [pst_at, hl]; omega) (fun μ hM hF => ?_)
    rw [pst_at, pst_l] at hM
    refine ev_goto (tgt := 42) dX12_passes_27 (by decide) ?_
    refine ev_aload_n dX12_passes_42 rfl ?_
    refine ev_dup dX12_passes_43 rfl ?_
    refine ev_get dX12_passes_44 flX12_284_12 hM.1 rfl ?_
    refine ev_iconst (v := 1) dX12_passes_47 (by decide) ?_
    refine ev_iadd dX12_passes_48 ?_
    refine evM_put hM hF (k := 32) (by decide) dX12_passes_49 fpX12_284_12 rfl rfl (fun μ hM hF => ?_)
    rw [pst_i] at hM
    refine ev_iinc dX12_passes_52 rfl (by decide) ?_
    dsimp only [List.set]
    refine ev_goto (tgt := 2) dX12_passes_55 (by decide) ?_
    rw [nI_inc]
    exact ih (k + 1) (c + 1) _ μ (by omega) (by rw [List.length_set]; exact hl) (by omega) hM hF
theorem l_passB2 (hL : ML ρ) (hk : ρ.2 31 = 0) {μ0 : Mm} : ∀ (m k c : Nat) (A : List Int32) (μ : Mm), k + m = 7 → A.length = 7 → c + m ≤ 60 → RM b (pst ρ 2 A c) μ → FM b μ0 μ → Ev g 0 mX12_passes 2 [some (.ref b), some (.ref (b + 3)), some (.int (nI k))] [] μ (fun v μ' => v = none ∧ RM b (pst ρ 2 (bkK (ρ.1 29) m k c A) (c + m)) μ' ∧ FM b μ0 μ') := by
  intro m
  induction m with
  | zero =>
    intro k c A μ hkm hl hc hM hF
    refine ev_iload_n dX12_passes_2 rfl ?_
    refine ev_aload_n dX12_passes_3 rfl ?_
    refine ev_alen dX12_passes_4 (hM.a 2 3 (by decide)) ?_
    refine ev_icmp_ge (tgt := 58) dX12_passes_5 (by decide) (fun _ => ?_) (fun h5 => absurd ((show nI ((pst ρ 2 A c).1 2).length ≤ nI k by rw [pst_at, hl]; exact nI_le (by omega) (by omega))) h5)
    refine ev_vret dX12_passes_58 rfl ?_
    exact ⟨rfl, hM, hF⟩
  | succ m ih =>
    intro k c A μ hkm hl hc hM hF
    rw [bkK, show c + (m + 1) = c + 1 + m by omega]
    refine ev_iload_n dX12_passes_2 rfl ?_
    refine ev_aload_n dX12_passes_3 rfl ?_
    refine ev_alen dX12_passes_4 (hM.a 2 3 (by decide)) ?_
    refine ev_icmp_ge (tgt := 58) dX12_passes_5 (by decide) (fun h5 => absurd h5 ((show ¬ nI ((pst ρ 2 A c).1 2).length ≤ nI k by rw [pst_at, hl]; exact nI_ge (by omega) (by omega)))) (fun _ => ?_)
    refine ev_aload_n dX12_passes_8 rfl ?_
    refine ev_get dX12_passes_9 flX12_280_12 hM.1 rfl ?_
    refine ev_if_eq (tgt := 30) dX12_passes_12 (by decide) (fun _ => ?_) (fun h12 => absurd (hk) h12)
    refine ev_aload_n dX12_passes_30 rfl ?_
    refine ev_iload_n dX12_passes_31 rfl ?_
    refine ev_aload_n dX12_passes_32 rfl ?_
    refine ev_get dX12_passes_33 flX12_64_12 hM.1 rfl ?_
    refine ev_aload_n dX12_passes_36 rfl ?_
    refine ev_get dX12_passes_37 flX12_284_12 hM.1 rfl ?_
    refine ev_iald dX12_passes_40 (hM.a 29 29 (by decide)) (show ix (nI c) c from ix_n (by omega)) (rd hL (k := 29) (n := 60) (by decide) (by omega)) ?_
    refine evM_iast hM hF (k := 2) (o := 3) (by decide) dX12_passes_41 (ix_n (by omega)) (show k < ((pst ρ 2 A c).1 2).length by rw [pst_at, hl]; omega) (fun μ hM hF => ?_)
    rw [pst_at, pst_l] at hM
    refine ev_aload_n dX12_passes_42 rfl ?_
    refine ev_dup dX12_passes_43 rfl ?_
    refine ev_get dX12_passes_44 flX12_284_12 hM.1 rfl ?_
    refine ev_iconst (v := 1) dX12_passes_47 (by decide) ?_
    refine ev_iadd dX12_passes_48 ?_
    refine evM_put hM hF (k := 32) (by decide) dX12_passes_49 fpX12_284_12 rfl rfl (fun μ hM hF => ?_)
    rw [pst_i] at hM
    refine ev_iinc dX12_passes_52 rfl (by decide) ?_
    dsimp only [List.set]
    refine ev_goto (tgt := 2) dX12_passes_55 (by decide) ?_
    rw [nI_inc]
    exact ih (k + 1) (c + 1) _ μ (by omega) (by rw [List.length_set]; exact hl) (by omega) hM hF
theorem c_passK2 (hM : RM b ρ μ) (hL : ML ρ) (hk : ρ.2 31 = 1) {c : Nat} (hc : ρ.2 32 = nI c) (hc6 : c + 7 ≤ 60) : Mt g 0 mX12_passes [.ref b, .ref (b + 3)] μ (fun v μ' => v = none ∧ RM b (pst ρ 29 (pkK (ρ.1 2) 7 0 c (ρ.1 29)) (c + 7)) μ' ∧ FM b μ μ') := by
  refine Mt.of0 (ls0 := [some (.ref b), some (.ref (b + 3)), none]) (by decide) (by simp [Value.category]) (Nat.le_of_ble_eq_true rfl) rfl ?_
  have hF : FM b μ μ := FM.rf
  refine ev_iconst (v := 0) dX12_passes_0 (by decide) ?_
  refine ev_istore_n dX12_passes_1 (by decide) ?_
  dsimp only [List.set]
  exact l_passK2 hL hk 7 0 c (ρ.1 29) μ (by omega) (hL.at (by decide)) hc6 (by rw [pst_self hc]; exact hM) hF
theorem c_passB2 (hM : RM b ρ μ) (hL : ML ρ) (hk : ρ.2 31 = 0) {c : Nat} (hc : ρ.2 32 = nI c) (hc6 : c + 7 ≤ 60) : Mt g 0 mX12_passes [.ref b, .ref (b + 3)] μ (fun v μ' => v = none ∧ RM b (pst ρ 2 (bkK (ρ.1 29) 7 0 c (ρ.1 2)) (c + 7)) μ' ∧ FM b μ μ') := by
  refine Mt.of0 (ls0 := [some (.ref b), some (.ref (b + 3)), none]) (by decide) (by simp [Value.category]) (Nat.le_of_ble_eq_true rfl) rfl ?_
  have hF : FM b μ μ := FM.rf
  refine ev_iconst (v := 0) dX12_passes_0 (by decide) ?_
  refine ev_istore_n dX12_passes_1 (by decide) ?_
  dsimp only [List.set]
  exact l_passB2 hL hk 7 0 c (ρ.1 2) μ (by omega) (hL.at (by decide)) hc6 (by rw [pst_self hc]; exact hM) hF
theorem l_passK3 (hL : ML ρ) (hk : ρ.2 31 = 1) {μ0 : Mm} : ∀ (m k c : Nat) (K : List Int32) (μ : Mm), k + m = 7 → K.length = 60 → c + m ≤ 60 → RM b (pst ρ 29 K c) μ → FM b μ0 μ → Ev g 0 mX12_passes 2 [some (.ref b), some (.ref (b + 4)), some (.int (nI k))] [] μ (fun v μ' => v = none ∧ RM b (pst ρ 29 (pkK (ρ.1 3) m k c K) (c + m)) μ' ∧ FM b μ0 μ') := by
  have hA := hL.at (k := 3) (n := 7) (by decide)
  intro m
  induction m with
  | zero =>
    intro k c K μ hkm hl hc hM hF
    refine ev_iload_n dX12_passes_2 rfl ?_
    refine ev_aload_n dX12_passes_3 rfl ?_
    refine ev_alen dX12_passes_4 (hM.a 3 4 (by decide)) ?_
    refine ev_icmp_ge (tgt := 58) dX12_passes_5 (by decide) (fun _ => ?_) (fun h5 => absurd ((show nI (ρ.1 3).length ≤ nI k by rw [hA]; exact nI_le (by omega) (by omega))) h5)
    refine ev_vret dX12_passes_58 rfl ?_
    exact ⟨rfl, hM, hF⟩
  | succ m ih =>
    intro k c K μ hkm hl hc hM hF
    rw [pkK, show c + (m + 1) = c + 1 + m by omega]
    refine ev_iload_n dX12_passes_2 rfl ?_
    refine ev_aload_n dX12_passes_3 rfl ?_
    refine ev_alen dX12_passes_4 (hM.a 3 4 (by decide)) ?_
    refine ev_icmp_ge (tgt := 58) dX12_passes_5 (by decide) (fun h5 => absurd h5 ((show ¬ nI (ρ.1 3).length ≤ nI k by rw [hA]; exact nI_ge (by omega) (by omega)))) (fun _ => ?_)
    refine ev_aload_n dX12_passes_8 rfl ?_
    refine ev_get dX12_passes_9 flX12_280_12 hM.1 rfl ?_
    refine ev_if_eq (tgt := 30) dX12_passes_12 (by decide) (fun h12 => absurd h12 ((show ¬ ρ.2 31 = 0 by rw [hk]; decide))) (fun _ => ?_)
    refine ev_aload_n dX12_passes_15 rfl ?_
    refine ev_get dX12_passes_16 flX12_64_12 hM.1 rfl ?_
    refine ev_aload_n dX12_passes_19 rfl ?_
    refine ev_get dX12_passes_20 flX12_284_12 hM.1 rfl ?_
    refine ev_aload_n dX12_passes_23 rfl ?_
    refine ev_iload_n dX12_passes_24 rfl ?_
    refine ev_iald dX12_passes_25 (hM.a 3 4 (by decide)) (ix_n (by omega)) (rd hL (k := 3) (n := 7) (by decide) (by omega)) ?_
    refine evM_iast hM hF (k := 29) (o := 29) (by decide) dX12_passes_26 (show ix (nI c) c from ix_n (by omega)) (show c < ((pst ρ 29 K c).1 29).length by rw [pst_at, hl]; omega) (fun μ hM hF => ?_)
    rw [pst_at, pst_l] at hM
    refine ev_goto (tgt := 42) dX12_passes_27 (by decide) ?_
    refine ev_aload_n dX12_passes_42 rfl ?_
    refine ev_dup dX12_passes_43 rfl ?_
    refine ev_get dX12_passes_44 flX12_284_12 hM.1 rfl ?_
    refine ev_iconst (v := 1) dX12_passes_47 (by decide) ?_
    refine ev_iadd dX12_passes_48 ?_
    refine evM_put hM hF (k := 32) (by decide) dX12_passes_49 fpX12_284_12 rfl rfl (fun μ hM hF => ?_)
    rw [pst_i] at hM
    refine ev_iinc dX12_passes_52 rfl (by decide) ?_
    dsimp only [List.set]
    refine ev_goto (tgt := 2) dX12_passes_55 (by decide) ?_
    rw [nI_inc]
    exact ih (k + 1) (c + 1) _ μ (by omega) (by rw [List.length_set]; exact hl) (by omega) hM hF
theorem l_passB3 (hL : ML ρ) (hk : ρ.2 31 = 0) {μ0 : Mm} : ∀ (m k c : Nat) (A : List Int32) (μ : Mm), k + m = 7 → A.length = 7 → c + m ≤ 60 → RM b (pst ρ 3 A c) μ → FM b μ0 μ → Ev g 0 mX12_passes 2 [some (.ref b), some (.ref (b + 4)), some (.int (nI k))] [] μ (fun v μ' => v = none ∧ RM b (pst ρ 3 (bkK (ρ.1 29) m k c A) (c + m)) μ' ∧ FM b μ0 μ') := by
  intro m
  induction m with
  | zero =>
    intro k c A μ hkm hl hc hM hF
    refine ev_iload_n dX12_passes_2 rfl ?_
    refine ev_aload_n dX12_passes_3 rfl ?_
    refine ev_alen dX12_passes_4 (hM.a 3 4 (by decide)) ?_
    refine ev_icmp_ge (tgt := 58) dX12_passes_5 (by decide) (fun _ => ?_) (fun h5 => absurd ((show nI ((pst ρ 3 A c).1 3).length ≤ nI k by rw [pst_at, hl]; exact nI_le (by omega) (by omega))) h5)
    refine ev_vret dX12_passes_58 rfl ?_
    exact ⟨rfl, hM, hF⟩
  | succ m ih =>
    intro k c A μ hkm hl hc hM hF
    rw [bkK, show c + (m + 1) = c + 1 + m by omega]
    refine ev_iload_n dX12_passes_2 rfl ?_
    refine ev_aload_n dX12_passes_3 rfl ?_
    refine ev_alen dX12_passes_4 (hM.a 3 4 (by decide)) ?_
    refine ev_icmp_ge (tgt := 58) dX12_passes_5 (by decide) (fun h5 => absurd h5 ((show ¬ nI ((pst ρ 3 A c).1 3).length ≤ nI k by rw [pst_at, hl]; exact nI_ge (by omega) (by omega)))) (fun _ => ?_)
    refine ev_aload_n dX12_passes_8 rfl ?_
    refine ev_get dX12_passes_9 flX12_280_12 hM.1 rfl ?_
    refine ev_if_eq (tgt := 30) dX12_passes_12 (by decide) (fun _ => ?_) (fun h12 => absurd (hk) h12)
    refine ev_aload_n dX12_passes_30 rfl ?_
    refine ev_iload_n dX12_passes_31 rfl ?_
    refine ev_aload_n dX12_passes_32 rfl ?_
    refine ev_get dX12_passes_33 flX12_64_12 hM.1 rfl ?_
    refine ev_aload_n dX12_passes_36 rfl ?_
    refine ev_get dX12_passes_37 flX12_284_12 hM.1 rfl ?_
    refine ev_iald dX12_passes_40 (hM.a 29 29 (by decide)) (show ix (nI c) c from ix_n (by omega)) (rd hL (k := 29) (n := 60) (by decide) (by omega)) ?_
    refine evM_iast hM hF (k := 3) (o := 4) (by decide) dX12_passes_41 (ix_n (by omega)) (show k < ((pst ρ 3 A c).1 3).length by rw [pst_at, hl]; omega) (fun μ hM hF => ?_)
    rw [pst_at, pst_l] at hM
    refine ev_aload_n dX12_passes_42 rfl ?_
    refine ev_dup dX12_passes_43 rfl ?_
    refine ev_get dX12_passes_44 flX12_284_12 hM.1 rfl ?_
    refine ev_iconst (v := 1) dX12_passes_47 (by decide) ?_
    refine ev_iadd dX12_passes_48 ?_
    refine evM_put hM hF (k := 32) (by decide) dX12_passes_49 fpX12_284_12 rfl rfl (fun μ hM hF => ?_)
    rw [pst_i] at hM
    refine ev_iinc dX12_passes_52 rfl (by decide) ?_
    dsimp only [List.set]
    refine ev_goto (tgt := 2) dX12_passes_55 (by decide) ?_
    rw [nI_inc]
    exact ih (k + 1) (c + 1) _ μ (by omega) (by rw [List.length_set]; exact hl) (by omega) hM hF
theorem c_passK3 (hM : RM b ρ μ) (hL : ML ρ) (hk : ρ.2 31 = 1) {c : Nat} (hc : ρ.2 32 = nI c) (hc6 : c + 7 ≤ 60) : Mt g 0 mX12_passes [.ref b, .ref (b + 4)] μ (fun v μ' => v = none ∧ RM b (pst ρ 29 (pkK (ρ.1 3) 7 0 c (ρ.1 29)) (c + 7)) μ' ∧ FM b μ μ') := by
  refine Mt.of0 (ls0 := [some (.ref b), some (.ref (b + 4)), none]) (by decide) (by simp [Value.category]) (Nat.le_of_ble_eq_true rfl) rfl ?_
  have hF : FM b μ μ := FM.rf
  refine ev_iconst (v := 0) dX12_passes_0 (by decide) ?_
  refine ev_istore_n dX12_passes_1 (by decide) ?_
  dsimp only [List.set]
  exact l_passK3 hL hk 7 0 c (ρ.1 29) μ (by omega) (hL.at (by decide)) hc6 (by rw [pst_self hc]; exact hM) hF
theorem c_passB3 (hM : RM b ρ μ) (hL : ML ρ) (hk : ρ.2 31 = 0) {c : Nat} (hc : ρ.2 32 = nI c) (hc6 : c + 7 ≤ 60) : Mt g 0 mX12_passes [.ref b, .ref (b + 4)] μ (fun v μ' => v = none ∧ RM b (pst ρ 3 (bkK (ρ.1 29) 7 0 c (ρ.1 3)) (c + 7)) μ' ∧ FM b μ μ') := by
  refine Mt.of0 (ls0 := [some (.ref b), some (.ref (b + 4)), none]) (by decide) (by simp [Value.category]) (Nat.le_of_ble_eq_true rfl) rfl ?_
  have hF : FM b μ μ := FM.rf
  refine ev_iconst (v := 0) dX12_passes_0 (by decide) ?_
  refine ev_istore_n dX12_passes_1 (by decide) ?_
  dsimp only [List.set]
  exact l_passB3 hL hk 7 0 c (ρ.1 3) μ (by omega) (hL.at (by decide)) hc6 (by rw [pst_self hc]; exact hM) hF
theorem l_passK4 (hL : ML ρ) (hk : ρ.2 31 = 1) {μ0 : Mm} : ∀ (m k c : Nat) (K : List Int32) (μ : Mm), k + m = 7 → K.length = 60 → c + m ≤ 60 → RM b (pst ρ 29 K c) μ → FM b μ0 μ → Ev g 0 mX12_passes 2 [some (.ref b), some (.ref (b + 5)), some (.int (nI k))] [] μ (fun v μ' => v = none ∧ RM b (pst ρ 29 (pkK (ρ.1 4) m k c K) (c + m)) μ' ∧ FM b μ0 μ') := by
  have hA := hL.at (k := 4) (n := 7) (by decide)
  intro m
  induction m with
  | zero =>
    intro k c K μ hkm hl hc hM hF
    refine ev_iload_n dX12_passes_2 rfl ?_
    refine ev_aload_n dX12_passes_3 rfl ?_
    refine ev_alen dX12_passes_4 (hM.a 4 5 (by decide)) ?_
    refine ev_icmp_ge (tgt := 58) dX12_passes_5 (by decide) (fun _ => ?_) (fun h5 => absurd ((show nI (ρ.1 4).length ≤ nI k by rw [hA]; exact nI_le (by omega) (by omega))) h5)
    refine ev_vret dX12_passes_58 rfl ?_
    exact ⟨rfl, hM, hF⟩
  | succ m ih =>
    intro k c K μ hkm hl hc hM hF
    rw [pkK, show c + (m + 1) = c + 1 + m by omega]
    refine ev_iload_n dX12_passes_2 rfl ?_
    refine ev_aload_n dX12_passes_3 rfl ?_
    refine ev_alen dX12_passes_4 (hM.a 4 5 (by decide)) ?_
    refine ev_icmp_ge (tgt := 58) dX12_passes_5 (by decide) (fun h5 => absurd h5 ((show ¬ nI (ρ.1 4).length ≤ nI k by rw [hA]; exact nI_ge (by omega) (by omega)))) (fun _ => ?_)
    refine ev_aload_n dX12_passes_8 rfl ?_
    refine ev_get dX12_passes_9 flX12_280_12 hM.1 rfl ?_
    refine ev_if_eq (tgt := 30) dX12_passes_12 (by decide) (fun h12 => absurd h12 ((show ¬ ρ.2 31 = 0 by rw [hk]; decide))) (fun _ => ?_)
    refine ev_aload_n dX12_passes_15 rfl ?_
    refine ev_get dX12_passes_16 flX12_64_12 hM.1 rfl ?_
    refine ev_aload_n dX12_passes_19 rfl ?_
    refine ev_get dX12_passes_20 flX12_284_12 hM.1 rfl ?_
    refine ev_aload_n dX12_passes_23 rfl ?_
    refine ev_iload_n dX12_passes_24 rfl ?_
    refine ev_iald dX12_passes_25 (hM.a 4 5 (by decide)) (ix_n (by omega)) (rd hL (k := 4) (n := 7) (by decide) (by omega)) ?_
    refine evM_iast hM hF (k := 29) (o := 29) (by decide) dX12_passes_26 (show ix (nI c) c from ix_n (by omega)) (show c < ((pst ρ 29 K c).1 29).length by rw [pst_at, hl]; omega) (fun μ hM hF => ?_)
    rw [pst_at, pst_l] at hM
    refine ev_goto (tgt := 42) dX12_passes_27 (by decide) ?_
    refine ev_aload_n dX12_passes_42 rfl ?_
    refine ev_dup dX12_passes_43 rfl ?_
    refine ev_get dX12_passes_44 flX12_284_12 hM.1 rfl ?_
    refine ev_iconst (v := 1) dX12_passes_47 (by decide) ?_
    refine ev_iadd dX12_passes_48 ?_
    refine evM_put hM hF (k := 32) (by decide) dX12_passes_49 fpX12_284_12 rfl rfl (fun μ hM hF => ?_)
    rw [pst_i] at hM
    refine ev_iinc dX12_passes_52 rfl (by decide) ?_
    dsimp only [List.set]
    refine ev_goto (tgt := 2) dX12_passes_55 (by decide) ?_
    rw [nI_inc]
    exact ih (k + 1) (c + 1) _ μ (by omega) (by rw [List.length_set]; exact hl) (by omega) hM hF
theorem l_passB4 (hL : ML ρ) (hk : ρ.2 31 = 0) {μ0 : Mm} : ∀ (m k c : Nat) (A : List Int32) (μ : Mm), k + m = 7 → A.length = 7 → c + m ≤ 60 → RM b (pst ρ 4 A c) μ → FM b μ0 μ → Ev g 0 mX12_passes 2 [some (.ref b), some (.ref (b + 5)), some (.int (nI k))] [] μ (fun v μ' => v = none ∧ RM b (pst ρ 4 (bkK (ρ.1 29) m k c A) (c + m)) μ' ∧ FM b μ0 μ') := by
  intro m
  induction m with
  | zero =>
    intro k c A μ hkm hl hc hM hF
    refine ev_iload_n dX12_passes_2 rfl ?_
    refine ev_aload_n dX12_passes_3 rfl ?_
    refine ev_alen dX12_passes_4 (hM.a 4 5 (by decide)) ?_
    refine ev_icmp_ge (tgt := 58) dX12_passes_5 (by decide) (fun _ => ?_) (fun h5 => absurd ((show nI ((pst ρ 4 A c).1 4).length ≤ nI k by rw [pst_at, hl]; exact nI_le (by omega) (by omega))) h5)
    refine ev_vret dX12_passes_58 rfl ?_
    exact ⟨rfl, hM, hF⟩
  | succ m ih =>
    intro k c A μ hkm hl hc hM hF
    rw [bkK, show c + (m + 1) = c + 1 + m by omega]
    refine ev_iload_n dX12_passes_2 rfl ?_
    refine ev_aload_n dX12_passes_3 rfl ?_
    refine ev_alen dX12_passes_4 (hM.a 4 5 (by decide)) ?_
    refine ev_icmp_ge (tgt := 58) dX12_passes_5 (by decide) (fun h5 => absurd h5 ((show ¬ nI ((pst ρ 4 A c).1 4).length ≤ nI k by rw [pst_at, hl]; exact nI_ge (by omega) (by omega)))) (fun _ => ?_)
    refine ev_aload_n dX12_passes_8 rfl ?_
    refine ev_get dX12_passes_9 flX12_280_12 hM.1 rfl ?_
    refine ev_if_eq (tgt := 30) dX12_passes_12 (by decide) (fun _ => ?_) (fun h12 => absurd (hk) h12)
    refine ev_aload_n dX12_passes_30 rfl ?_
    refine ev_iload_n dX12_passes_31 rfl ?_
    refine ev_aload_n dX12_passes_32 rfl ?_
    refine ev_get dX12_passes_33 flX12_64_12 hM.1 rfl ?_
    refine ev_aload_n dX12_passes_36 rfl ?_
    refine ev_get dX12_passes_37 flX12_284_12 hM.1 rfl ?_
    refine ev_iald dX12_passes_40 (hM.a 29 29 (by decide)) (show ix (nI c) c from ix_n (by omega)) (rd hL (k := 29) (n := 60) (by decide) (by omega)) ?_
    refine evM_iast hM hF (k := 4) (o := 5) (by decide) dX12_passes_41 (ix_n (by omega)) (show k < ((pst ρ 4 A c).1 4).length by rw [pst_at, hl]; omega) (fun μ hM hF => ?_)
    rw [pst_at, pst_l] at hM
    refine ev_aload_n dX12_passes_42 rfl ?_
    refine ev_dup dX12_passes_43 rfl ?_
    refine ev_get dX12_passes_44 flX12_284_12 hM.1 rfl ?_
    refine ev_iconst (v := 1) dX12_passes_47 (by decide) ?_
    refine ev_iadd dX12_passes_48 ?_
    refine evM_put hM hF (k := 32) (by decide) dX12_passes_49 fpX12_284_12 rfl rfl (fun μ hM hF => ?_)
    rw [pst_i] at hM
    refine ev_iinc dX12_passes_52 rfl (by decide) ?_
    dsimp only [List.set]
    refine ev_goto (tgt := 2) dX12_passes_55 (by decide) ?_
    rw [nI_inc]
    exact ih (k + 1) (c + 1) _ μ (by omega) (by rw [List.length_set]; exact hl) (by omega) hM hF
theorem c_passK4 (hM : RM b ρ μ) (hL : ML ρ) (hk : ρ.2 31 = 1) {c : Nat} (hc : ρ.2 32 = nI c) (hc6 : c + 7 ≤ 60) : Mt g 0 mX12_passes [.ref b, .ref (b + 5)] μ (fun v μ' => v = none ∧ RM b (pst ρ 29 (pkK (ρ.1 4) 7 0 c (ρ.1 29)) (c + 7)) μ' ∧ FM b μ μ') := by
  refine Mt.of0 (ls0 := [some (.ref b), some (.ref (b + 5)), none]) (by decide) (by simp [Value.category]) (Nat.le_of_ble_eq_true rfl) rfl ?_
  have hF : FM b μ μ := FM.rf
  refine ev_iconst (v := 0) dX12_passes_0 (by decide) ?_
  refine ev_istore_n dX12_passes_1 (by decide) ?_
  dsimp only [List.set]
  exact l_passK4 hL hk 7 0 c (ρ.1 29) μ (by omega) (hL.at (by decide)) hc6 (by rw [pst_self hc]; exact hM) hF
theorem c_passB4 (hM : RM b ρ μ) (hL : ML ρ) (hk : ρ.2 31 = 0) {c : Nat} (hc : ρ.2 32 = nI c) (hc6 : c + 7 ≤ 60) : Mt g 0 mX12_passes [.ref b, .ref (b + 5)] μ (fun v μ' => v = none ∧ RM b (pst ρ 4 (bkK (ρ.1 29) 7 0 c (ρ.1 4)) (c + 7)) μ' ∧ FM b μ μ') := by
  refine Mt.of0 (ls0 := [some (.ref b), some (.ref (b + 5)), none]) (by decide) (by simp [Value.category]) (Nat.le_of_ble_eq_true rfl) rfl ?_
  have hF : FM b μ μ := FM.rf
  refine ev_iconst (v := 0) dX12_passes_0 (by decide) ?_
  refine ev_istore_n dX12_passes_1 (by decide) ?_
  dsimp only [List.set]
  exact l_passB4 hL hk 7 0 c (ρ.1 4) μ (by omega) (hL.at (by decide)) hc6 (by rw [pst_self hc]; exact hM) hF
theorem l_passK5 (hL : ML ρ) (hk : ρ.2 31 = 1) {μ0 : Mm} : ∀ (m k c : Nat) (K : List Int32) (μ : Mm), k + m = 7 → K.length = 60 → c + m ≤ 60 → RM b (pst ρ 29 K c) μ → FM b μ0 μ → Ev g 0 mX12_passes 2 [some (.ref b), some (.ref (b + 6)), some (.int (nI k))] [] μ (fun v μ' => v = none ∧ RM b (pst ρ 29 (pkK (ρ.1 5) m k c K) (c + m)) μ' ∧ FM b μ0 μ') := by
  have hA := hL.at (k := 5) (n := 7) (by decide)
  intro m
  induction m with
  | zero =>
    intro k c K μ hkm hl hc hM hF
    refine ev_iload_n dX12_passes_2 rfl ?_
    refine ev_aload_n dX12_passes_3 rfl ?_
    refine ev_alen dX12_passes_4 (hM.a 5 6 (by decide)) ?_
    refine ev_icmp_ge (tgt := 58) dX12_passes_5 (by decide) (fun _ => ?_) (fun h5 => absurd ((show nI (ρ.1 5).length ≤ nI k by rw [hA]; exact nI_le (by omega) (by omega))) h5)
    refine ev_vret dX12_passes_58 rfl ?_
    exact ⟨rfl, hM, hF⟩
  | succ m ih =>
    intro k c K μ hkm hl hc hM hF
    rw [pkK, show c + (m + 1) = c + 1 + m by omega]
    refine ev_iload_n dX12_passes_2 rfl ?_
    refine ev_aload_n dX12_passes_3 rfl ?_
    refine ev_alen dX12_passes_4 (hM.a 5 6 (by decide)) ?_
    refine ev_icmp_ge (tgt := 58) dX12_passes_5 (by decide) (fun h5 => absurd h5 ((show ¬ nI (ρ.1 5).length ≤ nI k by rw [hA]; exact nI_ge (by omega) (by omega)))) (fun _ => ?_)
    refine ev_aload_n dX12_passes_8 rfl ?_
    refine ev_get dX12_passes_9 flX12_280_12 hM.1 rfl ?_
    refine ev_if_eq (tgt := 30) dX12_passes_12 (by decide) (fun h12 => absurd h12 ((show ¬ ρ.2 31 = 0 by rw [hk]; decide))) (fun _ => ?_)
    refine ev_aload_n dX12_passes_15 rfl ?_
    refine ev_get dX12_passes_16 flX12_64_12 hM.1 rfl ?_
    refine ev_aload_n dX12_passes_19 rfl ?_
    refine ev_get dX12_passes_20 flX12_284_12 hM.1 rfl ?_
    refine ev_aload_n dX12_passes_23 rfl ?_
    refine ev_iload_n dX12_passes_24 rfl ?_
    refine ev_iald dX12_passes_25 (hM.a 5 6 (by decide)) (ix_n (by omega)) (rd hL (k := 5) (n := 7) (by decide) (by omega)) ?_
    refine evM_iast hM hF (k := 29) (o := 29) (by decide) dX12_passes_26 (show ix (nI c) c from ix_n (by omega)) (show c < ((pst ρ 29 K c).1 29).length by rw [pst_at, hl]; omega) (fun μ hM hF => ?_)
    rw [pst_at, pst_l] at hM
    refine ev_goto (tgt := 42) dX12_passes_27 (by decide) ?_
    refine ev_aload_n dX12_passes_42 rfl ?_
    refine ev_dup dX12_passes_43 rfl ?_
    refine ev_get dX12_passes_44 flX12_284_12 hM.1 rfl ?_
    refine ev_iconst (v := 1) dX12_passes_47 (by decide) ?_
    refine ev_iadd dX12_passes_48 ?_
    refine evM_put hM hF (k := 32) (by decide) dX12_passes_49 fpX12_284_12 rfl rfl (fun μ hM hF => ?_)
    rw [pst_i] at hM
    refine ev_iinc dX12_passes_52 rfl (by decide) ?_
    dsimp only [List.set]
    refine ev_goto (tgt := 2) dX12_passes_55 (by decide) ?_
    rw [nI_inc]
    exact ih (k + 1) (c + 1) _ μ (by omega) (by rw [List.length_set]; exact hl) (by omega) hM hF
theorem l_passB5 (hL : ML ρ) (hk : ρ.2 31 = 0) {μ0 : Mm} : ∀ (m k c : Nat) (A : List Int32) (μ : Mm), k + m = 7 → A.length = 7 → c + m ≤ 60 → RM b (pst ρ 5 A c) μ → FM b μ0 μ → Ev g 0 mX12_passes 2 [some (.ref b), some (.ref (b + 6)), some (.int (nI k))] [] μ (fun v μ' => v = none ∧ RM b (pst ρ 5 (bkK (ρ.1 29) m k c A) (c + m)) μ' ∧ FM b μ0 μ') := by
  intro m
  induction m with
  | zero =>
    intro k c A μ hkm hl hc hM hF
    refine ev_iload_n dX12_passes_2 rfl ?_
    refine ev_aload_n dX12_passes_3 rfl ?_
    refine ev_alen dX12_passes_4 (hM.a 5 6 (by decide)) ?_
    refine ev_icmp_ge (tgt := 58) dX12_passes_5 (by decide) (fun _ => ?_) (fun h5 => absurd ((show nI ((pst ρ 5 A c).1 5).length ≤ nI k by rw [pst_at, hl]; exact nI_le (by omega) (by omega))) h5)
    refine ev_vret dX12_passes_58 rfl ?_
    exact ⟨rfl, hM, hF⟩
  | succ m ih =>
    intro k c A μ hkm hl hc hM hF
    rw [bkK, show c + (m + 1) = c + 1 + m by omega]
    refine ev_iload_n dX12_passes_2 rfl ?_
    refine ev_aload_n dX12_passes_3 rfl ?_
    refine ev_alen dX12_passes_4 (hM.a 5 6 (by decide)) ?_
    refine ev_icmp_ge (tgt := 58) dX12_passes_5 (by decide) (fun h5 => absurd h5 ((show ¬ nI ((pst ρ 5 A c).1 5).length ≤ nI k by rw [pst_at, hl]; exact nI_ge (by omega) (by omega)))) (fun _ => ?_)
    refine ev_aload_n dX12_passes_8 rfl ?_
    refine ev_get dX12_passes_9 flX12_280_12 hM.1 rfl ?_
    refine ev_if_eq (tgt := 30) dX12_passes_12 (by decide) (fun _ => ?_) (fun h12 => absurd (hk) h12)
    refine ev_aload_n dX12_passes_30 rfl ?_
    refine ev_iload_n dX12_passes_31 rfl ?_
    refine ev_aload_n dX12_passes_32 rfl ?_
    refine ev_get dX12_passes_33 flX12_64_12 hM.1 rfl ?_
    refine ev_aload_n dX12_passes_36 rfl ?_
    refine ev_get dX12_passes_37 flX12_284_12 hM.1 rfl ?_
    refine ev_iald dX12_passes_40 (hM.a 29 29 (by decide)) (show ix (nI c) c from ix_n (by omega)) (rd hL (k := 29) (n := 60) (by decide) (by omega)) ?_
    refine evM_iast hM hF (k := 5) (o := 6) (by decide) dX12_passes_41 (ix_n (by omega)) (show k < ((pst ρ 5 A c).1 5).length by rw [pst_at, hl]; omega) (fun μ hM hF => ?_)
    rw [pst_at, pst_l] at hM
    refine ev_aload_n dX12_passes_42 rfl ?_
    refine ev_dup dX12_passes_43 rfl ?_
    refine ev_get dX12_passes_44 flX12_284_12 hM.1 rfl ?_
    refine ev_iconst (v := 1) dX12_passes_47 (by decide) ?_
    refine ev_iadd dX12_passes_48 ?_
    refine evM_put hM hF (k := 32) (by decide) dX12_passes_49 fpX12_284_12 rfl rfl (fun μ hM hF => ?_)
    rw [pst_i] at hM
    refine ev_iinc dX12_passes_52 rfl (by decide) ?_
    dsimp only [List.set]
    refine ev_goto (tgt := 2) dX12_passes_55 (by decide) ?_
    rw [nI_inc]
    exact ih (k + 1) (c + 1) _ μ (by omega) (by rw [List.length_set]; exact hl) (by omega) hM hF
theorem c_passK5 (hM : RM b ρ μ) (hL : ML ρ) (hk : ρ.2 31 = 1) {c : Nat} (hc : ρ.2 32 = nI c) (hc6 : c + 7 ≤ 60) : Mt g 0 mX12_passes [.ref b, .ref (b + 6)] μ (fun v μ' => v = none ∧ RM b (pst ρ 29 (pkK (ρ.1 5) 7 0 c (ρ.1 29)) (c + 7)) μ' ∧ FM b μ μ') := by
  refine Mt.of0 (ls0 := [some (.ref b), some (.ref (b + 6)), none]) (by decide) (by simp [Value.category]) (Nat.le_of_ble_eq_true rfl) rfl ?_
  have hF : FM b μ μ := FM.rf
  refine ev_iconst (v := 0) dX12_passes_0 (by decide) ?_
  refine ev_istore_n dX12_passes_1 (by decide) ?_
  dsimp only [List.set]
  exact l_passK5 hL hk 7 0 c (ρ.1 29) μ (by omega) (hL.at (by decide)) hc6 (by rw [pst_self hc]; exact hM) hF
theorem c_passB5 (hM : RM b ρ μ) (hL : ML ρ) (hk : ρ.2 31 = 0) {c : Nat} (hc : ρ.2 32 = nI c) (hc6 : c + 7 ≤ 60) : Mt g 0 mX12_passes [.ref b, .ref (b + 6)] μ (fun v μ' => v = none ∧ RM b (pst ρ 5 (bkK (ρ.1 29) 7 0 c (ρ.1 5)) (c + 7)) μ' ∧ FM b μ μ') := by
  refine Mt.of0 (ls0 := [some (.ref b), some (.ref (b + 6)), none]) (by decide) (by simp [Value.category]) (Nat.le_of_ble_eq_true rfl) rfl ?_
  have hF : FM b μ μ := FM.rf
  refine ev_iconst (v := 0) dX12_passes_0 (by decide) ?_
  refine ev_istore_n dX12_passes_1 (by decide) ?_
  dsimp only [List.set]
  exact l_passB5 hL hk 7 0 c (ρ.1 5) μ (by omega) (hL.at (by decide)) hc6 (by rw [pst_self hc]; exact hM) hF
theorem l_passK6 (hL : ML ρ) (hk : ρ.2 31 = 1) {μ0 : Mm} : ∀ (m k c : Nat) (K : List Int32) (μ : Mm), k + m = 10 → K.length = 60 → c + m ≤ 60 → RM b (pst ρ 29 K c) μ → FM b μ0 μ → Ev g 0 mX12_passes 2 [some (.ref b), some (.ref (b + 7)), some (.int (nI k))] [] μ (fun v μ' => v = none ∧ RM b (pst ρ 29 (pkK (ρ.1 6) m k c K) (c + m)) μ' ∧ FM b μ0 μ') := by
  have hA := hL.at (k := 6) (n := 10) (by decide)
  intro m
  induction m with
  | zero =>
    intro k c K μ hkm hl hc hM hF
    refine ev_iload_n dX12_passes_2 rfl ?_
    refine ev_aload_n dX12_passes_3 rfl ?_
    refine ev_alen dX12_passes_4 (hM.a 6 7 (by decide)) ?_
    refine ev_icmp_ge (tgt := 58) dX12_passes_5 (by decide) (fun _ => ?_) (fun h5 => absurd ((show nI (ρ.1 6).length ≤ nI k by rw [hA]; exact nI_le (by omega) (by omega))) h5)
    refine ev_vret dX12_passes_58 rfl ?_
    exact ⟨rfl, hM, hF⟩
  | succ m ih =>
    intro k c K μ hkm hl hc hM hF
    rw [pkK, show c + (m + 1) = c + 1 + m by omega]
    refine ev_iload_n dX12_passes_2 rfl ?_
    refine ev_aload_n dX12_passes_3 rfl ?_
    refine ev_alen dX12_passes_4 (hM.a 6 7 (by decide)) ?_
    refine ev_icmp_ge (tgt := 58) dX12_passes_5 (by decide) (fun h5 => absurd h5 ((show ¬ nI (ρ.1 6).length ≤ nI k by rw [hA]; exact nI_ge (by omega) (by omega)))) (fun _ => ?_)
    refine ev_aload_n dX12_passes_8 rfl ?_
    refine ev_get dX12_passes_9 flX12_280_12 hM.1 rfl ?_
    refine ev_if_eq (tgt := 30) dX12_passes_12 (by decide) (fun h12 => absurd h12 ((show ¬ ρ.2 31 = 0 by rw [hk]; decide))) (fun _ => ?_)
    refine ev_aload_n dX12_passes_15 rfl ?_
    refine ev_get dX12_passes_16 flX12_64_12 hM.1 rfl ?_
    refine ev_aload_n dX12_passes_19 rfl ?_
    refine ev_get dX12_passes_20 flX12_284_12 hM.1 rfl ?_
    refine ev_aload_n dX12_passes_23 rfl ?_
    refine ev_iload_n dX12_passes_24 rfl ?_
    refine ev_iald dX12_passes_25 (hM.a 6 7 (by decide)) (ix_n (by omega)) (rd hL (k := 6) (n := 10) (by decide) (by omega)) ?_
    refine evM_iast hM hF (k := 29) (o := 29) (by decide) dX12_passes_26 (show ix (nI c) c from ix_n (by omega)) (show c < ((pst ρ 29 K c).1 29).length by rw [pst_at, hl]; omega) (fun μ hM hF => ?_)
    rw [pst_at, pst_l] at hM
    refine ev_goto (tgt := 42) dX12_passes_27 (by decide) ?_
    refine ev_aload_n dX12_passes_42 rfl ?_
    refine ev_dup dX12_passes_43 rfl ?_
    refine ev_get dX12_passes_44 flX12_284_12 hM.1 rfl ?_
    refine ev_iconst (v := 1) dX12_passes_47 (by decide) ?_
    refine ev_iadd dX12_passes_48 ?_
    refine evM_put hM hF (k := 32) (by decide) dX12_passes_49 fpX12_284_12 rfl rfl (fun μ hM hF => ?_)
    rw [pst_i] at hM
    refine ev_iinc dX12_passes_52 rfl (by decide) ?_
    dsimp only [List.set]
    refine ev_goto (tgt := 2) dX12_passes_55 (by decide) ?_
    rw [nI_inc]
    exact ih (k + 1) (c + 1) _ μ (by omega) (by rw [List.length_set]; exact hl) (by omega) hM hF
theorem l_passB6 (hL : ML ρ) (hk : ρ.2 31 = 0) {μ0 : Mm} : ∀ (m k c : Nat) (A : List Int32) (μ : Mm), k + m = 10 → A.length = 10 → c + m ≤ 60 → RM b (pst ρ 6 A c) μ → FM b μ0 μ → Ev g 0 mX12_passes 2 [some (.ref b), some (.ref (b + 7)), some (.int (nI k))] [] μ (fun v μ' => v = none ∧ RM b (pst ρ 6 (bkK (ρ.1 29) m k c A) (c + m)) μ' ∧ FM b μ0 μ') := by
  intro m
  induction m with
  | zero =>
    intro k c A μ hkm hl hc hM hF
    refine ev_iload_n dX12_passes_2 rfl ?_
    refine ev_aload_n dX12_passes_3 rfl ?_
    refine ev_alen dX12_passes_4 (hM.a 6 7 (by decide)) ?_
    refine ev_icmp_ge (tgt := 58) dX12_passes_5 (by decide) (fun _ => ?_) (fun h5 => absurd ((show nI ((pst ρ 6 A c).1 6).length ≤ nI k by rw [pst_at, hl]; exact nI_le (by omega) (by omega))) h5)
    refine ev_vret dX12_passes_58 rfl ?_
    exact ⟨rfl, hM, hF⟩
  | succ m ih =>
    intro k c A μ hkm hl hc hM hF
    rw [bkK, show c + (m + 1) = c + 1 + m by omega]
    refine ev_iload_n dX12_passes_2 rfl ?_
    refine ev_aload_n dX12_passes_3 rfl ?_
    refine ev_alen dX12_passes_4 (hM.a 6 7 (by decide)) ?_
    refine ev_icmp_ge (tgt := 58) dX12_passes_5 (by decide) (fun h5 => absurd h5 ((show ¬ nI ((pst ρ 6 A c).1 6).length ≤ nI k by rw [pst_at, hl]; exact nI_ge (by omega) (by omega)))) (fun _ => ?_)
    refine ev_aload_n dX12_passes_8 rfl ?_
    refine ev_get dX12_passes_9 flX12_280_12 hM.1 rfl ?_
    refine ev_if_eq (tgt := 30) dX12_passes_12 (by decide) (fun _ => ?_) (fun h12 => absurd (hk) h12)
    refine ev_aload_n dX12_passes_30 rfl ?_
    refine ev_iload_n dX12_passes_31 rfl ?_
    refine ev_aload_n dX12_passes_32 rfl ?_
    refine ev_get dX12_passes_33 flX12_64_12 hM.1 rfl ?_
    refine ev_aload_n dX12_passes_36 rfl ?_
    refine ev_get dX12_passes_37 flX12_284_12 hM.1 rfl ?_
    refine ev_iald dX12_passes_40 (hM.a 29 29 (by decide)) (show ix (nI c) c from ix_n (by omega)) (rd hL (k := 29) (n := 60) (by decide) (by omega)) ?_
    refine evM_iast hM hF (k := 6) (o := 7) (by decide) dX12_passes_41 (ix_n (by omega)) (show k < ((pst ρ 6 A c).1 6).length by rw [pst_at, hl]; omega) (fun μ hM hF => ?_)
    rw [pst_at, pst_l] at hM
    refine ev_aload_n dX12_passes_42 rfl ?_
    refine ev_dup dX12_passes_43 rfl ?_
    refine ev_get dX12_passes_44 flX12_284_12 hM.1 rfl ?_
    refine ev_iconst (v := 1) dX12_passes_47 (by decide) ?_
    refine ev_iadd dX12_passes_48 ?_
    refine evM_put hM hF (k := 32) (by decide) dX12_passes_49 fpX12_284_12 rfl rfl (fun μ hM hF => ?_)
    rw [pst_i] at hM
    refine ev_iinc dX12_passes_52 rfl (by decide) ?_
    dsimp only [List.set]
    refine ev_goto (tgt := 2) dX12_passes_55 (by decide) ?_
    rw [nI_inc]
    exact ih (k + 1) (c + 1) _ μ (by omega) (by rw [List.length_set]; exact hl) (by omega) hM hF
theorem c_passK6 (hM : RM b ρ μ) (hL : ML ρ) (hk : ρ.2 31 = 1) {c : Nat} (hc : ρ.2 32 = nI c) (hc6 : c + 10 ≤ 60) : Mt g 0 mX12_passes [.ref b, .ref (b + 7)] μ (fun v μ' => v = none ∧ RM b (pst ρ 29 (pkK (ρ.1 6) 10 0 c (ρ.1 29)) (c + 10)) μ' ∧ FM b μ μ') := by
  refine Mt.of0 (ls0 := [some (.ref b), some (.ref (b + 7)), none]) (by decide) (by simp [Value.category]) (Nat.le_of_ble_eq_true rfl) rfl ?_
  have hF : FM b μ μ := FM.rf
  refine ev_iconst (v := 0) dX12_passes_0 (by decide) ?_
  refine ev_istore_n dX12_passes_1 (by decide) ?_
  dsimp only [List.set]
  exact l_passK6 hL hk 10 0 c (ρ.1 29) μ (by omega) (hL.at (by decide)) hc6 (by rw [pst_self hc]; exact hM) hF
theorem c_passB6 (hM : RM b ρ μ) (hL : ML ρ) (hk : ρ.2 31 = 0) {c : Nat} (hc : ρ.2 32 = nI c) (hc6 : c + 10 ≤ 60) : Mt g 0 mX12_passes [.ref b, .ref (b + 7)] μ (fun v μ' => v = none ∧ RM b (pst ρ 6 (bkK (ρ.1 29) 10 0 c (ρ.1 6)) (c + 10)) μ' ∧ FM b μ μ') := by
  refine Mt.of0 (ls0 := [some (.ref b), some (.ref (b + 7)), none]) (by decide) (by simp [Value.category]) (Nat.le_of_ble_eq_true rfl) rfl ?_
  have hF : FM b μ μ := FM.rf
  refine ev_iconst (v := 0) dX12_passes_0 (by decide) ?_
  refine ev_istore_n dX12_passes_1 (by decide) ?_
  dsimp only [List.set]
  exact l_passB6 hL hk 10 0 c (ρ.1 6) μ (by omega) (hL.at (by decide)) hc6 (by rw [pst_self hc]; exact hM) hF
theorem c_passOneK (hM : RM b ρ μ) (hL : ML ρ) (hk : ρ.2 31 = 1) {c : Nat} (hc : ρ.2 32 = nI c) (hc6 : c < 60) (v : Int32) : Mt g 0 mX12_passOne [.ref b, .int v] μ (fun r μ' => r = some (.int v) ∧ RM b (pst ρ 29 ((ρ.1 29).set c v) (c + 1)) μ' ∧ FM b μ μ') := by
  refine Mt.of0 (ls0 := [some (.ref b), some (.int v), none]) (by decide) (by simp [Value.category]) (Nat.le_of_ble_eq_true rfl) rfl ?_
  have hF : FM b μ μ := FM.rf
  have hM : RM b (pst ρ 29 (ρ.1 29) c) μ := by rw [pst_self hc]; exact hM
  refine ev_aload_n dX12_passOne_0 rfl ?_
  refine ev_get dX12_passOne_1 flX12_280_12 hM.1 rfl ?_
  refine ev_if_eq (tgt := 11) dX12_passOne_4 (by decide) (fun h4 => absurd h4 ((show ¬ ρ.2 31 = 0 by rw [hk]; decide))) (fun _ => ?_)
  refine ev_iload_n dX12_passOne_7 rfl ?_
  refine ev_goto (tgt := 20) dX12_passOne_8 (by decide) ?_
  refine ev_istore_n dX12_passOne_20 (by decide) ?_
  dsimp only [List.set]
  refine ev_aload_n dX12_passOne_21 rfl ?_
  refine ev_get dX12_passOne_22 flX12_280_12 hM.1 rfl ?_
  refine ev_if_eq (tgt := 38) dX12_passOne_25 (by decide) (fun h25 => absurd h25 ((show ¬ ρ.2 31 = 0 by rw [hk]; decide))) (fun _ => ?_)
  refine ev_aload_n dX12_passOne_28 rfl ?_
  refine ev_get dX12_passOne_29 flX12_64_12 hM.1 rfl ?_
  refine ev_aload_n dX12_passOne_32 rfl ?_
  refine ev_get dX12_passOne_33 flX12_284_12 hM.1 rfl ?_
  refine ev_iload_n dX12_passOne_36 rfl ?_
  refine evM_iast hM hF (k := 29) (o := 29) (by decide) dX12_passOne_37 (show ix (nI c) c from ix_n (by omega)) (show c < ((pst ρ 29 (ρ.1 29) c).1 29).length by rw [pst_at, hL.at (k := 29) (n := 60) (by decide)]; omega) (fun μ hM hF => ?_)
  rw [pst_at, pst_l] at hM
  refine ev_aload_n dX12_passOne_38 rfl ?_
  refine ev_dup dX12_passOne_39 rfl ?_
  refine ev_get dX12_passOne_40 flX12_284_12 hM.1 rfl ?_
  refine ev_iconst (v := 1) dX12_passOne_43 (by decide) ?_
  refine ev_iadd dX12_passOne_44 ?_
  refine evM_put hM hF (k := 32) (by decide) dX12_passOne_45 fpX12_284_12 rfl rfl (fun μ hM hF => ?_)
  rw [pst_i] at hM
  refine ev_iload_n dX12_passOne_48 rfl ?_
  refine ev_iret dX12_passOne_49 rfl ?_
  exact ⟨rfl, hM, hF⟩
theorem c_passOneB (hM : RM b ρ μ) (hL : ML ρ) (hk : ρ.2 31 = 0) {c : Nat} (hc : ρ.2 32 = nI c) (hc6 : c < 60) (v : Int32) : Mt g 0 mX12_passOne [.ref b, .int v] μ (fun r μ' => r = some (.int ((ρ.1 29).getD c 0)) ∧ RM b (pst ρ 29 (ρ.1 29) (c + 1)) μ' ∧ FM b μ μ') := by
  refine Mt.of0 (ls0 := [some (.ref b), some (.int v), none]) (by decide) (by simp [Value.category]) (Nat.le_of_ble_eq_true rfl) rfl ?_
  have hF : FM b μ μ := FM.rf
  have hM : RM b (pst ρ 29 (ρ.1 29) c) μ := by rw [pst_self hc]; exact hM
  refine ev_aload_n dX12_passOne_0 rfl ?_
  refine ev_get dX12_passOne_1 flX12_280_12 hM.1 rfl ?_
  refine ev_if_eq (tgt := 11) dX12_passOne_4 (by decide) (fun _ => ?_) (fun h4 => absurd (hk) h4)
  refine ev_aload_n dX12_passOne_11 rfl ?_
  refine ev_get dX12_passOne_12 flX12_64_12 hM.1 rfl ?_
  refine ev_aload_n dX12_passOne_15 rfl ?_
  refine ev_get dX12_passOne_16 flX12_284_12 hM.1 rfl ?_
  refine ev_iald dX12_passOne_19 (hM.a 29 29 (by decide)) (show ix (nI c) c from ix_n (by omega)) (show ((pst ρ 29 (ρ.1 29) c).1 29)[c]? = some ((ρ.1 29).getD c 0) by rw [pst_at]; exact rd hL (k := 29) (n := 60) (by decide) hc6) ?_
  refine ev_istore_n dX12_passOne_20 (by decide) ?_
  dsimp only [List.set]
  refine ev_aload_n dX12_passOne_21 rfl ?_
  refine ev_get dX12_passOne_22 flX12_280_12 hM.1 rfl ?_
  refine ev_if_eq (tgt := 38) dX12_passOne_25 (by decide) (fun _ => ?_) (fun h25 => absurd (hk) h25)
  refine ev_aload_n dX12_passOne_38 rfl ?_
  refine ev_dup dX12_passOne_39 rfl ?_
  refine ev_get dX12_passOne_40 flX12_284_12 hM.1 rfl ?_
  refine ev_iconst (v := 1) dX12_passOne_43 (by decide) ?_
  refine ev_iadd dX12_passOne_44 ?_
  refine evM_put hM hF (k := 32) (by decide) dX12_passOne_45 fpX12_284_12 rfl rfl (fun μ hM hF => ?_)
  rw [pst_i] at hM
  refine ev_iload_n dX12_passOne_48 rfl ?_
  refine ev_iret dX12_passOne_49 rfl ?_
  exact ⟨rfl, hM, hF⟩
end MPASS
