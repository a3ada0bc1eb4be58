/-! ===== the reference: the next order ===== -/
theorem PreL.at {l : List Int32} {os : List Nat} (h : PreL l os) {i : Nat} (hi : i < os.length) : l[i]? = some (nI (os.getD i 0)) ∧ os.getD i 0 < 7 := by
  have e : os[i]? = some (os.getD i 0) := by rw [List.getD_eq_getElem?_getD, List.getElem?_eq_getElem hi]; rfl
  exact h i _ e
theorem swp_u (os : List Nat) (i j : Nat) : swp os i j = (os.set i (os.getD j 0)).set j (os.getD i 0) := rfl
theorem swp_len {os : List Nat} {i j : Nat} : (swp os i j).length = os.length := by simp [swp]
theorem PreL.swp {l : List Int32} {os : List Nat} (h : PreL l os) {i j : Nat} (hi : i < os.length) (hj : j < os.length) (hl : os.length ≤ l.length) : PreL ((l.set i (nI (os.getD j 0))).set j (nI (os.getD i 0))) (swp os i j) := by
  intro q y hy
  have hii := h.at hi
  have hjj := h.at hj
  simp only [swp_u] at hy
  rw [List.getElem?_set] at hy ⊢
  split at hy
  · rename_i e
    subst e
    rw [List.length_set] at hy
    rw [if_pos hj] at hy
    cases hy
    rw [if_pos rfl, List.length_set, if_pos (by omega)]
    exact ⟨rfl, hii.2⟩
  · rename_i e
    rw [if_neg e]
    rw [List.getElem?_set] at hy ⊢
    split at hy
    · rename_i e2
      subst e2
      first | rw [if_pos hi] at hy | skip
      cases hy
      rw [if_pos rfl, if_pos (by omega)]
      exact ⟨rfl, hjj.2⟩
    · rename_i e2
      rw [if_neg e2]
      exact h q y hy
theorem rvK_len : ∀ (f a c : Nat) (os : List Nat), (rvK f a c os).length = os.length := by
  intro f
  induction f with
  | zero => intro a c os; rfl
  | succ f ih =>
    intro a c os
    rw [rvK]
    split
    · rw [ih, swp_len]
    · rfl
section MNEXT
variable {g : Gl} {b : Nat} {ρ0 : MS}
theorem c_changes {μ : Mm} (hL : ML ρ0) {n : Nat} {l : List Int32} {os : List Nat} (hl : l.length = 7) (hp : PreL l os) (hos : os.length ≤ 7) (hM : RM b (ost ρ0 n l) μ) {i j : Nat} (hi : i < os.length) (hj : j < os.length) : Mt g 0 mX12_changes [.ref b, .int (nI i), .int (nI j)] μ (fun v μ' => v = none ∧ (∃ l', l'.length = 7 ∧ PreL l' (swp os i j) ∧ RM b (ost ρ0 n l') μ') ∧ FM b μ μ') := by
  refine Mt.of0 (ls0 := [some (.ref b), some (.int (nI i)), some (.int (nI j)), none]) (by decide) (by simp [Value.category]) (Nat.le_of_ble_eq_true rfl) rfl ?_
  have hF : FM b μ μ := FM.rf
  have qi := hp.at hi
  have qj := hp.at hj
  refine ev_aload_n dX12_changes_0 rfl ?_
  refine ev_get dX12_changes_1 flX12_55_12 hM.1 rfl ?_
  refine ev_iload_n dX12_changes_4 rfl ?_
  refine ev_iald dX12_changes_5 (hM.a 24 26 (by decide)) (ix_n (by omega)) (show ((ost ρ0 n l).1 24)[i]? = some (nI (os.getD i 0)) by rw [ost_at]; exact qi.1) ?_
  refine ev_istore_n dX12_changes_6 (by decide) ?_
  dsimp only [List.set]
  refine ev_aload_n dX12_changes_7 rfl ?_
  refine ev_get dX12_changes_8 flX12_55_12 hM.1 rfl ?_
  refine ev_iload_n dX12_changes_11 rfl ?_
  refine ev_aload_n dX12_changes_12 rfl ?_
  refine ev_get dX12_changes_13 flX12_55_12 hM.1 rfl ?_
  refine ev_iload_n dX12_changes_16 rfl ?_
  refine ev_iald dX12_changes_17 (hM.a 24 26 (by decide)) (ix_n (by omega)) (show ((ost ρ0 n l).1 24)[j]? = some (nI (os.getD j 0)) by rw [ost_at]; exact qj.1) ?_
  refine evM_iast hM hF (k := 24) (o := 26) (by decide) dX12_changes_18 (ix_n (by omega)) (show i < ((ost ρ0 n l).1 24).length by rw [ost_at]; omega) (fun μ hM hF => ?_)
  rw [ost_at, ost_l] at hM
  refine ev_aload_n dX12_changes_19 rfl ?_
  refine ev_get dX12_changes_20 flX12_55_12 hM.1 rfl ?_
  refine ev_iload_n dX12_changes_23 rfl ?_
  refine ev_iload_n dX12_changes_24 rfl ?_
  refine evM_iast hM hF (k := 24) (o := 26) (by decide) dX12_changes_25 (ix_n (by omega)) (show j < ((ost ρ0 n (l.set i (nI (os.getD j 0)))).1 24).length by rw [ost_at, List.length_set]; omega) (fun μ hM hF => ?_)
  rw [ost_at, ost_l] at hM
  refine ev_vret dX12_changes_26 rfl ?_
  exact ⟨rfl, ⟨_, by rw [List.length_set, List.length_set]; exact hl, hp.swp hi hj (by omega), hM⟩, hF⟩
theorem l_next1 {μ : Mm} {n : Nat} {l : List Int32} {os : List Nat} (hl : l.length = 7) (hp : PreL l os) (hos : os.length = n) (hn : n ≤ 7) (hM : RM b (ost ρ0 n l) μ) {Q : Option Value → Mm → Prop} (goN : fI os (n - 1) = none → Ev g 1 mX12_nextOrder 34 [some (.ref b), some (.int (-1)), none, none, none] [] μ Q) (goS : ∀ i, fI os (n - 1) = some i → Ev g 1 mX12_nextOrder 34 [some (.ref b), some (.int (nI i)), none, none, none] [] μ Q) : ∀ (m : Nat), m ≤ n - 1 → fI os m = fI os (n - 1) → Ev g 1 mX12_nextOrder 7 [some (.ref b), some (.int (dn m)), none, none, none] [] μ Q := by
  intro m
  induction m with
  | zero =>
    intro hm he
    refine ev_iload_n dX12_nextOrder_7 rfl ?_
    refine ev_if_lt (tgt := 34) dX12_nextOrder_8 (by decide) (fun _ => ?_) (fun h8 => absurd ((show dn 0 < 0 by decide)) h8)
    exact goN he.symm
  | succ m ih =>
    intro hm he
    have q1 := hp.at (i := m) (by omega)
    have q2 := hp.at (i := m + 1) (by omega)
    rw [fI] at he
    refine ev_iload_n dX12_nextOrder_7 rfl ?_
    refine ev_if_lt (tgt := 34) dX12_nextOrder_8 (by decide) (fun h8 => absurd h8 ((show ¬ nI m < 0 from nI_pos (by omega)))) (fun _ => ?_)
    refine ev_aload_n dX12_nextOrder_11 rfl ?_
    refine ev_get dX12_nextOrder_12 flX12_55_12 hM.1 rfl ?_
    refine ev_iload_n dX12_nextOrder_15 rfl ?_
    refine ev_iald dX12_nextOrder_16 (hM.a 24 26 (by decide)) (show ix (nI m) m from ix_n (by omega)) (show ((ost ρ0 n l).1 24)[m]? = some (nI (os.getD m 0)) by rw [ost_at]; exact q1.1) ?_
    refine ev_aload_n dX12_nextOrder_17 rfl ?_
    refine ev_get dX12_nextOrder_18 flX12_55_12 hM.1 rfl ?_
    refine ev_iload_n dX12_nextOrder_21 rfl ?_
    refine ev_iconst (v := 1) dX12_nextOrder_22 (by decide) ?_
    refine ev_iadd dX12_nextOrder_23 ?_
    refine ev_iald dX12_nextOrder_24 (hM.a 24 26 (by decide)) (show ix (nI m + 1) (m + 1) by rw [← nI_succ]; exact ix_n (by omega)) (show ((ost ρ0 n l).1 24)[m + 1]? = some (nI (os.getD (m + 1) 0)) by rw [ost_at]; exact q2.1) ?_
    refine ev_icmp_le (tgt := 34) dX12_nextOrder_25 (by decide) (fun h25 => ?_) (fun h25 => ?_)
    · rw [nI_lei (by omega) (by omega)] at h25
      rw [if_neg (by omega)] at he
      exact goS m he.symm
    · refine ev_iinc dX12_nextOrder_28 rfl (by decide) ?_
      dsimp only [List.set]
      refine ev_goto (tgt := 7) dX12_nextOrder_31 (by decide) ?_
      rw [nI_lei (by omega) (by omega)] at h25
      rw [if_pos (by omega)] at he
      rw [show dn (m + 1) + Int32.ofInt (-1) = dn m from dn_step m]
      exact ih (by omega) he
theorem l_next2 {μ : Mm} {n : Nat} {l : List Int32} {os : List Nat} (hl : l.length = 7) (hp : PreL l os) (hos : os.length = n) (hn : n ≤ 7) (hM : RM b (ost ρ0 n l) μ) {i : Nat} (hi : i < n) {Q : Option Value → Mm → Prop} (go : Ev g 1 mX12_nextOrder 68 [some (.ref b), some (.int (nI i)), some (.int (nI (fJ os (os.getD i 0) (n - 1)))), none, none] [] μ Q) : ∀ (m : Nat), i ≤ m → m ≤ n - 1 → fJ os (os.getD i 0) m = fJ os (os.getD i 0) (n - 1) → Ev g 1 mX12_nextOrder 47 [some (.ref b), some (.int (nI i)), some (.int (nI m)), none, none] [] μ Q := by
  have qi := hp.at (i := i) (by omega)
  intro m
  induction m with
  | zero =>
    intro h0 hm he
    have hi0 : i = 0 := by omega
    subst hi0
    rw [← he, fJ] at go
    refine ev_aload_n dX12_nextOrder_47 rfl ?_
    refine ev_get dX12_nextOrder_48 flX12_55_12 hM.1 rfl ?_
    refine ev_iload_n dX12_nextOrder_51 rfl ?_
    refine ev_iald dX12_nextOrder_52 (hM.a 24 26 (by decide)) ixl0 (show ((ost ρ0 n l).1 24)[0]? = some (nI (os.getD 0 0)) by rw [ost_at]; exact qi.1) ?_
    refine ev_aload_n dX12_nextOrder_53 rfl ?_
    refine ev_get dX12_nextOrder_54 flX12_55_12 hM.1 rfl ?_
    refine ev_iload_n dX12_nextOrder_57 rfl ?_
    refine ev_iald dX12_nextOrder_58 (hM.a 24 26 (by decide)) ixl0 (show ((ost ρ0 n l).1 24)[0]? = some (nI (os.getD 0 0)) by rw [ost_at]; exact qi.1) ?_
    refine ev_icmp_ge (tgt := 68) dX12_nextOrder_59 (by decide) (fun _ => ?_) (fun h59 => absurd ((Int32.le_refl _)) h59)
    exact go
  | succ m ih =>
    intro h0 hm he
    have qm := hp.at (i := m + 1) (by omega)
    rw [fJ] at he
    refine ev_aload_n dX12_nextOrder_47 rfl ?_
    refine ev_get dX12_nextOrder_48 flX12_55_12 hM.1 rfl ?_
    refine ev_iload_n dX12_nextOrder_51 rfl ?_
    refine ev_iald dX12_nextOrder_52 (hM.a 24 26 (by decide)) (ix_n (by omega)) (show ((ost ρ0 n l).1 24)[m + 1]? = some (nI (os.getD (m + 1) 0)) by rw [ost_at]; exact qm.1) ?_
    refine ev_aload_n dX12_nextOrder_53 rfl ?_
    refine ev_get dX12_nextOrder_54 flX12_55_12 hM.1 rfl ?_
    refine ev_iload_n dX12_nextOrder_57 rfl ?_
    refine ev_iald dX12_nextOrder_58 (hM.a 24 26 (by decide)) (ix_n (by omega)) (show ((ost ρ0 n l).1 24)[i]? = some (nI (os.getD i 0)) by rw [ost_at]; exact qi.1) ?_
    refine ev_icmp_ge (tgt := 68) dX12_nextOrder_59 (by decide) (fun h59 => ?_) (fun h59 => ?_)
    · rw [nI_lei (by omega) (by omega)] at h59
      rw [if_neg (by omega)] at he
      rw [he]
      exact go
    · refine ev_iinc dX12_nextOrder_62 rfl (by decide) ?_
      dsimp only [List.set]
      refine ev_goto (tgt := 47) dX12_nextOrder_65 (by decide) ?_
      rw [nI_lei (by omega) (by omega)] at h59
      rw [if_pos (by omega)] at he
      rw [nI_dec]
      refine ih ?_ (by omega) he
      rcases Nat.lt_or_ge m i with z | z
      · have : i = m + 1 := by omega
        subst this; omega
      · exact z
theorem l_next3 (hL : ML ρ0) {n : Nat} (hn : n ≤ 7) {o1 o2 : Option Value} {μ0 : Mm} : ∀ (f a c : Nat) (os : List Nat) (l : List Int32) (μ : Mm), l.length = 7 → PreL l os → os.length = n → c < n → c < a + f → a ≤ 8 → RM b (ost ρ0 n l) μ → FM b μ0 μ → Ev g 1 mX12_nextOrder 86 [some (.ref b), o1, o2, some (.int (nI a)), some (.int (nI c))] [] μ (fun v μ' => v = some (.int 1) ∧ (∃ l', l'.length = 7 ∧ PreL l' (rvK f a c os) ∧ RM b (ost ρ0 n l') μ') ∧ FM b μ0 μ') := by
  intro f
  induction f with
  | zero =>
    intro a c os l μ hl hp hos hc hf ha hM hF
    refine ev_iload_n dX12_nextOrder_86 rfl ?_
    refine ev_iload dX12_nextOrder_87 rfl ?_
    refine ev_icmp_ge (tgt := 108) dX12_nextOrder_89 (by decide) (fun _ => ?_) (fun h89 => absurd ((nI_le (by omega) (by omega))) h89)
    refine ev_iconst (v := 1) dX12_nextOrder_108 (by decide) ?_
    refine ev_zret dX12_nextOrder_109 rfl rfl ?_
    exact ⟨rfl, ⟨l, hl, hp, hM⟩, hF⟩
  | succ f ih =>
    intro a c os l μ hl hp hos hc hf ha hM hF
    rw [rvK]
    by_cases hac : a < c
    · rw [if_pos hac]
      obtain ⟨c', rfl⟩ : ∃ c', c = c' + 1 := ⟨c - 1, by omega⟩
      refine ev_iload_n dX12_nextOrder_86 rfl ?_
      refine ev_iload dX12_nextOrder_87 rfl ?_
      refine ev_icmp_ge (tgt := 108) dX12_nextOrder_89 (by decide) (fun h89 => absurd h89 ((nI_ge hac (by omega)))) (fun _ => ?_)
      refine ev_aload_n dX12_nextOrder_92 rfl ?_
      refine ev_iload_n dX12_nextOrder_93 rfl ?_
      refine ev_iload dX12_nextOrder_94 rfl ?_
      refine k_v (c_changes hL hl hp (by omega) hM (i := a) (j := c' + 1) (by omega) (by omega)) (by decide) dX12_nextOrder_96 cbX12_changes (mt6 91 rfl rfl) (mt6 93 rfl rfl) (ms0 77 rfl rfl) (ci := 12) rfl hM.1 rfl rfl (Nat.le_of_ble_eq_true rfl) (fun v μ1 hq => ?_)
      obtain ⟨rfl, ⟨l', hl', hp', hM⟩, hF1⟩ := hq; have hF := hF.tr hF1
      simp only [Option.toList, List.cons_append, List.nil_append]
      refine ev_iinc dX12_nextOrder_99 rfl (by decide) ?_
      dsimp only [List.set]
      refine ev_iinc dX12_nextOrder_102 rfl (by decide) ?_
      dsimp only [List.set]
      refine ev_goto (tgt := 86) dX12_nextOrder_105 (by decide) ?_
      rw [nI_inc, nI_dec, Nat.add_sub_cancel]
      exact ih (a + 1) c' _ l' _ hl' hp' (by rw [swp_len]; exact hos) (by omega) (by omega) (by omega) hM hF
    · rw [if_neg hac]
      refine ev_iload_n dX12_nextOrder_86 rfl ?_
      refine ev_iload dX12_nextOrder_87 rfl ?_
      refine ev_icmp_ge (tgt := 108) dX12_nextOrder_89 (by decide) (fun _ => ?_) (fun h89 => absurd ((nI_le (by omega) (by omega))) h89)
      refine ev_iconst (v := 1) dX12_nextOrder_108 (by decide) ?_
      refine ev_zret dX12_nextOrder_109 rfl rfl ?_
      exact ⟨rfl, ⟨l, hl, hp, hM⟩, hF⟩
theorem fI_lt {os : List Nat} : ∀ (m i : Nat), fI os m = some i → i < m := by
  intro m
  induction m with
  | zero => intro i h; cases h
  | succ m ih =>
    intro i h
    rw [fI] at h
    split at h
    · have := ih i h; omega
    · cases h; omega
theorem fJ_le {os : List Nat} {x : Nat} : ∀ (m : Nat), fJ os x m ≤ m := by
  intro m
  induction m with
  | zero => simp [fJ]
  | succ m ih => rw [fJ]; split <;> omega
theorem l_next34 {μ : Mm} (hL : ML ρ0) {n : Nat} {l : List Int32} {os : List Nat} (hl : l.length = 7) (hp : PreL l os) (hos : os.length = n) (hn : n ≤ 7) (hM : RM b (ost ρ0 n l) μ) {i : Nat} (hi : i + 1 < n) : Ev g 1 mX12_nextOrder 34 [some (.ref b), some (.int (nI i)), none, none, none] [] μ (fun v μ' => v = some (.int 1) ∧ (∃ l', l'.length = 7 ∧ PreL l' (rvK 8 (i + 1) (n - 1) (swp os i (fJ os (os.getD i 0) (n - 1)))) ∧ RM b (ost ρ0 n l') μ') ∧ FM b μ μ') := by
  have hF : FM b μ μ := FM.rf
  have hj : fJ os (os.getD i 0) (n - 1) ≤ n - 1 := fJ_le _
  have e1 : nI n - 1 = nI (n - 1) := by
    have := nI_pred (n - 1)
    rwa [show n - 1 + 1 = n by omega] at this
  have tail : Ev g 1 mX12_nextOrder 68 [some (.ref b), some (.int (nI i)), some (.int (nI (fJ os (os.getD i 0) (n - 1)))), none, none] [] μ (fun v μ' => v = some (.int 1) ∧ (∃ l', l'.length = 7 ∧ PreL l' (rvK 8 (i + 1) (n - 1) (swp os i (fJ os (os.getD i 0) (n - 1)))) ∧ RM b (ost ρ0 n l') μ') ∧ FM b μ μ') := by
    refine ev_aload_n dX12_nextOrder_68 rfl ?_
    refine ev_iload_n dX12_nextOrder_69 rfl ?_
    refine ev_iload_n dX12_nextOrder_70 rfl ?_
    refine k_v (c_changes hL hl hp (by omega) hM (i := i) (j := fJ os (os.getD i 0) (n - 1)) (by omega) (by omega)) (by decide) dX12_nextOrder_71 cbX12_changes (mt6 91 rfl rfl) (mt6 93 rfl rfl) (ms0 77 rfl rfl) (ci := 12) rfl hM.1 rfl rfl (Nat.le_of_ble_eq_true rfl) (fun v μ1 hq => ?_)
    obtain ⟨rfl, ⟨l', hl', hp', hM⟩, hF1⟩ := hq; have hF := hF.tr hF1
    simp only [Option.toList, List.cons_append, List.nil_append]
    refine ev_iload_n dX12_nextOrder_74 rfl ?_
    refine ev_iconst (v := 1) dX12_nextOrder_75 (by decide) ?_
    refine ev_iadd dX12_nextOrder_76 ?_
    refine ev_istore_n dX12_nextOrder_77 (by decide) ?_
    dsimp only [List.set]
    refine ev_aload_n dX12_nextOrder_78 rfl ?_
    refine ev_get dX12_nextOrder_79 flX12_208_12 hM.1 rfl ?_
    refine ev_iconst (v := 1) dX12_nextOrder_82 (by decide) ?_
    refine ev_isub dX12_nextOrder_83 ?_
    rw [show (ost ρ0 n l').2 26 - 1 = nI (n - 1) from e1]
    refine ev_istore dX12_nextOrder_84 (by decide) ?_
    dsimp only [List.set]
    rw [show nI i + 1 = nI (i + 1) from (nI_succ i).symm]
    exact l_next3 hL hn 8 (i + 1) (n - 1) _ l' _ hl' hp' (by rw [swp_len]; exact hos) (by omega) (by omega) (by omega) hM hF
  refine ev_iload_n dX12_nextOrder_34 rfl ?_
  refine ev_if_ge (tgt := 40) dX12_nextOrder_35 (by decide) (fun _ => ?_) (fun h35 => absurd ((nI_pos' (by omega))) h35)
  refine ev_aload_n dX12_nextOrder_40 rfl ?_
  refine ev_get dX12_nextOrder_41 flX12_208_12 hM.1 rfl ?_
  refine ev_iconst (v := 1) dX12_nextOrder_44 (by decide) ?_
  refine ev_isub dX12_nextOrder_45 ?_
  rw [show (ost ρ0 n l).2 26 - 1 = nI (n - 1) from e1]
  refine ev_istore_n dX12_nextOrder_46 (by decide) ?_
  dsimp only [List.set]
  exact l_next2 hl hp hos hn hM (by omega) tail (n - 1) (by omega) (Nat.le_refl _) rfl
/-- nextOrder(): the next one, or none -/
theorem c_nextOrder {μ : Mm} (hL : ML ρ0) {n : Nat} {l : List Int32} {os : List Nat} (hl : l.length = 7) (hp : PreL l os) (hos : os.length = n) (hn : n ≤ 7) (hM : RM b (ost ρ0 n l) μ) : Mt g 1 mX12_nextOrder [.ref b] μ (fun v μ' => (match nxt os with | none => v = some (.int 0) ∧ RM b (ost ρ0 n l) μ' | some o2 => v = some (.int 1) ∧ ∃ l', l'.length = 7 ∧ PreL l' o2 ∧ RM b (ost ρ0 n l') μ') ∧ FM b μ μ') := by
  refine Mt.of0 (ls0 := [some (.ref b), none, none, none, none]) (by decide) (by simp [Value.category]) (Nat.le_of_ble_eq_true rfl) rfl ?_
  have hF : FM b μ μ := FM.rf
  by_cases hn0 : n = 0
  · subst hn0
    have e : nxt os = none := by rw [nxt, hos]; rfl
    rw [e]
    refine ev_aload_n dX12_nextOrder_0 rfl ?_
    refine ev_get dX12_nextOrder_1 flX12_208_12 hM.1 rfl ?_
    refine ev_iconst (v := 2) dX12_nextOrder_4 (by decide) ?_
    refine ev_isub dX12_nextOrder_5 ?_
    refine ev_istore_n dX12_nextOrder_6 (by decide) ?_
    dsimp only [List.set]
    refine ev_iload_n dX12_nextOrder_7 rfl ?_
    refine ev_if_lt (tgt := 34) dX12_nextOrder_8 (by decide) (fun _ => ?_) (fun h8 => absurd ((show (nI 0 - 2 : Int32) < 0 by decide)) h8)
    refine ev_iload_n dX12_nextOrder_34 rfl ?_
    refine ev_if_ge (tgt := 40) dX12_nextOrder_35 (by decide) (fun h35 => absurd h35 ((show ¬ (0 : Int32) ≤ nI 0 - 2 by decide))) (fun _ => ?_)
    refine ev_iconst (v := 0) dX12_nextOrder_38 (by decide) ?_
    refine ev_zret dX12_nextOrder_39 rfl (by decide) ?_
    exact ⟨⟨rfl, hM⟩, hF⟩
  · have e2 : nI n - 2 = dn (n - 1) := by
      obtain ⟨k, rfl⟩ : ∃ k, n = k + 1 := ⟨n - 1, by omega⟩
      cases k with
      | zero => decide
      | succ k =>
        show nI (k + 1 + 1) - 2 = nI k
        rw [show nI (k + 1 + 1) = nI k + nI 2 from (nI_add k 2).symm]
        exact Int32.add_sub_cancel _ _
    refine ev_aload_n dX12_nextOrder_0 rfl ?_
    refine ev_get dX12_nextOrder_1 flX12_208_12 hM.1 rfl ?_
    refine ev_iconst (v := 2) dX12_nextOrder_4 (by decide) ?_
    refine ev_isub dX12_nextOrder_5 ?_
    rw [show (ost ρ0 n l).2 26 - 2 = dn (n - 1) from e2]
    refine ev_istore_n dX12_nextOrder_6 (by decide) ?_
    dsimp only [List.set]
    refine l_next1 hl hp hos hn hM ?_ ?_ (n - 1) (Nat.le_refl _) rfl
    · intro he
      have e : nxt os = none := by rw [nxt, hos, he]
      rw [e]
      refine ev_iload_n dX12_nextOrder_34 rfl ?_
      refine ev_if_ge (tgt := 40) dX12_nextOrder_35 (by decide) (fun q => absurd q (by decide)) (fun _ => ?_)
      refine ev_iconst (v := 0) dX12_nextOrder_38 (by decide) ?_
      refine ev_zret dX12_nextOrder_39 rfl (by decide) ?_
      exact ⟨⟨rfl, hM⟩, hF⟩
    · intro i he
      have hlt := fI_lt _ _ he
      have e : nxt os = some (rvK 8 (i + 1) (n - 1) (swp os i (fJ os (os.getD i 0) (n - 1)))) := by rw [nxt, hos, he]
      rw [e]
      refine Ev.imp (l_next34 hL hl hp hos hn hM (by omega)) ?_
      rintro v μ' ⟨q1, q2, q3⟩
      exact ⟨⟨q1, q2⟩, q3⟩
end MNEXT
