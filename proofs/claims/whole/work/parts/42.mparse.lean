/-! ===== the reference: a row of deeds is read ===== -/
/-- row r as far as it is written -/
def RCw (ρ : MS) (r : Nat) (C : List Int32) : Prop := (ρ.1 12)[r]? = some (nI C.length) ∧ ∀ (k : Nat) (c : Int32), C[k]? = some c → (ρ.1 11)[170 * r + k]? = some c
def PM (ρ : MS) (r : Nat) (P : PS) : Prop := RCw ρ r P.2.1 ∧ SR (ρ.1 13) P.1 ∧ ρ.2 22 = nI P.1.length ∧ ρ.2 21 = P.2.2 ∧ ρ.2 23 = nI r
/-- what writing row r leaves as it was -/
def PE (r : Nat) (ρ' ρ : MS) : Prop := ML ρ' ∧ EqE [11, 12, 13] [21, 22] ρ' ρ ∧ (∀ i, ¬ (170 * r ≤ i ∧ i < 170 * r + 170) → (ρ'.1 11)[i]? = (ρ.1 11)[i]?) ∧ ∀ i, i ≠ r → (ρ'.1 12)[i]? = (ρ.1 12)[i]?
theorem PE.rf {r : Nat} {ρ : MS} (hL : ML ρ) : PE r ρ ρ := ⟨hL, EqE.rf, fun _ _ => rfl, fun _ _ => rfl⟩
theorem PE.tr {r : Nat} {a b c : MS} (h : PE r a b) (k : PE r b c) : PE r a c := ⟨h.1, h.2.1.tr k.2.1, fun i hi => (h.2.2.1 i hi).trans (k.2.2.1 i hi), fun i hi => (h.2.2.2 i hi).trans (k.2.2.2 i hi)⟩
theorem nI_eq0' {n : Nat} (h : n < 2 ^ 31) : nI n = 0 ↔ n = 0 := nI_eq (b := 0) h (by decide)
section MPARSE
variable {g : Gl} {b : Nat} {ρ : MS} {r : Nat}
/-- the post of a step that writes -/
abbrev WrQ (b r : Nat) (ρ : MS) (P : PS) (μ : Mm) (μ' : Mm) : Prop := (∃ ρ', RM b ρ' μ' ∧ PE r ρ' ρ ∧ PM ρ' r P) ∧ FM b μ μ'
theorem c_writes {μ : Mm} (hM : RM b ρ μ) (hL : ML ρ) (hr : r < 18) {P : PS} (hP : PM ρ r P) (hC : P.2.1.length < 170) (c : Int32) : Mt g 0 mX12_writes [.ref b, .int c] μ (fun v μ' => v = none ∧ WrQ b r ρ (P.1, P.2.1 ++ [c], P.2.2) μ μ') := by
  refine Mt.of0 (ls0 := [some (.ref b), some (.int c)]) (by decide) (by simp [Value.category]) (Nat.le_of_ble_eq_true rfl) rfl ?_
  have hF : FM b μ μ := FM.rf
  obtain ⟨h1, h2, h3, h4, h5⟩ := hP
  have l11 := hL.at (k := 11) (n := 3060) (by decide)
  have l12 := hL.at (k := 12) (n := 18) (by decide)
  refine ev_aload_n dX12_writes_0 rfl ?_
  refine ev_get dX12_writes_1 flX12_39_12 hM.1 rfl ?_
  refine ev_sipush (v := 170) dX12_writes_4 (by decide) ?_
  refine ev_aload_n dX12_writes_7 rfl ?_
  refine ev_get dX12_writes_8 flX12_85_12 hM.1 rfl ?_
  rw [h5]
  refine ev_imul dX12_writes_11 ?_
  refine ev_aload_n dX12_writes_12 rfl ?_
  refine ev_get dX12_writes_13 flX12_42_12 hM.1 rfl ?_
  refine ev_aload_n dX12_writes_16 rfl ?_
  refine ev_get dX12_writes_17 flX12_85_12 hM.1 rfl ?_
  rw [show ρ.2 23 = nI r from h5]
  refine ev_iald dX12_writes_20 (hM.a 12 23 (by decide)) (ix_n (by omega)) h1.1 ?_
  refine ev_iadd dX12_writes_21 ?_
  refine ev_iload_n dX12_writes_22 rfl ?_
  refine evM_iast hM hF (k := 11) (o := 22) (by decide) dX12_writes_23 (mul_ix hr hC) (by show _ < (ρ.1 11).length; omega) (fun μ hM hF => ?_)
  refine ev_aload_n dX12_writes_24 rfl ?_
  refine ev_get dX12_writes_25 flX12_42_12 hM.1 rfl ?_
  refine ev_aload_n dX12_writes_28 rfl ?_
  refine ev_get dX12_writes_29 flX12_85_12 hM.1 rfl ?_
  rw [show (setA ρ 11 ((ρ.1 11).set (170 * r + P.2.1.length) c)).2 23 = nI r from h5]
  refine ev_dup2 dX12_writes_32 rfl rfl ?_
  refine ev_iald dX12_writes_33 (hM.a 12 23 (by decide)) (ix_n (by omega)) h1.1 ?_
  refine ev_iconst (v := 1) dX12_writes_34 (by decide) ?_
  refine ev_iadd dX12_writes_35 ?_
  refine evM_iast hM hF (k := 12) (o := 23) (by decide) dX12_writes_36 (ix_n (by omega)) (by show _ < (ρ.1 12).length; omega) (fun μ hM hF => ?_)
  refine ev_vret dX12_writes_37 rfl ?_
  refine ⟨rfl, ⟨_, hM, ⟨ML.setA (ML.setA hL (by rw [List.length_set])) (by rw [List.length_set]), (EqE.rf.sA (by decide)).sA (by decide), fun i hi => ?_, fun i hi => ?_⟩, ⟨?_, ?_⟩, h2, h3, h4, h5⟩, hF⟩
  · show ((ρ.1 11).set (170 * r + P.2.1.length) c)[i]? = _
    rw [List.getElem?_set_ne (by omega)]
  · show ((ρ.1 12).set r _)[i]? = _
    rw [List.getElem?_set_ne (by omega)]
  · show ((ρ.1 12).set r (nI P.2.1.length + 1))[r]? = _
    rw [List.getElem?_set_self (by omega), nI_1, List.length_append, List.length_singleton]
  · intro k x hk
    show ((ρ.1 11).set (170 * r + P.2.1.length) c)[170 * r + k]? = _
    rw [List.getElem?_append] at hk
    split at hk
    · rw [List.getElem?_set_ne (by omega)]; exact h1.2 k x hk
    · have hk2 := (List.getElem?_eq_some_iff.mp hk).1
      simp only [List.length_singleton] at hk2
      have : k = P.2.1.length := by omega
      subst this
      rw [List.getElem?_set_self (by omega)]
      simpa using hk
theorem c_top {μ : Mm} (hM : RM b ρ μ) (hL : ML ρ) {P : PS} (hP : PM ρ r P) (h200 : P.1.length < 200) : Pu g 0 mX12_top [.ref b] μ (tpH P.1) := by
  refine Mt.of0 (ls0 := [some (.ref b)]) (by decide) (by simp [Value.category]) (Nat.le_of_ble_eq_true rfl) rfl ?_
  obtain ⟨h1, h2, h3, h4, h5⟩ := hP
  obtain ⟨H, C, o⟩ := P
  cases H with
  | nil =>
    refine ev_aload_n dX12_top_0 rfl ?_
    refine ev_get dX12_top_1 flX12_123_12 hM.1 rfl ?_
    refine ev_if_ne (tgt := 11) dX12_top_4 (by decide) (fun h4 => absurd (h3) h4) (fun _ => ?_)
    refine ev_iconst (v := 0) dX12_top_7 (by decide) ?_
    refine ev_goto (tgt := 22) dX12_top_8 (by decide) ?_
    refine ev_iret dX12_top_22 rfl ?_
    exact ⟨rfl, rfl⟩
  | cons x H =>
    have hh : (x :: H).length < 200 := h200
    simp only [List.length_cons] at hh
    refine ev_aload_n dX12_top_0 rfl ?_
    refine ev_get dX12_top_1 flX12_123_12 hM.1 rfl ?_
    refine ev_if_ne (tgt := 11) dX12_top_4 (by decide) (fun _ => ?_) (fun h4 => absurd h4 ((show ¬ ρ.2 22 = 0 by rw [h3, nI_eq0' (by simp only [List.length_cons]; omega)]; simp)))
    refine ev_aload_n dX12_top_11 rfl ?_
    refine ev_get dX12_top_12 flX12_45_12 hM.1 rfl ?_
    refine ev_aload_n dX12_top_15 rfl ?_
    refine ev_get dX12_top_16 flX12_123_12 hM.1 rfl ?_
    rw [h3]
    refine ev_iconst (v := 1) dX12_top_19 (by decide) ?_
    refine ev_isub dX12_top_20 ?_
    rw [List.length_cons, nI_pred]
    refine ev_iald dX12_top_21 (hM.a 13 24 (by decide)) (ix_n (by omega)) (h2.top) ?_
    refine ev_iret dX12_top_22 rfl ?_
    exact ⟨rfl, rfl⟩
theorem c_mayNot {μ : Mm} (hM : RM b ρ μ) (hL : ML ρ) {P : PS} (hP : PM ρ r P) (h200 : P.1.length < 200) : Pu g 1 mX12_mayNot [.ref b] μ (b2i (mayB P.1 = true)) := by
  refine Mt.of0 (ls0 := [some (.ref b), none]) (by decide) (by simp [Value.category]) (Nat.le_of_ble_eq_true rfl) rfl ?_
  have h3 := hP.2.2.1
  have e0 : ρ.2 22 = 0 ↔ P.1 = [] := by rw [h3, nI_eq0' (by omega)]; exact List.length_eq_zero_iff
  have em : mayB P.1 = true ↔ (P.1 = [] ∨ tpH P.1 = 10 ∨ tpH P.1 = 7 ∨ tpH P.1 = 6 ∨ tpH P.1 = 8) := decide_eq_true_iff
  refine ev_aload_n dX12_mayNot_0 rfl ?_
  refine k_v (c_top hM hL hP h200) (by decide) dX12_mayNot_1 cbX12_top (mt5 157 rfl rfl) (mt5 159 rfl rfl) (ms0 51 rfl rfl) (ci := 12) rfl hM.1 rfl rfl (Nat.le_of_ble_eq_true rfl) (fun v μ1 hq => ?_)
  obtain ⟨rfl, hμ⟩ := hq
  have hμ := hμ.symm
  subst hμ
  simp only [Option.toList, List.cons_append, List.nil_append]
  refine ev_istore_n dX12_mayNot_4 (by decide) ?_
  dsimp only [List.set]
  refine ev_aload_n dX12_mayNot_5 rfl ?_
  refine ev_get dX12_mayNot_6 flX12_123_12 hM.1 rfl ?_
  refine ev_if_eq (tgt := 36) dX12_mayNot_9 (by decide) (fun h9 => ?_) (fun h9 => ?_)
  · refine ev_iconst (v := 1) dX12_mayNot_36 (by decide) ?_
    refine ev_goto (tgt := 41) dX12_mayNot_37 (by decide) ?_
    refine ev_zret dX12_mayNot_41 rfl (by decide) ?_
    refine ⟨?_, rfl⟩
    first
      | (rw [b2i_t (em.mpr (Or.inl (e0.mp h9)))]; done)
      | (rw [b2i_t (em.mpr (Or.inr (Or.inl h15)))]; done)
      | (rw [b2i_t (em.mpr (Or.inr (Or.inr (Or.inl h21))))]; done)
      | (rw [b2i_t (em.mpr (Or.inr (Or.inr (Or.inr (Or.inl h27)))))]; done)
      | (rw [b2i_t (em.mpr (Or.inr (Or.inr (Or.inr (Or.inr h33)))))]; done)
      | (rw [b2i_f (fun q => (em.mp q).elim (fun q => h9 (e0.mpr q)) (fun q => q.elim h15 (fun q => q.elim h21 (fun q => q.elim h27 h33))))]; done)
  · refine ev_iload_n dX12_mayNot_12 rfl ?_
    refine ev_bipush (v := 10) dX12_mayNot_13 (by decide) ?_
    refine ev_icmp_eq (tgt := 36) dX12_mayNot_15 (by decide) (fun h15 => ?_) (fun h15 => ?_)
    · refine ev_iconst (v := 1) dX12_mayNot_36 (by decide) ?_
      refine ev_goto (tgt := 41) dX12_mayNot_37 (by decide) ?_
      refine ev_zret dX12_mayNot_41 rfl (by decide) ?_
      refine ⟨?_, rfl⟩
      first
        | (rw [b2i_t (em.mpr (Or.inl (e0.mp h9)))]; done)
        | (rw [b2i_t (em.mpr (Or.inr (Or.inl h15)))]; done)
        | (rw [b2i_t (em.mpr (Or.inr (Or.inr (Or.inl h21))))]; done)
        | (rw [b2i_t (em.mpr (Or.inr (Or.inr (Or.inr (Or.inl h27)))))]; done)
        | (rw [b2i_t (em.mpr (Or.inr (Or.inr (Or.inr (Or.inr h33)))))]; done)
        | (rw [b2i_f (fun q => (em.mp q).elim (fun q => h9 (e0.mpr q)) (fun q => q.elim h15 (fun q => q.elim h21 (fun q => q.elim h27 h33))))]; done)
    · refine ev_iload_n dX12_mayNot_18 rfl ?_
      refine ev_bipush (v := 7) dX12_mayNot_19 (by decide) ?_
      refine ev_icmp_eq (tgt := 36) dX12_mayNot_21 (by decide) (fun h21 => ?_) (fun h21 => ?_)
      · refine ev_iconst (v := 1) dX12_mayNot_36 (by decide) ?_
        refine ev_goto (tgt := 41) dX12_mayNot_37 (by decide) ?_
        refine ev_zret dX12_mayNot_41 rfl (by decide) ?_
        refine ⟨?_, rfl⟩
        first
          | (rw [b2i_t (em.mpr (Or.inl (e0.mp h9)))]; done)
          | (rw [b2i_t (em.mpr (Or.inr (Or.inl h15)))]; done)
          | (rw [b2i_t (em.mpr (Or.inr (Or.inr (Or.inl h21))))]; done)
          | (rw [b2i_t (em.mpr (Or.inr (Or.inr (Or.inr (Or.inl h27)))))]; done)
          | (rw [b2i_t (em.mpr (Or.inr (Or.inr (Or.inr (Or.inr h33)))))]; done)
          | (rw [b2i_f (fun q => (em.mp q).elim (fun q => h9 (e0.mpr q)) (fun q => q.elim h15 (fun q => q.elim h21 (fun q => q.elim h27 h33))))]; done)
      · refine ev_iload_n dX12_mayNot_24 rfl ?_
        refine ev_bipush (v := 6) dX12_mayNot_25 (by decide) ?_
        refine ev_icmp_eq (tgt := 36) dX12_mayNot_27 (by decide) (fun h27 => ?_) (fun h27 => ?_)
        · refine ev_iconst (v := 1) dX12_mayNot_36 (by decide) ?_
          refine ev_goto (tgt := 41) dX12_mayNot_37 (by decide) ?_
          refine ev_zret dX12_mayNot_41 rfl (by decide) ?_
          refine ⟨?_, rfl⟩
          first
            | (rw [b2i_t (em.mpr (Or.inl (e0.mp h9)))]; done)
            | (rw [b2i_t (em.mpr (Or.inr (Or.inl h15)))]; done)
            | (rw [b2i_t (em.mpr (Or.inr (Or.inr (Or.inl h21))))]; done)
            | (rw [b2i_t (em.mpr (Or.inr (Or.inr (Or.inr (Or.inl h27)))))]; done)
            | (rw [b2i_t (em.mpr (Or.inr (Or.inr (Or.inr (Or.inr h33)))))]; done)
            | (rw [b2i_f (fun q => (em.mp q).elim (fun q => h9 (e0.mpr q)) (fun q => q.elim h15 (fun q => q.elim h21 (fun q => q.elim h27 h33))))]; done)
        · refine ev_iload_n dX12_mayNot_30 rfl ?_
          refine ev_bipush (v := 8) dX12_mayNot_31 (by decide) ?_
          refine ev_icmp_ne (tgt := 40) dX12_mayNot_33 (by decide) (fun h33 => ?_) (fun h33 => ?_)
          · refine ev_iconst (v := 0) dX12_mayNot_40 (by decide) ?_
            refine ev_zret dX12_mayNot_41 rfl (by decide) ?_
            refine ⟨?_, rfl⟩
            first
              | (rw [b2i_t (em.mpr (Or.inl (e0.mp h9)))]; done)
              | (rw [b2i_t (em.mpr (Or.inr (Or.inl h15)))]; done)
              | (rw [b2i_t (em.mpr (Or.inr (Or.inr (Or.inl h21))))]; done)
              | (rw [b2i_t (em.mpr (Or.inr (Or.inr (Or.inr (Or.inl h27)))))]; done)
              | (rw [b2i_t (em.mpr (Or.inr (Or.inr (Or.inr (Or.inr h33)))))]; done)
              | (rw [b2i_f (fun q => (em.mp q).elim (fun q => h9 (e0.mpr q)) (fun q => q.elim h15 (fun q => q.elim h21 (fun q => q.elim h27 h33))))]; done)
          · refine ev_iconst (v := 1) dX12_mayNot_36 (by decide) ?_
            refine ev_goto (tgt := 41) dX12_mayNot_37 (by decide) ?_
            refine ev_zret dX12_mayNot_41 rfl (by decide) ?_
            refine ⟨?_, rfl⟩
            first
              | (rw [b2i_t (em.mpr (Or.inl (e0.mp h9)))]; done)
              | (rw [b2i_t (em.mpr (Or.inr (Or.inl h15)))]; done)
              | (rw [b2i_t (em.mpr (Or.inr (Or.inr (Or.inl h21))))]; done)
              | (rw [b2i_t (em.mpr (Or.inr (Or.inr (Or.inr (Or.inl h27)))))]; done)
              | (rw [b2i_t (em.mpr (Or.inr (Or.inr (Or.inr (Or.inr h33)))))]; done)
              | (rw [b2i_f (fun q => (em.mp q).elim (fun q => h9 (e0.mpr q)) (fun q => q.elim h15 (fun q => q.elim h21 (fun q => q.elim h27 h33))))]; done)
theorem c_holds {μ : Mm} (hM : RM b ρ μ) (hL : ML ρ) {P : PS} (hP : PM ρ r P) (h200 : P.1.length < 200) (x : Int32) : Mt g 0 mX12_holds [.ref b, .int x] μ (fun v μ' => v = none ∧ WrQ b r ρ (psh x P) μ μ') := by
  refine Mt.of0 (ls0 := [some (.ref b), some (.int x)]) (by decide) (by simp [Value.category]) (Nat.le_of_ble_eq_true rfl) rfl ?_
  have hF : FM b μ μ := FM.rf
  obtain ⟨h1, h2, h3, h4, h5⟩ := hP
  have l13 := hL.at (k := 13) (n := 200) (by decide)
  refine ev_aload_n dX12_holds_0 rfl ?_
  refine ev_get dX12_holds_1 flX12_45_12 hM.1 rfl ?_
  refine ev_aload_n dX12_holds_4 rfl ?_
  refine ev_get dX12_holds_5 flX12_123_12 hM.1 rfl ?_
  rw [h3]
  refine ev_iload_n dX12_holds_8 rfl ?_
  refine evM_iast hM hF (k := 13) (o := 24) (by decide) dX12_holds_9 (ix_n (by omega)) (by show _ < (ρ.1 13).length; omega) (fun μ hM hF => ?_)
  refine ev_aload_n dX12_holds_10 rfl ?_
  refine ev_dup dX12_holds_11 rfl ?_
  refine ev_get dX12_holds_12 flX12_123_12 hM.1 rfl ?_
  refine ev_iconst (v := 1) dX12_holds_15 (by decide) ?_
  refine ev_iadd dX12_holds_16 ?_
  refine evM_put hM hF (k := 22) (by decide) dX12_holds_17 fpX12_123_12 rfl rfl (fun μ hM hF => ?_)
  refine ev_vret dX12_holds_20 rfl ?_
  refine ⟨rfl, ⟨_, hM, ⟨ML.setI (ML.setA hL (by rw [List.length_set])), (EqE.rf.sA (by decide)).sI (by decide), fun i hi => rfl, fun i hi => rfl⟩, ⟨h1, h2.push x (by omega), ?_, h4, h5⟩⟩, hF⟩
  show ρ.2 22 + 1 = _
  rw [h3, nI_1]; rfl
theorem c_lets {μ : Mm} (hM : RM b ρ μ) (hL : ML ρ) (hr : r < 18) {x : Int32} {H C : List Int32} {o : Int32} (hP : PM ρ r (x :: H, C, o)) (hsz : H.length + C.length < 160) : Mt g 1 mX12_lets [.ref b] μ (fun v μ' => v = none ∧ WrQ b r ρ (H, C ++ [30000 + x], if x = 8 ∨ x = 9 then o - 1 else o) μ μ') := by
  refine Mt.of0 (ls0 := [some (.ref b), none]) (by decide) (by simp [Value.category]) (Nat.le_of_ble_eq_true rfl) rfl ?_
  have hF : FM b μ μ := FM.rf
  obtain ⟨h1, h2, h3, h4, h5⟩ := hP
  have e22 : ρ.2 22 - 1 = nI H.length := by rw [h3]; exact nI_pred _
  refine ev_aload_n dX12_lets_0 rfl ?_
  refine ev_dup dX12_lets_1 rfl ?_
  refine ev_get dX12_lets_2 flX12_123_12 hM.1 rfl ?_
  refine ev_iconst (v := 1) dX12_lets_5 (by decide) ?_
  refine ev_isub dX12_lets_6 ?_
  rw [e22]
  refine evM_put hM hF (k := 22) (by decide) dX12_lets_7 fpX12_123_12 rfl rfl (fun μ hM hF => ?_)
  refine ev_aload_n dX12_lets_10 rfl ?_
  refine ev_get dX12_lets_11 flX12_45_12 hM.1 rfl ?_
  refine ev_aload_n dX12_lets_14 rfl ?_
  refine ev_get dX12_lets_15 flX12_123_12 hM.1 rfl ?_
  rw [show (setI ρ 22 (nI H.length)).2 22 = nI H.length from rfl]
  refine ev_iald dX12_lets_18 (hM.a 13 24 (by decide)) (ix_n (by omega)) h2.top ?_
  refine ev_istore_n dX12_lets_19 (by decide) ?_
  dsimp only [List.set]
  refine ev_iload_n dX12_lets_20 rfl ?_
  refine ev_bipush (v := 8) dX12_lets_21 (by decide) ?_
  refine ev_icmp_eq (tgt := 32) dX12_lets_23 (by decide) (fun h23 => ?_) (fun h23 => ?_)
  · refine ev_aload_n dX12_lets_32 rfl ?_
    refine ev_dup dX12_lets_33 rfl ?_
    refine ev_get dX12_lets_34 flX12_126_12 hM.1 rfl ?_
    refine ev_iconst (v := 1) dX12_lets_37 (by decide) ?_
    refine ev_isub dX12_lets_38 ?_
    refine evM_put hM hF (k := 21) (by decide) dX12_lets_39 fpX12_126_12 rfl rfl (fun μ hM hF => ?_)
    refine ev_aload_n dX12_lets_42 rfl ?_
    refine ev_sipush (v := 30000) dX12_lets_43 (by decide) ?_
    refine ev_iload_n dX12_lets_46 rfl ?_
    refine ev_iadd dX12_lets_47 ?_
    refine k_v (show Mt g 0 mX12_writes [.ref b, .int (30000 + x)] _ (fun v μ' => v = none ∧ WrQ b r _ (H, C ++ [30000 + x], if x = 8 ∨ x = 9 then o - 1 else o) _ μ') from by
      first
        | exact c_writes (P := (H, C, if x = 8 ∨ x = 9 then o - 1 else o)) hM (ML.setI (ML.setI hL)) hr ⟨h1, h2.pop, rfl, by rw [if_pos (by first | exact Or.inl h23 | exact Or.inr h29)]; show ρ.2 21 - 1 = _; rw [h4], h5⟩ (by show C.length < 170; omega) _
        | exact c_writes (P := (H, C, if x = 8 ∨ x = 9 then o - 1 else o)) hM (ML.setI hL) hr ⟨h1, h2.pop, rfl, by rw [if_neg (fun q => q.elim h23 h29)]; exact h4, h5⟩ (by show C.length < 170; omega) _) (by decide) dX12_lets_48 cbX12_writes (mt5 3 rfl rfl) (mt5 5 rfl rfl) (ms0 44 rfl rfl) (ci := 12) rfl hM.1 rfl rfl (Nat.le_of_ble_eq_true rfl) (fun v μ1 hq => ?_)
    obtain ⟨rfl, ⟨ρ2, hM2, hE2, hP2⟩, hF2⟩ := hq; have hF := hF.tr hF2
    simp only [Option.toList, List.cons_append, List.nil_append]
    refine ev_vret dX12_lets_51 rfl ?_
    first
      | exact ⟨rfl, ⟨ρ2, hM2, hE2.tr ⟨ML.setI (ML.setI hL), (EqE.rf.sI (by decide)).sI (by decide), fun _ _ => rfl, fun _ _ => rfl⟩, hP2⟩, hF⟩
      | exact ⟨rfl, ⟨ρ2, hM2, hE2.tr ⟨ML.setI hL, EqE.rf.sI (by decide), fun _ _ => rfl, fun _ _ => rfl⟩, hP2⟩, hF⟩
  · refine ev_iload_n dX12_lets_26 rfl ?_
    refine ev_bipush (v := 9) dX12_lets_27 (by decide) ?_
    refine ev_icmp_ne (tgt := 42) dX12_lets_29 (by decide) (fun h29 => ?_) (fun h29 => ?_)
    · refine ev_aload_n dX12_lets_42 rfl ?_
      refine ev_sipush (v := 30000) dX12_lets_43 (by decide) ?_
      refine ev_iload_n dX12_lets_46 rfl ?_
      refine ev_iadd dX12_lets_47 ?_
      refine k_v (show Mt g 0 mX12_writes [.ref b, .int (30000 + x)] _ (fun v μ' => v = none ∧ WrQ b r _ (H, C ++ [30000 + x], if x = 8 ∨ x = 9 then o - 1 else o) _ μ') from by
        first
          | exact c_writes (P := (H, C, if x = 8 ∨ x = 9 then o - 1 else o)) hM (ML.setI (ML.setI hL)) hr ⟨h1, h2.pop, rfl, by rw [if_pos (by first | exact Or.inl h23 | exact Or.inr h29)]; show ρ.2 21 - 1 = _; rw [h4], h5⟩ (by show C.length < 170; omega) _
          | exact c_writes (P := (H, C, if x = 8 ∨ x = 9 then o - 1 else o)) hM (ML.setI hL) hr ⟨h1, h2.pop, rfl, by rw [if_neg (fun q => q.elim h23 h29)]; exact h4, h5⟩ (by show C.length < 170; omega) _) (by decide) dX12_lets_48 cbX12_writes (mt5 3 rfl rfl) (mt5 5 rfl rfl) (ms0 44 rfl rfl) (ci := 12) rfl hM.1 rfl rfl (Nat.le_of_ble_eq_true rfl) (fun v μ1 hq => ?_)
      obtain ⟨rfl, ⟨ρ2, hM2, hE2, hP2⟩, hF2⟩ := hq; have hF := hF.tr hF2
      simp only [Option.toList, List.cons_append, List.nil_append]
      refine ev_vret dX12_lets_51 rfl ?_
      first
        | exact ⟨rfl, ⟨ρ2, hM2, hE2.tr ⟨ML.setI (ML.setI hL), (EqE.rf.sI (by decide)).sI (by decide), fun _ _ => rfl, fun _ _ => rfl⟩, hP2⟩, hF⟩
        | exact ⟨rfl, ⟨ρ2, hM2, hE2.tr ⟨ML.setI hL, EqE.rf.sI (by decide), fun _ _ => rfl, fun _ _ => rfl⟩, hP2⟩, hF⟩
    · refine ev_aload_n dX12_lets_32 rfl ?_
      refine ev_dup dX12_lets_33 rfl ?_
      refine ev_get dX12_lets_34 flX12_126_12 hM.1 rfl ?_
      refine ev_iconst (v := 1) dX12_lets_37 (by decide) ?_
      refine ev_isub dX12_lets_38 ?_
      refine evM_put hM hF (k := 21) (by decide) dX12_lets_39 fpX12_126_12 rfl rfl (fun μ hM hF => ?_)
      refine ev_aload_n dX12_lets_42 rfl ?_
      refine ev_sipush (v := 30000) dX12_lets_43 (by decide) ?_
      refine ev_iload_n dX12_lets_46 rfl ?_
      refine ev_iadd dX12_lets_47 ?_
      refine k_v (show Mt g 0 mX12_writes [.ref b, .int (30000 + x)] _ (fun v μ' => v = none ∧ WrQ b r _ (H, C ++ [30000 + x], if x = 8 ∨ x = 9 then o - 1 else o) _ μ') from by
        first
          | exact c_writes (P := (H, C, if x = 8 ∨ x = 9 then o - 1 else o)) hM (ML.setI (ML.setI hL)) hr ⟨h1, h2.pop, rfl, by rw [if_pos (by first | exact Or.inl h23 | exact Or.inr h29)]; show ρ.2 21 - 1 = _; rw [h4], h5⟩ (by show C.length < 170; omega) _
          | exact c_writes (P := (H, C, if x = 8 ∨ x = 9 then o - 1 else o)) hM (ML.setI hL) hr ⟨h1, h2.pop, rfl, by rw [if_neg (fun q => q.elim h23 h29)]; exact h4, h5⟩ (by show C.length < 170; omega) _) (by decide) dX12_lets_48 cbX12_writes (mt5 3 rfl rfl) (mt5 5 rfl rfl) (ms0 44 rfl rfl) (ci := 12) rfl hM.1 rfl rfl (Nat.le_of_ble_eq_true rfl) (fun v μ1 hq => ?_)
      obtain ⟨rfl, ⟨ρ2, hM2, hE2, hP2⟩, hF2⟩ := hq; have hF := hF.tr hF2
      simp only [Option.toList, List.cons_append, List.nil_append]
      refine ev_vret dX12_lets_51 rfl ?_
      first
        | exact ⟨rfl, ⟨ρ2, hM2, hE2.tr ⟨ML.setI (ML.setI hL), (EqE.rf.sI (by decide)).sI (by decide), fun _ _ => rfl, fun _ _ => rfl⟩, hP2⟩, hF⟩
        | exact ⟨rfl, ⟨ρ2, hM2, hE2.tr ⟨ML.setI hL, EqE.rf.sI (by decide), fun _ _ => rfl, fun _ _ => rfl⟩, hP2⟩, hF⟩
theorem l_letsFrom (hr : r < 18) {h : Int32} {ρ0 : MS} {μ0 : Mm} : ∀ (H C : List Int32) (o : Int32) (ρ : MS) (μ : Mm), RM b ρ μ → PE r ρ ρ0 → PM ρ r (H, C, o) → H.length + C.length ≤ 160 → FM b μ0 μ → Ev g 2 mX12_letsFrom 0 [some (.ref b), some (.int h)] [] μ (fun v μ' => v = none ∧ WrQ b r ρ0 (ltF h H C o) μ0 μ') := by
  intro H
  induction H with
  | nil =>
    intro C o ρ μ hM hE hP hsz hF
    refine ev_aload_n dX12_letsFrom_0 rfl ?_
    refine ev_get dX12_letsFrom_1 flX12_123_12 hM.1 rfl ?_
    refine ev_if_le (tgt := 25) dX12_letsFrom_4 (by decide) (fun _ => ?_) (fun h4 => absurd ((show ρ.2 22 ≤ 0 by rw [hP.2.2.1]; exact Int32.le_refl _)) h4)
    refine ev_vret dX12_letsFrom_25 rfl ?_
    exact ⟨rfl, ⟨ρ, hM, hE, hP⟩, hF⟩
  | cons x H ih =>
    intro C o ρ μ hM hE hP hsz hF
    simp only [List.length_cons] at hsz
    rw [ltF]
    refine ev_aload_n dX12_letsFrom_0 rfl ?_
    refine ev_get dX12_letsFrom_1 flX12_123_12 hM.1 rfl ?_
    refine ev_if_le (tgt := 25) dX12_letsFrom_4 (by decide) (fun h4 => absurd h4 ((show ¬ ρ.2 22 ≤ 0 by rw [hP.2.2.1]; exact nI_nle (by simp) (by simp only [List.length_cons]; omega)))) (fun _ => ?_)
    refine ev_aload_n dX12_letsFrom_7 rfl ?_
    refine k_v (show Pu g 0 mX12_top [.ref b] _ x from c_top hM hE.1 hP (by simp only [List.length_cons]; omega)) (by decide) dX12_letsFrom_8 cbX12_top (mt5 157 rfl rfl) (mt5 159 rfl rfl) (ms0 51 rfl rfl) (ci := 12) rfl hM.1 rfl rfl (Nat.le_of_ble_eq_true rfl) (fun v μ1 hq => ?_)
    obtain ⟨rfl, hμ⟩ := hq
    have hμ := hμ.symm
    subst hμ
    simp only [Option.toList, List.cons_append, List.nil_append]
    refine k_s (show Pu g 0 mX12_heightOf [.int x] _ (hgt x) from c_heightOf x) (by decide) dX12_letsFrom_11 cbX12_heightOf (mt5 173 rfl rfl) (mt5 174 rfl rfl) rfl rfl (Nat.le_of_ble_eq_true rfl) (fun v μ1 hq => ?_)
    obtain ⟨rfl, hμ⟩ := hq
    have hμ := hμ.symm
    subst hμ
    simp only [Option.toList, List.cons_append, List.nil_append]
    refine ev_iload_n dX12_letsFrom_14 rfl ?_
    refine ev_icmp_lt (tgt := 25) dX12_letsFrom_15 (by decide) (fun h15 => ?_) (fun h15 => ?_)
    · refine ev_vret dX12_letsFrom_25 rfl ?_
      rw [if_neg (Int32.not_le.mpr h15)]
      exact ⟨rfl, ⟨ρ, hM, hE, hP⟩, hF⟩
    · refine ev_aload_n dX12_letsFrom_18 rfl ?_
      refine k_v (c_lets hM hE.1 hr hP (by omega)) (by decide) dX12_letsFrom_19 cbX12_lets (mt5 176 rfl rfl) (mt5 178 rfl rfl) (ms0 55 rfl rfl) (ci := 12) rfl hM.1 rfl rfl (Nat.le_of_ble_eq_true rfl) (fun v μ1 hq => ?_)
      obtain ⟨rfl, ⟨ρ2, hM2, hE2, hP2⟩, hF2⟩ := hq; have hF := hF.tr hF2
      simp only [Option.toList, List.cons_append, List.nil_append]
      refine ev_goto (tgt := 0) dX12_letsFrom_22 (by decide) ?_
      rw [if_pos (Int32.not_lt.mp h15)]
      exact ih _ _ ρ2 _ hM2 (hE2.tr hE) hP2 (by simp; omega) hF
theorem c_letsFrom {μ : Mm} (hM : RM b ρ μ) (hL : ML ρ) (hr : r < 18) {P : PS} (hP : PM ρ r P) (hsz : szP P ≤ 160) (h : Int32) : Mt g 2 mX12_letsFrom [.ref b, .int h] μ (fun v μ' => v = none ∧ WrQ b r ρ (ltP h P) μ μ') := by
  refine Mt.of0 (ls0 := [some (.ref b), some (.int h)]) (by decide) (by simp [Value.category]) (Nat.le_of_ble_eq_true rfl) rfl ?_
  exact l_letsFrom hr P.1 P.2.1 P.2.2 ρ μ hM (PE.rf hL) hP hsz FM.rf
end MPARSE
