/-! ===== the reference: its state between calls, and rounds ===== -/
def coreA : List Nat := [0, 1, 2, 3, 4, 5, 6, 10, 11, 12, 29, 33, 34, 35]
def coreI : List Nat := [7, 8, 15, 16, 30]
/-- what counts of the state from call to call -/
def EqC (ρ ρ' : MS) : Prop := (∀ k ∈ coreA, ρ.1 k = ρ'.1 k) ∧ ∀ k ∈ coreI, ρ.2 k = ρ'.2 k
theorem EqC.rf {ρ : MS} : EqC ρ ρ := ⟨fun _ _ => rfl, fun _ _ => rfl⟩
theorem EqC.tr {a b c : MS} (h : EqC a b) (k : EqC b c) : EqC a c := ⟨fun q hq => (h.1 q hq).trans (k.1 q hq), fun q hq => (h.2 q hq).trans (k.2 q hq)⟩
theorem EqC.fc {ρ ρ' : MS} (h : EqC ρ ρ') : Fc ρ = Fc ρ' := by
  funext k x
  show (if k < 5 then (ρ.1 k).getD x 0 else 0) = (if k < 5 then (ρ'.1 k).getD x 0 else 0)
  split
  · rename_i hk
    rw [h.1 k (by revert k; decide)]
  · rfl
theorem EqC.se {ρ ρ' : MS} (h : EqC ρ ρ') : Se ρ = Se ρ' := by
  funext i
  show (ρ.1 6).getD i 0 = (ρ'.1 6).getD i 0
  rw [h.1 6 (by decide)]
theorem EqC.rc {ρ ρ' : MS} (h : EqC ρ ρ') {r : Nat} {c : List Int32} (hc : RC ρ' r c) : RC ρ r c := by
  unfold RC
  rw [h.1 11 (by decide), h.1 12 (by decide)]
  exact hc
theorem EqC.sA {ρ ρ' : MS} (h : EqC ρ ρ') {k : Nat} {l : List Int32} (hk : k ∉ coreA) : EqC (setA ρ k l) ρ' := by
  refine ⟨fun q hq => ?_, h.2⟩
  simp only [setA]
  rw [if_neg (show ¬ q = k from fun e => hk (e ▸ hq))]
  exact h.1 q hq
theorem EqC.sI {ρ ρ' : MS} (h : EqC ρ ρ') {k : Nat} {v : Int32} (hk : k ∉ coreI) : EqC (setI ρ k v) ρ' := by
  refine ⟨h.1, fun q hq => ?_⟩
  simp only [setI]
  rw [if_neg (show ¬ q = k from fun e => hk (e ▸ hq))]
  exact h.2 q hq
/-- both sides write the same row -/
theorem EqC.cA {ρ ρ' : MS} (h : EqC ρ ρ') {k : Nat} {l : List Int32} : EqC (setA ρ k l) (setA ρ' k l) := by
  refine ⟨fun q hq => ?_, h.2⟩
  simp only [setA]
  split
  · rfl
  · exact h.1 q hq
theorem EqC.cI {ρ ρ' : MS} (h : EqC ρ ρ') {k : Nat} {v : Int32} : EqC (setI ρ k v) (setI ρ' k v) := by
  refine ⟨h.1, fun q hq => ?_⟩
  simp only [setI]
  split
  · rfl
  · exact h.2 q hq
/-- the reference's world between calls -/
def MW (b : Nat) (ρ : MS) (μ : Mm) : Prop := ∃ ρ', RM b ρ' μ ∧ ML ρ' ∧ EqC ρ' ρ
/-- a state that can come: n houses, rule t of tx texts, their rows, the list -/
def IM (ρ : MS) (n t tx : Nat) (cd : Nat → List Int32) (Lf : Nat → Nat) : Prop :=
  VF (Fc ρ) ∧ VS (Se ρ) ∧ (ρ.2 7 = nI n ∧ n ≤ 7) ∧ (ρ.2 8 = nI t ∧ t < tx) ∧ (ρ.2 16 = nI tx ∧ tx ≤ 6) ∧ (∀ r, r < 3 * tx → RC ρ r (cd r) ∧ WF (cd r)) ∧ (∀ i, i < n → (ρ.1 5)[i]? = some (nI (Lf i)) ∧ Lf i < n) ∧ ∀ h, h < n → ∃ i, i < n ∧ Lf i = h
theorem IM.eqc {ρ ρ' : MS} {n t tx : Nat} {cd : Nat → List Int32} {Lf : Nat → Nat} (h : IM ρ n t tx cd Lf) (e : EqC ρ' ρ) : IM ρ' n t tx cd Lf := by
  obtain ⟨h1, h2, h3, h4, h5, h6, h7, h8⟩ := h
  refine ⟨by rw [e.fc]; exact h1, by rw [e.se]; exact h2, by rw [e.2 7 (by decide)]; exact h3, by rw [e.2 8 (by decide)]; exact h4, by rw [e.2 16 (by decide)]; exact h5, fun r hr => ⟨e.rc (h6 r hr).1, (h6 r hr).2⟩, by rw [e.1 5 (by decide)]; exact h7, h8⟩
theorem IM.ru {ρ : MS} {n t tx : Nat} {cd : Nat → List Int32} {Lf : Nat → Nat} (h : IM ρ n t tx cd Lf) : RU ρ t (fun w => cd (3 * t + w)) := by
  obtain ⟨h1, h2, h3, h4, h5, h6, h7⟩ := h
  refine ⟨h4.1, by omega, fun w hw => h6 _ (by omega)⟩
theorem IM.s3 {ρ : MS} {n t tx : Nat} {cd : Nat → List Int32} {Lf : Nat → Nat} (h : IM ρ n t tx cd Lf) : ¬ Se ρ 3 = 0 := by
  intro e
  have := h.2.1.2.2.2.1.1
  rw [e] at this
  exact absurd this (by decide)
/-- the list as an order -/
def lsO (n : Nat) (Lf : Nat → Nat) : List Nat := (List.range n).map Lf
theorem lsO_len {n : Nat} {Lf : Nat → Nat} : (lsO n Lf).length = n := by simp [lsO]
theorem lsO_at {n i h : Nat} {Lf : Nat → Nat} (hh : (lsO n Lf)[i]? = some h) : i < n ∧ h = Lf i := by
  have hi : i < n := by have := (List.getElem?_eq_some_iff.mp hh).1; rwa [lsO_len] at this
  refine ⟨hi, ?_⟩
  have h2 := (List.getElem?_eq_some_iff.mp hh).2
  simp [lsO] at h2
  exact h2.symm
theorem set24 {ρ : MS} {l l' : List Int32} : setA (setA ρ 24 l) 24 l' = setA ρ 24 l' := by
  simp only [setA]
  congr 1
  funext q
  split <;> rfl
theorem setA_at {ρ : MS} {k : Nat} {l : List Int32} : (setA ρ k l).1 k = l := by simp [setA]
theorem setA_self {ρ : MS} {k : Nat} : setA ρ k (ρ.1 k) = ρ := by
  refine Prod.ext ?_ rfl
  funext q
  show (if q = k then ρ.1 k else ρ.1 q) = ρ.1 q
  split
  · rename_i h; rw [h]
  · rfl
section MROUND
variable {g : Gl} {μ : Mm} {b : Nat} {ρ : MS}
theorem l_takesList (hL : ML ρ) {n : Nat} {Lf : Nat → Nat} (hN : ρ.2 7 = nI n) (hn : n ≤ 7) (hI : ∀ i, i < n → (ρ.1 5)[i]? = some (nI (Lf i))) {μ0 : Mm} : ∀ (m k : Nat) (l : List Int32) (μ : Mm), k + m = n → l.length = 7 → (∀ i, i < k → l[i]? = some (nI (Lf i))) → RM b (setA ρ 24 l) μ → FM b μ0 μ → Ev g 0 mX12_takesList 10 [some (.ref b), some (.int (nI k))] [] μ (fun v μ' => v = none ∧ (∃ l, l.length = 7 ∧ (∀ i, i < n → l[i]? = some (nI (Lf i))) ∧ RM b (setA ρ 24 l) μ') ∧ FM b μ0 μ') := by
  intro m
  induction m with
  | zero =>
    intro k l μ hk hl hi hM hF
    refine ev_iload_n dX12_takesList_10 rfl ?_
    refine ev_aload_n dX12_takesList_11 rfl ?_
    refine ev_get dX12_takesList_12 flX12_82_12 hM.1 rfl ?_
    refine ev_icmp_ge (tgt := 36) dX12_takesList_15 (by decide) (fun _ => ?_) (fun h15 => absurd ((show ρ.2 7 ≤ nI k by rw [hN]; exact nI_le (by omega) (by omega))) h15)
    refine ev_vret dX12_takesList_36 rfl ?_
    exact ⟨rfl, ⟨l, hl, fun i h => hi i (by omega), hM⟩, hF⟩
  | succ m ih =>
    intro k l μ hk hl hi hM hF
    refine ev_iload_n dX12_takesList_10 rfl ?_
    refine ev_aload_n dX12_takesList_11 rfl ?_
    refine ev_get dX12_takesList_12 flX12_82_12 hM.1 rfl ?_
    refine ev_icmp_ge (tgt := 36) dX12_takesList_15 (by decide) (fun h15 => absurd h15 ((show ¬ ρ.2 7 ≤ nI k by rw [hN]; exact nI_ge (by omega) (by omega)))) (fun _ => ?_)
    refine ev_aload_n dX12_takesList_18 rfl ?_
    refine ev_get dX12_takesList_19 flX12_55_12 hM.1 rfl ?_
    refine ev_iload_n dX12_takesList_22 rfl ?_
    refine ev_aload_n dX12_takesList_23 rfl ?_
    refine ev_get dX12_takesList_24 flX12_25_12 hM.1 rfl ?_
    refine ev_iload_n dX12_takesList_27 rfl ?_
    refine ev_iald dX12_takesList_28 (hM.a 5 6 (by decide)) (ix_n (by omega)) (hI k (by omega)) ?_
    refine evM_iast hM hF (k := 24) (o := 26) (by decide) dX12_takesList_29 (ix_n (by omega)) (show k < ((setA ρ 24 l).1 24).length by rw [setA_at, hl]; omega) (fun μ hM hF => ?_)
    rw [setA_at, set24] at hM
    refine ev_iinc dX12_takesList_30 rfl (by decide) ?_
    dsimp only [List.set]
    refine ev_goto (tgt := 10) dX12_takesList_33 (by decide) ?_
    rw [nI_inc]
    refine ih (k + 1) _ μ (by omega) (by simpa using hl) (fun i h => ?_) hM hF
    rw [List.getElem?_set]
    split
    · rename_i e; subst e; rw [if_pos (by omega)]
    · exact hi i (by omega)
/-- takesList(): the order is the list -/
theorem c_takesList (hM : RM b ρ μ) (hL : ML ρ) {n t tx : Nat} {cd : Nat → List Int32} {Lf : Nat → Nat} (hI : IM ρ n t tx cd Lf) : Mt g 0 mX12_takesList [.ref b] μ (fun v μ' => v = none ∧ (∃ ρ', RM b ρ' μ' ∧ ML ρ' ∧ EqC ρ' ρ ∧ OM ρ' (lsO n Lf)) ∧ FM b μ μ') := by
  refine Mt.of0 (ls0 := [some (.ref b), none]) (by decide) (by simp [Value.category]) (Nat.le_of_ble_eq_true rfl) rfl ?_
  have hF : FM b μ μ := FM.rf
  obtain ⟨h1, h2, h3, h4, h5, h6, h7, h8⟩ := hI
  refine ev_aload_n dX12_takesList_0 rfl ?_
  refine ev_aload_n dX12_takesList_1 rfl ?_
  refine ev_get dX12_takesList_2 flX12_82_12 hM.1 rfl ?_
  refine evM_put hM hF (k := 26) (by decide) dX12_takesList_5 fpX12_208_12 rfl rfl (fun μ hM hF => ?_)
  refine ev_iconst (v := 0) dX12_takesList_8 (by decide) ?_
  refine ev_istore_n dX12_takesList_9 (by decide) ?_
  dsimp only [List.set]
  have hM : RM b (setA (setI ρ 26 (ρ.2 7)) 24 (ρ.1 24)) μ := by
    have e : setA (setI ρ 26 (ρ.2 7)) 24 (ρ.1 24) = setI ρ 26 (ρ.2 7) := setA_self
    rw [e]; exact hM
  refine Ev.imp (l_takesList (ρ := setI ρ 26 (ρ.2 7)) (ML.setI hL) h3.1 h3.2 (fun i hi => (h7 i hi).1) n 0 (ρ.1 24) μ (by omega) (hL.at (by decide)) (fun i h => absurd h (by omega)) hM hF) ?_
  rintro v μ' ⟨hv, ⟨l, hl, hi, hM'⟩, hF'⟩
  refine ⟨hv, ⟨_, hM', ML.setA (ML.setI hL) (by rw [hl]; exact (hL.at (k := 24) (n := 7) (by decide)).symm), (EqC.rf.sI (by decide)).sA (by decide), ?_⟩, hF'⟩
  refine ⟨by rw [lsO_len]; exact h3.1, by rw [lsO_len]; exact h3.2, fun i h hh => ?_⟩
  obtain ⟨q1, rfl⟩ := lsO_at hh
  exact ⟨by rw [setA_at]; exact hi i q1, by have := (h7 i q1).2; omega⟩
end MROUND
