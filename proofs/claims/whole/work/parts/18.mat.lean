/-! ===== the reference: at, round, shifted ===== -/
theorem stg_D {l : List Int32} {h q : Nat} {x : Int32} (hh : h < l.length) : (l.set h x).getD q 0 = if q = h then x else l.getD q 0 := getD_set hh q
/-- the round's end and its ways back don't hang on what stood in 'there'; who is walked to is written anew -/
theorem wlk_th {F : Nat → Nat → Int32} {S : Nat → Int32} : ∀ (r : List Nat) (mi at' on : Int32) (pp : Nat) (bk : Int32) (th th' : List Int32), th.length = 7 → th'.length = 7 → (∀ h ∈ r, h < 7) →
    (wlk F S r mi at' on pp bk th).1 = (wlk F S r mi at' on pp bk th').1 ∧ (wlk F S r mi at' on pp bk th).2.1 = (wlk F S r mi at' on pp bk th').2.1 ∧ (wlk F S r mi at' on pp bk th).2.2.length = 7 ∧ ∀ q, (q ∈ r ∨ th.getD q 0 = th'.getD q 0) → (wlk F S r mi at' on pp bk th).2.2.getD q 0 = (wlk F S r mi at' on pp bk th').2.2.getD q 0 := by
  intro r
  induction r with
  | nil =>
    intro mi at' on pp bk th th' h1 h2 _
    refine ⟨rfl, rfl, h1, fun q hq => ?_⟩
    rcases hq with hq | hq
    · cases hq
    · exact hq
  | cons h r ih =>
    intro mi at' on pp bk th th' h1 h2 hr
    have hh : h < 7 := hr h List.mem_cons_self
    have hr' : ∀ q ∈ r, q < 7 := fun q hq => hr q (List.mem_cons_of_mem _ hq)
    cases pp with
    | zero =>
      rw [wlk, wlk]
      obtain ⟨a1, a2, a3, a4⟩ := ih (wmi F S h (mi + far32 at' (S 1) (S 3)) (S 1) on + tks F S h) (F 2 h) (F 3 h) (tpk F S (h :: r) 0 0 - 1) (bk + 1) (th.set h (wmi F S h (mi + far32 at' (S 1) (S 3)) (S 1) on)) (th'.set h (wmi F S h (mi + far32 at' (S 1) (S 3)) (S 1) on)) (by simpa using h1) (by simpa using h2) hr'
      refine ⟨a1, a2, a3, fun q hq => a4 q ?_⟩
      rw [stg_D (by omega), stg_D (by omega)]
      by_cases e : q = h
      · right; rw [if_pos e, if_pos e]
      · rw [if_neg e, if_neg e]
        rcases hq with hq | hq
        · rcases List.mem_cons.mp hq with hq | hq
          · exact absurd hq e
          · exact Or.inl hq
        · exact Or.inr hq
    | succ pp =>
      rw [wlk, wlk]
      obtain ⟨a1, a2, a3, a4⟩ := ih (wmi F S h mi at' on + tks F S h) (F 2 h) (F 3 h) pp bk (th.set h (wmi F S h mi at' on)) (th'.set h (wmi F S h mi at' on)) (by simpa using h1) (by simpa using h2) hr'
      refine ⟨a1, a2, a3, fun q hq => a4 q ?_⟩
      rw [stg_D (by omega), stg_D (by omega)]
      by_cases e : q = h
      · right; rw [if_pos e, if_pos e]
      · rw [if_neg e, if_neg e]
        rcases hq with hq | hq
        · rcases List.mem_cons.mp hq with hq | hq
          · exact absurd hq e
          · exact Or.inl hq
        · exact Or.inr hq
/-- a round by an order: its end, ways back, and when each house is reached -/
def rd0 (F : Nat → Nat → Int32) (S : Nat → Int32) (os : List Nat) : Int32 × Int32 × List Int32 := wlk0 F S os (List.replicate 7 0)
theorem wlk0_rd {F : Nat → Nat → Int32} {S : Nat → Int32} {os : List Nat} {th : List Int32} (h1 : th.length = 7) (hr : ∀ h ∈ os, h < 7) : (wlk0 F S os th).1 = (rd0 F S os).1 ∧ (wlk0 F S os th).2.1 = (rd0 F S os).2.1 ∧ (wlk0 F S os th).2.2.length = 7 ∧ ∀ q ∈ os, (wlk0 F S os th).2.2.getD q 0 = (rd0 F S os).2.2.getD q 0 := by
  obtain ⟨a1, a2, a3, a4⟩ := wlk_th (F := F) (S := S) os (S 2) (S 1) 0 (tpk F S os 0 0) 0 th (List.replicate 7 0) h1 (by simp) hr
  exact ⟨a1, a2, a3, fun q hq => a4 q (Or.inl hq)⟩
theorem ltv_th {F : Nat → Nat → Int32} {S : Nat → Int32} {cd : Nat → List Int32} {th th' : List Int32} {h : Nat} (e : th.getD h 0 = th'.getD h 0) : ltv F S cd th h = ltv F S cd th' h := by
  rw [ltv, ltv, e]
theorem rngK_th {F : Nat → Nat → Int32} {S : Nat → Int32} {cd : Nat → List Int32} {th th' : List Int32} : ∀ (m k : Nat) (s : Int32), (∀ h, h < k + m → th.getD h 0 = th'.getD h 0) → rngK F S cd th m k s = rngK F S cd th' m k s := by
  intro m
  induction m with
  | zero => intro k s _; rfl
  | succ m ih => intro k s e; rw [rngK, rngK, ltv_th (e k (by omega)), ih _ _ (fun h hh => e h (by omega))]
theorem prsK_th {F : Nat → Nat → Int32} {S : Nat → Int32} {cd : Nat → List Int32} {th th' : List Int32} {w : Int32} : ∀ (m k : Nat) (s : Int32), (∀ h, h < k + m → th.getD h 0 = th'.getD h 0) → prsK F S cd th w m k s = prsK F S cd th' w m k s := by
  intro m
  induction m with
  | zero => intro k s _; rfl
  | succ m ih => intro k s e; rw [prsK, prsK, ltv_th (e k (by omega)), ih _ _ (fun h hh => e h (by omega))]
theorem lmnK_th {F : Nat → Nat → Int32} {S : Nat → Int32} {cd : Nat → List Int32} {th th' : List Int32} : ∀ (m k : Nat) (s : Int32), (∀ h, h < k + m → th.getD h 0 = th'.getD h 0) → lmnK F S cd th m k s = lmnK F S cd th' m k s := by
  intro m
  induction m with
  | zero => intro k s _; rfl
  | succ m ih => intro k s e; rw [lmnK, lmnK, ltv_th (e k (by omega)), ih _ _ (fun h hh => e h (by omega))]
/-- every house stands in the list -/
theorem lsO_all {n : Nat} {Lf : Nat → Nat} (h2 : ∀ h, h < n → ∃ i, i < n ∧ Lf i = h) : ∀ h, h < n → h ∈ lsO n Lf := by
  intro h hh
  obtain ⟨i, hi, rfl⟩ := h2 h hh
  exact List.mem_map.mpr ⟨i, List.mem_range.mpr hi, rfl⟩
/-- the answers -/
abbrev thr (ρ : MS) (n : Nat) (Lf : Nat → Nat) : List Int32 := (rd0 (Fc ρ) (Se ρ) (lsO n Lf)).2.2
abbrev cdt (t : Nat) (cd : Nat → List Int32) : Nat → List Int32 := fun w => cd (3 * t + w)
def ansAt (ρ : MS) (n t : Nat) (cd : Nat → List Int32) (Lf : Nat → Nat) (h w : Int32) : Int32 :=
  if (0 ≤ h ∧ h < nI n) ∧ 0 ≤ w ∧ w ≤ 2 then (if w = 0 then (thr ρ n Lf).getD h.toInt.toNat 0 else if w = 1 then ltv (Fc ρ) (Se ρ) (cdt t cd) (thr ρ n Lf) h.toInt.toNat else tpv (Fc ρ) (Se ρ) (cdt t cd) h.toInt.toNat (ltv (Fc ρ) (Se ρ) (cdt t cd) (thr ρ n Lf) h.toInt.toNat)) else -2
/-- a house's number out of an int -/
theorem house_n {h : Int32} {n : Nat} (hn : n ≤ 7) (h0 : 0 ≤ h) (h1 : h < nI n) : h.toInt.toNat < n ∧ h = nI h.toInt.toNat := by
  rw [Int32.le_iff_toInt_le, Int32.toInt_zero] at h0
  rw [Int32.lt_iff_toInt_lt, nI_i (by omega)] at h1
  refine ⟨by omega, ?_⟩
  apply Int32.toInt_inj.mp
  rw [nI_i (by omega)]
  omega
section MAT
variable {g : Gl} {μ : Mm} {b : Nat} {ρ : MS}
/-- behind takesList() and walks() -/
theorem after_walk {ρ1 : MS} {n t tx : Nat} {cd : Nat → List Int32} {Lf : Nat → Nat} (hI : IM ρ n t tx cd Lf) (hL1 : ML ρ1) (hE : EqC ρ1 ρ) {bk : Int32} : ML (wst ρ1 bk (wlk0 (Fc ρ1) (Se ρ1) (lsO n Lf) (ρ1.1 25)).2.2) ∧ EqC (wst ρ1 bk (wlk0 (Fc ρ1) (Se ρ1) (lsO n Lf) (ρ1.1 25)).2.2) ρ ∧ (wlk0 (Fc ρ1) (Se ρ1) (lsO n Lf) (ρ1.1 25)).1 = (rd0 (Fc ρ) (Se ρ) (lsO n Lf)).1 ∧ (wlk0 (Fc ρ1) (Se ρ1) (lsO n Lf) (ρ1.1 25)).2.1 = (rd0 (Fc ρ) (Se ρ) (lsO n Lf)).2.1 ∧ ∀ h, h < n → (wlk0 (Fc ρ1) (Se ρ1) (lsO n Lf) (ρ1.1 25)).2.2.getD h 0 = (thr ρ n Lf).getD h 0 := by
  have h25 := hL1.at (k := 25) (n := 7) (by decide)
  have hr : ∀ h ∈ lsO n Lf, h < 7 := fun h hh => by
    obtain ⟨i, hi⟩ := List.getElem?_of_mem hh
    obtain ⟨q1, rfl⟩ := lsO_at hi
    have := (hI.2.2.2.2.2.2.1 i q1).2
    have := hI.2.2.1.2
    omega
  obtain ⟨a1, a2, a3, a4⟩ := wlk0_rd (F := Fc ρ1) (S := Se ρ1) h25 hr
  refine ⟨wst_L hL1 a3, (hE.sI (by decide)).sA (by decide), ?_, ?_, fun h hh => ?_⟩
  · rw [a1, hE.fc, hE.se]
  · rw [a2, hE.fc, hE.se]
  · rw [a4 h (lsO_all hI.2.2.2.2.2.2.2 h hh), hE.fc, hE.se]
theorem RS.mw {ρ2 : MS} (h : RS b ρ2 μ) (hL : ML ρ2) (hE : EqC ρ2 ρ) : MW b ρ μ := by
  obtain ⟨l, hl, hM⟩ := h
  exact ⟨_, hM, S14 hL hl, hE.sA (by decide)⟩
theorem c_at (hW : MW b ρ μ) {n t tx : Nat} {cd : Nat → List Int32} {Lf : Nat → Nat} (hI : IM ρ n t tx cd Lf) (h w : Int32) : Mt g 5 mX12_at [.ref b, .int h, .int w] μ (fun v μ' => v = some (.int (ansAt ρ n t cd Lf h w)) ∧ MW b ρ μ' ∧ FM b μ μ') := by
  refine Mt.of0 (ls0 := [some (.ref b), some (.int h), some (.int w)]) (by decide) (by simp [Value.category]) (Nat.le_of_ble_eq_true rfl) rfl ?_
  obtain ⟨ρ0, hM, hL, hE⟩ := id hW
  have hF : FM b μ μ := FM.rf
  have hI0 := hI.eqc hE
  have hn7 := hI.2.2.1.2
  rw [ansAt]
  refine ev_aload_n dX12_at_0 rfl ?_
  refine ev_iload_n dX12_at_1 rfl ?_
  refine k_v (c_isHouse hM h) (by decide) dX12_at_2 cbX12_isHouse (mt5 199 rfl rfl) (mt5 201 rfl rfl) (ms0 57 rfl rfl) (ci := 12) rfl hM.1 rfl rfl (Nat.le_of_ble_eq_true rfl) (fun v μ1 hq => ?_)
  obtain ⟨rfl, hμ⟩ := hq
  have hμ := hμ.symm
  subst hμ
  simp only [Option.toList, List.cons_append, List.nil_append]
  refine ev_if_eq (tgt := 17) dX12_at_5 (by decide) (fun h5 => ?_) (fun h5 => ?_)
  · refine ev_bipush (v := (-2)) dX12_at_17 (by decide) ?_
    refine ev_iret dX12_at_19 rfl ?_
    refine ⟨?_, ⟨ρ0, hM, hL, hE⟩, hF⟩
    first | (have h5 := b2i_eq h5; rw [hI0.2.2.1.1] at h5; rw [if_neg (fun q => h5 q.1)]) | (have h14 := b2i_eq h14; rw [if_neg (fun q => h14 q.2)])
  · refine ev_iload_n dX12_at_8 rfl ?_
    refine ev_iconst (v := 0) dX12_at_9 (by decide) ?_
    refine ev_iconst (v := 2) dX12_at_10 (by decide) ?_
    refine k_s (c_isIn w 0 2) (by decide) dX12_at_11 cbX12_isIn (mt5 123 rfl rfl) (mt5 124 rfl rfl) rfl rfl (Nat.le_of_ble_eq_true rfl) (fun v μ1 hq => ?_)
    obtain ⟨rfl, hμ⟩ := hq
    have hμ := hμ.symm
    subst hμ
    simp only [Option.toList, List.cons_append, List.nil_append]
    refine ev_if_ne (tgt := 20) dX12_at_14 (by decide) (fun h14 => ?_) (fun h14 => ?_)
    · have h5 := b2i_ne h5
      have h14 := b2i_ne h14
      rw [hI0.2.2.1.1] at h5
      rw [if_pos ⟨h5, h14⟩]
      obtain ⟨hk, ek⟩ := house_n hn7 h5.1 h5.2
      generalize h.toInt.toNat = k at hk ek ⊢
      subst ek
      refine ev_aload_n dX12_at_20 rfl ?_
      refine k_v (c_takesList hM hL hI0) (by decide) dX12_at_21 cbX12_takesList (mt6 20 rfl rfl) (mt6 22 rfl rfl) (ms0 64 rfl rfl) (ci := 12) rfl hM.1 rfl rfl (Nat.le_of_ble_eq_true rfl) (fun v μ1 hq => ?_)
      obtain ⟨rfl, ⟨ρ1, hM, hL1, hE1, hO⟩, hF1⟩ := hq; have hF := hF.tr hF1; have hEq := hE1.tr hE; have hI1 := hI.eqc hEq
      simp only [Option.toList, List.cons_append, List.nil_append]
      refine ev_aload_n dX12_at_24 rfl ?_
      refine k_v (c_walks hM hL1 hI1.1 hI1.s3 hO) (by decide) dX12_at_25 cbX12_walks (mt6 24 rfl rfl) (mt6 26 rfl rfl) (ms0 65 rfl rfl) (ci := 12) rfl hM.1 rfl rfl (Nat.le_of_ble_eq_true rfl) (fun v μ1 hq => ?_)
      obtain ⟨rfl, hM, hF1⟩ := hq; have hF := hF.tr hF1; obtain ⟨w1, w2, w3, w4, w5⟩ := after_walk (bk := (wlk0 (Fc ρ1) (Se ρ1) (lsO n Lf) (ρ1.1 25)).2.1) hI hL1 hEq; have hR := RS.of w1 hM; have hI2 := hI.eqc w2
      simp only [Option.toList, List.cons_append, List.nil_append]
      refine ev_pop dX12_at_28 rfl ?_
      refine ev_iload_n dX12_at_29 rfl ?_
      refine ev_if_ne (tgt := 42) dX12_at_30 (by decide) (fun h30 => ?_) (fun h30 => ?_)
      · refine ev_iload_n dX12_at_42 rfl ?_
        refine ev_iconst (v := 1) dX12_at_43 (by decide) ?_
        refine ev_icmp_ne (tgt := 55) dX12_at_44 (by decide) (fun h44 => ?_) (fun h44 => ?_)
        · refine ev_aload_n dX12_at_55 rfl ?_
          refine ev_iload_n dX12_at_56 rfl ?_
          refine ev_aload_n dX12_at_57 rfl ?_
          refine ev_iload_n dX12_at_58 rfl ?_
          refine k_v (c_lateOf hR w1 hI2.ru (by omega)) (by decide) dX12_at_59 cbX12_lateOf (mt6 36 rfl rfl) (mt6 38 rfl rfl) (ms0 68 rfl rfl) (ci := 12) rfl hM.1 rfl rfl (Nat.le_of_ble_eq_true rfl) (fun v μ1 hq => ?_)
          obtain ⟨rfl, hR, hF1⟩ := hq
          have hF := hF.tr hF1
          obtain ⟨l1, hl1, hM⟩ := id hR
          simp only [Option.toList, List.cons_append, List.nil_append]
          refine k_v (c_tipsOf hR w1 hI2.ru (by omega) _) (by decide) dX12_at_62 cbX12_tipsOf (mt6 40 rfl rfl) (mt6 42 rfl rfl) (ms0 69 rfl rfl) (ci := 12) rfl hM.1 rfl rfl (Nat.le_of_ble_eq_true rfl) (fun v μ1 hq => ?_)
          obtain ⟨rfl, hR, hF1⟩ := hq
          have hF := hF.tr hF1
          obtain ⟨l1, hl1, hM⟩ := id hR
          simp only [Option.toList, List.cons_append, List.nil_append]
          refine ev_iret dX12_at_65 rfl ?_
          first
            | (refine ⟨?_, ⟨_, hM, w1, w2⟩, hF⟩; rw [if_pos h30]; exact congrArg (fun z => some (Value.int z)) (w5 k hk))
            | (refine ⟨?_, hR.mw w1 w2, hF⟩; rw [if_neg h30, if_pos h44, w2.fc, w2.se]; exact congrArg (fun z => some (Value.int z)) (ltv_th (w5 k hk)))
            | (refine ⟨?_, hR.mw w1 w2, hF⟩; rw [if_neg h30, if_neg h44, w2.fc, w2.se]; exact congrArg (fun z => some (Value.int (tpv (Fc ρ) (Se ρ) (cdt t cd) k z))) (ltv_th (w5 k hk)))
        · refine ev_aload_n dX12_at_47 rfl ?_
          refine ev_iload_n dX12_at_48 rfl ?_
          refine k_v (c_lateOf hR w1 hI2.ru (by omega)) (by decide) dX12_at_49 cbX12_lateOf (mt6 36 rfl rfl) (mt6 38 rfl rfl) (ms0 68 rfl rfl) (ci := 12) rfl hM.1 rfl rfl (Nat.le_of_ble_eq_true rfl) (fun v μ1 hq => ?_)
          obtain ⟨rfl, hR, hF1⟩ := hq
          have hF := hF.tr hF1
          obtain ⟨l1, hl1, hM⟩ := id hR
          simp only [Option.toList, List.cons_append, List.nil_append]
          refine ev_goto (tgt := 65) dX12_at_52 (by decide) ?_
          refine ev_iret dX12_at_65 rfl ?_
          first
            | (refine ⟨?_, ⟨_, hM, w1, w2⟩, hF⟩; rw [if_pos h30]; exact congrArg (fun z => some (Value.int z)) (w5 k hk))
            | (refine ⟨?_, hR.mw w1 w2, hF⟩; rw [if_neg h30, if_pos h44, w2.fc, w2.se]; exact congrArg (fun z => some (Value.int z)) (ltv_th (w5 k hk)))
            | (refine ⟨?_, hR.mw w1 w2, hF⟩; rw [if_neg h30, if_neg h44, w2.fc, w2.se]; exact congrArg (fun z => some (Value.int (tpv (Fc ρ) (Se ρ) (cdt t cd) k z))) (ltv_th (w5 k hk)))
      · refine ev_aload_n dX12_at_33 rfl ?_
        refine ev_get dX12_at_34 flX12_58_12 hM.1 rfl ?_
        refine ev_iload_n dX12_at_37 rfl ?_
        refine ev_iald dX12_at_38 (hM.a 25 27 (by decide)) (ix_n (by omega)) (rd w1 (n := 7) (by decide) (by omega)) ?_
        refine ev_goto (tgt := 65) dX12_at_39 (by decide) ?_
        refine ev_iret dX12_at_65 rfl ?_
        first
          | (refine ⟨?_, ⟨_, hM, w1, w2⟩, hF⟩; rw [if_pos h30]; exact congrArg (fun z => some (Value.int z)) (w5 k hk))
          | (refine ⟨?_, hR.mw w1 w2, hF⟩; rw [if_neg h30, if_pos h44, w2.fc, w2.se]; exact congrArg (fun z => some (Value.int z)) (ltv_th (w5 k hk)))
          | (refine ⟨?_, hR.mw w1 w2, hF⟩; rw [if_neg h30, if_neg h44, w2.fc, w2.se]; exact congrArg (fun z => some (Value.int (tpv (Fc ρ) (Se ρ) (cdt t cd) k z))) (ltv_th (w5 k hk)))
    · refine ev_bipush (v := (-2)) dX12_at_17 (by decide) ?_
      refine ev_iret dX12_at_19 rfl ?_
      refine ⟨?_, ⟨ρ0, hM, hL, hE⟩, hF⟩
      first | (have h5 := b2i_eq h5; rw [hI0.2.2.1.1] at h5; rw [if_neg (fun q => h5 q.1)]) | (have h14 := b2i_eq h14; rw [if_neg (fun q => h14 q.2)])
def ansRound (ρ : MS) (n t : Nat) (cd : Nat → List Int32) (Lf : Nat → Nat) (w : Int32) : Int32 :=
  if 0 ≤ w ∧ w ≤ 4 then (if w = 0 then (rd0 (Fc ρ) (Se ρ) (lsO n Lf)).1 else if w = 1 then (rd0 (Fc ρ) (Se ρ) (lsO n Lf)).2.1 else if w = 2 then lmnK (Fc ρ) (Se ρ) (cdt t cd) (thr ρ n Lf) n 0 0 else if w = 3 then rngK (Fc ρ) (Se ρ) (cdt t cd) (thr ρ n Lf) n 0 0 else prsK (Fc ρ) (Se ρ) (cdt t cd) (thr ρ n Lf) (rngK (Fc ρ) (Se ρ) (cdt t cd) (thr ρ n Lf) n 0 0) n 0 0) else -2
theorem c_round (hW : MW b ρ μ) {n t tx : Nat} {cd : Nat → List Int32} {Lf : Nat → Nat} (hI : IM ρ n t tx cd Lf) (w : Int32) : Mt g 5 mX12_round [.ref b, .int w] μ (fun v μ' => v = some (.int (ansRound ρ n t cd Lf w)) ∧ MW b ρ μ' ∧ FM b μ μ') := by
  refine Mt.of0 (ls0 := [some (.ref b), some (.int w), none]) (by decide) (by simp [Value.category]) (Nat.le_of_ble_eq_true rfl) rfl ?_
  obtain ⟨ρ0, hM, hL, hE⟩ := id hW
  have hF : FM b μ μ := FM.rf
  have hI0 := hI.eqc hE
  have hn7 := hI.2.2.1.2
  rw [ansRound]
  refine ev_iload_n dX12_round_0 rfl ?_
  refine ev_iconst (v := 0) dX12_round_1 (by decide) ?_
  refine ev_iconst (v := 4) dX12_round_2 (by decide) ?_
  refine k_s (c_isIn w 0 4) (by decide) dX12_round_3 cbX12_isIn (mt5 123 rfl rfl) (mt5 124 rfl rfl) rfl rfl (Nat.le_of_ble_eq_true rfl) (fun v μ1 hq => ?_)
  obtain ⟨rfl, hμ⟩ := hq
  have hμ := hμ.symm
  subst hμ
  simp only [Option.toList, List.cons_append, List.nil_append]
  refine ev_if_ne (tgt := 12) dX12_round_6 (by decide) (fun h6 => ?_) (fun h6 => ?_)
  · rw [if_pos (b2i_ne h6)]
    refine ev_aload_n dX12_round_12 rfl ?_
    refine k_v (c_takesList hM hL hI0) (by decide) dX12_round_13 cbX12_takesList (mt6 20 rfl rfl) (mt6 22 rfl rfl) (ms0 64 rfl rfl) (ci := 12) rfl hM.1 rfl rfl (Nat.le_of_ble_eq_true rfl) (fun v μ1 hq => ?_)
    obtain ⟨rfl, ⟨ρ1, hM, hL1, hE1, hO⟩, hF1⟩ := hq; have hF := hF.tr hF1; have hEq := hE1.tr hE; have hI1 := hI.eqc hEq
    simp only [Option.toList, List.cons_append, List.nil_append]
    refine ev_aload_n dX12_round_16 rfl ?_
    refine k_v (c_walks hM hL1 hI1.1 hI1.s3 hO) (by decide) dX12_round_17 cbX12_walks (mt6 24 rfl rfl) (mt6 26 rfl rfl) (ms0 65 rfl rfl) (ci := 12) rfl hM.1 rfl rfl (Nat.le_of_ble_eq_true rfl) (fun v μ1 hq => ?_)
    obtain ⟨rfl, hM, hF1⟩ := hq; have hF := hF.tr hF1; obtain ⟨w1, w2, w3, w4, w5⟩ := after_walk (bk := (wlk0 (Fc ρ1) (Se ρ1) (lsO n Lf) (ρ1.1 25)).2.1) hI hL1 hEq; have hR := RS.of w1 hM; have hI2 := hI.eqc w2
    simp only [Option.toList, List.cons_append, List.nil_append]
    refine ev_istore_n dX12_round_20 (by decide) ?_
    dsimp only [List.set]
    refine ev_iload_n dX12_round_21 rfl ?_
    refine ev_if_ne (tgt := 29) dX12_round_22 (by decide) (fun h22 => ?_) (fun h22 => ?_)
    · refine ev_iload_n dX12_round_29 rfl ?_
      refine ev_iconst (v := 1) dX12_round_30 (by decide) ?_
      refine ev_icmp_ne (tgt := 41) dX12_round_31 (by decide) (fun h31 => ?_) (fun h31 => ?_)
      · refine ev_iload_n dX12_round_41 rfl ?_
        refine ev_iconst (v := 2) dX12_round_42 (by decide) ?_
        refine ev_icmp_ne (tgt := 53) dX12_round_43 (by decide) (fun h43 => ?_) (fun h43 => ?_)
        · refine ev_iload_n dX12_round_53 rfl ?_
          refine ev_iconst (v := 3) dX12_round_54 (by decide) ?_
          refine ev_icmp_ne (tgt := 66) dX12_round_55 (by decide) (fun h55 => ?_) (fun h55 => ?_)
          · refine ev_aload_n dX12_round_66 rfl ?_
            refine ev_aload_n dX12_round_67 rfl ?_
            refine ev_iconst (v := 0) dX12_round_68 (by decide) ?_
            refine k_v (c_ringing hR w1 hI2.ru hI2.2.2.1.1 hn7 0) (by decide) dX12_round_69 cbX12_ringing (mt6 52 rfl rfl) (mt6 54 rfl rfl) (ms0 71 rfl rfl) (ci := 12) rfl hM.1 rfl rfl (Nat.le_of_ble_eq_true rfl) (fun v μ1 hq => ?_)
            obtain ⟨rfl, hR, hF1⟩ := hq
            have hF := hF.tr hF1
            obtain ⟨l1, hl1, hM⟩ := id hR
            simp only [Option.toList, List.cons_append, List.nil_append]
            refine k_v (c_purse hR w1 hI2.ru hI2.2.2.1.1 hn7 _) (by decide) dX12_round_72 cbX12_purse (mt6 56 rfl rfl) (mt6 58 rfl rfl) (ms0 72 rfl rfl) (ci := 12) rfl hM.1 rfl rfl (Nat.le_of_ble_eq_true rfl) (fun v μ1 hq => ?_)
            obtain ⟨rfl, hR, hF1⟩ := hq
            have hF := hF.tr hF1
            obtain ⟨l1, hl1, hM⟩ := id hR
            simp only [Option.toList, List.cons_append, List.nil_append]
            refine ev_iret dX12_round_75 rfl ?_
            first
              | (refine ⟨?_, ⟨_, hM, w1, w2⟩, hF⟩; rw [if_pos h22, w3])
              | (refine ⟨?_, ⟨_, hM, w1, w2⟩, hF⟩; rw [if_neg h22, if_pos h31]; exact congrArg (fun z => some (Value.int z)) w4)
              | (refine ⟨?_, hR.mw w1 w2, hF⟩; rw [if_neg h22, if_neg h31, if_pos h43, w2.fc, w2.se]; exact congrArg (fun z => some (Value.int z)) (lmnK_th n 0 0 (fun h hh => w5 h (by omega))))
              | (refine ⟨?_, hR.mw w1 w2, hF⟩; rw [if_neg h22, if_neg h31, if_neg h43, if_pos h55, w2.fc, w2.se]; exact congrArg (fun z => some (Value.int z)) (rngK_th n 0 0 (fun h hh => w5 h (by omega))))
              | (refine ⟨?_, hR.mw w1 w2, hF⟩; rw [if_neg h22, if_neg h31, if_neg h43, if_neg h55, w2.fc, w2.se, ← rngK_th n 0 0 (fun h hh => w5 h (by omega))]; exact congrArg (fun z => some (Value.int z)) (prsK_th n 0 0 (fun h hh => w5 h (by omega))))
          · refine ev_aload_n dX12_round_58 rfl ?_
            refine ev_iconst (v := 0) dX12_round_59 (by decide) ?_
            refine k_v (c_ringing hR w1 hI2.ru hI2.2.2.1.1 hn7 0) (by decide) dX12_round_60 cbX12_ringing (mt6 52 rfl rfl) (mt6 54 rfl rfl) (ms0 71 rfl rfl) (ci := 12) rfl hM.1 rfl rfl (Nat.le_of_ble_eq_true rfl) (fun v μ1 hq => ?_)
            obtain ⟨rfl, hR, hF1⟩ := hq
            have hF := hF.tr hF1
            obtain ⟨l1, hl1, hM⟩ := id hR
            simp only [Option.toList, List.cons_append, List.nil_append]
            refine ev_goto (tgt := 75) dX12_round_63 (by decide) ?_
            refine ev_iret dX12_round_75 rfl ?_
            first
              | (refine ⟨?_, ⟨_, hM, w1, w2⟩, hF⟩; rw [if_pos h22, w3])
              | (refine ⟨?_, ⟨_, hM, w1, w2⟩, hF⟩; rw [if_neg h22, if_pos h31]; exact congrArg (fun z => some (Value.int z)) w4)
              | (refine ⟨?_, hR.mw w1 w2, hF⟩; rw [if_neg h22, if_neg h31, if_pos h43, w2.fc, w2.se]; exact congrArg (fun z => some (Value.int z)) (lmnK_th n 0 0 (fun h hh => w5 h (by omega))))
              | (refine ⟨?_, hR.mw w1 w2, hF⟩; rw [if_neg h22, if_neg h31, if_neg h43, if_pos h55, w2.fc, w2.se]; exact congrArg (fun z => some (Value.int z)) (rngK_th n 0 0 (fun h hh => w5 h (by omega))))
              | (refine ⟨?_, hR.mw w1 w2, hF⟩; rw [if_neg h22, if_neg h31, if_neg h43, if_neg h55, w2.fc, w2.se, ← rngK_th n 0 0 (fun h hh => w5 h (by omega))]; exact congrArg (fun z => some (Value.int z)) (prsK_th n 0 0 (fun h hh => w5 h (by omega))))
        · refine ev_aload_n dX12_round_46 rfl ?_
          refine k_v (c_lateMany hR w1 hI2.ru hI2.2.2.1.1 hn7) (by decide) dX12_round_47 cbX12_lateMany (mt6 48 rfl rfl) (mt6 50 rfl rfl) (ms0 70 rfl rfl) (ci := 12) rfl hM.1 rfl rfl (Nat.le_of_ble_eq_true rfl) (fun v μ1 hq => ?_)
          obtain ⟨rfl, hR, hF1⟩ := hq
          have hF := hF.tr hF1
          obtain ⟨l1, hl1, hM⟩ := id hR
          simp only [Option.toList, List.cons_append, List.nil_append]
          refine ev_goto (tgt := 75) dX12_round_50 (by decide) ?_
          refine ev_iret dX12_round_75 rfl ?_
          first
            | (refine ⟨?_, ⟨_, hM, w1, w2⟩, hF⟩; rw [if_pos h22, w3])
            | (refine ⟨?_, ⟨_, hM, w1, w2⟩, hF⟩; rw [if_neg h22, if_pos h31]; exact congrArg (fun z => some (Value.int z)) w4)
            | (refine ⟨?_, hR.mw w1 w2, hF⟩; rw [if_neg h22, if_neg h31, if_pos h43, w2.fc, w2.se]; exact congrArg (fun z => some (Value.int z)) (lmnK_th n 0 0 (fun h hh => w5 h (by omega))))
            | (refine ⟨?_, hR.mw w1 w2, hF⟩; rw [if_neg h22, if_neg h31, if_neg h43, if_pos h55, w2.fc, w2.se]; exact congrArg (fun z => some (Value.int z)) (rngK_th n 0 0 (fun h hh => w5 h (by omega))))
            | (refine ⟨?_, hR.mw w1 w2, hF⟩; rw [if_neg h22, if_neg h31, if_neg h43, if_neg h55, w2.fc, w2.se, ← rngK_th n 0 0 (fun h hh => w5 h (by omega))]; exact congrArg (fun z => some (Value.int z)) (prsK_th n 0 0 (fun h hh => w5 h (by omega))))
      · refine ev_aload_n dX12_round_34 rfl ?_
        refine ev_get dX12_round_35 flX12_211_12 hM.1 rfl ?_
        refine ev_goto (tgt := 75) dX12_round_38 (by decide) ?_
        refine ev_iret dX12_round_75 rfl ?_
        first
          | (refine ⟨?_, ⟨_, hM, w1, w2⟩, hF⟩; rw [if_pos h22, w3])
          | (refine ⟨?_, ⟨_, hM, w1, w2⟩, hF⟩; rw [if_neg h22, if_pos h31]; exact congrArg (fun z => some (Value.int z)) w4)
          | (refine ⟨?_, hR.mw w1 w2, hF⟩; rw [if_neg h22, if_neg h31, if_pos h43, w2.fc, w2.se]; exact congrArg (fun z => some (Value.int z)) (lmnK_th n 0 0 (fun h hh => w5 h (by omega))))
          | (refine ⟨?_, hR.mw w1 w2, hF⟩; rw [if_neg h22, if_neg h31, if_neg h43, if_pos h55, w2.fc, w2.se]; exact congrArg (fun z => some (Value.int z)) (rngK_th n 0 0 (fun h hh => w5 h (by omega))))
          | (refine ⟨?_, hR.mw w1 w2, hF⟩; rw [if_neg h22, if_neg h31, if_neg h43, if_neg h55, w2.fc, w2.se, ← rngK_th n 0 0 (fun h hh => w5 h (by omega))]; exact congrArg (fun z => some (Value.int z)) (prsK_th n 0 0 (fun h hh => w5 h (by omega))))
    · refine ev_iload_n dX12_round_25 rfl ?_
      refine ev_goto (tgt := 75) dX12_round_26 (by decide) ?_
      refine ev_iret dX12_round_75 rfl ?_
      first
        | (refine ⟨?_, ⟨_, hM, w1, w2⟩, hF⟩; rw [if_pos h22, w3])
        | (refine ⟨?_, ⟨_, hM, w1, w2⟩, hF⟩; rw [if_neg h22, if_pos h31]; exact congrArg (fun z => some (Value.int z)) w4)
        | (refine ⟨?_, hR.mw w1 w2, hF⟩; rw [if_neg h22, if_neg h31, if_pos h43, w2.fc, w2.se]; exact congrArg (fun z => some (Value.int z)) (lmnK_th n 0 0 (fun h hh => w5 h (by omega))))
        | (refine ⟨?_, hR.mw w1 w2, hF⟩; rw [if_neg h22, if_neg h31, if_neg h43, if_pos h55, w2.fc, w2.se]; exact congrArg (fun z => some (Value.int z)) (rngK_th n 0 0 (fun h hh => w5 h (by omega))))
        | (refine ⟨?_, hR.mw w1 w2, hF⟩; rw [if_neg h22, if_neg h31, if_neg h43, if_neg h55, w2.fc, w2.se, ← rngK_th n 0 0 (fun h hh => w5 h (by omega))]; exact congrArg (fun z => some (Value.int z)) (prsK_th n 0 0 (fun h hh => w5 h (by omega))))
  · refine ev_bipush (v := (-2)) dX12_round_9 (by decide) ?_
    refine ev_iret dX12_round_11 rfl ?_
    refine ⟨?_, ⟨ρ0, hM, hL, hE⟩, hF⟩
    rw [if_neg (b2i_eq h6)]
end MAT
