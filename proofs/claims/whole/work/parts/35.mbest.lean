/-! ===== the reference: best, arrange ===== -/
theorem pmK_mem : ∀ (m : Nat) (av : List Nat), av.length = m → ∀ os ∈ pmK m av, os.length = m ∧ ∀ x, x ∈ os ↔ x ∈ av := by
  intro m
  induction m with
  | zero =>
    intro av h os ho
    have : av = [] := List.length_eq_zero_iff.mp h
    subst this
    simp [pmK] at ho
    subst ho
    simp
  | succ m ih =>
    intro av h os ho
    rw [pmK, List.mem_flatMap] at ho
    obtain ⟨a, ha, ho⟩ := ho
    obtain ⟨r, hr, rfl⟩ := List.mem_map.mp ho
    obtain ⟨q1, q2⟩ := ih (av.erase a) (by rw [List.length_erase_of_mem ha, h]; rfl) r hr
    refine ⟨by simp [q1], fun x => ?_⟩
    rw [List.mem_cons, q2]
    constructor
    · rintro (e | e)
      · subst e; exact ha
      · exact List.mem_of_mem_erase e
    · intro e
      by_cases hx : x = a
      · exact Or.inl hx
      · exact Or.inr ((List.mem_erase_of_ne hx).mpr e)
theorem pm_mem {n : Nat} {os : List Nat} (h : os ∈ pm n) : os.length = n ∧ ∀ x, x ∈ os ↔ x < n := by
  obtain ⟨q1, q2⟩ := pmK_mem n (List.range n) (by simp) os h
  exact ⟨q1, fun x => (q2 x).trans List.mem_range⟩
/-- what an order is worth -/
def eB (ρ : MS) (n t : Nat) (cd : Nat → List Int32) (so : Int32) (os : List Nat) : Int32 := if so = 0 then (rd0 (Fc ρ) (Se ρ) os).1 else prsK (Fc ρ) (Se ρ) (cdt t cd) (rd0 (Fc ρ) (Se ρ) os).2.2 (rngK (Fc ρ) (Se ρ) (cdt t cd) (rd0 (Fc ρ) (Se ρ) os).2.2 n 0 0) n 0 0
def ltB (so v best : Int32) : Prop := if so = 0 then v < best else best < v
def fbK (so : Int32) (E : List Nat → Int32) : List (List Nat) → Int32 → List Nat → Int32 × List Nat
  | [], best, bo => (best, bo)
  | os :: r, best, bo => if (so = 0 ∧ E os < best) ∨ (¬ so = 0 ∧ best < E os) then fbK so E r (E os) os else fbK so E r best bo
theorem ost_self {ρ : MS} {n : Nat} (h : ρ.2 26 = nI n) : ost ρ n (ρ.1 24) = ρ := by
  have e : setA ρ 24 (ρ.1 24) = ρ := setA_self
  rw [ost, e]
  refine Prod.ext rfl ?_
  funext q
  show (if q = 26 then nI n else ρ.2 q) = ρ.2 q
  split
  · rename_i z; rw [z, h]
  · rfl
section MBEST
variable {g : Gl} {b : Nat} {ρ : MS}
/-- the state while all orders are gone through -/
def BS (b : Nat) (ρ : MS) (n : Nat) (os bo : List Nat) (μ : Mm) : Prop := ∃ ρ', RM b ρ' μ ∧ ML ρ' ∧ EqC ρ' ρ ∧ ρ'.2 26 = nI n ∧ PreL (ρ'.1 24) os ∧ PreL (ρ'.1 28) bo
theorem l_bestCopy {n t tx : Nat} {cd : Nat → List Int32} {Lf : Nat → Nat} (hI : IM ρ n t tx cd Lf) {os : List Nat} (hos : os.length = n) {so best fs v5 v6 : Int32} {μ0 : Mm} {Q : Option Value → Mm → Prop} (go : ∀ (o7 : Option Value) (μ : Mm), BS b ρ n os os μ → FM b μ0 μ → Ev g 6 mX12_findBest 127 [some (.ref b), some (.int so), some (.int best), some (.int fs), some (.int 1), some (.int v5), some (.int v6), o7] [] μ Q) : ∀ (m k : Nat) (μ : Mm), k + m = n → BS b ρ n os (os.take k) μ → FM b μ0 μ → Ev g 6 mX12_findBest 98 [some (.ref b), some (.int so), some (.int best), some (.int fs), some (.int 1), some (.int v5), some (.int v6), some (.int (nI k))] [] μ Q := by
  have hn7 := hI.2.2.1.2
  intro m
  induction m with
  | zero =>
    intro k μ hk hB hF
    obtain ⟨ρ0, hM, hL, hE, h26, hp, hb⟩ := id hB
    have hI0 := hI.eqc hE
    refine ev_iload dX12_findBest_98 rfl ?_
    refine ev_aload_n dX12_findBest_100 rfl ?_
    refine ev_get dX12_findBest_101 flX12_82_12 hM.1 rfl ?_
    refine ev_icmp_ge (tgt := 127) dX12_findBest_104 (by decide) (fun _ => ?_) (fun h104 => absurd ((show ρ0.2 7 ≤ nI k by rw [hI0.2.2.1.1]; exact nI_le (by omega) (by omega))) h104)
    rw [List.take_of_length_le (by omega)] at hB
    exact go _ μ hB hF
  | succ m ih =>
    intro k μ hk hB hF
    obtain ⟨ρ0, hM, hL, hE, h26, hp, hb⟩ := id hB
    have hI0 := hI.eqc hE
    have qk := hp.at (i := k) (by omega)
    have l28 := hL.at (k := 28) (n := 7) (by decide)
    have hs := hb.snoc (x := os.getD k 0) qk.2 (by rw [List.length_take, l28]; omega)
    rw [List.length_take, Nat.min_eq_left (by omega)] at hs
    have et : os.take k ++ [os.getD k 0] = os.take (k + 1) := by
      rw [List.take_add_one, List.getD_eq_getElem?_getD, List.getElem?_eq_getElem (by omega)]; rfl
    rw [et] at hs
    refine ev_iload dX12_findBest_98 rfl ?_
    refine ev_aload_n dX12_findBest_100 rfl ?_
    refine ev_get dX12_findBest_101 flX12_82_12 hM.1 rfl ?_
    refine ev_icmp_ge (tgt := 127) dX12_findBest_104 (by decide) (fun h104 => absurd h104 ((show ¬ ρ0.2 7 ≤ nI k by rw [hI0.2.2.1.1]; exact nI_ge (by omega) (by omega)))) (fun _ => ?_)
    refine ev_aload_n dX12_findBest_107 rfl ?_
    refine ev_get dX12_findBest_108 flX12_61_12 hM.1 rfl ?_
    refine ev_iload dX12_findBest_111 rfl ?_
    refine ev_aload_n dX12_findBest_113 rfl ?_
    refine ev_get dX12_findBest_114 flX12_55_12 hM.1 rfl ?_
    refine ev_iload dX12_findBest_117 rfl ?_
    refine ev_iald dX12_findBest_119 (hM.a 24 26 (by decide)) (ix_n (by omega)) qk.1 ?_
    refine evM_iast hM hF (k := 28) (o := 28) (by decide) dX12_findBest_120 (ix_n (by omega)) (by rw [l28]; omega) (fun μ hM hF => ?_)
    refine ev_iinc dX12_findBest_121 rfl (by decide) ?_
    dsimp only [List.set]
    refine ev_goto (tgt := 98) dX12_findBest_124 (by decide) ?_
    rw [nI_inc]
    exact ih (k + 1) μ (by omega) ⟨_, hM, ML.setA hL List.length_set, hE.sA (by decide), h26, hp, by rw [setA_at]; exact hs⟩ hF
/-- from the place where the next order is asked for -/
theorem l_bestNext {n t tx : Nat} {cd : Nat → List Int32} {Lf : Nat → Nat} (hI : IM ρ n t tx cd Lf) {os bo : List Nat} (hos : os.length = n) {so best fs v5 v6 : Int32} {o7 : Option Value} {μ0 : Mm} {μ : Mm} (hB : BS b ρ n os bo μ) (hF : FM b μ0 μ) {Q : Option Value → Mm → Prop} (goN : nxt os = none → ∀ μ, BS b ρ n os bo μ → FM b μ0 μ → Ev g 6 mX12_findBest 38 [some (.ref b), some (.int so), some (.int best), some (.int 0), some (.int 0), some (.int v5), some (.int v6), o7] [] μ Q) (goS : ∀ o2, nxt os = some o2 → ∀ μ, BS b ρ n o2 bo μ → FM b μ0 μ → Ev g 6 mX12_findBest 38 [some (.ref b), some (.int so), some (.int best), some (.int 0), some (.int 1), some (.int v5), some (.int v6), o7] [] μ Q) : Ev g 6 mX12_findBest 127 [some (.ref b), some (.int so), some (.int best), some (.int fs), some (.int 1), some (.int v5), some (.int v6), o7] [] μ Q := by
  have hn7 := hI.2.2.1.2
  obtain ⟨ρ0, hM, hL, hE, h26, hp, hb⟩ := id hB
  have hn := c_nextOrder (g := g) (μ := μ) hL (n := n) (hL.at (k := 24) (n := 7) (by decide)) hp hos hn7 (by rw [ost_self h26]; exact hM)
  cases hx : nxt os with
  | none =>
    simp only [hx] at hn
    refine ev_iconst (v := 0) dX12_findBest_127 (by decide) ?_
    refine ev_istore_n dX12_findBest_128 (by decide) ?_
    dsimp only [List.set]
    refine ev_aload_n dX12_findBest_129 rfl ?_
    refine k_v hn (by decide) dX12_findBest_130 cbX12_nextOrder (mt6 87 rfl rfl) (mt6 89 rfl rfl) (ms0 76 rfl rfl) (ci := 12) rfl hM.1 rfl rfl (Nat.le_of_ble_eq_true rfl) (fun v μ1 hq => ?_)
    obtain ⟨⟨rfl, hM⟩, hF1⟩ := hq; have hF := hF.tr hF1
    simp only [Option.toList, List.cons_append, List.nil_append]
    refine ev_istore dX12_findBest_133 (by decide) ?_
    dsimp only [List.set]
    refine ev_goto (tgt := 38) dX12_findBest_135 (by decide) ?_
    exact goN hx _ ⟨_, hM, ost_L hL (hL.at (k := 24) (n := 7) (by decide)), ost_E hE, rfl, by rw [ost_at]; exact hp, hb⟩ hF
  | some o2 =>
    simp only [hx] at hn
    refine ev_iconst (v := 0) dX12_findBest_127 (by decide) ?_
    refine ev_istore_n dX12_findBest_128 (by decide) ?_
    dsimp only [List.set]
    refine ev_aload_n dX12_findBest_129 rfl ?_
    refine k_v hn (by decide) dX12_findBest_130 cbX12_nextOrder (mt6 87 rfl rfl) (mt6 89 rfl rfl) (ms0 76 rfl rfl) (ci := 12) rfl hM.1 rfl rfl (Nat.le_of_ble_eq_true rfl) (fun v μ1 hq => ?_)
    obtain ⟨⟨rfl, l', hl', hp', hM⟩, hF1⟩ := hq; have hF := hF.tr hF1
    simp only [Option.toList, List.cons_append, List.nil_append]
    refine ev_istore dX12_findBest_133 (by decide) ?_
    dsimp only [List.set]
    refine ev_goto (tgt := 38) dX12_findBest_135 (by decide) ?_
    exact goS o2 hx _ ⟨_, hM, ost_L hL hl', ost_E hE, rfl, by rw [ost_at]; exact hp', hb⟩ hF
theorem l_bestEval {n t tx : Nat} {cd : Nat → List Int32} {Lf : Nat → Nat} (hI : IM ρ n t tx cd Lf) {so : Int32} {μ0 : Mm} {os bo : List Nat} (hpm : os ∈ pm n) {best fs : Int32} {o5 o6 o7 : Option Value} {μ : Mm} (hB : BS b ρ n os bo μ) (hF : FM b μ0 μ) {Q : Option Value → Mm → Prop} (go : ∀ (v5 : Int32) (μ : Mm), BS b ρ n os bo μ → FM b μ0 μ → Ev g 6 mX12_findBest 69 [some (.ref b), some (.int so), some (.int best), some (.int fs), some (.int 1), some (.int v5), some (.int (eB ρ n t cd so os)), o7] [] μ Q) : Ev g 6 mX12_findBest 38 [some (.ref b), some (.int so), some (.int best), some (.int fs), some (.int 1), o5, o6, o7] [] μ Q := by
  have hn7 := hI.2.2.1.2
  obtain ⟨ρ0, hM, hL, hE, h26, hp, hb⟩ := id hB
  obtain ⟨hlen, hmem⟩ := pm_mem hpm
  have hI0 := hI.eqc hE
  have hO : OM ρ0 os := ⟨by rw [hlen]; exact h26, by omega, hp⟩
  have hr : ∀ h ∈ os, h < 7 := fun h hh => by have := (hmem h).mp hh; omega
  obtain ⟨a1, a2, a3, a4⟩ := wlk0_rd (F := Fc ρ0) (S := Se ρ0) (hL.at (k := 25) (n := 7) (by decide)) hr
  have w1 := wst_L (bk := (wlk0 (Fc ρ0) (Se ρ0) os (ρ0.1 25)).2.1) hL a3
  have w2 : EqC (wst ρ0 (wlk0 (Fc ρ0) (Se ρ0) os (ρ0.1 25)).2.1 (wlk0 (Fc ρ0) (Se ρ0) os (ρ0.1 25)).2.2) ρ := (hE.sI (by decide)).sA (by decide)
  have hI2 := hI.eqc w2
  have w5 : ∀ h, h < n → ((wst ρ0 (wlk0 (Fc ρ0) (Se ρ0) os (ρ0.1 25)).2.1 (wlk0 (Fc ρ0) (Se ρ0) os (ρ0.1 25)).2.2).1 25).getD h 0 = (rd0 (Fc ρ) (Se ρ) os).2.2.getD h 0 := fun h hh => by
    have e : (wst ρ0 (wlk0 (Fc ρ0) (Se ρ0) os (ρ0.1 25)).2.1 (wlk0 (Fc ρ0) (Se ρ0) os (ρ0.1 25)).2.2).1 25 = (wlk0 (Fc ρ0) (Se ρ0) os (ρ0.1 25)).2.2 := setA_at
    rw [e, a4 h ((hmem h).mpr hh), hE.fc, hE.se]
  refine ev_iload dX12_findBest_38 rfl ?_
  refine ev_if_eq (tgt := 138) dX12_findBest_40 (by decide) (fun h40 => absurd h40 ((by decide))) (fun _ => ?_)
  refine ev_aload_n dX12_findBest_43 rfl ?_
  refine k_v (c_walks hM hL hI0.1 hI0.s3 hO) (by decide) dX12_findBest_44 cbX12_walks (mt6 24 rfl rfl) (mt6 26 rfl rfl) (ms0 65 rfl rfl) (ci := 12) rfl hM.1 rfl rfl (Nat.le_of_ble_eq_true rfl) (fun v μ1 hq => ?_)
  obtain ⟨rfl, hM, hF1⟩ := hq; have hF := hF.tr hF1; have hR := RS.of w1 hM
  simp only [Option.toList, List.cons_append, List.nil_append]
  refine ev_istore dX12_findBest_47 (by decide) ?_
  dsimp only [List.set]
  refine ev_iload_n dX12_findBest_49 rfl ?_
  refine ev_if_ne (tgt := 58) dX12_findBest_50 (by decide) (fun h50 => ?_) (fun h50 => ?_)
  · refine ev_aload_n dX12_findBest_58 rfl ?_
    refine ev_aload_n dX12_findBest_59 rfl ?_
    refine ev_iconst (v := 0) dX12_findBest_60 (by decide) ?_
    refine k_v (c_ringing hR w1 hI2.ru hI2.2.2.1.1 hn7 0) (by decide) dX12_findBest_61 cbX12_ringing (mt6 52 rfl rfl) (mt6 54 rfl rfl) (ms0 71 rfl rfl) (ci := 12) rfl hM.1 rfl rfl (Nat.le_of_ble_eq_true rfl) (fun v μ1 hq => ?_)
    obtain ⟨rfl, hR, hF1⟩ := hq
    have hF := hF.tr hF1
    obtain ⟨l1, hl1, hM⟩ := id hR
    simp only [Option.toList, List.cons_append, List.nil_append]
    refine k_v (c_purse hR w1 hI2.ru hI2.2.2.1.1 hn7 _) (by decide) dX12_findBest_64 cbX12_purse (mt6 56 rfl rfl) (mt6 58 rfl rfl) (ms0 72 rfl rfl) (ci := 12) rfl hM.1 rfl rfl (Nat.le_of_ble_eq_true rfl) (fun v μ1 hq => ?_)
    obtain ⟨rfl, hR, hF1⟩ := hq
    have hF := hF.tr hF1
    obtain ⟨l1, hl1, hM⟩ := id hR
    simp only [Option.toList, List.cons_append, List.nil_append]
    refine ev_istore dX12_findBest_67 (by decide) ?_
    dsimp only [List.set]
    first
      | (have ev : (wlk0 (Fc ρ0) (Se ρ0) os (ρ0.1 25)).1 = eB ρ n t cd so os := by rw [eB, if_pos h50, a1, hE.fc, hE.se]
         rw [ev]; exact go _ _ ⟨_, hM, w1, w2, h26, hp, hb⟩ hF)
      | (have ev : prsK (Fc ρ) (Se ρ) (cdt t cd) (rd0 (Fc ρ) (Se ρ) os).2.2 (rngK (Fc ρ) (Se ρ) (cdt t cd) (rd0 (Fc ρ) (Se ρ) os).2.2 n 0 0) n 0 0 = eB ρ n t cd so os := by rw [eB, if_neg h50]
         rw [w2.fc, w2.se, rngK_th (th' := (rd0 (Fc ρ) (Se ρ) os).2.2) n 0 0 (fun h hh => w5 h (by omega)), prsK_th (th' := (rd0 (Fc ρ) (Se ρ) os).2.2) n 0 0 (fun h hh => w5 h (by omega)), ev]; exact go _ _ ⟨_, hM, S14 w1 hl1, w2.sA (by decide), h26, hp, hb⟩ hF)
  · refine ev_iload dX12_findBest_53 rfl ?_
    refine ev_goto (tgt := 67) dX12_findBest_55 (by decide) ?_
    refine ev_istore dX12_findBest_67 (by decide) ?_
    dsimp only [List.set]
    first
      | (have ev : (wlk0 (Fc ρ0) (Se ρ0) os (ρ0.1 25)).1 = eB ρ n t cd so os := by rw [eB, if_pos h50, a1, hE.fc, hE.se]
         rw [ev]; exact go _ _ ⟨_, hM, w1, w2, h26, hp, hb⟩ hF)
      | (have ev : prsK (Fc ρ) (Se ρ) (cdt t cd) (rd0 (Fc ρ) (Se ρ) os).2.2 (rngK (Fc ρ) (Se ρ) (cdt t cd) (rd0 (Fc ρ) (Se ρ) os).2.2 n 0 0) n 0 0 = eB ρ n t cd so os := by rw [eB, if_neg h50]
         rw [w2.fc, w2.se, rngK_th (th' := (rd0 (Fc ρ) (Se ρ) os).2.2) n 0 0 (fun h hh => w5 h (by omega)), prsK_th (th' := (rd0 (Fc ρ) (Se ρ) os).2.2) n 0 0 (fun h hh => w5 h (by omega)), ev]; exact go _ _ ⟨_, hM, S14 w1 hl1, w2.sA (by decide), h26, hp, hb⟩ hF)
theorem PreL.nil {l : List Int32} : PreL l [] := fun i h hh => by simp at hh
theorem chk_none {os : List Nat} (h : chk [os] = true) : nxt os = none := by simpa [chk] using h
theorem chk_some {os o2 : List Nat} {r : List (List Nat)} (h : chk (os :: o2 :: r) = true) : nxt os = some o2 ∧ chk (o2 :: r) = true := by simpa [chk] using h
/-- one order more: what goes on from the place where the next one is asked for -/
theorem l_best69 {n t tx : Nat} {cd : Nat → List Int32} {Lf : Nat → Nat} (hI : IM ρ n t tx cd Lf) {so : Int32} {μ0 : Mm} {os bo : List Nat} (hos : os.length = n) {best fs v5 v6 : Int32} (hfs : fs = 0 ∨ fs = 1) {o7 : Option Value} {μ : Mm} (hB : BS b ρ n os bo μ) (hF : FM b μ0 μ) {Q : Option Value → Mm → Prop} (goT : fs = 1 ∨ ((so = 0 ∧ v6 < best) ∨ (¬ so = 0 ∧ best < v6)) → ∀ (o7 : Option Value) (μ : Mm), BS b ρ n os os μ → FM b μ0 μ → Ev g 6 mX12_findBest 127 [some (.ref b), some (.int so), some (.int v6), some (.int fs), some (.int 1), some (.int v5), some (.int v6), o7] [] μ Q) (goF : fs = 0 → ¬ ((so = 0 ∧ v6 < best) ∨ (¬ so = 0 ∧ best < v6)) → Ev g 6 mX12_findBest 127 [some (.ref b), some (.int so), some (.int best), some (.int fs), some (.int 1), some (.int v5), some (.int v6), o7] [] μ Q) : Ev g 6 mX12_findBest 69 [some (.ref b), some (.int so), some (.int best), some (.int fs), some (.int 1), some (.int v5), some (.int v6), o7] [] μ Q := by
  have hB0 : BS b ρ n os (os.take 0) μ := by
    obtain ⟨ρ0, hM, hL, hE, h26, hp, hb⟩ := id hB
    exact ⟨ρ0, hM, hL, hE, h26, hp, by rw [List.take_zero]; exact PreL.nil⟩
  refine ev_iload_n dX12_findBest_69 rfl ?_
  refine ev_if_ne (tgt := 92) dX12_findBest_70 (by decide) (fun h70 => ?_) (fun h70 => ?_)
  · refine ev_iload dX12_findBest_92 rfl ?_
    refine ev_istore_n dX12_findBest_94 (by decide) ?_
    dsimp only [List.set]
    refine ev_iconst (v := 0) dX12_findBest_95 (by decide) ?_
    refine ev_istore dX12_findBest_96 (by decide) ?_
    dsimp only [List.set]
    refine l_bestCopy hI hos ?_ n 0 μ (by omega) hB0 hF
    first
      | exact goT (Or.inl (hfs.resolve_left h70))
      | exact goT (Or.inr (Or.inl ⟨h74, Int32.not_le.mp h80⟩))
      | exact goT (Or.inr (Or.inr ⟨h74, Int32.not_le.mp h89⟩))
  · refine ev_iload_n dX12_findBest_73 rfl ?_
    refine ev_if_ne (tgt := 86) dX12_findBest_74 (by decide) (fun h74 => ?_) (fun h74 => ?_)
    · refine ev_iload dX12_findBest_86 rfl ?_
      refine ev_iload_n dX12_findBest_88 rfl ?_
      refine ev_icmp_le (tgt := 127) dX12_findBest_89 (by decide) (fun h89 => ?_) (fun h89 => ?_)
      · first
          | exact goF h70 (fun q => q.elim (fun z => Int32.not_lt.mpr h80 z.2) (fun z => z.1 h74))
          | exact goF h70 (fun q => q.elim (fun z => h74 z.1) (fun z => Int32.not_lt.mpr h89 z.2))
      · refine ev_iload dX12_findBest_92 rfl ?_
        refine ev_istore_n dX12_findBest_94 (by decide) ?_
        dsimp only [List.set]
        refine ev_iconst (v := 0) dX12_findBest_95 (by decide) ?_
        refine ev_istore dX12_findBest_96 (by decide) ?_
        dsimp only [List.set]
        refine l_bestCopy hI hos ?_ n 0 μ (by omega) hB0 hF
        first
          | exact goT (Or.inl (hfs.resolve_left h70))
          | exact goT (Or.inr (Or.inl ⟨h74, Int32.not_le.mp h80⟩))
          | exact goT (Or.inr (Or.inr ⟨h74, Int32.not_le.mp h89⟩))
    · refine ev_iload dX12_findBest_77 rfl ?_
      refine ev_iload_n dX12_findBest_79 rfl ?_
      refine ev_icmp_ge (tgt := 127) dX12_findBest_80 (by decide) (fun h80 => ?_) (fun h80 => ?_)
      · first
          | exact goF h70 (fun q => q.elim (fun z => Int32.not_lt.mpr h80 z.2) (fun z => z.1 h74))
          | exact goF h70 (fun q => q.elim (fun z => h74 z.1) (fun z => Int32.not_lt.mpr h89 z.2))
      · refine ev_goto (tgt := 92) dX12_findBest_83 (by decide) ?_
        refine ev_iload dX12_findBest_92 rfl ?_
        refine ev_istore_n dX12_findBest_94 (by decide) ?_
        dsimp only [List.set]
        refine ev_iconst (v := 0) dX12_findBest_95 (by decide) ?_
        refine ev_istore dX12_findBest_96 (by decide) ?_
        dsimp only [List.set]
        refine l_bestCopy hI hos ?_ n 0 μ (by omega) hB0 hF
        first
          | exact goT (Or.inl (hfs.resolve_left h70))
          | exact goT (Or.inr (Or.inl ⟨h74, Int32.not_le.mp h80⟩))
          | exact goT (Or.inr (Or.inr ⟨h74, Int32.not_le.mp h89⟩))
theorem l_best {n t tx : Nat} {cd : Nat → List Int32} {Lf : Nat → Nat} (hI : IM ρ n t tx cd Lf) {so : Int32} {μ0 : Mm} : ∀ (Ps : List (List Nat)) (os bo : List Nat) (best fs : Int32) (o5 o6 o7 : Option Value) (μ : Mm), chk (os :: Ps) = true → (∀ o ∈ os :: Ps, o ∈ pm n) → (fs = 0 ∨ fs = 1) → BS b ρ n os bo μ → FM b μ0 μ → Ev g 6 mX12_findBest 38 [some (.ref b), some (.int so), some (.int best), some (.int fs), some (.int 1), o5, o6, o7] [] μ (fun v μ' => v = some (.int (if fs = 1 then fbK so (eB ρ n t cd so) Ps (eB ρ n t cd so os) os else fbK so (eB ρ n t cd so) (os :: Ps) best bo).1) ∧ (∃ ρ', RM b ρ' μ' ∧ ML ρ' ∧ EqC ρ' ρ ∧ PreL (ρ'.1 28) (if fs = 1 then fbK so (eB ρ n t cd so) Ps (eB ρ n t cd so os) os else fbK so (eB ρ n t cd so) (os :: Ps) best bo).2) ∧ FM b μ0 μ') := by
  have hn7 := hI.2.2.1.2
  have fin : ∀ (os bo : List Nat) (best v5 v6 : Int32) (o7 : Option Value) (μ : Mm), BS b ρ n os bo μ → FM b μ0 μ → Ev g 6 mX12_findBest 38 [some (.ref b), some (.int so), some (.int best), some (.int 0), some (.int 0), some (.int v5), some (.int v6), o7] [] μ (fun v μ' => v = some (.int best) ∧ (∃ ρ', RM b ρ' μ' ∧ ML ρ' ∧ EqC ρ' ρ ∧ PreL (ρ'.1 28) bo) ∧ FM b μ0 μ') := by
    intro os bo best v5 v6 o7 μ hB hF
    obtain ⟨ρ0, hM, hL, hE, h26, hp, hb⟩ := id hB
    refine ev_iload dX12_findBest_38 rfl ?_
    refine ev_if_eq (tgt := 138) dX12_findBest_40 (by decide) (fun _ => ?_) (fun h40 => absurd (rfl) h40)
    refine ev_iload_n dX12_findBest_138 rfl ?_
    refine ev_iret dX12_findBest_139 rfl ?_
    exact ⟨rfl, ⟨_, hM, hL, hE, hb⟩, hF⟩
  intro Ps
  induction Ps with
  | nil =>
    intro os bo best fs o5 o6 o7 μ hc hm hfs hB hF
    have hpm := hm os List.mem_cons_self
    have hos := (pm_mem hpm).1
    refine l_bestEval hI hpm hB hF (fun v5 μ hB hF => ?_)
    refine l_best69 hI hos hfs hB hF (fun hT o7 μ hB hF => ?_) (fun h0 hN => ?_)
    · refine l_bestNext hI hos hB hF (fun _ μ hB hF => ?_) (fun o2 ho2 => by rw [chk_none hc] at ho2; cases ho2)
      have e : (if fs = 1 then fbK so (eB ρ n t cd so) [] (eB ρ n t cd so os) os else fbK so (eB ρ n t cd so) [os] best bo) = (eB ρ n t cd so os, os) := by
        split
        · rfl
        · rename_i h1
          rw [fbK, if_pos (hT.resolve_left h1), fbK]
      rw [e]
      exact fin os os _ _ _ _ μ hB hF
    · refine l_bestNext hI hos hB hF (fun _ μ hB hF => ?_) (fun o2 ho2 => by rw [chk_none hc] at ho2; cases ho2)
      have e : (if fs = 1 then fbK so (eB ρ n t cd so) [] (eB ρ n t cd so os) os else fbK so (eB ρ n t cd so) [os] best bo) = (best, bo) := by
        rw [h0, if_neg (by decide), fbK, if_neg hN, fbK]
      rw [e]
      exact fin os bo _ _ _ _ μ hB hF
  | cons o2 Ps ih =>
    intro os bo best fs o5 o6 o7 μ hc hm hfs hB hF
    have hpm := hm os List.mem_cons_self
    have hos := (pm_mem hpm).1
    obtain ⟨hx, hc2⟩ := chk_some hc
    have hm2 : ∀ o ∈ o2 :: Ps, o ∈ pm n := fun o ho => hm o (List.mem_cons_of_mem _ ho)
    refine l_bestEval hI hpm hB hF (fun v5 μ hB hF => ?_)
    refine l_best69 hI hos hfs hB hF (fun hT o7 μ hB hF => ?_) (fun h0 hN => ?_)
    · refine l_bestNext hI hos hB hF (fun hn => by rw [hx] at hn; cases hn) (fun o3 ho3 μ hB hF => ?_)
      rw [hx] at ho3
      cases ho3
      have e : (if fs = 1 then fbK so (eB ρ n t cd so) (o2 :: Ps) (eB ρ n t cd so os) os else fbK so (eB ρ n t cd so) (os :: o2 :: Ps) best bo) = fbK so (eB ρ n t cd so) (o2 :: Ps) (eB ρ n t cd so os) os := by
        split
        · rfl
        · rename_i h1
          rw [fbK, if_pos (hT.resolve_left h1)]
      rw [e]
      have hz := ih o2 os (eB ρ n t cd so os) 0 (some (.int v5)) (some (.int (eB ρ n t cd so os))) o7 μ hc2 hm2 (Or.inl rfl) hB hF
      rw [if_neg (by decide)] at hz
      exact hz
    · refine l_bestNext hI hos hB hF (fun hn => by rw [hx] at hn; cases hn) (fun o3 ho3 μ hB hF => ?_)
      rw [hx] at ho3
      cases ho3
      have e : (if fs = 1 then fbK so (eB ρ n t cd so) (o2 :: Ps) (eB ρ n t cd so os) os else fbK so (eB ρ n t cd so) (os :: o2 :: Ps) best bo) = fbK so (eB ρ n t cd so) (o2 :: Ps) best bo := by
        rw [h0, if_neg (by decide), fbK, if_neg hN]
      rw [e]
      have hz := ih o2 bo best 0 (some (.int v5)) (some (.int (eB ρ n t cd so os))) o7 μ hc2 hm2 (Or.inl rfl) hB hF
      rw [if_neg (by decide)] at hz
      exact hz
/-- the best order: its worth, itself -/
def bst (ρ : MS) (n t : Nat) (cd : Nat → List Int32) (so : Int32) : Int32 × List Nat := match pm n with
  | [] => (0, [])
  | os :: Ps => fbK so (eB ρ n t cd so) Ps (eB ρ n t cd so os) os
theorem fbK_in {so : Int32} {E : List Nat → Int32} : ∀ (Ps : List (List Nat)) (best : Int32) (bo : List Nat), (fbK so E Ps best bo).2 = bo ∨ (fbK so E Ps best bo).2 ∈ Ps := by
  intro Ps
  induction Ps with
  | nil => intro best bo; exact Or.inl rfl
  | cons os r ih =>
    intro best bo
    rw [fbK]
    split
    · rcases ih (E os) os with h | h
      · right; rw [h]; exact List.mem_cons_self
      · right; exact List.mem_cons_of_mem _ h
    · rcases ih best bo with h | h
      · left; exact h
      · right; exact List.mem_cons_of_mem _ h
theorem pm_ne (n : Nat) : ∃ Ps, n ≤ 7 → pm n = List.range n :: Ps := by
  refine ⟨(pm n).tail, fun h => ?_⟩
  have : n = 0 ∨ n = 1 ∨ n = 2 ∨ n = 3 ∨ n = 4 ∨ n = 5 ∨ n = 6 ∨ n = 7 := by omega
  rcases this with rfl | rfl | rfl | rfl | rfl | rfl | rfl | rfl <;> rfl
theorem l_bestId {n t tx : Nat} {cd : Nat → List Int32} {Lf : Nat → Nat} (hI : IM ρ n t tx cd Lf) {so : Int32} {μ0 : Mm} {ρ0 : MS} (hL : ML ρ0) (hE : EqC ρ0 ρ) {Q : Option Value → Mm → Prop} (go : ∀ (x : Int32) (μ : Mm), BS b ρ n (List.range n) [] μ → FM b μ0 μ → Ev g 6 mX12_findBest 31 [some (.ref b), some (.int so), some (.int x), none, none, none, none, none] [] μ Q) : ∀ (m k : Nat) (l : List Int32) (μ : Mm), k + m = n → l.length = 7 → PreL l (List.range k) → RM b (ost ρ0 n l) μ → FM b μ0 μ → Ev g 6 mX12_findBest 10 [some (.ref b), some (.int so), some (.int (nI k)), none, none, none, none, none] [] μ Q := by
  have hn7 := hI.2.2.1.2
  have hI0 := hI.eqc hE
  intro m
  induction m with
  | zero =>
    intro k l μ hk hl hp hM hF
    have hk : k = n := by omega
    subst hk
    refine ev_iload_n dX12_findBest_10 rfl ?_
    refine ev_aload_n dX12_findBest_11 rfl ?_
    refine ev_get dX12_findBest_12 flX12_82_12 hM.1 rfl ?_
    refine ev_icmp_ge (tgt := 31) dX12_findBest_15 (by decide) (fun _ => ?_) (fun h15 => absurd ((show ρ0.2 7 ≤ nI k by rw [hI0.2.2.1.1]; exact nI_le (by omega) (by omega))) h15)
    exact go _ μ ⟨_, hM, ost_L hL hl, ost_E hE, rfl, by rw [ost_at]; exact hp, PreL.nil⟩ hF
  | succ m ih =>
    intro k l μ hk hl hp hM hF
    have hs := hp.snoc (x := k) (by omega) (by rw [List.length_range]; omega)
    rw [List.length_range, ← List.range_succ] at hs
    refine ev_iload_n dX12_findBest_10 rfl ?_
    refine ev_aload_n dX12_findBest_11 rfl ?_
    refine ev_get dX12_findBest_12 flX12_82_12 hM.1 rfl ?_
    refine ev_icmp_ge (tgt := 31) dX12_findBest_15 (by decide) (fun h15 => absurd h15 ((show ¬ ρ0.2 7 ≤ nI k by rw [hI0.2.2.1.1]; exact nI_ge (by omega) (by omega)))) (fun _ => ?_)
    refine ev_aload_n dX12_findBest_18 rfl ?_
    refine ev_get dX12_findBest_19 flX12_55_12 hM.1 rfl ?_
    refine ev_iload_n dX12_findBest_22 rfl ?_
    refine ev_iload_n dX12_findBest_23 rfl ?_
    refine evM_iast hM hF (k := 24) (o := 26) (by decide) dX12_findBest_24 (ix_n (by omega)) (show k < ((ost ρ0 n l).1 24).length by rw [ost_at, hl]; omega) (fun μ hM hF => ?_)
    rw [ost_at, ost_l] at hM
    refine ev_iinc dX12_findBest_25 rfl (by decide) ?_
    dsimp only [List.set]
    refine ev_goto (tgt := 10) dX12_findBest_28 (by decide) ?_
    rw [nI_inc]
    exact ih (k + 1) _ μ (by omega) (by rw [List.length_set]; exact hl) hs hM hF
theorem c_findBest {μ : Mm} (hW : MW b ρ μ) {n t tx : Nat} {cd : Nat → List Int32} {Lf : Nat → Nat} (hI : IM ρ n t tx cd Lf) (so : Int32) : Mt g 6 mX12_findBest [.ref b, .int so] μ (fun v μ' => v = some (.int (bst ρ n t cd so).1) ∧ (∃ ρ', RM b ρ' μ' ∧ ML ρ' ∧ EqC ρ' ρ ∧ PreL (ρ'.1 28) (bst ρ n t cd so).2) ∧ FM b μ μ') := by
  refine Mt.of0 (ls0 := [some (.ref b), some (.int so), none, none, none, none, none, none]) (by decide) (by simp [Value.category]) (Nat.le_of_ble_eq_true rfl) rfl ?_
  obtain ⟨ρ0, hM, hL, hE⟩ := id hW
  have hF : FM b μ μ := FM.rf
  have hI0 := hI.eqc hE
  have hn7 := hI.2.2.1.2
  obtain ⟨Ps, hP⟩ := pm_ne n
  have hP := hP hn7
  have hc := pm_chk hn7
  rw [hP] at hc
  rw [bst, hP]
  refine ev_aload_n dX12_findBest_0 rfl ?_
  refine ev_aload_n dX12_findBest_1 rfl ?_
  refine ev_get dX12_findBest_2 flX12_82_12 hM.1 rfl ?_
  refine evM_put hM hF (k := 26) (by decide) dX12_findBest_5 fpX12_208_12 rfl rfl (fun μ hM hF => ?_)
  refine ev_iconst (v := 0) dX12_findBest_8 (by decide) ?_
  refine ev_istore_n dX12_findBest_9 (by decide) ?_
  dsimp only [List.set]
  refine l_bestId (μ0 := _) hI hL hE (fun x μ hB hF => ?_) n 0 (ρ0.1 24) μ (by omega) (hL.at (by decide)) PreL.nil (by have e : setA ρ0 24 (ρ0.1 24) = ρ0 := setA_self; rw [ost, e, ← hI0.2.2.1.1]; exact hM) hF
  refine ev_iconst (v := 0) dX12_findBest_31 (by decide) ?_
  refine ev_istore_n dX12_findBest_32 (by decide) ?_
  refine ev_iconst (v := 1) dX12_findBest_33 (by decide) ?_
  refine ev_istore_n dX12_findBest_34 (by decide) ?_
  refine ev_iconst (v := 1) dX12_findBest_35 (by decide) ?_
  refine ev_istore dX12_findBest_36 (by decide) ?_
  have hz := l_best (g := g) hI (so := so) Ps (List.range n) [] 0 1 none none none μ hc (fun o ho => by rw [hP]; exact ho) (Or.inr rfl) hB hF
  rw [if_pos rfl] at hz
  exact hz
end MBEST
