/-! ===== the class: begin ===== -/
theorem exe_S5 {F : Nat → Nat → Int32} {S S' : Nat → Int32} (e : S' 5 = S 5) {h : Nat} {late : Int32} : ∀ (cs st : List Int32), exe F S' h late cs st = exe F S h late cs st := by
  have hn : ∀ x, nmd F S' h late x = nmd F S h late x := fun x => by unfold nmd; rw [e]
  have hs : ∀ c st, stp F S' h late c st = stp F S h late c st := fun c st => by unfold stp; rw [hn]
  intro cs
  induction cs with
  | nil => intro st; rfl
  | cons c cs ih =>
    intro st
    rw [exe, exe, hs]
    cases stp F S h late c st with
    | none => rfl
    | some st' => exact ih st'
theorem byv_S5 {F : Nat → Nat → Int32} {S S' : Nat → Int32} (e : S' 5 = S 5) {cd : Nat → List Int32} {h : Nat} : byv F S' cd h = byv F S cd h := by
  unfold byv vl
  rw [exe_S5 e]
theorem byv_rg {F : Nat → Nat → Int32} {S : Nat → Int32} {cd : Nat → List Int32} {h : Nat} : 0 ≤ (byv F S cd h).toInt ∧ (byv F S cd h).toInt ≤ 999 := by
  unfold byv bnd
  split
  · exact ⟨by decide, by decide⟩
  · rename_i q
    rw [Int32.lt_iff_toInt_lt, Int32.toInt_zero] at q
    split
    · exact ⟨by decide, by decide⟩
    · rename_i q2
      rw [Int32.lt_iff_toInt_lt] at q2
      simp only [Int32.reduceToInt] at q2
      omega
theorem ltv_le {F : Nat → Nat → Int32} {S : Nat → Int32} {cd : Nat → List Int32} {th : List Int32} {h : Nat} (h1 : -100000 ≤ (th.getD h 0).toInt) (h2 : (th.getD h 0).toInt ≤ 100000) : ltv F S cd th h ≤ 0 ↔ (th.getD h 0).toInt ≤ (byv F S cd h).toInt := by
  obtain ⟨b1, b2⟩ := byv_rg (F := F) (S := S) (cd := cd) (h := h)
  have e : (th.getD h 0 - byv F S cd h).toInt = (th.getD h 0).toInt - (byv F S cd h).toInt := sub_i (by omega) (by omega)
  unfold ltv
  rw [Int32.le_iff_toInt_le, Int32.toInt_zero]
  split
  · rename_i q
    rw [Int32.lt_iff_toInt_lt, Int32.toInt_zero, e] at q
    rw [Int32.toInt_zero]; omega
  · rw [e]; omega
/-- nobody is late just when the count stays as it was -/
theorem lmnK_0 {F : Nat → Nat → Int32} {S : Nat → Int32} {cd : Nat → List Int32} {th : List Int32} : ∀ (m k c : Nat), ∃ c', lmnK F S cd th m k (nI c) = nI c' ∧ c ≤ c' ∧ c' ≤ c + m ∧ (c' = c ↔ ∀ h, k ≤ h → h < k + m → ltv F S cd th h ≤ 0) := by
  intro m
  induction m with
  | zero => intro k c; exact ⟨c, rfl, Nat.le_refl _, Nat.le_refl _, ⟨fun _ h h1 h2 => by omega, fun _ => rfl⟩⟩
  | succ m ih =>
    intro k c
    rw [lmnK]
    by_cases q : ltv F S cd th k ≤ 0
    · rw [if_pos q, Int32.add_zero]
      obtain ⟨c', e, h1, h2, h3⟩ := ih (k + 1) c
      refine ⟨c', e, h1, by omega, ?_⟩
      rw [h3]
      constructor
      · intro hh h h4 h5
        by_cases e : h = k
        · rw [e]; exact q
        · exact hh h (by omega) (by omega)
      · intro hh h h4 h5
        exact hh h (by omega) (by omega)
    · rw [if_neg q, nI_1]
      obtain ⟨c', e, h1, h2, h3⟩ := ih (k + 1) (c + 1)
      refine ⟨c', e, by omega, by omega, ?_⟩
      constructor
      · intro z; omega
      · intro hh; exact absurd (hh k (Nat.le_refl _) (by omega)) q
/-- the latest beginning, house by house -/
def lbK (F : Nat → Nat → Int32) (S : Nat → Int32) (cd : Nat → List Int32) (th : List Int32) : Nat → Nat → Int32 → Int32
  | 0, _, s => s
  | m + 1, k, s => lbK F S cd th m (k + 1) (if byv F S cd k - (th.getD k 0 - S 2) < s then byv F S cd k - (th.getD k 0 - S 2) else s)
theorem bgK_le {P : Nat → Bool} {L : Int32} (hL : -100000 ≤ L.toInt) : ∀ (m : Nat), m ≤ 1000 → (∀ k, k < m → (P k = true ↔ (k : Int) ≤ L.toInt)) → L.toInt < m → bgK P m = if L < 0 then -1 else L := by
  intro m
  induction m with
  | zero =>
    intro _ _ h
    rw [bgK, if_pos (by rw [Int32.lt_iff_toInt_lt, Int32.toInt_zero]; omega)]
  | succ m ih =>
    intro hm hP h
    rw [bgK]
    by_cases q : P m = true
    · have h2 := (hP m (by omega)).mp q
      rw [if_pos q, if_neg (by rw [Int32.lt_iff_toInt_lt, Int32.toInt_zero]; omega)]
      apply Int32.toInt_inj.mp
      rw [nI_i (by omega)]; omega
    · have h2 : ¬ (m : Int) ≤ L.toInt := fun z => q ((hP m (by omega)).mpr z)
      rw [if_neg q]
      exact ih (by omega) (fun k hk => hP k (by omega)) (by omega)
theorem lbK_rg {F : Nat → Nat → Int32} {S : Nat → Int32} {cd : Nat → List Int32} {th : List Int32} : ∀ (m k : Nat) (s : Int32), (∀ h, k ≤ h → h < k + m → (S 2).toInt ≤ (th.getD h 0).toInt ∧ (th.getD h 0).toInt ≤ (S 2).toInt + 1750) → 0 ≤ (S 2).toInt → (S 2).toInt ≤ 999 → -1750 ≤ s.toInt → s.toInt ≤ 999 → -1750 ≤ (lbK F S cd th m k s).toInt ∧ (lbK F S cd th m k s).toInt ≤ s.toInt ∧ ∀ x : Int, x ≤ (lbK F S cd th m k s).toInt ↔ (x ≤ s.toInt ∧ ∀ h, k ≤ h → h < k + m → x + (th.getD h 0).toInt - (S 2).toInt ≤ (byv F S cd h).toInt) := by
  intro m
  induction m with
  | zero => intro k s _ _ _ h1 h2; exact ⟨h1, Int.le_refl _, fun x => ⟨fun q => ⟨q, fun h h3 h4 => by omega⟩, fun q => q.1⟩⟩
  | succ m ih =>
    intro k s hth hs0 hs1 h1 h2
    obtain ⟨b1, b2⟩ := byv_rg (F := F) (S := S) (cd := cd) (h := k)
    obtain ⟨t1, t2⟩ := hth k (Nat.le_refl _) (by omega)
    have e1 : (th.getD k 0 - S 2).toInt = (th.getD k 0).toInt - (S 2).toInt := sub_i (by omega) (by omega)
    have e2 : (byv F S cd k - (th.getD k 0 - S 2)).toInt = (byv F S cd k).toInt - ((th.getD k 0).toInt - (S 2).toInt) := by rw [sub_i (by rw [e1]; omega) (by rw [e1]; omega), e1]
    rw [lbK]
    have hth' : ∀ h, k + 1 ≤ h → h < k + 1 + m → (S 2).toInt ≤ (th.getD h 0).toInt ∧ (th.getD h 0).toInt ≤ (S 2).toInt + 1750 := fun h h3 h4 => hth h (by omega) (by omega)
    split
    · rename_i q
      rw [Int32.lt_iff_toInt_lt, e2] at q
      obtain ⟨z1, z2, z3⟩ := ih (k + 1) _ hth' hs0 hs1 (by rw [e2]; omega) (by rw [e2]; omega)
      refine ⟨z1, by omega, fun x => ?_⟩
      rw [z3 x, e2]
      constructor
      · rintro ⟨y1, y2⟩
        refine ⟨by omega, fun h h3 h4 => ?_⟩
        by_cases e : h = k
        · rw [e]; omega
        · exact y2 h (by omega) (by omega)
      · rintro ⟨y1, y2⟩
        have := y2 k (Nat.le_refl _) (by omega)
        exact ⟨by omega, fun h h3 h4 => y2 h (by omega) (by omega)⟩
    · rename_i q
      rw [Int32.lt_iff_toInt_lt, e2] at q
      obtain ⟨z1, z2, z3⟩ := ih (k + 1) s hth' hs0 hs1 h1 h2
      refine ⟨z1, z2, fun x => ?_⟩
      rw [z3 x]
      constructor
      · rintro ⟨y1, y2⟩
        refine ⟨y1, fun h h3 h4 => ?_⟩
        by_cases e : h = k
        · rw [e]; omega
        · exact y2 h (by omega) (by omega)
      · rintro ⟨y1, y2⟩
        exact ⟨y1, fun h h3 h4 => y2 h (by omega) (by omega)⟩
theorem begin_eq {ρ : MS} {n t tx : Nat} {cd : Nat → List Int32} {Lf : Nat → Nat} (hI : IM ρ n t tx cd Lf) (h10 : (ρ.1 6).length = 10) : ansBegin ρ n t cd Lf = if lbK (Fc ρ) (Se ρ) (cdt t cd) (thr ρ n Lf) n 0 999 < 0 then -1 else lbK (Fc ρ) (Se ρ) (cdt t cd) (thr ρ n Lf) n 0 999 := by
  have hn7 := hI.2.2.1.2
  have hin : ∀ x ∈ lsO n Lf, x < 7 := fun x hx => by
    obtain ⟨i, hi⟩ := List.getElem?_of_mem hx
    obtain ⟨q1, rfl⟩ := lsO_at hi
    have := (hI.2.2.2.2.2.2.1 i q1).2
    omega
  have hall := lsO_all hI.2.2.2.2.2.2.2
  have hr := rd0_rg hI.1 hI.2.1 hin (by rw [lsO_len]; exact hn7)
  obtain ⟨s1, s2⟩ := hI.2.1.2.2.1
  have t999 : (999 : Int32).toInt = 999 := by decide
  obtain ⟨z1, z2, z3⟩ := lbK_rg (F := Fc ρ) (S := Se ρ) (cd := cdt t cd) (th := thr ρ n Lf) n 0 999 (fun h _ hh => hr.2.2 h (hall h (by omega))) s1 s2 (by rw [t999]; omega) (by rw [t999]; omega)
  rw [ansBegin]
  refine bgK_le (by omega) 1000 (Nat.le_refl _) (fun k hk => ?_) (by rw [t999] at z2; omega)
  rw [z3, t999]
  unfold noL
  rw [decide_eq_true_iff]
  have hSb : Sb (Se ρ) (Se (stS ρ 2 (nI k))) := fun i hi => by rw [stS_S h10 (by decide)]; exact if_neg hi
  have hS2 : Se (stS ρ 2 (nI k)) 2 = nI k := by rw [stS_S h10 (by decide)]; exact if_pos rfl
  have hsh := rd0_sh (F := Fc ρ) hSb hin
  obtain ⟨c', e, y1, y2, y3⟩ := lmnK_0 (F := Fc ρ) (S := Se (stS ρ 2 (nI k))) (cd := cdt t cd) (th := (rd0 (Fc ρ) (Se (stS ρ 2 (nI k))) (lsO n Lf)).2.2) n 0 0
  rw [show (0 : Int32) = nI 0 from rfl, e, nI_eq (by omega) (by omega), y3]
  have key : ∀ h, h < n → (ltv (Fc ρ) (Se (stS ρ 2 (nI k))) (cdt t cd) (rd0 (Fc ρ) (Se (stS ρ 2 (nI k))) (lsO n Lf)).2.2 h ≤ 0 ↔ (k : Int) + ((thr ρ n Lf).getD h 0).toInt - (Se ρ 2).toInt ≤ (byv (Fc ρ) (Se ρ) (cdt t cd) h).toInt) := by
    intro h hh
    have hm := hall h hh
    obtain ⟨a1, a2⟩ : (Se ρ 2).toInt ≤ ((thr ρ n Lf).getD h 0).toInt ∧ ((thr ρ n Lf).getD h 0).toInt ≤ (Se ρ 2).toInt + 1750 := hr.2.2 h hm
    have e1 : (rd0 (Fc ρ) (Se (stS ρ 2 (nI k))) (lsO n Lf)).2.2.getD h 0 = (thr ρ n Lf).getD h 0 + (nI k - Se ρ 2) := by
      have := hsh h hm
      rw [hS2] at this
      exact this
    have e2 : (nI k - Se ρ 2).toInt = (k : Int) - (Se ρ 2).toInt := by rw [sub_i (by rw [nI_i (by omega)]; omega) (by rw [nI_i (by omega)]; omega), nI_i (by omega)]
    have e3 : ((rd0 (Fc ρ) (Se (stS ρ 2 (nI k))) (lsO n Lf)).2.2.getD h 0).toInt = ((thr ρ n Lf).getD h 0).toInt + ((k : Int) - (Se ρ 2).toInt) := by
      rw [e1, add_i (by rw [e2]; omega) (by rw [e2]; omega), e2]
    rw [ltv_le (by rw [e3]; omega) (by rw [e3]; omega), byv_S5 (hSb 5 (by decide)), e3]
    omega
  constructor
  · intro q
    exact ⟨by omega, fun h _ hh => (key h (by omega)).mp (q h (Nat.zero_le _) hh)⟩
  · rintro ⟨q1, q2⟩ h _ hh
    exact (key h (by omega)).mpr (q2 h (Nat.zero_le _) hh)
section KBEGIN
variable {g : Gl} {a m tx n t : Nat} {ρ : MS} {cd : Nat → List Int32} {Lf : Nat → Nat}
theorem l_kBegin (ht : t < tx) (hn7 : n ≤ 7) {σ0 : KS} {μ0 : Mm} (hT0 : KTie ρ n t tx cd Lf m σ0) : ∀ (k i : Nat) (s : Int32) (o3 : Option Value) (σ : KS) (μ : Mm), i + k = n → KM a m tx σ μ → EqS t σ σ0 → FC a μ0 μ → Ev g 6 mX11_begin 11 [some (.ref a), some (.int s), some (.int (nI i)), o3] [] μ (fun v μ' => v = some (.int (if lbK (Fc ρ) (Se ρ) (cdt t cd) (σ0.1 10) k i s < 0 then -1 else lbK (Fc ρ) (Se ρ) (cdt t cd) (σ0.1 10) k i s)) ∧ (∃ σ', KM a m tx σ' μ' ∧ EqS t σ' σ0) ∧ FC a μ0 μ') := by
  have hl10 := hT0.ln (k := 10) (z := 7) (by decide)
  intro k
  induction k with
  | zero =>
    intro i s o3 σ μ hi hM hE hF
    have hT := hT0.sc hE.sc
    rw [lbK]
    refine ev_iload_n dX11_begin_11 rfl ?_
    refine ev_aload_n dX11_begin_12 rfl ?_
    refine ev_get dX11_begin_13 flX11_15_11 (hM.o 0 11 (by decide)) rfl ?_
    rw [hT.hc]
    refine ev_icmp_ge (tgt := 70) dX11_begin_16 (by decide) (fun _ => ?_) (fun h16 => absurd ((nI_le (by omega) (by omega))) h16)
    refine ev_iload_n dX11_begin_70 rfl ?_
    refine ev_if_ge (tgt := 78) dX11_begin_71 (by decide) (fun h71 => ?_) (fun h71 => ?_)
    · refine ev_iload_n dX11_begin_78 rfl ?_
      refine ev_iret dX11_begin_79 rfl ?_
      first
        | (rw [if_neg (Int32.not_lt.mpr h71)]; exact ⟨rfl, ⟨σ, hM, hE⟩, hF⟩)
        | (rw [if_pos (Int32.not_le.mp h71)]; exact ⟨rfl, ⟨σ, hM, hE⟩, hF⟩)
    · refine ev_iconst (v := (-1)) dX11_begin_74 (by decide) ?_
      refine ev_goto (tgt := 79) dX11_begin_75 (by decide) ?_
      refine ev_iret dX11_begin_79 rfl ?_
      first
        | (rw [if_neg (Int32.not_lt.mpr h71)]; exact ⟨rfl, ⟨σ, hM, hE⟩, hF⟩)
        | (rw [if_pos (Int32.not_le.mp h71)]; exact ⟨rfl, ⟨σ, hM, hE⟩, hF⟩)
  | succ k ih =>
    intro i s o3 σ μ hi hM hE hF
    have hT := hT0.sc hE.sc
    have h7 := hM.ad.2.2.2.2.2.2.1
    have h6 := hM.ad.2.2.2.2.2.2.2
    have hR := hT.rw1 hM ht
    have hnm := hT.nm
    have hl3 : (σ.1 3).length = 10 := hT.ln (k := 3) (by decide)
    rw [lbK]
    refine ev_iload_n dX11_begin_11 rfl ?_
    refine ev_aload_n dX11_begin_12 rfl ?_
    refine ev_get dX11_begin_13 flX11_15_11 (hM.o 0 11 (by decide)) rfl ?_
    rw [hT.hc]
    refine ev_icmp_ge (tgt := 70) dX11_begin_16 (by decide) (fun h16 => absurd h16 ((nI_ge (by omega) (by omega)))) (fun _ => ?_)
    refine ev_aload_n dX11_begin_19 rfl ?_
    refine ev_get dX11_begin_20 flX11_66_11 (hM.o 0 11 (by decide)) rfl ?_
    refine ev_iload_n dX11_begin_23 rfl ?_
    refine ev_iald dX11_begin_24 (hM.r 10 (by decide)) (ix_n (by omega)) (gd (show i < (σ.1 10).length by rw [hE.th]; omega)) ?_
    refine ev_aload_n dX11_begin_25 rfl ?_
    refine ev_get dX11_begin_26 flX11_31_11 (hM.o 0 11 (by decide)) rfl ?_
    refine ev_iconst (v := 2) dX11_begin_29 (by decide) ?_
    refine ev_iald dX11_begin_30 (hM.r 3 (by decide)) ixl2 (gd (by omega)) ?_
    rw [hE.th, show (σ.1 3).getD 2 0 = Se ρ 2 by rw [hT.tm]]
    refine ev_isub dX11_begin_31 ?_
    refine ev_istore_n dX11_begin_32 (by decide) ?_
    dsimp only [List.set]
    refine ev_iload_n dX11_begin_33 rfl ?_
    refine ev_aload_n dX11_begin_34 rfl ?_
    refine ev_get dX11_begin_35 flX11_43_11 (hM.o 0 11 (by decide)) rfl ?_
    refine ev_aload_n dX11_begin_38 rfl ?_
    refine ev_get dX11_begin_39 flX11_50_11 (hM.o 0 11 (by decide)) rfl ?_
    rw [hT.ru.2.1]
    refine ev_aald dX11_begin_42 hM.ul (by decide) (by decide) (ix_n (by omega)) (kUl_at ht h6) ?_
    refine ev_aload_n dX11_begin_43 rfl ?_
    refine ev_get dX11_begin_44 flX11_11_11 (hM.o 0 11 (by decide)) rfl ?_
    refine ev_iload_n dX11_begin_47 rfl ?_
    refine ev_aald dX11_begin_48 hM.dl (by decide) (by decide) (ix_n (by omega)) (kDl_at (m := m) (by omega) h7) ?_
    refine ev_aload_n dX11_begin_49 rfl ?_
    refine ev_get dX11_begin_50 flX11_31_11 (hM.o 0 11 (by decide)) rfl ?_
    refine ev_iconst (v := 5) dX11_begin_53 (by decide) ?_
    refine ev_iald dX11_begin_54 (hM.r 3 (by decide)) ixl5 (gd (by omega)) ?_
    rw [show (σ.1 3).getD 5 0 = Se ρ 5 by rw [hT.tm]]
    refine k_v (c_kWanted hM hT ht (h := i) (by omega)) (by decide) dX11_begin_55 cbX5_wantedBy (mt3 143 rfl rfl) (mt3 144 rfl rfl) (mt3 145 rfl rfl) (ci := 5) rfl hR.1 rfl rfl (Nat.le_of_ble_eq_true rfl) (fun v μ1 hq => ?_)
    obtain ⟨rfl, ⟨σ1, hM, hE1⟩, hF1⟩ := hq; have hF := hF.tr hF1
    simp only [Option.toList, List.cons_append, List.nil_append]
    refine ev_iload_n dX11_begin_58 rfl ?_
    refine ev_isub dX11_begin_59 ?_
    refine ev_mmin dX11_begin_60 (mt4 136 rfl rfl) (Nat.le_of_ble_eq_true rfl) ?_
    refine ev_istore_n dX11_begin_63 (by decide) ?_
    dsimp only [List.set]
    refine ev_iinc dX11_begin_64 rfl (by decide) ?_
    dsimp only [List.set]
    refine ev_goto (tgt := 11) dX11_begin_67 (by decide) ?_
    rw [nI_inc]
    exact ih (i + 1) _ _ σ1 _ (by omega) hM (hE1.tr hE) hF
theorem lbK_th {F : Nat → Nat → Int32} {S : Nat → Int32} {cd : Nat → List Int32} {th th' : List Int32} : ∀ (m k : Nat) (s : Int32), (∀ h, h < k + m → th.getD h 0 = th'.getD h 0) → lbK F S cd th m k s = lbK F S cd th' m k s := by
  intro m
  induction m with
  | zero => intro k s _; rfl
  | succ m ih => intro k s e; rw [lbK, lbK, e k (by omega), ih _ _ (fun h hh => e h (by omega))]
theorem c_kBegin {σ : KS} {μ : Mm} (hI : IM ρ n t tx cd Lf) (hM : KM a m tx σ μ) (hT : KTie ρ n t tx cd Lf m σ) : Mt g 6 mX11_begin [.ref a] μ (fun v μ' => v = some (.int (ansBegin ρ n t cd Lf)) ∧ KV a ρ n t tx cd Lf m μ' ∧ FC a μ μ') := by
  refine Mt.of0 (ls0 := [some (.ref a), none, none, none]) (by decide) (by simp [Value.category]) (Nat.le_of_ble_eq_true rfl) rfl ?_
  have hn7 := hI.2.2.1.2
  have ht := hI.2.2.2.1.2
  have h10 : (ρ.1 6).length = 10 := by rw [← hT.tm]; exact hT.ln (k := 3) (by decide)
  rw [begin_eq hI h10]
  refine ev_aload_n dX11_begin_0 rfl ?_
  refine k_v (c_kGoList hI hM hT) (by decide) dX11_begin_1 cbX11_goList (mt3 190 rfl rfl) (mt3 192 rfl rfl) (ms0 21 rfl rfl) (ci := 11) rfl (hM.o 0 11 (by decide)) rfl rfl (Nat.le_of_ble_eq_true rfl) (fun v μ1 hq => ?_)
  obtain ⟨rfl, ⟨σ1, hM1, hE1, hb1, ha1⟩, hF1⟩ := hq
  have hT1 := hT.sc hE1
  simp only [Option.toList, List.cons_append, List.nil_append]
  refine ev_pop dX11_begin_4 rfl ?_
  refine ev_sipush (v := 999) dX11_begin_5 (by decide) ?_
  refine ev_istore_n dX11_begin_8 (by decide) ?_
  dsimp only [List.set]
  refine ev_iconst (v := 0) dX11_begin_9 (by decide) ?_
  refine ev_istore_n dX11_begin_10 (by decide) ?_
  dsimp only [List.set]
  refine Ev.imp (l_kBegin ht hn7 hT1 n 0 999 _ σ1 _ (by omega) hM1 EqS.rf hF1) ?_
  rintro v μ' ⟨rfl, ⟨σ2, hM2, hE2⟩, hF2⟩
  refine ⟨?_, ⟨σ2, hM2, hT1.sc hE2.sc⟩, hF2⟩
  rw [lbK_th n 0 999 (fun h hh => ha1 h (by omega))]
end KBEGIN
