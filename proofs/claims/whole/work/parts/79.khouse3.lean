/-! ===== the class: house, the walk ===== -/
/-- new cells may have come, the reference's are as they were -/
def FN (a c s : Nat) (μ0 μ : Mm) : Prop := (μ0.2.1 ≤ μ.2.1 ∧ μ.2.1 ≤ μ0.2.1 + c ∧ μ0.2.2 ≤ μ.2.2 ∧ μ.2.2 ≤ μ0.2.2 + s) ∧ ∀ q, a + 60 ≤ q ∧ q < a + 94 → μ.1 q = μ0.1 q
theorem FN.rf {a c s : Nat} {μ : Mm} : FN a c s μ μ := ⟨⟨Nat.le_refl _, Nat.le_add_right _ _, Nat.le_refl _, Nat.le_add_right _ _⟩, fun _ _ => rfl⟩
theorem FN.tr {a c s c' s' : Nat} {μ μ1 μ2 : Mm} (h : FN a c s μ μ1) (k : FN a c' s' μ1 μ2) : FN a (c + c') (s + s') μ μ2 := ⟨by have := h.1; have := k.1; omega, fun q hq => (k.2 q hq).trans (h.2 q hq)⟩
theorem FN.fc {a c s : Nat} {μ μ1 μ2 : Mm} (h : FN a c s μ μ1) (k : FC a μ1 μ2) : FN a c s μ μ2 := ⟨by rw [k.1]; exact h.1, fun q hq => (k.2 q hq).trans (h.2 q hq)⟩
theorem FN.of {a c s : Nat} {μ μ1 : Mm} (k : FC a μ μ1) : FN a c s μ μ1 := FN.rf.fc k
section KHOUSE
variable {g : Gl} {a m tx n t : Nat} {ρ : MS} {cd : Nat → List Int32} {Lf : Nat → Nat} {σ : KS} {μ : Mm} {k w p : Int32}
abbrev hsZ (σ : KS) (n ad ci : Nat) (f : Nat → Int32) : KS := ksI (ksR (kAdd σ n ad ci f) 2 ((σ.1 2).set n (nI n))) 0 1 (nI (n + 1))
def dfc (n : Nat) (k w p : Int32) : Nat → Int32 := fun q => if q = 0 then nI n else nfc k w p q
theorem hs_t8 (hC : CLn ρ) (hn : n < 7) (hI : IM ρ n t tx cd Lf) (hT : KTie ρ n t tx cd Lf m σ) {ad ci : Nat} (hk : KC ci k) : KT8 (hsR ρ n k w p) (n + 1) t tx cd (fun i => if i = n then n else Lf i) (max m (n + 1)) (hsZ σ n ad ci (dfc n k w p)) ∧ KS0 (hsZ σ n ad ci (dfc n k w p)) := by
  have hs0 := hT.s0
  obtain ⟨x1, x2, x3, x4, x5, x6, x7, x8⟩ := hT.t8
  have l2 : (σ.1 2).length = 7 := x1 (2, 7) (by decide)
  have er : ∀ j, j ≠ 2 → (hsZ σ n ad ci (dfc n k w p)).1 j = σ.1 j := fun j hj => by show (if j = 2 then _ else σ.1 j) = _; rw [if_neg hj]
  have ei : ∀ o j, o ≠ 0 → o ≠ 100 + n → kI (hsZ σ n ad ci (dfc n k w p)) o j = kI σ o j := fun o j h0 h1 => (ksI_ne h0).trans (kAdd_i h1)
  have e0 : ∀ j, j ≠ 1 → kI (hsZ σ n ad ci (dfc n k w p)) 0 j = kI σ 0 j := fun j h1 => (ksI_ne2 h1).trans (kAdd_i (by omega))
  refine ⟨⟨fun q hq => ?_, by rw [er 3 (by decide), hsR_r (by decide)]; exact x2, ⟨Nat.le_max_right _ _, ksI_eq, fun x hx => ?_⟩, fun i hi => ?_, ?_, ⟨(e0 6 (by decide)).trans x6.1, (e0 7 (by decide)).trans x6.2.1, fun r hr => ?_⟩, fun s hs => ?_, ?_⟩, fun so hso => (ei _ _ (by omega) (by omega)).trans (hs0 so hso)⟩
  · by_cases q2 : q.1 = 2
    · have k3 : ∀ q ∈ kLen, q.1 = 2 → q.2 = 7 := by decide
      rw [k3 q hq q2, q2]
      show ((σ.1 2).set n (nI n)).length = 7
      rw [List.length_set]; exact l2
    · rw [er _ q2]; exact x1 q hq
  · by_cases e : x = n
    · subst e
      refine ⟨?_, ?_, fun q hq => ?_⟩
      · show KC (kD (kAdd σ x ad ci (dfc x k w p)) x).2 (Fc (hsR ρ x k w p) 0 x)
        rw [kAdd_n, hsR_f hC hn (by decide), if_pos rfl]; exact hk
      · refine (ksI_ne (by omega)).trans ?_
        show kI (kAdd σ x ad ci (dfc x k w p)) (100 + x) 0 = _
        rw [kAdd_f]; rfl
      · refine (ksI_ne (by omega)).trans ?_
        show kI (kAdd σ x ad ci (dfc x k w p)) (100 + x) (q + 1) = _
        rw [kAdd_f, hsR_f hC hn (by omega), if_pos rfl]
        show (if q + 1 = 0 then _ else _) = _
        rw [if_neg (by omega)]
    · obtain ⟨w1, w2, w3⟩ := x3.2.2 x (by omega)
      refine ⟨?_, (ei _ _ (by omega) (by omega)).trans w2, fun q hq => ?_⟩
      · show KC (kD (kAdd σ n ad ci (dfc n k w p)) x).2 (Fc (hsR ρ n k w p) 0 x)
        rw [kAdd_d e, hsR_f hC hn (by decide), if_neg e]; exact w1
      · rw [ei _ _ (by omega) (by omega), hsR_f hC hn (by omega), if_neg e]; exact w3 q hq
  · show ((σ.1 2).set n (nI n))[i]? = some (nI (if i = n then n else Lf i))
    rw [List.getElem?_set]
    by_cases e : n = i
    · rw [if_pos e, if_pos (by omega), if_pos e.symm]
    · rw [if_neg e, if_neg (Ne.symm e)]; exact x4 i (by omega)
  · refine ⟨(ei _ _ (by omega) (by omega)).trans (by rw [hsR_i (by decide)]; exact x5.1), fun i c hi hc => ?_⟩
    rw [hsR_r (by decide)] at hc
    rw [hsR_i (by decide)] at hi
    rw [er _ (by decide)]; exact x5.2 i c hi hc
  · obtain ⟨w1, w2, w3, w4, w5⟩ := x6.2.2 r hr
    exact ⟨(er _ (by omega)).trans w1, (ei _ _ (by omega) (by omega)).trans w2, (ei _ _ (by omega) (by omega)).trans w3, by rw [er _ (by omega)]; exact w4, w5⟩
  · obtain ⟨w1, w2, w3⟩ := x7 s hs
    rw [hsR_r (by decide), hsR_r (by decide), hsR_r (by decide)]
    exact ⟨(ei _ _ (by omega) (by omega)).trans w1, (ei _ _ (by omega) (by omega)).trans w2, fun i hi => by rw [er _ (by omega)]; exact w3 i hi⟩
  · rcases x8 with ⟨h30, h14⟩ | ⟨h30, kn, kt, kL, ⟨k1, k2, k3⟩, g14, g15, g46, g47, g48⟩
    · exact Or.inl ⟨by rw [hsR_i (by decide)]; exact h30, (e0 14 (by decide)).trans h14⟩
    · refine Or.inr ⟨by rw [hsR_i (by decide)]; exact h30, kn, kt, kL, ?_, (e0 14 (by decide)).trans g14, (e0 15 (by decide)).trans g15, fun i hi => by rw [er _ (by decide)]; exact g46 i hi, fun i hi => ?_, fun h hh q hq => ?_⟩
      · unfold KImg
        rw [hsR_r (by decide)]
        exact ⟨k1, by omega, k3⟩
      · rw [er _ (by decide), hsR_r (by decide)]; exact g47 i hi
      · rw [er _ (by decide), hsR_r (by decide)]; exact g48 h hh q hq
theorem c_kNew (hG : GI ρ) (hC : CLn ρ) (hI : IM ρ n t tx cd Lf) (hM : KM a m tx σ μ) (hT : KTie ρ n t tx cd Lf m σ) (k w p : Int32) : Mt g 5 mX11_house [.ref a, .int k, .int w, .int p] μ (fun r μ' => r = some (.int (opHouse ρ n k w p).1) ∧ (∃ n' Lf' m', n' ≤ n + 1 ∧ IM (gho (opHouse ρ n k w p).2) n' t tx cd Lf' ∧ KV a (gho (opHouse ρ n k w p).2) n' t tx cd Lf' m' μ') ∧ FN a 1 5 μ μ') := by
  refine Mt.of0 (ls0 := [some (.ref a), some (.int k), some (.int w), some (.int p), none, none, none, none, none, none]) (by decide) (by simp [Value.category]) (Nat.le_of_ble_eq_true rfl) rfl ?_
  have hn7 := hI.2.2.1.2
  have hnm := hT.nm
  have hA := hM.ad
  have stay : (∃ n' Lf' m', n' ≤ n + 1 ∧ IM (gho ρ) n' t tx cd Lf' ∧ KV a (gho ρ) n' t tx cd Lf' m' μ) ∧ FN a 1 5 μ μ := by
    rw [hG.eq]; exact ⟨⟨n, Lf, m, Nat.le_succ _, hI, ⟨σ, hM, hT⟩⟩, FN.rf⟩
  have hF : FC a μ μ := FC.rf
  rw [opHouse_eq]
  by_cases hH : HsC k w p
  · rw [if_pos hH]
    have hk := hH.1
    obtain ⟨f0, f3, f1, f2⟩ := (hsC_iff hk hH.2.1.1 hH.2.2.2.1.1).mp hH
    have s5 : ∀ e : MC, FN a 1 5 μ (mnew μ e 5) := fun e => ⟨⟨Nat.le_succ _, Nat.le_refl _, Nat.le_add_right _ _, Nat.le_refl _⟩, fun q hq => mnew_ne (by have := hA.2.2.2.2.2.1; omega)⟩
    refine ev_iload_n dX11_house_0 rfl ?_
    refine ev_if_lt (tgt := 17) dX11_house_1 (by decide) (fun h1 => absurd h1 ((show ¬ k < 0 from Int32.not_lt.mpr hk.1))) (fun _ => ?_)
    refine ev_iload_n dX11_house_4 rfl ?_
    refine ev_iconst (v := 5) dX11_house_5 (by decide) ?_
    refine ev_icmp_gt (tgt := 17) dX11_house_6 (by decide) (fun h6 => absurd h6 ((show ¬ 5 < k from Int32.not_lt.mpr hk.2))) (fun _ => ?_)
    refine ev_iload_n dX11_house_9 rfl ?_
    refine ev_if_lt (tgt := 17) dX11_house_10 (by decide) (fun h10 => absurd h10 ((show ¬ w < 0 from Int32.not_lt.mpr hH.2.1.1))) (fun _ => ?_)
    refine ev_iload_n dX11_house_13 rfl ?_
    refine ev_if_ge (tgt := 20) dX11_house_14 (by decide) (fun _ => ?_) (fun h14 => absurd (hH.2.2.2.1.1) h14)
    refine ev_iload_n dX11_house_20 rfl ?_
    refine ev_bipush (v := 10) dX11_house_21 (by decide) ?_
    refine ev_idiv dX11_house_23 (by decide) ?_
    refine ev_istore dX11_house_24 (by decide) ?_
    dsimp only [List.set]
    refine ev_iload_n dX11_house_26 rfl ?_
    refine ev_bipush (v := 10) dX11_house_27 (by decide) ?_
    refine ev_irem dX11_house_29 (by decide) ?_
    refine ev_istore dX11_house_30 (by decide) ?_
    dsimp only [List.set]
    refine ev_iload_n dX11_house_32 rfl ?_
    refine ev_bipush (v := 10) dX11_house_33 (by decide) ?_
    refine ev_idiv dX11_house_35 (by decide) ?_
    refine ev_istore dX11_house_36 (by decide) ?_
    dsimp only [List.set]
    refine ev_iload_n dX11_house_38 rfl ?_
    refine ev_bipush (v := 10) dX11_house_39 (by decide) ?_
    refine ev_irem dX11_house_41 (by decide) ?_
    refine ev_istore dX11_house_42 (by decide) ?_
    dsimp only [List.set]
    refine ev_iconst (v := 0) dX11_house_44 (by decide) ?_
    refine ev_iload dX11_house_45 rfl ?_
    refine k_s (c_isFact _ _) (by decide) dX11_house_47 cbX11_isFact (mt2 175 rfl rfl) (mt2 176 rfl rfl) rfl rfl (Nat.le_of_ble_eq_true rfl) (fun v μ1 hq => ?_)
    obtain ⟨rfl, hμ⟩ := hq
    have hμ := hμ.symm
    subst hμ
    simp only [Option.toList, List.cons_append, List.nil_append]
    rw [b2i_t f0]
    refine ev_if_eq (tgt := 80) dX11_house_50 (by decide) (fun h50 => absurd h50 ((show ¬ (1 : Int32) = 0 by decide))) (fun _ => ?_)
    refine ev_iconst (v := 3) dX11_house_53 (by decide) ?_
    refine ev_iload dX11_house_54 rfl ?_
    refine k_s (c_isFact _ _) (by decide) dX11_house_56 cbX11_isFact (mt2 175 rfl rfl) (mt2 176 rfl rfl) rfl rfl (Nat.le_of_ble_eq_true rfl) (fun v μ1 hq => ?_)
    obtain ⟨rfl, hμ⟩ := hq
    have hμ := hμ.symm
    subst hμ
    simp only [Option.toList, List.cons_append, List.nil_append]
    rw [b2i_t f3]
    refine ev_if_eq (tgt := 80) dX11_house_59 (by decide) (fun h59 => absurd h59 ((show ¬ (1 : Int32) = 0 by decide))) (fun _ => ?_)
    refine ev_iconst (v := 1) dX11_house_62 (by decide) ?_
    refine ev_iload dX11_house_63 rfl ?_
    refine k_s (c_isFact _ _) (by decide) dX11_house_65 cbX11_isFact (mt2 175 rfl rfl) (mt2 176 rfl rfl) rfl rfl (Nat.le_of_ble_eq_true rfl) (fun v μ1 hq => ?_)
    obtain ⟨rfl, hμ⟩ := hq
    have hμ := hμ.symm
    subst hμ
    simp only [Option.toList, List.cons_append, List.nil_append]
    rw [b2i_t f1]
    refine ev_if_eq (tgt := 80) dX11_house_68 (by decide) (fun h68 => absurd h68 ((show ¬ (1 : Int32) = 0 by decide))) (fun _ => ?_)
    refine ev_iconst (v := 2) dX11_house_71 (by decide) ?_
    refine ev_iload dX11_house_72 rfl ?_
    refine k_s (c_isFact _ _) (by decide) dX11_house_74 cbX11_isFact (mt2 175 rfl rfl) (mt2 176 rfl rfl) rfl rfl (Nat.le_of_ble_eq_true rfl) (fun v μ1 hq => ?_)
    obtain ⟨rfl, hμ⟩ := hq
    have hμ := hμ.symm
    subst hμ
    simp only [Option.toList, List.cons_append, List.nil_append]
    rw [b2i_t f2]
    refine ev_if_ne (tgt := 83) dX11_house_77 (by decide) (fun _ => ?_) (fun h77 => absurd h77 ((show ¬ (1 : Int32) = 0 by decide)))
    refine ev_aload_n dX11_house_83 rfl ?_
    refine ev_get dX11_house_84 flX11_15_11 (hM.o 0 11 (by decide)) rfl ?_
    rw [show kI σ 0 1 = nI n from hT.hc]
    refine ev_bipush (v := 7) dX11_house_87 (by decide) ?_
    refine ev_icmp_lt (tgt := 95) dX11_house_89 (by decide) (fun h89 => ?_) (fun h89 => ?_)
    · have hnl : n < 7 := by
        have h89' : nI n < nI 7 := h89
        exact (nI_ltI (by omega) (by decide)).mp h89'
      rw [if_neg (show ¬ n = 7 by omega)]
      refine ev_aload_n dX11_house_95 rfl ?_
      refine ev_get dX11_house_96 flX11_15_11 (hM.o 0 11 (by decide)) rfl ?_
      rw [show kI σ 0 1 = nI n from hT.hc]
      refine ev_istore dX11_house_99 (by decide) ?_
      dsimp only [List.set]
      refine ev_iload_n dX11_house_101 rfl ?_
      refine ev_iload dX11_house_102 rfl ?_
      refine k_s (c_kNewDoor hk (nI n)) (by decide) dX11_house_104 cbX11_newDoor (mt2 180 rfl rfl) (mt2 181 rfl rfl) rfl rfl (Nat.le_of_ble_eq_true rfl) (fun v μ1 hq => ?_)
      obtain ⟨rfl, ci, hkc, hq⟩ := hq; subst hq; have hci := hkc.1
      simp only [Option.toList, List.cons_append, List.nil_append]
      refine ev_astore dX11_house_107 (by decide) ?_
      dsimp only [List.set]
      refine ev_aload dX11_house_109 rfl ?_
      refine ev_iconst (v := 0) dX11_house_111 (by decide) ?_
      refine ev_iload dX11_house_112 rfl ?_
      refine u_change dX11_house_114 (mt3 43 rfl rfl) hci mnew_at (Nat.le_of_ble_eq_true rfl) ?_
      rw [mupd_mnew, show dfq (nI n) (dch 0 (w / 10) 0 0 0 0) = dfs (nI n) (w / 10) 0 0 0 from rfl]
      refine ev_aload dX11_house_117 rfl ?_
      refine ev_iconst (v := 3) dX11_house_119 (by decide) ?_
      refine ev_iload dX11_house_120 rfl ?_
      refine u_change dX11_house_122 (mt3 43 rfl rfl) hci mnew_at (Nat.le_of_ble_eq_true rfl) ?_
      rw [mupd_mnew, show dfq (nI n) (dch 3 (w - w / 10 * 10) (w / 10) 0 0 0) = dfs (nI n) (w / 10) 0 0 (w - w / 10 * 10) from rfl]
      refine ev_aload dX11_house_125 rfl ?_
      refine ev_iconst (v := 1) dX11_house_127 (by decide) ?_
      refine ev_iload dX11_house_128 rfl ?_
      refine u_change dX11_house_130 (mt3 43 rfl rfl) hci mnew_at (Nat.le_of_ble_eq_true rfl) ?_
      rw [mupd_mnew, show dfq (nI n) (dch 1 (p / 10) (w / 10) 0 0 (w - w / 10 * 10)) = dfs (nI n) (w / 10) (p / 10) 0 (w - w / 10 * 10) from rfl]
      refine ev_aload dX11_house_133 rfl ?_
      refine ev_iconst (v := 2) dX11_house_135 (by decide) ?_
      refine ev_iload dX11_house_136 rfl ?_
      refine u_change dX11_house_138 (mt3 43 rfl rfl) hci mnew_at (Nat.le_of_ble_eq_true rfl) ?_
      rw [mupd_mnew, show dfq (nI n) (dch 2 (p - p / 10 * 10) (w / 10) (p / 10) 0 (w - w / 10 * 10)) = dfs (dfc n k w p 0) (dfc n k w p 1) (dfc n k w p 2) (dfc n k w p 3) (dfc n k w p 4) from rfl]
      have hM0 := hM
      have hM := hM0.new (obj ci (dfs (dfc n k w p 0) (dfc n k w p 1) (dfc n k w p 2) (dfc n k w p 3) (dfc n k w p 4))) 5
      refine ev_aload_n dX11_house_141 rfl ?_
      refine ev_get dX11_house_142 flX11_11_11 (hM.o 0 11 (by decide)) rfl ?_
      refine ev_iload dX11_house_145 rfl ?_
      refine ev_aload dX11_house_147 rfl ?_
      refine ev_aast dX11_house_149 hM.dl mnew_at (aok_d hci) (ix_n (by omega)) (by simp [kDl]; omega) ?_
      have hM2 := hM.addD hnm hnl (w := μ.2.1) (ci := ci) (f := dfc n k w p) mnew_at hA.2.2.2.2.2.1 (Nat.lt_succ_self _) (fun i hi => (hA.1 i hi).2) (fun r hr => (hA.2.1 r hr).2)
      have hN2 : FN a 1 5 μ (mupd (mnew μ (obj ci (dfs (dfc n k w p 0) (dfc n k w p 1) (dfc n k w p 2) (dfc n k w p 3) (dfc n k w p 4))) 5) (a + 1) (rar 1 ((kDl m σ).set n (some μ.2.1)))) := (s5 _).fc (FC.rf.upd (by omega))
      generalize mupd (mnew μ (obj ci (dfs (dfc n k w p 0) (dfc n k w p 1) (dfc n k w p 2) (dfc n k w p 3) (dfc n k w p 4))) 5) (a + 1) (rar 1 ((kDl m σ).set n (some μ.2.1))) = μ2 at hM2 hN2 ⊢
      clear hM hF
      have hM := hM2
      have hF : FC a μ2 μ2 := FC.rf
      refine ev_aload_n dX11_house_150 rfl ?_
      refine ev_get dX11_house_151 flX11_19_11 (hM.o 0 11 (by decide)) rfl ?_
      refine ev_iload dX11_house_154 rfl ?_
      refine ev_iload dX11_house_156 rfl ?_
      refine evK_iast hM hF (k := 2) (by decide) dX11_house_158 (ix_n (by omega)) (show n < (σ.1 2).length by rw [hT.ln (k := 2) (z := 7) (by decide)]; exact hnl) (fun μ hM hF => ?_)
      refine ev_aload_n dX11_house_159 rfl ?_
      refine ev_iload dX11_house_160 rfl ?_
      refine ev_iconst (v := 1) dX11_house_162 (by decide) ?_
      refine ev_iadd dX11_house_163 ?_
      rw [nI_1]
      refine evK_put hM hF (o := 0) (ci := 11) (k := 1) (by decide) (by decide) dX11_house_164 fpX11_15_11 rfl rfl (fun μ hM hF => ?_)
      refine ev_aload_n dX11_house_167 rfl ?_
      refine k_v (c_kForget hM) (by decide) dX11_house_168 cbX11_forgetBest (mt3 53 rfl rfl) (mt3 55 rfl rfl) (ms0 16 rfl rfl) (ci := 11) rfl (hM.o 0 11 (by decide)) rfl rfl (Nat.le_of_ble_eq_true rfl) (fun v μ1 hq => ?_)
      obtain ⟨rfl, hM3, hF3⟩ := hq; have hF := hF.tr hF3
      simp only [Option.toList, List.cons_append, List.nil_append]
      refine ev_iload dX11_house_171 rfl ?_
      refine ev_iret dX11_house_173 rfl ?_
      have q := fun ad => hs_t8 (w := w) (p := p) (ad := ad) hC hnl hI hT hkc
      exact ⟨rfl, ⟨n + 1, _, _, Nat.le_refl _, (hsR_im hC hnl hH hI).eqc gho_eqc, (q _).1.kv (q _).2 hM3⟩, hN2.fc hF⟩
    · refine ev_bipush (v := (-4)) dX11_house_92 (by decide) ?_
      refine ev_iret dX11_house_94 rfl ?_
      have q : n = 7 := by
        have h89' : ¬ nI n < nI 7 := h89
        have : ¬ n < 7 := fun z => h89' (nI_lt z (by decide))
        omega
      rw [if_pos q]
      exact ⟨rfl, stay⟩
  · rw [if_neg hH]
    refine ev_iload_n dX11_house_0 rfl ?_
    refine ev_if_lt (tgt := 17) dX11_house_1 (by decide) (fun h1 => ?_) (fun h1 => ?_)
    · refine ev_bipush (v := (-2)) dX11_house_17 (by decide) ?_
      refine ev_iret dX11_house_19 rfl ?_
      exact ⟨rfl, stay⟩
    · refine ev_iload_n dX11_house_4 rfl ?_
      refine ev_iconst (v := 5) dX11_house_5 (by decide) ?_
      refine ev_icmp_gt (tgt := 17) dX11_house_6 (by decide) (fun h6 => ?_) (fun h6 => ?_)
      · refine ev_bipush (v := (-2)) dX11_house_17 (by decide) ?_
        refine ev_iret dX11_house_19 rfl ?_
        exact ⟨rfl, stay⟩
      · refine ev_iload_n dX11_house_9 rfl ?_
        refine ev_if_lt (tgt := 17) dX11_house_10 (by decide) (fun h10 => ?_) (fun h10 => ?_)
        · refine ev_bipush (v := (-2)) dX11_house_17 (by decide) ?_
          refine ev_iret dX11_house_19 rfl ?_
          exact ⟨rfl, stay⟩
        · refine ev_iload_n dX11_house_13 rfl ?_
          refine ev_if_ge (tgt := 20) dX11_house_14 (by decide) (fun h14 => ?_) (fun h14 => ?_)
          · refine ev_iload_n dX11_house_20 rfl ?_
            refine ev_bipush (v := 10) dX11_house_21 (by decide) ?_
            refine ev_idiv dX11_house_23 (by decide) ?_
            refine ev_istore dX11_house_24 (by decide) ?_
            dsimp only [List.set]
            refine ev_iload_n dX11_house_26 rfl ?_
            refine ev_bipush (v := 10) dX11_house_27 (by decide) ?_
            refine ev_irem dX11_house_29 (by decide) ?_
            refine ev_istore dX11_house_30 (by decide) ?_
            dsimp only [List.set]
            refine ev_iload_n dX11_house_32 rfl ?_
            refine ev_bipush (v := 10) dX11_house_33 (by decide) ?_
            refine ev_idiv dX11_house_35 (by decide) ?_
            refine ev_istore dX11_house_36 (by decide) ?_
            dsimp only [List.set]
            refine ev_iload_n dX11_house_38 rfl ?_
            refine ev_bipush (v := 10) dX11_house_39 (by decide) ?_
            refine ev_irem dX11_house_41 (by decide) ?_
            refine ev_istore dX11_house_42 (by decide) ?_
            dsimp only [List.set]
            refine ev_iconst (v := 0) dX11_house_44 (by decide) ?_
            refine ev_iload dX11_house_45 rfl ?_
            refine k_s (c_isFact _ _) (by decide) dX11_house_47 cbX11_isFact (mt2 175 rfl rfl) (mt2 176 rfl rfl) rfl rfl (Nat.le_of_ble_eq_true rfl) (fun v μ1 hq => ?_)
            obtain ⟨rfl, hμ⟩ := hq
            have hμ := hμ.symm
            subst hμ
            simp only [Option.toList, List.cons_append, List.nil_append]
            refine ev_if_eq (tgt := 80) dX11_house_50 (by decide) (fun h50 => ?_) (fun h50 => ?_)
            · refine ev_bipush (v := (-2)) dX11_house_80 (by decide) ?_
              refine ev_iret dX11_house_82 rfl ?_
              exact ⟨rfl, stay⟩
            · refine ev_iconst (v := 3) dX11_house_53 (by decide) ?_
              refine ev_iload dX11_house_54 rfl ?_
              refine k_s (c_isFact _ _) (by decide) dX11_house_56 cbX11_isFact (mt2 175 rfl rfl) (mt2 176 rfl rfl) rfl rfl (Nat.le_of_ble_eq_true rfl) (fun v μ1 hq => ?_)
              obtain ⟨rfl, hμ⟩ := hq
              have hμ := hμ.symm
              subst hμ
              simp only [Option.toList, List.cons_append, List.nil_append]
              refine ev_if_eq (tgt := 80) dX11_house_59 (by decide) (fun h59 => ?_) (fun h59 => ?_)
              · refine ev_bipush (v := (-2)) dX11_house_80 (by decide) ?_
                refine ev_iret dX11_house_82 rfl ?_
                exact ⟨rfl, stay⟩
              · refine ev_iconst (v := 1) dX11_house_62 (by decide) ?_
                refine ev_iload dX11_house_63 rfl ?_
                refine k_s (c_isFact _ _) (by decide) dX11_house_65 cbX11_isFact (mt2 175 rfl rfl) (mt2 176 rfl rfl) rfl rfl (Nat.le_of_ble_eq_true rfl) (fun v μ1 hq => ?_)
                obtain ⟨rfl, hμ⟩ := hq
                have hμ := hμ.symm
                subst hμ
                simp only [Option.toList, List.cons_append, List.nil_append]
                refine ev_if_eq (tgt := 80) dX11_house_68 (by decide) (fun h68 => ?_) (fun h68 => ?_)
                · refine ev_bipush (v := (-2)) dX11_house_80 (by decide) ?_
                  refine ev_iret dX11_house_82 rfl ?_
                  exact ⟨rfl, stay⟩
                · refine ev_iconst (v := 2) dX11_house_71 (by decide) ?_
                  refine ev_iload dX11_house_72 rfl ?_
                  refine k_s (c_isFact _ _) (by decide) dX11_house_74 cbX11_isFact (mt2 175 rfl rfl) (mt2 176 rfl rfl) rfl rfl (Nat.le_of_ble_eq_true rfl) (fun v μ1 hq => ?_)
                  obtain ⟨rfl, hμ⟩ := hq
                  have hμ := hμ.symm
                  subst hμ
                  simp only [Option.toList, List.cons_append, List.nil_append]
                  refine ev_if_ne (tgt := 83) dX11_house_77 (by decide) (fun h77 => ?_) (fun h77 => ?_)
                  · exact absurd ((hsC_iff ⟨Int32.not_lt.mp h1, Int32.not_lt.mp h6⟩ (Int32.not_lt.mp h10) h14).mpr ⟨b2i_ne h50, b2i_ne h59, b2i_ne h68, b2i_ne h77⟩) hH
                  · refine ev_bipush (v := (-2)) dX11_house_80 (by decide) ?_
                    refine ev_iret dX11_house_82 rfl ?_
                    exact ⟨rfl, stay⟩
          · refine ev_bipush (v := (-2)) dX11_house_17 (by decide) ?_
            refine ev_iret dX11_house_19 rfl ?_
            exact ⟨rfl, stay⟩
end KHOUSE
