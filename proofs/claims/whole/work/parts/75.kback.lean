/-! ===== the class: back ===== -/
/-- what the state is once an image is back -/
def UnF (ρ' ρ : MS) : Prop := (∀ k, (k = 0 ∨ 7 ≤ k) → ρ'.1 k = ρ.1 k) ∧ (∀ k, k ≠ 7 → k ≠ 8 → ρ'.2 k = ρ.2 k) ∧ ρ'.2 7 = (ρ.1 29).getD 45 0 ∧ ρ'.2 8 = (ρ.1 29).getD 46 0 ∧ (∀ w h, w < 4 → h < 7 → (ρ'.1 (w + 1)).getD h 0 = (ρ.1 29).getD (7 * w + h) 0) ∧ (∀ i, i < 7 → (ρ'.1 5).getD i 0 = (ρ.1 29).getD (28 + i) 0) ∧ (∀ i, i < 10 → (ρ'.1 6).getD i 0 = (ρ.1 29).getD (35 + i) 0) ∧ (ρ'.1 5).length = 7 ∧ (ρ'.1 6).length = 10
theorem unk_f {ρ : MS} (hC : CLn ρ) : UnF (unk ρ) ρ := by
  have l1 : (ρ.1 1).length = 7 := hC (1, 7) (by decide) (by decide)
  have l2 : (ρ.1 2).length = 7 := hC (2, 7) (by decide) (by decide)
  have l3 : (ρ.1 3).length = 7 := hC (3, 7) (by decide) (by decide)
  have l4 : (ρ.1 4).length = 7 := hC (4, 7) (by decide) (by decide)
  have l5 : (ρ.1 5).length = 7 := hC (5, 7) (by decide) (by decide)
  have l6 : (ρ.1 6).length = 10 := hC (6, 10) (by decide) (by decide)
  have e1 : (unk ρ).1 1 = bkK (ρ.1 29) 7 0 0 (ρ.1 1) := rfl
  have e2 : (unk ρ).1 2 = bkK (ρ.1 29) 7 0 7 (ρ.1 2) := rfl
  have e3 : (unk ρ).1 3 = bkK (ρ.1 29) 7 0 14 (ρ.1 3) := rfl
  have e4 : (unk ρ).1 4 = bkK (ρ.1 29) 7 0 21 (ρ.1 4) := rfl
  have e5 : (unk ρ).1 5 = bkK (ρ.1 29) 7 0 28 (ρ.1 5) := rfl
  have e6 : (unk ρ).1 6 = bkK (ρ.1 29) 10 0 35 (ρ.1 6) := rfl
  have f7 : (unk ρ).2 7 = (ρ.1 29).getD 45 0 := rfl
  have f8 : (unk ρ).2 8 = (ρ.1 29).getD 46 0 := rfl
  have o1 : ∀ k, (k = 0 ∨ 7 ≤ k) → (unk ρ).1 k = ρ.1 k := fun k hk => by
    show (if k = 6 then _ else if k = 5 then _ else if k = 4 then _ else if k = 3 then _ else if k = 2 then _ else if k = 1 then _ else ρ.1 k) = ρ.1 k
    rw [if_neg (by omega), if_neg (by omega), if_neg (by omega), if_neg (by omega), if_neg (by omega), if_neg (by omega)]
  have o2 : ∀ k, k ≠ 7 → k ≠ 8 → (unk ρ).2 k = ρ.2 k := fun k h7 h8 => by
    show (if k = 8 then _ else if k = 7 then _ else ρ.2 k) = ρ.2 k
    rw [if_neg h8, if_neg h7]
  generalize unk ρ = ρ' at *
  refine ⟨o1, o2, f7, f8, fun w h hw hh => ?_, fun i hi => ?_, fun i hi => ?_, by rw [e5, bkK_len]; exact l5, by rw [e6, bkK_len]; exact l6⟩
  · have e : w = 0 ∨ w = 1 ∨ w = 2 ∨ w = 3 := by omega
    rcases e with rfl | rfl | rfl | rfl
    · rw [e1, bkK_D _ _ _ _ (by omega), if_pos (by omega)]; congr 1
    · rw [e2, bkK_D _ _ _ _ (by omega), if_pos (by omega)]; congr 1
    · rw [e3, bkK_D _ _ _ _ (by omega), if_pos (by omega)]; congr 1
    · rw [e4, bkK_D _ _ _ _ (by omega), if_pos (by omega)]; congr 1
  · rw [e5, bkK_D _ _ _ _ (by omega), if_pos (by omega)]; congr 1
  · rw [e6, bkK_D _ _ _ _ (by omega), if_pos (by omega)]; congr 1
theorem UnF.im {ρ' ρ : MS} (h : UnF ρ' ρ) {n t tx kn kt : Nat} {cd : Nat → List Int32} {Lf kL : Nat → Nat} (hI : IM ρ n t tx cd Lf) (hK : KImg ρ n tx kn kt kL) : IM ρ' kn kt tx cd kL := by
  obtain ⟨u1, u2, u3, u4, u5, u6, u7, u8, u9⟩ := h
  obtain ⟨h1, h2, h3, h4, h5, h6, h7, h8⟩ := hI
  obtain ⟨k1, k2, k3, k4, k5, k6, k7, k8⟩ := hK
  refine ⟨fun x hx => ?_, ?_, ⟨u3.trans k1, by omega⟩, ⟨u4.trans k3, k4⟩, ⟨(u2 16 (by decide) (by decide)).trans h5.1, h5.2⟩, fun r hr => ⟨?_, (h6 r hr).2⟩, fun i hi => ?_, k6⟩
  · obtain ⟨v0, v1, v2, v3, v4⟩ := h1 x hx
    obtain ⟨w1, w2, w3, w4⟩ := k7 x hx
    have f0 : Fc ρ' 0 x = Fc ρ 0 x := by
      show (ρ'.1 0).getD x 0 = (ρ.1 0).getD x 0
      rw [u1 0 (Or.inl rfl)]
    have f1 : Fc ρ' 1 x = (ρ.1 29).getD x 0 := (u5 0 x (by decide) hx).trans (by congr 1; omega)
    have f2 : Fc ρ' 2 x = (ρ.1 29).getD (7 + x) 0 := u5 1 x (by decide) hx
    have f3 : Fc ρ' 3 x = (ρ.1 29).getD (14 + x) 0 := u5 2 x (by decide) hx
    have f4 : Fc ρ' 4 x = (ρ.1 29).getD (21 + x) 0 := u5 3 x (by decide) hx
    rw [f0, f1, f2, f3, f4]
    exact ⟨v0, w1, w2, w3, w4⟩
  · obtain ⟨s0, s1, s2, s3, s4, s5, s6, s7, s8, s9⟩ := k8
    have kk : ∀ i, i < 10 → Se ρ' i = (ρ.1 29).getD (35 + i) 0 := fun i hi => u7 i hi
    unfold VS
    rw [kk 0 (by decide), kk 1 (by decide), kk 2 (by decide), kk 3 (by decide), kk 4 (by decide), kk 5 (by decide), kk 6 (by decide), kk 7 (by decide), kk 8 (by decide), kk 9 (by decide)]
    exact ⟨s0, s1, s2, s3, s4, s5, s6, s7, s8, s9⟩
  · have := (h6 r hr).1
    unfold RC at this ⊢
    rw [u1 11 (by omega), u1 12 (by omega)]; exact this
  · obtain ⟨z1, z2⟩ := k5 i hi
    refine ⟨?_, z2⟩
    rw [gd (by omega), u6 i (by omega), z1]
def DS (ρ : MS) (kn J : Nat) (σB σ1 : KS) : Prop := σ1.1 = σB.1 ∧ (∀ o k, (o < 100 ∨ 107 ≤ o) → kI σ1 o k = kI σB o k) ∧ σ1.2.2 = σB.2.2 ∧ ∀ h, h < kn → kI σ1 (100 + h) 0 = nI h ∧ ∀ k, k < 4 → kI σ1 (100 + h) (k + 1) = if 4 * h + k < J then (ρ.1 29).getD (7 * k + h) 0 else Fc ρ (k + 1) h
section KBACK
variable {g : Gl} {a m tx n t : Nat} {ρ ρ' : MS} {cd : Nat → List Int32} {Lf : Nat → Nat} {σ : KS} {μ μ0 : Mm}
theorem l_bk2 {kn : Nat} {σB : KS} (hm7 : m ≤ 7) (hnm : kn ≤ m) (hck : ∀ h, h < kn → (kD σB h).2 ∈ dks) (h48 : ∀ h, h < kn → ∀ w, w < 4 → (σB.1 48)[4 * h + w]? = some ((ρ.1 29).getD (7 * w + h) 0)) {Q : Option Value → Mm → Prop} {h : Nat} (hh : h < kn) (go : ∀ (σ1 : KS) (μ : Mm), DS ρ kn (4 * (h + 1)) σB σ1 → KM a m tx σ1 μ → FC a μ0 μ → Ev g 2 mX11_back 100 [some (.ref a), some (.int (nI h)), some (.int (nI 4))] [] μ Q) : ∀ (f k : Nat) (σ1 : KS) (μ : Mm), k + f = 4 → DS ρ kn (4 * h + k) σB σ1 → KM a m tx σ1 μ → FC a μ0 μ → Ev g 2 mX11_back 69 [some (.ref a), some (.int (nI h)), some (.int (nI k))] [] μ Q := by
  intro f
  induction f with
  | zero =>
    intro k σ1 μ hk hD hM hF
    have e : k = 4 := by omega
    subst e
    refine ev_iload_n dX11_back_69 rfl ?_
    refine ev_iconst (v := 4) dX11_back_70 (by decide) ?_
    refine ev_icmp_ge (tgt := 100) dX11_back_71 (by decide) (fun _ => ?_) (fun h71 => absurd ((show (4 : Int32) ≤ nI 4 by decide)) h71)
    exact go σ1 _ hD hM hF
  | succ f ih =>
    intro k σ1 μ hk hD hM hF
    obtain ⟨d1, d2, d3, d4⟩ := id hD
    have eD : kD σ1 = kD σB := congrArg (·.1) d3
    have hci : (kD σ1 h).2 ∈ dks := by rw [eD]; exact hck h hh
    have hd := hM.d (i := h) (by omega)
    obtain ⟨i0, iF⟩ := d4 h hh
    unfold dF at hd
    rw [i0] at hd
    have hg := h48 h hh k (by omega)
    rw [← d1] at hg
    refine ev_iload_n dX11_back_69 rfl ?_
    refine ev_iconst (v := 4) dX11_back_70 (by decide) ?_
    refine ev_icmp_ge (tgt := 100) dX11_back_71 (by decide) (fun h71 => absurd h71 ((show ¬ nI 4 ≤ nI k from nI_ge (by omega) (by omega)))) (fun _ => ?_)
    refine ev_aload_n dX11_back_74 rfl ?_
    refine ev_get dX11_back_75 flX11_11_11 (hM.o 0 11 (by decide)) rfl ?_
    refine ev_iload_n dX11_back_78 rfl ?_
    refine ev_aald dX11_back_79 hM.dl (by decide) (by decide) (ix_n (by omega)) (kDl_at (by omega) hm7) ?_
    refine ev_iload_n dX11_back_80 rfl ?_
    refine ev_aload_n dX11_back_81 rfl ?_
    refine ev_get dX11_back_82 flX11_96_11 (hM.o 0 11 (by decide)) rfl ?_
    refine ev_iload_n dX11_back_85 rfl ?_
    refine ev_iconst (v := 4) dX11_back_86 (by decide) ?_
    refine ev_imul dX11_back_87 ?_
    refine ev_iload_n dX11_back_88 rfl ?_
    refine ev_iadd dX11_back_89 ?_
    refine ev_iald dX11_back_90 (hM.r 48 (by decide)) (by rw [mul4r]; exact ix_n (by omega)) hg ?_
    refine u_change dX11_back_91 (mt3 43 rfl rfl) hci hd (Nat.le_of_ble_eq_true rfl) ?_
    have hM2 := hM.setD (j := h) (by omega) (sfc (fun k _ => kI σ1 (100 + h) k) h k ((ρ.1 29).getD (7 * k + h) 0))
    have ed : dF (ksO σ1 (100 + h) (sfc (fun k _ => kI σ1 (100 + h) k) h k ((ρ.1 29).getD (7 * k + h) 0))) h = dfq (nI h) (dch (nI k) ((ρ.1 29).getD (7 * k + h) 0) (kI σ1 (100 + h) 1) (kI σ1 (100 + h) 2) (kI σ1 (100 + h) 3) (kI σ1 (100 + h) 4)) := by
      rw [← sfc_dch (F := fun k _ => kI σ1 (100 + h) k) (by omega : k < 4)]
      unfold dF
      rw [ksO_eq]
      rfl
    rw [ed] at hM2
    have hF2 := hF.upd (c := (kD σ1 h).1) (e := obj (kD σ1 h).2 (dfq (nI h) (dch (nI k) ((ρ.1 29).getD (7 * k + h) 0) (kI σ1 (100 + h) 1) (kI σ1 (100 + h) 2) (kI σ1 (100 + h) 3) (kI σ1 (100 + h) 4)))) (by have := hM.da (i := h) (by omega); omega)
    generalize mupd μ (kD σ1 h).1 (obj (kD σ1 h).2 (dfq (nI h) (dch (nI k) ((ρ.1 29).getD (7 * k + h) 0) (kI σ1 (100 + h) 1) (kI σ1 (100 + h) 2) (kI σ1 (100 + h) 3) (kI σ1 (100 + h) 4)))) = μ2 at hM2 hF2 ⊢
    refine ev_iinc dX11_back_94 rfl (by decide) ?_
    dsimp only [List.set]
    refine ev_goto (tgt := 69) dX11_back_97 (by decide) ?_
    rw [nI_inc]
    refine ih (k + 1) (ksO σ1 (100 + h) (sfc (fun k _ => kI σ1 (100 + h) k) h k ((ρ.1 29).getD (7 * k + h) 0))) _ (by omega) ⟨d1, fun o q ho => (ksO_ne (by omega)).trans (d2 o q ho), d3, fun x hx => ?_⟩ hM2 hF2
    by_cases e : x = h
    · subst e
      refine ⟨?_, fun q hq => ?_⟩
      · rw [ksO_eq]; rfl
      · rw [ksO_eq]
        show (if q + 1 = 0 then _ else if q + 1 = k + 1 then _ else kI σ1 (100 + x) (q + 1)) = _
        rw [if_neg (by omega)]
        by_cases e2 : q = k
        · subst e2; rw [if_pos rfl, if_pos (by omega)]
        · rw [if_neg (by omega), iF q hq]
          by_cases e3 : 4 * x + q < 4 * x + k
          · rw [if_pos e3, if_pos (by omega)]
          · rw [if_neg e3, if_neg (by omega)]
    · obtain ⟨j0, jF⟩ := d4 x hx
      refine ⟨(ksO_ne (by omega)).trans j0, fun q hq => (ksO_ne (by omega)).trans ((jF q hq).trans ?_)⟩
      by_cases e3 : 4 * x + q < 4 * h + k
      · rw [if_pos e3, if_pos (by omega)]
      · rw [if_neg e3, if_neg (by omega)]
theorem l_bk {kn : Nat} {σB : KS} (hm7 : m ≤ 7) (hnm : kn ≤ m) (hn1 : kI σB 0 1 = nI kn) (hck : ∀ h, h < kn → (kD σB h).2 ∈ dks) (h48 : ∀ h, h < kn → ∀ w, w < 4 → (σB.1 48)[4 * h + w]? = some ((ρ.1 29).getD (7 * w + h) 0)) {Q : Option Value → Mm → Prop} (go : ∀ (σ1 : KS) (μ : Mm) (o2 : Option Value), DS ρ kn (4 * kn) σB σ1 → KM a m tx σ1 μ → FC a μ0 μ → Ev g 2 mX11_back 106 [some (.ref a), some (.int (nI kn)), o2] [] μ Q) : ∀ (f h : Nat) (σ1 : KS) (o2 : Option Value) (μ : Mm), h + f = kn → DS ρ kn (4 * h) σB σ1 → KM a m tx σ1 μ → FC a μ0 μ → Ev g 2 mX11_back 59 [some (.ref a), some (.int (nI h)), o2] [] μ Q := by
  intro f
  induction f with
  | zero =>
    intro h σ1 o2 μ hk hD hM hF
    have e : h = kn := by omega
    subst e
    have e1 : kI σ1 0 1 = nI h := (hD.2.1 0 1 (Or.inl (by decide))).trans hn1
    refine ev_iload_n dX11_back_59 rfl ?_
    refine ev_aload_n dX11_back_60 rfl ?_
    refine ev_get dX11_back_61 flX11_15_11 (hM.o 0 11 (by decide)) rfl ?_
    rw [e1]
    refine ev_icmp_ge (tgt := 106) dX11_back_64 (by decide) (fun _ => ?_) (fun h64 => absurd ((Int32.le_refl _)) h64)
    exact go σ1 _ o2 hD hM hF
  | succ f ih =>
    intro h σ1 o2 μ hk hD hM hF
    have e1 : kI σ1 0 1 = nI kn := (hD.2.1 0 1 (Or.inl (by decide))).trans hn1
    have back : ∀ (σ1 : KS) (μ : Mm), DS ρ kn (4 * (h + 1)) σB σ1 → KM a m tx σ1 μ → FC a μ0 μ → Ev g 2 mX11_back 100 [some (.ref a), some (.int (nI h)), some (.int (nI 4))] [] μ Q := by
      intro σ1 μ hD hM hF
      refine ev_iinc dX11_back_100 rfl (by decide) ?_
      dsimp only [List.set]
      refine ev_goto (tgt := 59) dX11_back_103 (by decide) ?_
      rw [nI_inc]
      exact ih (h + 1) σ1 _ _ (by omega) hD hM hF
    refine ev_iload_n dX11_back_59 rfl ?_
    refine ev_aload_n dX11_back_60 rfl ?_
    refine ev_get dX11_back_61 flX11_15_11 (hM.o 0 11 (by decide)) rfl ?_
    rw [e1]
    refine ev_icmp_ge (tgt := 106) dX11_back_64 (by decide) (fun h64 => absurd h64 ((show ¬ nI kn ≤ nI h from nI_ge (by omega) (by omega)))) (fun _ => ?_)
    refine ev_iconst (v := 0) dX11_back_67 (by decide) ?_
    refine ev_istore_n dX11_back_68 (by decide) ?_
    dsimp only [List.set]
    exact l_bk2 hm7 hnm hck h48 (by omega) back 4 0 σ1 _ rfl hD hM hF
theorem ltF10 {l1 l2 : List Int32} (h1 : l1.length = 10) (h2 : l2.length = 10) (h : ∀ i, i < 10 → l1.getD i 0 = l2.getD i 0) : l1 = l2 := by
  apply List.ext_getElem?
  intro i
  by_cases hi : i < 10
  · rw [gd (by omega), gd (by omega), h i hi]
  · rw [List.getElem?_eq_none (by omega), List.getElem?_eq_none (by omega)]
abbrev bkZ (σ : KS) (kn kt : Nat) : KS := ksR (ksR (ksI (ksI σ 0 1 (nI kn)) 0 7 (nI kt)) 2 (σ.1 46)) 3 (σ.1 47)
theorem bkZ_r {kn kt k : Nat} (h : k ≠ 2) (h' : k ≠ 3) : (bkZ σ kn kt).1 k = σ.1 k := by
  show (if k = 3 then _ else if k = 2 then _ else σ.1 k) = _
  rw [if_neg h', if_neg h]
theorem bkZ_i {kn kt o k : Nat} (h : o ≠ 0) : kI (bkZ σ kn kt) o k = kI σ o k := (ksI_ne h).trans (ksI_ne h)
theorem bk_t8 (hC : CLn ρ) (hI : IM ρ n t tx cd Lf) (hT : KTie ρ n t tx cd Lf m σ) {kn kt : Nat} {kL : Nat → Nat} (hu : UnF ρ' ρ) (hK : KImg ρ n tx kn kt kL) (h30 : ρ.2 30 = 1) (g14 : kI σ 0 14 = nI kn) (g15 : kI σ 0 15 = nI kt) (g46 : ∀ i, i < kn → (σ.1 46)[i]? = some (nI (kL i))) (g47 : ∀ i, i < 10 → (σ.1 47).getD i 0 = (ρ.1 29).getD (35 + i) 0) (g48 : ∀ h, h < kn → ∀ w, w < 4 → (σ.1 48).getD (4 * h + w) 0 = (ρ.1 29).getD (7 * w + h) 0) {σ1 : KS} (hD : DS ρ kn (4 * kn) (bkZ σ kn kt) σ1) : KT8 ρ' kn kt tx cd kL m σ1 ∧ KS0 σ1 := by
  have hs0 := hT.s0
  obtain ⟨x1, x2, x3, x4, x5, x6, x7, x8⟩ := hT.t8
  obtain ⟨d1, d2, d3, d4⟩ := hD
  obtain ⟨u1, u2, u3, u4, u5, u6, u7, u8, u9⟩ := id hu
  have hkn := hK.2.1
  have hn7 := hI.2.2.1.2
  have e2 : σ1.1 2 = σ.1 46 := by rw [d1]; rfl
  have e3 : σ1.1 3 = σ.1 47 := by rw [d1]; rfl
  have er : ∀ k, k ≠ 2 → k ≠ 3 → σ1.1 k = σ.1 k := fun k h h' => by rw [d1]; exact bkZ_r h h'
  have ei : ∀ o k, (o < 100 ∨ 107 ≤ o) → o ≠ 0 → kI σ1 o k = kI σ o k := fun o k ho h0 => (d2 o k ho).trans (bkZ_i h0)
  have e0 : ∀ k, k ≠ 1 → k ≠ 7 → kI σ1 0 k = kI σ 0 k := fun k h1 h7 => (d2 0 k (Or.inl (by decide))).trans ((ksI_ne2 h7).trans (ksI_ne2 h1))
  have e01 : kI σ1 0 1 = nI kn := (d2 0 1 (Or.inl (by decide))).trans ((ksI_ne2 (by decide)).trans ksI_eq)
  have e07 : kI σ1 0 7 = nI kt := (d2 0 7 (Or.inl (by decide))).trans ksI_eq
  have l46 : (σ.1 46).length = 7 := x1 (46, 7) (by decide)
  have l47 : (σ.1 47).length = 10 := x1 (47, 10) (by decide)
  refine ⟨⟨fun q hq => ?_, ?_, ⟨Nat.le_trans hkn x3.1, e01, fun h hh => ?_⟩, fun i hi => ?_, ⟨?_, fun i c hi hc => ?_⟩, ⟨?_, e07, fun r hr => ?_⟩, fun s hs => ?_, Or.inr ⟨?_, kn, kt, kL, ?_, ?_, ?_, fun i hi => ?_, fun i hi => ?_, fun h hh w hw => ?_⟩⟩, fun so hso => ?_⟩
  · have k3 : ∀ q ∈ kLen, (q.1 = 2 → q.2 = 7) ∧ (q.1 = 3 → q.2 = 10) := by decide
    obtain ⟨a1, a2⟩ := k3 q hq
    by_cases q2 : q.1 = 2
    · rw [q2, e2, a1 q2]; exact l46
    by_cases q3 : q.1 = 3
    · rw [q3, e3, a2 q3]; exact l47
    rw [er _ q2 q3]; exact x1 q hq
  · rw [e3]
    exact ltF10 l47 u9 (fun i hi => (g47 i hi).trans (u7 i hi).symm)
  · obtain ⟨w1, w2, w3⟩ := x3.2.2 h (by omega)
    obtain ⟨z1, z2⟩ := d4 h hh
    have eD : kD σ1 = kD σ := congrArg (·.1) d3
    refine ⟨?_, z1, fun k hk => ?_⟩
    · rw [eD]
      show KC (kD σ h).2 ((ρ'.1 0).getD h 0)
      rw [u1 0 (Or.inl rfl)]; exact w1
    · rw [z2 k hk, if_pos (by omega)]
      show _ = if k + 1 < 5 then (ρ'.1 (k + 1)).getD h 0 else 0
      rw [if_pos (by omega), u5 k h hk (by omega)]
  · rw [e2]; exact g46 i hi
  · rw [ei _ _ (by omega) (by omega), u2 15 (by decide) (by decide)]; exact x5.1
  · rw [u1 10 (by omega)] at hc
    rw [u2 15 (by decide) (by decide)] at hi
    rw [er _ (by omega) (by omega)]; exact x5.2 i c hi hc
  · rw [e0 _ (by decide) (by decide)]; exact x6.1
  · obtain ⟨w1, w2, w3, w4, w5⟩ := x6.2.2 r hr
    exact ⟨(er _ (by omega) (by omega)).trans w1, (ei _ _ (by omega) (by omega)).trans w2, (ei _ _ (by omega) (by omega)).trans w3, by rw [er _ (by omega) (by omega)]; exact w4, w5⟩
  · obtain ⟨w1, w2, w3⟩ := x7 s hs
    rw [u1 33 (by omega), u1 34 (by omega), u1 35 (by omega)]
    exact ⟨(ei _ _ (by omega) (by omega)).trans w1, (ei _ _ (by omega) (by omega)).trans w2, fun i hi => by rw [er _ (by omega) (by omega)]; exact w3 i hi⟩
  · rw [u2 30 (by decide) (by decide)]; exact h30
  · obtain ⟨k1, k2, k3⟩ := hK
    unfold KImg
    rw [u1 29 (by omega)]
    exact ⟨k1, Nat.le_refl _, k3⟩
  · rw [e0 _ (by decide) (by decide)]; exact g14
  · rw [e0 _ (by decide) (by decide)]; exact g15
  · rw [er _ (by decide) (by decide)]; exact g46 i hi
  · rw [er _ (by decide) (by decide), u1 29 (by omega)]; exact g47 i hi
  · rw [er _ (by decide) (by decide), u1 29 (by omega)]; exact g48 h hh w hw
  · rw [ei _ _ (by omega) (by omega)]; exact hs0 so hso
theorem c_kBack (hG : GI ρ) (hC : CLn ρ) (hI : IM ρ n t tx cd Lf) (hM : KM a m tx σ μ) (hT : KTie ρ n t tx cd Lf m σ) : Mt g 2 mX11_back [.ref a] μ (fun r μ' => r = some (.int (opBack ρ).1) ∧ (∃ n' t' Lf', n' ≤ n ∧ IM (gho (opBack ρ).2) n' t' tx cd Lf' ∧ KV a (gho (opBack ρ).2) n' t' tx cd Lf' m μ') ∧ FC a μ μ') := by
  refine Mt.of0 (ls0 := [some (.ref a), none, none]) (by decide) (by simp [Value.category]) (Nat.le_of_ble_eq_true rfl) rfl ?_
  have hF : FC a μ μ := FC.rf
  have hm7 : m ≤ 7 := hM.ad.2.2.2.2.2.2.1
  have hn7 := hI.2.2.1.2
  have h14 : ∀ z : Nat, z ≤ 7 → ¬ nI z = -1 := fun z hz q => by
    have h1 := nI_i (n := z) (by omega)
    rw [q] at h1
    have : (-1 : Int32).toInt = -1 := by decide
    omega
  rcases hT.t8.2.2.2.2.2.2.2 with ⟨h30, h14'⟩ | ⟨h30, kn, kt, kL, hK, g14, g15, g46, g47, g48⟩
  · rw [opBack, if_pos h30, hG.eq]
    refine ev_aload_n dX11_back_0 rfl ?_
    refine ev_get dX11_back_1 flX11_84_11 (hM.o 0 11 (by decide)) rfl ?_
    rw [h14']
    refine ev_iconst (v := (-1)) dX11_back_4 (by decide) ?_
    refine ev_icmp_ne (tgt := 11) dX11_back_5 (by decide) (fun h5 => absurd (rfl) h5) (fun _ => ?_)
    refine ev_bipush (v := (-3)) dX11_back_8 (by decide) ?_
    refine ev_iret dX11_back_10 rfl ?_
    exact ⟨rfl, ⟨n, t, Lf, Nat.le_refl _, hI, ⟨σ, hM, hT⟩⟩, hF⟩
  · have hu := unk_f hC
    have hkn := hK.2.1
    have hnm := hT.nm
    have r0 : (opBack ρ).1 = nI kn := by
      rw [opBack, if_neg (by rw [h30]; decide)]; exact hK.1
    have r1 : (opBack ρ).2 = unk ρ := by rw [opBack, if_neg (by rw [h30]; decide)]
    rw [r0, r1]
    generalize unk ρ = ρ' at hu ⊢
    have h48 : ∀ h, h < kn → ∀ w, w < 4 → ((bkZ σ kn kt).1 48)[4 * h + w]? = some ((ρ.1 29).getD (7 * w + h) 0) := fun h hh w hw => by
      have l48 : (σ.1 48).length = 28 := hT.ln (k := 48) (by decide)
      rw [bkZ_r (by decide) (by decide), gd (by omega), g48 h hh w hw]
    have hck : ∀ h, h < kn → (kD (bkZ σ kn kt) h).2 ∈ dks := fun h hh => (hT.2.2.1.2.2 h (by omega)).1.1
    have hD0 : DS ρ kn (4 * 0) (bkZ σ kn kt) (bkZ σ kn kt) := by
      refine ⟨rfl, fun _ _ _ => rfl, rfl, fun h hh => ?_⟩
      obtain ⟨w1, w2, w3⟩ := hT.2.2.1.2.2 h (by omega)
      exact ⟨(bkZ_i (by omega)).trans w2, fun k hk => by rw [if_neg (by omega)]; exact (bkZ_i (by omega)).trans (w3 k hk)⟩
    have fin : ∀ (σ1 : KS) (μ1 : Mm) (o2 : Option Value), DS ρ kn (4 * kn) (bkZ σ kn kt) σ1 → KM a m tx σ1 μ1 → FC a μ μ1 → Ev g 2 mX11_back 106 [some (.ref a), some (.int (nI kn)), o2] [] μ1 (fun r μ' => r = some (.int (nI kn)) ∧ (∃ n' t' Lf', n' ≤ n ∧ IM (gho ρ') n' t' tx cd Lf' ∧ KV a (gho ρ') n' t' tx cd Lf' m μ') ∧ FC a μ μ') := by
      intro σ1 μ o2 hD hM hF
      obtain ⟨t8, s0⟩ := bk_t8 hC hI hT hu hK h30 g14 g15 g46 g47 g48 hD
      have e01 : kI (fgt σ1) 0 1 = nI kn := t8.2.2.1.2.1
      refine ev_aload_n dX11_back_106 rfl ?_
      refine k_v (c_kForget hM) (by decide) dX11_back_107 cbX11_forgetBest (mt3 53 rfl rfl) (mt3 55 rfl rfl) (ms0 16 rfl rfl) (ci := 11) rfl (hM.o 0 11 (by decide)) rfl rfl (Nat.le_of_ble_eq_true rfl) (fun v μ1 hq => ?_)
      obtain ⟨rfl, hM, hF3⟩ := hq; have hF := hF.tr hF3
      simp only [Option.toList, List.cons_append, List.nil_append]
      refine ev_aload_n dX11_back_110 rfl ?_
      refine ev_get dX11_back_111 flX11_15_11 (hM.o 0 11 (by decide)) rfl ?_
      rw [e01]
      refine ev_iret dX11_back_114 rfl ?_
      exact ⟨rfl, ⟨kn, kt, kL, hkn, (hu.im hI hK).eqc gho_eqc, t8.kv s0 hM⟩, hF⟩
    refine ev_aload_n dX11_back_0 rfl ?_
    refine ev_get dX11_back_1 flX11_84_11 (hM.o 0 11 (by decide)) rfl ?_
    rw [g14]
    refine ev_iconst (v := (-1)) dX11_back_4 (by decide) ?_
    refine ev_icmp_ne (tgt := 11) dX11_back_5 (by decide) (fun _ => ?_) (fun h5 => absurd h5 ((h14 kn (by omega))))
    refine ev_aload_n dX11_back_11 rfl ?_
    refine ev_aload_n dX11_back_12 rfl ?_
    refine ev_get dX11_back_13 flX11_84_11 (hM.o 0 11 (by decide)) rfl ?_
    rw [g14]
    refine evK_put hM hF (o := 0) (ci := 11) (k := 1) (by decide) (by decide) dX11_back_16 fpX11_15_11 rfl rfl (fun μ hM hF => ?_)
    refine ev_aload_n dX11_back_19 rfl ?_
    refine ev_aload_n dX11_back_20 rfl ?_
    refine ev_get dX11_back_21 flX11_87_11 (hM.o 0 11 (by decide)) rfl ?_
    rw [show kI (ksI σ 0 1 (nI kn)) 0 15 = nI kt from g15]
    refine evK_put hM hF (o := 0) (ci := 11) (k := 7) (by decide) (by decide) dX11_back_24 fpX11_50_11 rfl rfl (fun μ hM hF => ?_)
    refine ev_aload_n dX11_back_27 rfl ?_
    refine ev_get dX11_back_28 flX11_90_11 (hM.o 0 11 (by decide)) rfl ?_
    refine ev_iconst (v := 0) dX11_back_31 (by decide) ?_
    refine ev_aload_n dX11_back_32 rfl ?_
    refine ev_get dX11_back_33 flX11_19_11 (hM.o 0 11 (by decide)) rfl ?_
    refine ev_iconst (v := 0) dX11_back_36 (by decide) ?_
    refine ev_bipush (v := 7) dX11_back_37 (by decide) ?_
    refine evK_copy hM hF (k1 := 46) (k2 := 2) (N := 7) (by decide) (by decide) dX11_back_39 (mt4 123 rfl rfl) (hT.ln (k := 46) (by decide)) (hT.ln (k := 2) (by decide)) (ix_n (by decide)) (Nat.le_of_ble_eq_true rfl) (fun μ hM hF ↦ ?_)
    refine ev_aload_n dX11_back_42 rfl ?_
    refine ev_get dX11_back_43 flX11_93_11 (hM.o 0 11 (by decide)) rfl ?_
    refine ev_iconst (v := 0) dX11_back_46 (by decide) ?_
    refine ev_aload_n dX11_back_47 rfl ?_
    refine ev_get dX11_back_48 flX11_31_11 (hM.o 0 11 (by decide)) rfl ?_
    refine ev_iconst (v := 0) dX11_back_51 (by decide) ?_
    refine ev_bipush (v := 10) dX11_back_52 (by decide) ?_
    refine evK_copy hM hF (k1 := 47) (k2 := 3) (N := 10) (by decide) (by decide) dX11_back_54 (mt4 123 rfl rfl) (hT.ln (k := 47) (by decide)) (hT.ln (k := 3) (by decide)) (ix_n (by decide)) (Nat.le_of_ble_eq_true rfl) (fun μ hM hF ↦ ?_)
    refine ev_iconst (v := 0) dX11_back_57 (by decide) ?_
    refine ev_istore_n dX11_back_58 (by decide) ?_
    dsimp only [List.set]
    exact l_bk (σB := bkZ σ kn kt) hm7 (by omega) rfl hck h48 fin kn 0 (bkZ σ kn kt) none _ (by omega) hD0 hM hF
end KBACK
