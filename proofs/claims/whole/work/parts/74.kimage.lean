/-! ===== the class: image ===== -/
theorem pkK_D {A : List Int32} {j : Nat} : ∀ (m k c : Nat) (K : List Int32), c + m ≤ K.length → (pkK A m k c K).getD j 0 = if c ≤ j ∧ j < c + m then A.getD (k + (j - c)) 0 else K.getD j 0 := by
  intro m
  induction m with
  | zero => intro k c K h1; rw [pkK, if_neg (by omega)]
  | succ m ih =>
    intro k c K h1
    rw [pkK, ih _ _ _ (by rw [List.length_set]; omega)]
    by_cases e : j = c
    · subst e
      rw [if_neg (by omega), if_pos (by omega), setD_eq (by omega), Nat.sub_self, Nat.add_zero]
    · rw [setD_ne e]
      by_cases q : c + 1 ≤ j ∧ j < c + 1 + m
      · rw [if_pos q, if_pos (by omega)]; congr 1; omega
      · rw [if_neg q, if_neg (by omega)]
theorem bkK_D {K : List Int32} {j : Nat} : ∀ (m k c : Nat) (A : List Int32), k + m ≤ A.length → (bkK K m k c A).getD j 0 = if k ≤ j ∧ j < k + m then K.getD (c + (j - k)) 0 else A.getD j 0 := by
  intro m
  induction m with
  | zero => intro k c A h1; rw [bkK, if_neg (by omega)]
  | succ m ih =>
    intro k c A h1
    rw [bkK, ih _ _ _ (by rw [List.length_set]; omega)]
    by_cases e : j = k
    · subst e
      rw [if_neg (by omega), if_pos (by omega), setD_eq (by omega), Nat.sub_self, Nat.add_zero]
    · rw [setD_ne e]
      by_cases q : k + 1 ≤ j ∧ j < k + 1 + m
      · rw [if_pos q, if_pos (by omega)]; congr 1; omega
      · rw [if_neg q, if_neg (by omega)]
section KPT
variable {ρ : MS}
theorem kpt_len : (kpt ρ).length = (ρ.1 29).length := by
  unfold kpt
  simp only [List.length_set, pkK_len]
theorem kpt_w (h29 : (ρ.1 29).length = 60) {w h : Nat} (hw : w < 4) (hh : h < 7) : (kpt ρ).getD (7 * w + h) 0 = (ρ.1 (w + 1)).getD h 0 := by
  have e : w = 0 ∨ w = 1 ∨ w = 2 ∨ w = 3 := by omega
  unfold kpt
  rw [setD_ne (by omega), setD_ne (by omega), pkK_D _ _ _ _ (by simp only [pkK_len]; omega), if_neg (by omega), pkK_D _ _ _ _ (by simp only [pkK_len]; omega), if_neg (by omega), pkK_D _ _ _ _ (by simp only [pkK_len]; omega)]
  by_cases q3 : w = 3
  · subst q3; rw [if_pos (by omega)]; congr 1; omega
  rw [if_neg (by omega), pkK_D _ _ _ _ (by simp only [pkK_len]; omega)]
  by_cases q2 : w = 2
  · subst q2; rw [if_pos (by omega)]; congr 1; omega
  rw [if_neg (by omega), pkK_D _ _ _ _ (by simp only [pkK_len]; omega)]
  by_cases q1 : w = 1
  · subst q1; rw [if_pos (by omega)]; congr 1; omega
  have q0 : w = 0 := by omega
  subst q0
  rw [if_neg (by omega), pkK_D _ _ _ _ (by omega), if_pos (by omega)]; congr 1; omega
theorem kpt_l (h29 : (ρ.1 29).length = 60) {i : Nat} (hi : i < 7) : (kpt ρ).getD (28 + i) 0 = (ρ.1 5).getD i 0 := by
  unfold kpt
  rw [setD_ne (by omega), setD_ne (by omega), pkK_D _ _ _ _ (by simp only [pkK_len]; omega), if_neg (by omega), pkK_D _ _ _ _ (by simp only [pkK_len]; omega), if_pos (by omega)]
  congr 1; omega
theorem kpt_s (h29 : (ρ.1 29).length = 60) {i : Nat} (hi : i < 10) : (kpt ρ).getD (35 + i) 0 = (ρ.1 6).getD i 0 := by
  unfold kpt
  rw [setD_ne (by omega), setD_ne (by omega), pkK_D _ _ _ _ (by simp only [pkK_len]; omega), if_pos (by omega)]
  congr 1; omega
theorem kpt_n (h29 : (ρ.1 29).length = 60) : (kpt ρ).getD 45 0 = ρ.2 7 := by
  unfold kpt
  rw [setD_ne (by decide), setD_eq (by simp only [pkK_len]; omega)]
theorem kpt_t (h29 : (ρ.1 29).length = 60) : (kpt ρ).getD 46 0 = ρ.2 8 := by
  unfold kpt
  rw [setD_eq (by simp only [List.length_set, pkK_len]; omega)]
def KpF (ρ : MS) (K : List Int32) : Prop := (∀ w h, w < 4 → h < 7 → K.getD (7 * w + h) 0 = (ρ.1 (w + 1)).getD h 0) ∧ (∀ i, i < 7 → K.getD (28 + i) 0 = (ρ.1 5).getD i 0) ∧ (∀ i, i < 10 → K.getD (35 + i) 0 = (ρ.1 6).getD i 0) ∧ K.getD 45 0 = ρ.2 7 ∧ K.getD 46 0 = ρ.2 8
theorem kpt_f (h29 : (ρ.1 29).length = 60) : KpF ρ (kpt ρ) := ⟨fun _ _ hw hh => kpt_w h29 hw hh, fun _ hi => kpt_l h29 hi, fun _ hi => kpt_s h29 hi, kpt_n h29, kpt_t h29⟩
end KPT
theorem ksRR {σ : KS} {k : Nat} {l l' : List Int32} : ksR (ksR σ k l) k l' = ksR σ k l' := by
  refine Prod.ext ?_ rfl
  funext j
  show (if j = k then l' else if j = k then l else σ.1 j) = if j = k then l' else σ.1 j
  by_cases q : j = k
  · rw [if_pos q, if_pos q]
  · rw [if_neg q, if_neg q, if_neg q]
theorem mul4r {h k : Nat} : nI h * (4 : Int32) + nI k = nI (4 * h + k) := by
  have h1 : nI h * (4 : Int32) = nI (h * 4) := (Int32.ofNat_mul h 4).symm
  rw [h1, nI_add]; congr 1; omega
theorem fct4 {A : Nat → Int32} {k : Nat} (hk : k < 4) : (if nI k = 0 then A 1 else if nI k = 1 then A 2 else if nI k = 2 then A 3 else A 4) = A (k + 1) := by
  have e : k = 0 ∨ k = 1 ∨ k = 2 ∨ k = 3 := by omega
  rcases e with rfl | rfl | rfl | rfl <;> rfl
section KIMAGE
variable {g : Gl} {a m tx n t : Nat} {ρ ρ' : MS} {cd : Nat → List Int32} {Lf : Nat → Nat} {σ : KS} {μ μ0 : Mm}
theorem KHs.door (h : KHs ρ n m σ) (hM : KM a m tx σ μ) {i : Nat} (hi : i < n) : μ.1 (kD σ i).1 = some (obj (kD σ i).2 (dfs (nI i) (Fc ρ 1 i) (Fc ρ 2 i) (Fc ρ 3 i) (Fc ρ 4 i))) ∧ KC (kD σ i).2 (Fc ρ 0 i) := by
  obtain ⟨h1, h2, h3⟩ := h
  obtain ⟨x1, x2, x3⟩ := h3 i hi
  refine ⟨?_, x1⟩
  rw [hM.d (Nat.lt_of_lt_of_le hi h1)]
  unfold dF
  rw [x2, x3 0 (by decide), x3 1 (by decide), x3 2 (by decide), x3 3 (by decide)]
theorem evK_copy {d : Nat} {Y : Md} {pc : Nat} {ls : List (Option Value)} {st : List Value} {Q : Option Value → Mm → Prop} {idx k1 k2 N : Nat} {z : Int32} (hM : KM a m tx σ μ) (hF : FC a μ0 μ) (h1 : k1 ∈ kRo) (h2 : k2 ∈ kRo) (hd : decode (mC Y) pc = .ok (.invokestatic idx, 3)) (hl : Cond.methodLink (mY Y).cls idx arraycopyName ∈ GT) (l1 : (σ.1 k1).length = N) (l2 : (σ.1 k2).length = N) (hn : ix z N) (hc : (st.map fun v => v.category).sum ≤ 8) (kk : ∀ μ1, KM a m tx (ksR σ k2 (σ.1 k1)) μ1 → FC a μ0 μ1 → Ev g (d + 1) Y (pc + 3) ls st μ1 Q) : Ev g (d + 1) Y pc ls (.int z :: .int 0 :: .ref (a + k2) :: .int 0 :: .ref (a + k1) :: st) μ Q := by
  refine ev_copyi hd hl (hM.r k1 h1) (hM.r k2 h2) ixl0 ixl0 hn (by omega) (by omega) hc ?_
  rw [cpyL_full l1 l2]
  exact kk _ (hM.setR h2 _) (hF.upd (by have := (kRo_ok k2 h2).1; omega))
/-- rows but 29, numbers but 30 are as they were -/
def ImO (ρ' ρ : MS) : Prop := (∀ k, k ≠ 29 → ρ'.1 k = ρ.1 k) ∧ ∀ k, k ≠ 30 → ρ'.2 k = ρ.2 k
theorem ImO.fc (h : ImO ρ' ρ) : Fc ρ' = Fc ρ := by
  funext k x
  show (if k < 5 then (ρ'.1 k).getD x 0 else 0) = if k < 5 then (ρ.1 k).getD x 0 else 0
  split
  · rw [h.1 k (by omega)]
  · rfl
theorem ImO.gi (h : ImO ρ' ρ) (hG : GI ρ) : GI ρ' := by
  unfold GI
  rw [h.1 99 (by decide), h.1 6 (by decide)]; exact hG
theorem ImO.im (h : ImO ρ' ρ) (hI : IM ρ n t tx cd Lf) : IM ρ' n t tx cd Lf := by
  obtain ⟨h1, h2, h3, h4, h5, h6, h7, h8⟩ := hI
  have eS : Se ρ' = Se ρ := by funext j; show (ρ'.1 6).getD j 0 = _; rw [h.1 6 (by decide)]
  refine ⟨by rw [h.fc]; exact h1, by rw [eS]; exact h2, by rw [h.2 7 (by decide)]; exact h3, by rw [h.2 8 (by decide)]; exact h4, by rw [h.2 16 (by decide)]; exact h5, fun r hr => ⟨?_, (h6 r hr).2⟩, fun j hj => by rw [h.1 5 (by decide)]; exact h7 j hj, h8⟩
  have := (h6 r hr).1
  unfold RC at this ⊢
  rw [h.1 11 (by decide), h.1 12 (by decide)]; exact this
theorem ImO.img {K : List Int32} : ImO (setI (setA ρ 29 K) 30 1) ρ := by
  refine ⟨fun k hk => ?_, fun k hk => ?_⟩
  · show (if k = 29 then _ else ρ.1 k) = _; rw [if_neg hk]
  · show (if k = 30 then _ else ρ.2 k) = _; rw [if_neg hk]
abbrev imZ (σ : KS) (n t : Nat) (L : List Int32) : KS := ksR (ksR (ksR (ksI (ksI σ 0 14 (nI n)) 0 15 (nI t)) 46 (σ.1 2)) 47 (σ.1 3)) 48 L
theorem imZ_hs (h : KHs ρ n m σ) {L : List Int32} : KHs ρ n m (imZ σ n t L) := by
  refine ⟨h.1, h.2.1, fun x hx => ?_⟩
  obtain ⟨w1, w2, w3⟩ := h.2.2 x hx
  exact ⟨w1, (ksI_ne (by omega)).trans ((ksI_ne (by omega)).trans w2), fun k hk => (ksI_ne (by omega)).trans ((ksI_ne (by omega)).trans (w3 k hk))⟩
theorem l_img2 (hH : KHs ρ n m σ) (hm7 : m ≤ 7) {h : Nat} (hh : h < n) (go : ∀ (L : List Int32) (μ : Mm), L.length = 28 → (∀ j, j < 4 * (h + 1) → L.getD j 0 = Fc ρ (j % 4 + 1) (j / 4)) → KM a m tx (imZ σ n t L) μ → FC a μ0 μ → Ev g 2 mX11_image 89 [some (.ref a), some (.int (nI h)), some (.int (nI 4))] [] μ (fun v μ' => v = some (.int (nI n)) ∧ (∃ L, L.length = 28 ∧ (∀ j, j < 4 * n → L.getD j 0 = Fc ρ (j % 4 + 1) (j / 4)) ∧ KM a m tx (imZ σ n t L) μ') ∧ FC a μ0 μ')) : ∀ (f k : Nat) (L : List Int32) (μ : Mm), k + f = 4 → L.length = 28 → (∀ j, j < 4 * h + k → L.getD j 0 = Fc ρ (j % 4 + 1) (j / 4)) → KM a m tx (imZ σ n t L) μ → FC a μ0 μ → Ev g 2 mX11_image 58 [some (.ref a), some (.int (nI h)), some (.int (nI k))] [] μ (fun v μ' => v = some (.int (nI n)) ∧ (∃ L, L.length = 28 ∧ (∀ j, j < 4 * n → L.getD j 0 = Fc ρ (j % 4 + 1) (j / 4)) ∧ KM a m tx (imZ σ n t L) μ') ∧ FC a μ0 μ') := by
  have hnm := hH.1
  intro f
  induction f with
  | zero =>
    intro k L μ hk hl hj hM hF
    have e : k = 4 := by omega
    subst e
    refine ev_iload_n dX11_image_58 rfl ?_
    refine ev_iconst (v := 4) dX11_image_59 (by decide) ?_
    refine ev_icmp_ge (tgt := 89) dX11_image_60 (by decide) (fun _ => ?_) (fun h60 => absurd ((show (4 : Int32) ≤ nI 4 by decide)) h60)
    exact go L _ hl (fun j hj' => hj j (by omega)) hM hF
  | succ f ih =>
    intro k L μ hk hl hj hM hF
    obtain ⟨hd, hkc⟩ := (imZ_hs (t := t) (L := L) hH).door hM hh
    have hM0 := hM
    refine ev_iload_n dX11_image_58 rfl ?_
    refine ev_iconst (v := 4) dX11_image_59 (by decide) ?_
    refine ev_icmp_ge (tgt := 89) dX11_image_60 (by decide) (fun h60 => absurd h60 ((show ¬ nI 4 ≤ nI k from nI_ge (by omega) (by omega)))) (fun _ => ?_)
    refine ev_aload_n dX11_image_63 rfl ?_
    refine ev_get dX11_image_64 flX11_96_11 (hM.o 0 11 (by decide)) rfl ?_
    refine ev_iload_n dX11_image_67 rfl ?_
    refine ev_iconst (v := 4) dX11_image_68 (by decide) ?_
    refine ev_imul dX11_image_69 ?_
    refine ev_iload_n dX11_image_70 rfl ?_
    refine ev_iadd dX11_image_71 ?_
    refine ev_aload_n dX11_image_72 rfl ?_
    refine ev_get dX11_image_73 flX11_11_11 (hM.o 0 11 (by decide)) rfl ?_
    refine ev_iload_n dX11_image_76 rfl ?_
    refine ev_aald dX11_image_77 hM.dl (by decide) (by decide) (ix_n (by omega)) (kDl_at (by omega) hm7) ?_
    refine ev_iload_n dX11_image_78 rfl ?_
    refine u_fact dX11_image_79 (mt3 69 rfl rfl) hkc.1 hd (Nat.le_of_ble_eq_true rfl) ?_
    rw [fct4 (A := fun k => Fc ρ k h) (by omega : k < 4)]
    refine evK_iast hM hF (k := 48) (by decide) dX11_image_82 (by rw [mul4r]; exact ix_n (by omega)) (show 4 * h + k < L.length by omega) (fun μ hM hF => ?_)
    refine ev_iinc dX11_image_83 rfl (by decide) ?_
    dsimp only [List.set]
    refine ev_goto (tgt := 58) dX11_image_86 (by decide) ?_
    rw [nI_inc]
    rw [ksRR] at hM
    refine ih (k + 1) _ _ (by omega) (by rw [List.length_set]; exact hl) (fun j hj' => ?_) hM hF
    show (L.set (4 * h + k) (Fc ρ (k + 1) h)).getD j 0 = _
    by_cases e : j = 4 * h + k
    · subst e
      rw [setD_eq (by omega), show (4 * h + k) % 4 = k by omega, show (4 * h + k) / 4 = h by omega]
    · rw [setD_ne e]; exact hj j (by omega)
theorem l_img (hH : KHs ρ n m σ) (hm7 : m ≤ 7) : ∀ (f h : Nat) (L : List Int32) (o2 : Option Value) (μ : Mm), h + f = n → L.length = 28 → (∀ j, j < 4 * h → L.getD j 0 = Fc ρ (j % 4 + 1) (j / 4)) → KM a m tx (imZ σ n t L) μ → FC a μ0 μ → Ev g 2 mX11_image 48 [some (.ref a), some (.int (nI h)), o2] [] μ (fun v μ' => v = some (.int (nI n)) ∧ (∃ L, L.length = 28 ∧ (∀ j, j < 4 * n → L.getD j 0 = Fc ρ (j % 4 + 1) (j / 4)) ∧ KM a m tx (imZ σ n t L) μ') ∧ FC a μ0 μ') := by
  have hnm := hH.1
  intro f
  induction f with
  | zero =>
    intro h L o2 μ hk hl hj hM hF
    have e : h = n := by omega
    subst e
    refine ev_iload_n dX11_image_48 rfl ?_
    refine ev_aload_n dX11_image_49 rfl ?_
    refine ev_get dX11_image_50 flX11_15_11 (hM.o 0 11 (by decide)) rfl ?_
    rw [show kI (imZ σ h t L) 0 1 = nI h from hH.2.1]
    refine ev_icmp_ge (tgt := 95) dX11_image_53 (by decide) (fun _ => ?_) (fun h53 => absurd ((Int32.le_refl _)) h53)
    refine ev_aload_n dX11_image_95 rfl ?_
    refine ev_get dX11_image_96 flX11_15_11 (hM.o 0 11 (by decide)) rfl ?_
    rw [show kI (imZ σ h t L) 0 1 = nI h from hH.2.1]
    refine ev_iret dX11_image_99 rfl ?_
    exact ⟨rfl, ⟨L, hl, hj, hM⟩, hF⟩
  | succ f ih =>
    intro h L o2 μ hk hl hj hM hF
    have back : ∀ (L : List Int32) (μ : Mm), L.length = 28 → (∀ j, j < 4 * (h + 1) → L.getD j 0 = Fc ρ (j % 4 + 1) (j / 4)) → KM a m tx (imZ σ n t L) μ → FC a μ0 μ → Ev g 2 mX11_image 89 [some (.ref a), some (.int (nI h)), some (.int (nI 4))] [] μ (fun v μ' => v = some (.int (nI n)) ∧ (∃ L, L.length = 28 ∧ (∀ j, j < 4 * n → L.getD j 0 = Fc ρ (j % 4 + 1) (j / 4)) ∧ KM a m tx (imZ σ n t L) μ') ∧ FC a μ0 μ') := by
      intro L μ hl hj hM hF
      refine ev_iinc dX11_image_89 rfl (by decide) ?_
      dsimp only [List.set]
      refine ev_goto (tgt := 48) dX11_image_92 (by decide) ?_
      rw [nI_inc]
      exact ih (h + 1) L _ _ (by omega) hl hj hM hF
    refine ev_iload_n dX11_image_48 rfl ?_
    refine ev_aload_n dX11_image_49 rfl ?_
    refine ev_get dX11_image_50 flX11_15_11 (hM.o 0 11 (by decide)) rfl ?_
    rw [show kI (imZ σ n t L) 0 1 = nI n from hH.2.1]
    refine ev_icmp_ge (tgt := 95) dX11_image_53 (by decide) (fun h53 => absurd h53 ((show ¬ nI n ≤ nI h from nI_ge (by omega) (by omega)))) (fun _ => ?_)
    refine ev_iconst (v := 0) dX11_image_56 (by decide) ?_
    refine ev_istore_n dX11_image_57 (by decide) ?_
    dsimp only [List.set]
    exact l_img2 hH hm7 (by omega) back 4 0 L _ rfl hl hj hM hF
theorem kimg_tie {K L : List Int32} {μ' : Mm} (hK : KpF ρ K) (hI : IM ρ n t tx cd Lf) (hT : KTie ρ n t tx cd Lf m σ) (hm7 : m ≤ 7) (hL : L.length = 28) (hj : ∀ j, j < 4 * n → L.getD j 0 = Fc ρ (j % 4 + 1) (j / 4)) (hM : KM a m tx (imZ σ n t L) μ') : KV a (setI (setA ρ 29 K) 30 1) n t tx cd Lf m μ' := by
  have hn7 := hI.2.2.1.2
  have e29 : (setI (setA ρ 29 K) 30 1).1 29 = K := setA_at (ρ := ρ) (k := 29) (l := K)
  obtain ⟨kpw, kpl, kps, kpn, kptt⟩ := hK
  have hB0 := hT.bs
  obtain ⟨x1, x2, x3, x4, x5, x6, x7, x8⟩ := hT.t8
  refine ⟨_, hM, KT8.tie ⟨fun q hq => ?_, x2, ?_, x4, x5, ?_, ?_, Or.inr ⟨rfl, n, t, Lf, ?_, ?_, ?_, ?_, ?_, ?_⟩⟩ ?_⟩
  · have k3 : ∀ q ∈ kLen, (q.1 = 46 → q.2 = 7) ∧ (q.1 = 47 → q.2 = 10) ∧ (q.1 = 48 → q.2 = 28) := by decide
    show (if q.1 = 48 then L else if q.1 = 47 then σ.1 3 else if q.1 = 46 then σ.1 2 else σ.1 q.1).length = q.2
    obtain ⟨a1, a2, a3⟩ := k3 q hq
    by_cases q48 : q.1 = 48
    · rw [if_pos q48, a3 q48]; exact hL
    rw [if_neg q48]
    by_cases q47 : q.1 = 47
    · rw [if_pos q47, a2 q47]; exact x1 (3, 10) (by decide)
    rw [if_neg q47]
    by_cases q46 : q.1 = 46
    · rw [if_pos q46, a1 q46]; exact x1 (2, 7) (by decide)
    rw [if_neg q46]; exact x1 q hq
  · have := imZ_hs (t := t) (L := L) x3
    refine ⟨this.1, this.2.1, fun x hx => ?_⟩
    rw [ImO.img.fc]; exact this.2.2 x hx
  · refine ⟨x6.1, x6.2.1, fun r hr => ?_⟩
    obtain ⟨w1, w2, w3, w4, w5⟩ := x6.2.2 r hr
    have e : ∀ k, 200 ≤ k → (imZ σ n t L).1 k = σ.1 k := fun k hk => by
      show (if k = 48 then L else if k = 47 then σ.1 3 else if k = 46 then σ.1 2 else σ.1 k) = _
      rw [if_neg (by omega), if_neg (by omega), if_neg (by omega)]
    exact ⟨(e _ (by omega)).trans w1, (ksI_ne (by omega)).trans ((ksI_ne (by omega)).trans w2), (ksI_ne (by omega)).trans ((ksI_ne (by omega)).trans w3), by rw [e _ (by omega)]; exact w4, w5⟩
  · intro s hs
    obtain ⟨w1, w2, w3⟩ := x7 s hs
    refine ⟨(ksI_ne (by omega)).trans ((ksI_ne (by omega)).trans w1), (ksI_ne (by omega)).trans ((ksI_ne (by omega)).trans w2), fun i hi => ?_⟩
    show (if 50 + 2 * s = 48 then L else if 50 + 2 * s = 47 then σ.1 3 else if 50 + 2 * s = 46 then σ.1 2 else σ.1 (50 + 2 * s)).getD i 0 = _
    rw [if_neg (by omega), if_neg (by omega), if_neg (by omega)]
    exact w3 i hi
  · show KImg (setI (setA ρ 29 K) 30 1) n tx n t Lf
    skip
    unfold KImg
    rw [e29, kpn, kptt]
    refine ⟨hI.2.2.1.1, Nat.le_refl _, hI.2.2.2.1.1, hI.2.2.2.1.2, fun i hi => ?_, hI.2.2.2.2.2.2.2, fun h hh => ?_, ?_⟩
    · rw [kpl i (by omega)]
      obtain ⟨z1, z2⟩ := hI.2.2.2.2.2.2.1 i hi
      exact ⟨by rw [List.getD_eq_getElem?_getD, z1]; rfl, z2⟩
    · obtain ⟨v0, v1, v2, v3, v4⟩ := hI.1 h hh
      have k0 := kpw 0 h (by decide) hh
      have k1 := kpw 1 h (by decide) hh
      have k2 := kpw 2 h (by decide) hh
      have k3 := kpw 3 h (by decide) hh
      rw [show 7 * 0 + h = h by omega] at k0
      rw [show 7 * 1 + h = 7 + h by omega] at k1
      rw [show 7 * 2 + h = 14 + h by omega] at k2
      rw [show 7 * 3 + h = 21 + h by omega] at k3
      rw [k0, k1, k2, k3]
      exact ⟨v1, v2, v3, v4⟩
    · obtain ⟨s0, s1, s2, s3, s4, s5, s6, s7, s8, s9⟩ := hI.2.1
      have kk : ∀ i, i < 10 → K.getD (35 + i) 0 = Se ρ i := fun i hi => kps i hi
      unfold VS
      dsimp only
      rw [kk 0 (by decide), kk 1 (by decide), kk 2 (by decide), kk 3 (by decide), kk 4 (by decide), kk 5 (by decide), kk 6 (by decide), kk 7 (by decide), kk 8 (by decide), kk 9 (by decide)]
      exact ⟨s0, s1, s2, s3, s4, s5, s6, s7, s8, s9⟩
  · rfl
  · rfl
  · intro i hi; exact x4 i hi
  · intro i hi
    show (σ.1 3).getD i 0 = ((setI (setA ρ 29 K) 30 1).1 29).getD (35 + i) 0
    rw [e29, kps i hi, x2]
  · intro h hh w hw
    show L.getD (4 * h + w) 0 = ((setI (setA ρ 29 K) 30 1).1 29).getD (7 * w + h) 0
    rw [e29, kpw w h hw (by omega), hj _ (by omega), show (4 * h + w) % 4 = w by omega, show (4 * h + w) / 4 = h by omega]
    show (if w + 1 < 5 then _ else _) = _
    rw [if_pos (by omega)]
  · intro so hso
    have := hB0.eq (ρ' := setI (setA ρ 29 K) 30 1) ImO.img.fc (ImO.img.1 99 (by decide)) so hso
    have e : (imZ σ n t L).1 (12 + 17 * so + 1) = σ.1 (12 + 17 * so + 1) := by
      show (if 12 + 17 * so + 1 = 48 then L else if 12 + 17 * so + 1 = 47 then σ.1 3 else if 12 + 17 * so + 1 = 46 then σ.1 2 else σ.1 (12 + 17 * so + 1)) = _
      rw [if_neg (by omega), if_neg (by omega), if_neg (by omega)]
    have ei : ∀ k, kI (imZ σ n t L) (12 + 17 * so) k = kI σ (12 + 17 * so) k := fun k => (ksI_ne (by omega)).trans (ksI_ne (by omega))
    rw [ei, ei, ei, e]
    exact this
theorem c_kImage (hG : GI ρ) (hC : CLn ρ) (hI : IM ρ n t tx cd Lf) (hM : KM a m tx σ μ) (hT : KTie ρ n t tx cd Lf m σ) : Mt g 2 mX11_image [.ref a] μ (fun r μ' => r = some (.int (opImage ρ).1) ∧ KV a (opImage ρ).2 n t tx cd Lf m μ' ∧ FC a μ μ') := by
  refine Mt.of0 (ls0 := [some (.ref a), none, none]) (by decide) (by simp [Value.category]) (Nat.le_of_ble_eq_true rfl) rfl ?_
  have hF : FC a μ μ := FC.rf
  have hH : KHs ρ n m σ := hT.2.2.1
  have hm7 : m ≤ 7 := hM.ad.2.2.2.2.2.2.1
  have hn7 := hI.2.2.1.2
  have l29 : (ρ.1 29).length = 60 := hC (29, 60) (by decide) (by decide)
  have hK := kpt_f l29
  unfold opImage
  generalize kpt ρ = K at hK ⊢
  rw [hI.2.2.1.1]
  refine ev_aload_n dX11_image_0 rfl ?_
  refine ev_aload_n dX11_image_1 rfl ?_
  refine ev_get dX11_image_2 flX11_15_11 (hM.o 0 11 (by decide)) rfl ?_
  rw [show kI σ 0 1 = nI n from hT.hc]
  refine evK_put hM hF (o := 0) (ci := 11) (k := 14) (by decide) (by decide) dX11_image_5 fpX11_84_11 rfl rfl (fun μ hM hF => ?_)
  refine ev_aload_n dX11_image_8 rfl ?_
  refine ev_aload_n dX11_image_9 rfl ?_
  refine ev_get dX11_image_10 flX11_50_11 (hM.o 0 11 (by decide)) rfl ?_
  rw [show kI (ksI σ 0 14 (nI n)) 0 7 = nI t from hT.ru.2.1]
  refine evK_put hM hF (o := 0) (ci := 11) (k := 15) (by decide) (by decide) dX11_image_13 fpX11_87_11 rfl rfl (fun μ hM hF => ?_)
  refine ev_aload_n dX11_image_16 rfl ?_
  refine ev_get dX11_image_17 flX11_19_11 (hM.o 0 11 (by decide)) rfl ?_
  refine ev_iconst (v := 0) dX11_image_20 (by decide) ?_
  refine ev_aload_n dX11_image_21 rfl ?_
  refine ev_get dX11_image_22 flX11_90_11 (hM.o 0 11 (by decide)) rfl ?_
  refine ev_iconst (v := 0) dX11_image_25 (by decide) ?_
  refine ev_bipush (v := 7) dX11_image_26 (by decide) ?_
  refine evK_copy hM hF (k1 := 2) (k2 := 46) (N := 7) (by decide) (by decide) dX11_image_28 (mt4 123 rfl rfl) (hT.ln (k := 2) (by decide)) (hT.ln (k := 46) (by decide)) (ix_n (by decide)) (Nat.le_of_ble_eq_true rfl) (fun μ hM hF ↦ ?_)
  refine ev_aload_n dX11_image_31 rfl ?_
  refine ev_get dX11_image_32 flX11_31_11 (hM.o 0 11 (by decide)) rfl ?_
  refine ev_iconst (v := 0) dX11_image_35 (by decide) ?_
  refine ev_aload_n dX11_image_36 rfl ?_
  refine ev_get dX11_image_37 flX11_93_11 (hM.o 0 11 (by decide)) rfl ?_
  refine ev_iconst (v := 0) dX11_image_40 (by decide) ?_
  refine ev_bipush (v := 10) dX11_image_41 (by decide) ?_
  refine evK_copy hM hF (k1 := 3) (k2 := 47) (N := 10) (by decide) (by decide) dX11_image_43 (mt4 123 rfl rfl) (hT.ln (k := 3) (by decide)) (hT.ln (k := 47) (by decide)) (ix_n (by decide)) (Nat.le_of_ble_eq_true rfl) (fun μ hM hF ↦ ?_)
  refine ev_iconst (v := 0) dX11_image_46 (by decide) ?_
  refine ev_istore_n dX11_image_47 (by decide) ?_
  dsimp only [List.set]
  have e48 : ksR (ksR (ksI (ksI σ 0 14 (nI n)) 0 15 (nI t)) 46 (σ.1 2)) 47 (σ.1 3) = imZ σ n t (σ.1 48) := by
    refine Prod.ext ?_ rfl
    funext j
    show (if j = 47 then σ.1 3 else if j = 46 then σ.1 2 else σ.1 j) = if j = 48 then σ.1 48 else if j = 47 then σ.1 3 else if j = 46 then σ.1 2 else σ.1 j
    by_cases q : j = 48
    · subst q; rfl
    · rw [if_neg q]
  have hM2 : KM a m tx (imZ σ n t (σ.1 48)) μ := by rw [← e48]; exact hM
  refine Ev.imp (l_img hH hm7 n 0 (σ.1 48) none μ (by omega) (hT.ln (k := 48) (by decide)) (fun j hj => absurd hj (by omega)) hM2 hF) ?_
  rintro v μ' ⟨rfl, ⟨L, q1, q2, q3⟩, hF'⟩
  exact ⟨rfl, kimg_tie hK hI hT hm7 q1 q2 q3, hF'⟩
end KIMAGE
