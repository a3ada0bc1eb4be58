/-! ===== the class: sheet, cell, copy ===== -/
theorem zerK_D {base j : Nat} : ∀ (m k : Nat) (l : List Int32), base + k + m ≤ l.length → (zerK base m k l).getD j 0 = if base + k ≤ j ∧ j < base + k + m then 0 else l.getD j 0 := by
  intro m
  induction m with
  | zero => intro k l h1; rw [zerK, if_neg (by omega)]
  | succ m ih =>
    intro k l h1
    rw [zerK, ih _ _ (by rw [List.length_set]; omega)]
    by_cases q : base + k = j
    · subst q
      rw [if_neg (by omega), if_pos (by omega), List.getD_eq_getElem?_getD, List.getElem?_set_self (by omega)]; rfl
    · rw [List.getD_eq_getElem?_getD (l := l.set _ _), List.getElem?_set_ne q, ← List.getD_eq_getElem?_getD]
      by_cases q2 : base + (k + 1) ≤ j ∧ j < base + (k + 1) + m
      · rw [if_pos q2, if_pos (by omega)]
      · rw [if_neg q2, if_neg (by omega)]
theorem cpK_D {l0 : List Int32} {p q j : Nat} : ∀ (m k : Nat) (l : List Int32), q + k + m ≤ l.length → (cpK l0 p q m k l).getD j 0 = if q + k ≤ j ∧ j < q + k + m then l0.getD (p + (j - q)) 0 else l.getD j 0 := by
  intro m
  induction m with
  | zero => intro k l h1; rw [cpK, if_neg (by omega)]
  | succ m ih =>
    intro k l h1
    rw [cpK, ih _ _ (by rw [List.length_set]; omega)]
    by_cases e : q + k = j
    · subst e
      rw [if_neg (by omega), if_pos (by omega), List.getD_eq_getElem?_getD, List.getElem?_set_self (by omega)]
      show l0.getD (p + k) 0 = _
      congr 1; omega
    · rw [List.getD_eq_getElem?_getD (l := l.set _ _), List.getElem?_set_ne e, ← List.getD_eq_getElem?_getD]
      by_cases q2 : q + (k + 1) ≤ j ∧ j < q + (k + 1) + m
      · rw [if_pos q2, if_pos (by omega)]
      · rw [if_neg q2, if_neg (by omega)]
theorem hasP_iff {z : Nat} (hz : z ≤ 40) {i n : Int32} : hasP (nI z) i n ↔ 0 ≤ n ∧ 0 ≤ i ∧ i ≤ nI z ∧ n ≤ nI z - i := by
  have ez : (nI z).toInt = z := nI_i (by omega)
  unfold hasP
  constructor
  · rintro ⟨h1, h2, h3, h4⟩
    have h1' := Int32.le_iff_toInt_le.mp h1
    have h2' := Int32.le_iff_toInt_le.mp h2
    have h3' := Int32.le_iff_toInt_le.mp h3
    have h4' := Int32.le_iff_toInt_le.mp h4
    rw [Int32.toInt_zero] at h1' h2'
    rw [sub_i (by omega) (by omega), ez] at h4'
    rw [ez] at h3'
    refine ⟨h2, h1, ?_, ?_⟩
    · rw [Int32.le_iff_toInt_le, ez]; omega
    · rw [Int32.le_iff_toInt_le, sub_i (by omega) (by omega), ez]; omega
  · rintro ⟨h2, h1, h3, h4⟩
    have h1' := Int32.le_iff_toInt_le.mp h1
    have h2' := Int32.le_iff_toInt_le.mp h2
    have h3' := Int32.le_iff_toInt_le.mp h3
    have h4' := Int32.le_iff_toInt_le.mp h4
    rw [Int32.toInt_zero] at h1' h2'
    rw [ez] at h3'
    rw [sub_i (by omega) (by omega), ez] at h4'
    refine ⟨h1, h2, ?_, ?_⟩
    · rw [Int32.le_iff_toInt_le, ez]; omega
    · rw [Int32.le_iff_toInt_le, sub_i (by omega) (by omega), ez]; omega
theorem ksI_eq {σ : KS} {o k : Nat} {v : Int32} : kI (ksI σ o k v) o k = v := by
  show (if o = o ∧ k = k then v else _) = v
  rw [if_pos ⟨rfl, rfl⟩]
theorem ksI_ne2 {σ : KS} {o k p j : Nat} {v : Int32} (h : j ≠ k) : kI (ksI σ o k v) p j = kI σ p j := by
  show (if p = o ∧ j = k then v else σ.2.1 p j) = _
  rw [if_neg (fun q => h q.2)]
abbrev shS (σ : KS) (s : Nat) (x z : Int32) (L : List Int32) : KS := ksR (ksI (ksI σ (49 + 2 * s) 0 x) (49 + 2 * s) 1 z) (50 + 2 * s) L
/-- rows 33, 34, 35 alone have changed -/
def ShO (ρ' ρ : MS) : Prop := (∀ k, k ∉ [33, 34, 35] → ρ'.1 k = ρ.1 k) ∧ ρ'.2 = ρ.2
section KSH2
variable {g : Gl} {a m tx n t : Nat} {ρ ρ' : MS} {cd : Nat → List Int32} {Lf : Nat → Nat} {σ : KS} {μ : Mm}
theorem ShO.fc (h : ShO ρ' ρ) : Fc ρ' = Fc ρ := by
  funext k x
  show (if k < 5 then (ρ'.1 k).getD x 0 else 0) = if k < 5 then (ρ.1 k).getD x 0 else 0
  split
  · rw [h.1 k (by simp only [List.mem_cons, List.not_mem_nil, or_false]; omega)]
  · rfl
theorem ShO.gi (h : ShO ρ' ρ) (hG : GI ρ) : GI ρ' := by
  unfold GI
  rw [h.1 99 (by decide), h.1 6 (by decide)]; exact hG
theorem ShO.im (h : ShO ρ' ρ) (hI : IM ρ n t tx cd Lf) : IM ρ' n t tx cd Lf := by
  obtain ⟨h1, h2, h3, h4, h5, h6, h7, h8⟩ := hI
  have eS : Se ρ' = Se ρ := by funext j; show (ρ'.1 6).getD j 0 = _; rw [h.1 6 (by decide)]
  refine ⟨by rw [h.fc]; exact h1, by rw [eS]; exact h2, by rw [h.2]; exact h3, by rw [h.2]; exact h4, by rw [h.2]; exact h5, fun r hr => ⟨?_, (h6 r hr).2⟩, fun j hj => by rw [h.1 5 (by decide)]; exact h7 j hj, h8⟩
  have := (h6 r hr).1
  unfold RC at this ⊢
  rw [h.1 11 (by decide), h.1 12 (by decide)]; exact this
theorem ShO.tb (h : ShO ρ' ρ) (hB : TB ρ) : TB ρ' := by unfold TB; rw [h.2]; exact hB
theorem shS_r {s : Nat} {x z : Int32} {L : List Int32} {k : Nat} (hk : k ≠ 50 + 2 * s) : (shS σ s x z L).1 k = σ.1 k := by show (if k = 50 + 2 * s then _ else σ.1 k) = _; rw [if_neg hk]
theorem shS_i {s : Nat} {x z : Int32} {L : List Int32} {o k : Nat} (ho : o ≠ 49 + 2 * s) : kI (shS σ s x z L) o k = kI σ o k := (ksI_ne ho).trans (ksI_ne ho)
theorem KTie.shs (h : ShO ρ' ρ) (hT : KTie ρ n t tx cd Lf m σ) {s : Nat} (hs : s < 4) {x z : Int32} {L : List Int32} (hL : L.length = 40) (hSh : KSh ρ' (shS σ s x z L)) : KTie ρ' n t tx cd Lf m (shS σ s x z L) := by
  have hB0 := hT.bs
  obtain ⟨x1, x2, x3, x4, x5, x6, x7, x8⟩ := hT.t8
  refine KT8.tie ⟨fun q hq => ?_, (shS_r (by omega)).trans (x2.trans (h.1 6 (by decide)).symm), ⟨x3.1, (shS_i (by omega)).trans x3.2.1, fun y hy => ?_⟩, fun i hi => by rw [shS_r (by omega)]; exact x4 i hi, ⟨(shS_i (by omega)).trans (by rw [h.2]; exact x5.1), fun i c hi hc => ?_⟩, ⟨(shS_i (by omega)).trans x6.1, (shS_i (by omega)).trans x6.2.1, fun r hr => ?_⟩, hSh, ?_⟩ ?_
  · by_cases q5 : q.1 = 50 + 2 * s
    · have k3 : ∀ q ∈ kLen, 50 ≤ q.1 → q.2 = 40 := by decide
      rw [k3 q hq (by omega), q5]
      show (if 50 + 2 * s = 50 + 2 * s then L else _).length = 40
      rw [if_pos rfl]; exact hL
    · rw [shS_r q5]; exact x1 q hq
  · obtain ⟨w1, w2, w3⟩ := x3.2.2 y hy
    rw [h.fc]
    exact ⟨w1, (shS_i (by omega)).trans w2, fun k hk => (shS_i (by omega)).trans (w3 k hk)⟩
  · rw [h.1 10 (by decide)] at hc
    rw [h.2] at hi
    rw [shS_r (by omega)]; exact x5.2 i c hi hc
  · obtain ⟨w1, w2, w3, w4, w5⟩ := x6.2.2 r hr
    exact ⟨(shS_r (by omega)).trans w1, (shS_i (by omega)).trans w2, (shS_i (by omega)).trans w3, by rw [shS_r (by omega)]; exact w4, w5⟩
  · unfold KKp KImg
    rw [shS_i (by omega), shS_i (by omega), shS_r (by omega), shS_r (by omega), shS_r (by omega), h.2, h.1 29 (by decide)]
    exact x8
  · intro so hso
    rw [shS_i (by omega), shS_i (by omega), shS_i (by omega), shS_r (by omega)]
    exact hB0.eq h.fc (h.1 99 (by decide)) so hso
theorem KM.shm (hM : KM a m tx σ μ) {s : Nat} (hs : s < 4) (x z : Int32) (L : List Int32) : KM a m tx (shS σ s x z L) (mupd (mupd μ (a + (49 + 2 * s)) (obj 7 [.int x, .int z, .ref (a + (50 + 2 * s))])) (a + (50 + 2 * s)) (iar L)) := by
  have go : ∀ o ∈ [49, 51, 53, 55], (o, 7) ∈ kO → o + 1 ∈ kRo → KM a m tx (ksR (ksI (ksI σ o 0 x) o 1 z) (o + 1) L) (mupd (mupd μ (a + o) (obj 7 [.int x, .int z, .ref (a + (o + 1))])) (a + (o + 1)) (iar L)) := by
    intro o ho h1 h2
    have q := ((hM.setI h1 (k := 0) (by decide) x).setI h1 (k := 1) (by decide) z).setR h2 L
    rw [mupd_mupd] at q
    have e : (kf 7 a (ksI σ o 0 x) o).set 1 (.int z) = [.int x, .int z, .ref (a + (o + 1))] := by
      show [_, _, _] = [_, _, _]
      rw [show kI (ksI σ o 0 x) o 0 = x from ksI_eq]
    rw [e] at q
    exact q
  have h4 : s = 0 ∨ s = 1 ∨ s = 2 ∨ s = 3 := by omega
  rcases h4 with rfl | rfl | rfl | rfl
  · exact go 49 (by decide) (by decide) (by decide)
  · exact go 51 (by decide) (by decide) (by decide)
  · exact go 53 (by decide) (by decide) (by decide)
  · exact go 55 (by decide) (by decide) (by decide)
/-- one sheet has changed: the others are as they were -/
theorem KSh.upd (h : KSh ρ σ) (hS : SH ρ) {s : Nat} {x z : Int32} {L : List Int32} (h33 : ∀ s2, s2 ≠ s → (ρ'.1 33).getD s2 0 = (ρ.1 33).getD s2 0) (h34 : ∀ s2, s2 ≠ s → (ρ'.1 34).getD s2 0 = (ρ.1 34).getD s2 0) (h35 : ∀ s2 i, s2 ≠ s → i < 40 → (ρ'.1 35).getD (40 * s2 + i) 0 = (ρ.1 35).getD (40 * s2 + i) 0) (g33 : (ρ'.1 33).getD s 0 = x) (g34 : (ρ'.1 34).getD s 0 = z) (g35 : ∀ i, i < z.toInt.toNat → L.getD i 0 = (ρ'.1 35).getD (40 * s + i) 0) : KSh ρ' (shS σ s x z L) := by
  intro s2 hs2
  by_cases e : s2 = s
  · subst e
    refine ⟨?_, ?_, ?_⟩
    · rw [g33]; exact (ksI_ne2 (by omega)).trans ksI_eq
    · rw [g34]; exact ksI_eq
    · rw [g34]
      intro i hi
      rw [← g35 i hi]
      show (if 50 + 2 * s2 = 50 + 2 * s2 then L else _).getD i 0 = _
      rw [if_pos rfl]
  · obtain ⟨w1, w2, w3⟩ := h s2 hs2
    refine ⟨?_, ?_, fun i hi => ?_⟩
    · rw [h33 s2 e]; exact (shS_i (by omega)).trans w1
    · rw [h34 s2 e]; exact (shS_i (by omega)).trans w2
    · rw [h34 s2 e] at hi
      have := (hS s2 hs2).2.2
      rw [shS_r (by omega), h35 s2 i e (by omega)]
      exact w3 i hi
theorem ShO.sets {l1 l2 l3 : List Int32} : ShO (setA (setA (setA ρ 33 l1) 34 l2) 35 l3) ρ := by
  refine ⟨fun k hk => ?_, rfl⟩
  simp only [List.mem_cons, List.not_mem_nil, or_false, not_or] at hk
  show (if k = 35 then _ else if k = 34 then _ else if k = 33 then _ else ρ.1 k) = _
  rw [if_neg hk.2.2, if_neg hk.2.1, if_neg hk.1]
theorem ShO.set3 {l3 : List Int32} : ShO (setA ρ 35 l3) ρ := by
  refine ⟨fun k hk => ?_, rfl⟩
  simp only [List.mem_cons, List.not_mem_nil, or_false, not_or] at hk
  show (if k = 35 then _ else ρ.1 k) = _
  rw [if_neg hk.2.2]
theorem setD_ne {l : List Int32} {i j : Nat} {v : Int32} (h : j ≠ i) : (l.set i v).getD j 0 = l.getD j 0 := by
  rw [List.getD_eq_getElem?_getD, List.getElem?_set_ne (Ne.symm h), ← List.getD_eq_getElem?_getD]
theorem setD_eq {l : List Int32} {i : Nat} {v : Int32} (h : i < l.length) : (l.set i v).getD i 0 = v := by
  rw [List.getD_eq_getElem?_getD, List.getElem?_set_self h]; rfl
theorem SH.sets (hS : SH ρ) {s : Nat} {x z : Int32} {l3 : List Int32} (h33 : s < (ρ.1 33).length) (h34 : s < (ρ.1 34).length) (hx : rg x (-1) 2) (hz : rg z 0 40) : SH (setA (setA (setA ρ 33 ((ρ.1 33).set s x)) 34 ((ρ.1 34).set s z)) 35 l3) := by
  intro s2 hs2
  show rg (((ρ.1 33).set s x).getD s2 0) (-1) 2 ∧ rg (((ρ.1 34).set s z).getD s2 0) 0 40
  by_cases e : s2 = s
  · subst e; rw [setD_eq h33, setD_eq h34]; exact ⟨hx, hz⟩
  · rw [setD_ne e, setD_ne e]; exact hS s2 hs2
theorem c_kSheet (hG : GI ρ) (hC : CLn ρ) (hS : SH ρ) (hB : TB ρ) (hI : IM ρ n t tx cd Lf) (hM : KM a m tx σ μ) (hT : KTie ρ n t tx cd Lf m σ) (s so z : Int32) : Mt g 2 mX11_sheet [.ref a, .int s, .int so, .int z] μ (fun r μ' => r = some (.int (opSheet ρ s so z).1) ∧ ((ShO (opSheet ρ s so z).2 ρ ∧ SH (opSheet ρ s so z).2) ∧ KV a (opSheet ρ s so z).2 n t tx cd Lf m μ') ∧ FC a μ μ') := by
  refine Mt.of0 (ls0 := [some (.ref a), some (.int s), some (.int so), some (.int z)]) (by decide) (by simp [Value.category]) (Nat.le_of_ble_eq_true rfl) rfl ?_
  have hF : FC a μ μ := FC.rf
  have l33 : (ρ.1 33).length = 4 := hC (33, 4) (by decide) (by decide)
  have l34 : (ρ.1 34).length = 4 := hC (34, 4) (by decide) (by decide)
  have l35 : (ρ.1 35).length = 160 := hC (35, 160) (by decide) (by decide)
  have fin : ∀ (s' : Nat) (x y : Int32) (L : List Int32), s' < 4 → rg x (-1) 2 → rg y 0 40 → L.length = 40 → (ShO (setA (setA (setA ρ 33 ((ρ.1 33).set s' x)) 34 ((ρ.1 34).set s' y)) 35 (zerK (40 * s') y.toInt.toNat 0 (ρ.1 35))) ρ ∧ SH (setA (setA (setA ρ 33 ((ρ.1 33).set s' x)) 34 ((ρ.1 34).set s' y)) 35 (zerK (40 * s') y.toInt.toNat 0 (ρ.1 35)))) ∧ KV a (setA (setA (setA ρ 33 ((ρ.1 33).set s' x)) 34 ((ρ.1 34).set s' y)) 35 (zerK (40 * s') y.toInt.toNat 0 (ρ.1 35))) n t tx cd Lf m (mupd (mupd μ (a + (49 + 2 * s')) (obj 7 [.int x, .int y, .ref (a + (50 + 2 * s'))])) (a + (50 + 2 * s')) (iar (filL 0 L L.length 0))) := by
    intro s' x y L hs hx hy hL
    refine ⟨⟨ShO.sets, hS.sets (by omega) (by omega) hx hy⟩, ⟨_, hM.shm hs x y _, KTie.shs ShO.sets hT hs (by rw [filL_len]; exact hL) (hT.shh.upd hS ?_ ?_ ?_ ?_ ?_ ?_)⟩⟩
    · intro s2 e; exact setD_ne e
    · intro s2 e; exact setD_ne e
    · intro s2 i e hi
      show (zerK (40 * s') y.toInt.toNat 0 (ρ.1 35)).getD _ 0 = _
      have := hy.2
      rw [zerK_D _ _ _ (by rw [l35]; omega), if_neg (by omega)]
    · exact setD_eq (by omega)
    · exact setD_eq (by omega)
    · intro i hi
      have := hy.2
      show _ = (zerK (40 * s') y.toInt.toNat 0 (ρ.1 35)).getD _ 0
      rw [zerK_D _ _ _ (by rw [l35]; omega), if_pos (by omega), filL_D _ _ _ (by omega) (by omega), if_pos (Nat.zero_le _)]
  have fF : ∀ (s' : Nat) (e1 e2 : MC), s' < 4 → FC a μ (mupd (mupd μ (a + (49 + 2 * s')) e1) (a + (50 + 2 * s')) e2) := fun s' e1 e2 hs => (hF.upd (by omega)).upd (by omega)
  rw [opSheet]
  by_cases h1 : (0 ≤ s ∧ s < 4) ∧ -1 ≤ so ∧ so ≤ 2
  · rw [if_pos h1]
    obtain ⟨hs, es⟩ := sheet_n h1.1.1 h1.1.2
    have b1 := h1.1
    generalize s.toInt.toNat = s' at hs es ⊢
    subst es
    obtain ⟨x1, x2⟩ := hM.sh hs
    have l50 := hT.l50 hs
    have hx : rg so (-1) 2 := by
      have q1 := Int32.le_iff_toInt_le.mp h1.2.1
      have q2 := Int32.le_iff_toInt_le.mp h1.2.2
      exact ⟨q1, q2⟩
    refine ev_iload_n dX11_sheet_0 rfl ?_
    refine k_s (c_kIsSheet _) (by decide) dX11_sheet_1 cbX11_isSheet (mt4 53 rfl rfl) (mt4 54 rfl rfl) rfl rfl (Nat.le_of_ble_eq_true rfl) (fun v μ1 hq => ?_)
    obtain ⟨rfl, hμ⟩ := hq
    have hμ := hμ.symm
    subst hμ
    simp only [Option.toList, List.cons_append, List.nil_append]
    rw [b2i_t b1]
    refine ev_if_eq (tgt := 17) dX11_sheet_4 (by decide) (fun h4 => absurd h4 ((show ¬ (1 : Int32) = 0 by decide))) (fun _ => ?_)
    refine ev_iload_n dX11_sheet_7 rfl ?_
    refine ev_iconst (v := (-1)) dX11_sheet_8 (by decide) ?_
    refine ev_icmp_lt (tgt := 17) dX11_sheet_9 (by decide) (fun h9 => absurd h9 ((show ¬ so < -1 from Int32.not_lt.mpr h1.2.1))) (fun _ => ?_)
    refine ev_iload_n dX11_sheet_12 rfl ?_
    refine ev_iconst (v := 2) dX11_sheet_13 (by decide) ?_
    refine ev_icmp_le (tgt := 20) dX11_sheet_14 (by decide) (fun _ => ?_) (fun h14 => absurd (h1.2.2) h14)
    refine ev_iload_n dX11_sheet_20 rfl ?_
    refine ev_iconst (v := (-1)) dX11_sheet_21 (by decide) ?_
    refine ev_icmp_ne (tgt := 38) dX11_sheet_22 (by decide) (fun h22 => ?_) (fun h22 => ?_)
    · have h0 : (0 : Int32) ≤ so := by
        have q0 := hx.1
        rw [Int32.le_iff_toInt_le, Int32.toInt_zero]
        have : so.toInt ≠ -1 := fun q => h22 (Int32.toInt_inj.mp (q.trans (by decide)))
        have q1 : (-1 : Int32).toInt = -1 := by decide
        omega
      refine ev_iload_n dX11_sheet_38 rfl ?_
      refine ev_bipush (v := 40) dX11_sheet_39 (by decide) ?_
      refine ev_icmp_le (tgt := 47) dX11_sheet_41 (by decide) (fun h41 => ?_) (fun h41 => ?_)
      · refine ev_iload_n dX11_sheet_47 rfl ?_
        refine ev_if_ge (tgt := 54) dX11_sheet_48 (by decide) (fun h48 => ?_) (fun h48 => ?_)
        · refine ev_aload_n dX11_sheet_54 rfl ?_
          refine ev_get dX11_sheet_55 flX11_55_11 (hM.o 0 11 (by decide)) rfl ?_
          refine ev_iload_n dX11_sheet_58 rfl ?_
          refine ev_aald dX11_sheet_59 hM.sl (by decide) (by decide) (ix_n (by omega)) (kSl_at hs) ?_
          refine ev_iload_n dX11_sheet_60 rfl ?_
          refine ev_iload_n dX11_sheet_61 rfl ?_
          refine k_v (c_kBecome x1 x2 (by omega) (by omega) _ _) (by decide) dX11_sheet_62 cbX7_become (mt4 199 rfl rfl) (mt4 200 rfl rfl) (mt4 201 rfl rfl) (ci := 7) rfl x1 rfl rfl (Nat.le_of_ble_eq_true rfl) (fun v μ1 hq => ?_)
          obtain ⟨rfl, hq⟩ := hq; subst hq
          simp only [Option.toList, List.cons_append, List.nil_append]
          refine ev_iconst (v := 1) dX11_sheet_65 (by decide) ?_
          refine ev_iret dX11_sheet_66 rfl ?_
          rw [if_neg (fun q => Int32.not_lt.mpr h41 q.2), if_neg (fun q => Int32.not_lt.mpr h48 q.2), if_neg (Int32.not_lt.mpr h0)]
          exact ⟨rfl, fin s' so z _ hs hx ⟨Int32.le_iff_toInt_le.mp h48, Int32.le_iff_toInt_le.mp h41⟩ l50, fF _ _ _ hs⟩
        · refine ev_bipush (v := (-14)) dX11_sheet_51 (by decide) ?_
          refine ev_iret dX11_sheet_53 rfl ?_
          rw [if_neg (fun q => Int32.not_lt.mpr h41 q.2), if_pos ⟨h0, Int32.not_le.mp h48⟩]
          exact ⟨rfl, ⟨⟨⟨fun _ _ => rfl, rfl⟩, hS⟩, ⟨σ, hM, hT⟩⟩, hF⟩
      · refine ev_bipush (v := (-2)) dX11_sheet_44 (by decide) ?_
        refine ev_iret dX11_sheet_46 rfl ?_
        rw [if_pos ⟨h0, Int32.not_le.mp h41⟩]
        exact ⟨rfl, ⟨⟨⟨fun _ _ => rfl, rfl⟩, hS⟩, ⟨σ, hM, hT⟩⟩, hF⟩
    · refine ev_aload_n dX11_sheet_25 rfl ?_
      refine ev_get dX11_sheet_26 flX11_55_11 (hM.o 0 11 (by decide)) rfl ?_
      refine ev_iload_n dX11_sheet_29 rfl ?_
      refine ev_aald dX11_sheet_30 hM.sl (by decide) (by decide) (ix_n (by omega)) (kSl_at hs) ?_
      refine ev_iconst (v := (-1)) dX11_sheet_31 (by decide) ?_
      refine ev_iconst (v := 0) dX11_sheet_32 (by decide) ?_
      refine k_v (c_kBecome x1 x2 (by omega) (by omega) _ _) (by decide) dX11_sheet_33 cbX7_become (mt4 199 rfl rfl) (mt4 200 rfl rfl) (mt4 201 rfl rfl) (ci := 7) rfl x1 rfl rfl (Nat.le_of_ble_eq_true rfl) (fun v μ1 hq => ?_)
      obtain ⟨rfl, hq⟩ := hq; subst hq
      simp only [Option.toList, List.cons_append, List.nil_append]
      refine ev_iconst (v := 1) dX11_sheet_36 (by decide) ?_
      refine ev_iret dX11_sheet_37 rfl ?_
      rw [show so = -1 by assumption]
      rw [if_neg (fun q => absurd q.1 (by decide)), if_neg (fun q => absurd q.1 (by decide)), if_pos (by decide)]
      exact ⟨rfl, fin s' (-1) 0 _ hs ⟨by decide, by decide⟩ ⟨by decide, by decide⟩ l50, fF _ _ _ hs⟩
  · rw [if_neg h1]
    refine ev_iload_n dX11_sheet_0 rfl ?_
    refine k_s (c_kIsSheet _) (by decide) dX11_sheet_1 cbX11_isSheet (mt4 53 rfl rfl) (mt4 54 rfl rfl) rfl rfl (Nat.le_of_ble_eq_true rfl) (fun v μ1 hq => ?_)
    obtain ⟨rfl, hμ⟩ := hq
    have hμ := hμ.symm
    subst hμ
    simp only [Option.toList, List.cons_append, List.nil_append]
    refine ev_if_eq (tgt := 17) dX11_sheet_4 (by decide) (fun h4 => ?_) (fun h4 => ?_)
    · refine ev_bipush (v := (-2)) dX11_sheet_17 (by decide) ?_
      refine ev_iret dX11_sheet_19 rfl ?_
      exact ⟨rfl, ⟨⟨⟨fun _ _ => rfl, rfl⟩, hS⟩, ⟨σ, hM, hT⟩⟩, hF⟩
    · refine ev_iload_n dX11_sheet_7 rfl ?_
      refine ev_iconst (v := (-1)) dX11_sheet_8 (by decide) ?_
      refine ev_icmp_lt (tgt := 17) dX11_sheet_9 (by decide) (fun h9 => ?_) (fun h9 => ?_)
      · refine ev_bipush (v := (-2)) dX11_sheet_17 (by decide) ?_
        refine ev_iret dX11_sheet_19 rfl ?_
        exact ⟨rfl, ⟨⟨⟨fun _ _ => rfl, rfl⟩, hS⟩, ⟨σ, hM, hT⟩⟩, hF⟩
      · refine ev_iload_n dX11_sheet_12 rfl ?_
        refine ev_iconst (v := 2) dX11_sheet_13 (by decide) ?_
        refine ev_icmp_le (tgt := 20) dX11_sheet_14 (by decide) (fun h14 => ?_) (fun h14 => ?_)
        · exact absurd ⟨b2i_ne (by assumption), Int32.not_lt.mp h9, by assumption⟩ h1
        · refine ev_bipush (v := (-2)) dX11_sheet_17 (by decide) ?_
          refine ev_iret dX11_sheet_19 rfl ?_
          exact ⟨rfl, ⟨⟨⟨fun _ _ => rfl, rfl⟩, hS⟩, ⟨σ, hM, hT⟩⟩, hF⟩
theorem SH.set3 {l3 : List Int32} (hS : SH ρ) : SH (setA ρ 35 l3) := hS
theorem c_kCell (hG : GI ρ) (hC : CLn ρ) (hS : SH ρ) (hB : TB ρ) (hI : IM ρ n t tx cd Lf) (hM : KM a m tx σ μ) (hT : KTie ρ n t tx cd Lf m σ) (s i v : Int32) : Mt g 2 mX11_cell [.ref a, .int s, .int i, .int v] μ (fun r μ' => r = some (.int (opCell ρ s i v).1) ∧ ((ShO (opCell ρ s i v).2 ρ ∧ SH (opCell ρ s i v).2) ∧ KV a (opCell ρ s i v).2 n t tx cd Lf m μ') ∧ FC a μ μ') := by
  refine Mt.of0 (ls0 := [some (.ref a), some (.int s), some (.int i), some (.int v), none]) (by decide) (by simp [Value.category]) (Nat.le_of_ble_eq_true rfl) rfl ?_
  have hF : FC a μ μ := FC.rf
  have l35 : (ρ.1 35).length = 160 := hC (35, 160) (by decide) (by decide)
  have stay : ((ShO ρ ρ ∧ SH ρ) ∧ KV a ρ n t tx cd Lf m μ) ∧ FC a μ μ := ⟨⟨⟨⟨fun _ _ => rfl, rfl⟩, hS⟩, ⟨σ, hM, hT⟩⟩, hF⟩
  rw [opCell]
  by_cases h1 : 0 ≤ s ∧ s < 4
  · rw [if_pos h1]
    obtain ⟨hs, es⟩ := sheet_n h1.1 h1.2
    generalize s.toInt.toNat = s' at hs es ⊢
    subst es
    obtain ⟨x1, x2⟩ := hM.sh hs
    have l50 := hT.l50 hs
    obtain ⟨y1, y2, y3⟩ := hT.shh s' hs
    have hneg := so_neg (hS s' hs).1
    obtain ⟨z, hz, ez⟩ := size_n (hS s' hs).2
    rw [y1, y2] at x1
    have in1 : hasP ((ρ.1 34).getD s' 0) i 1 ↔ 0 ≤ i ∧ i ≤ (ρ.1 34).getD s' 0 - 1 := by
      rw [ez, hasP_iff hz]
      have z1 : (nI z).toInt = z := nI_i (by omega)
      have e1 : (1 : Int32).toInt = 1 := by decide
      constructor
      · rintro ⟨-, q1, q2, q3⟩
        refine ⟨q1, ?_⟩
        rw [Int32.le_iff_toInt_le] at q1 q2 q3 ⊢
        rw [Int32.toInt_zero] at q1
        rw [z1] at q2
        rw [sub_i (by omega) (by omega), z1, e1] at q3 ⊢
        omega
      · rintro ⟨q1, q2⟩
        have q1' := q1
        rw [Int32.le_iff_toInt_le] at q1' q2
        rw [Int32.toInt_zero] at q1'
        rw [sub_i (by omega) (by omega), z1, e1] at q2
        refine ⟨by decide, q1, ?_, ?_⟩
        · rw [Int32.le_iff_toInt_le, z1]; omega
        · rw [Int32.le_iff_toInt_le, sub_i (by omega) (by omega), z1, e1]; omega
    refine ev_iload_n dX11_cell_0 rfl ?_
    refine k_s (c_kIsSheet _) (by decide) dX11_cell_1 cbX11_isSheet (mt4 53 rfl rfl) (mt4 54 rfl rfl) rfl rfl (Nat.le_of_ble_eq_true rfl) (fun v μ1 hq => ?_)
    obtain ⟨rfl, hμ⟩ := hq
    have hμ := hμ.symm
    subst hμ
    simp only [Option.toList, List.cons_append, List.nil_append]
    rw [b2i_t h1]
    refine ev_if_ne (tgt := 10) dX11_cell_4 (by decide) (fun _ => ?_) (fun h4 => absurd h4 ((show ¬ (1 : Int32) = 0 by decide)))
    refine ev_aload_n dX11_cell_10 rfl ?_
    refine ev_get dX11_cell_11 flX11_55_11 (hM.o 0 11 (by decide)) rfl ?_
    refine ev_iload_n dX11_cell_14 rfl ?_
    refine ev_aald dX11_cell_15 hM.sl (by decide) (by decide) (ix_n (by omega)) (kSl_at hs) ?_
    refine ev_astore dX11_cell_16 (by decide) ?_
    dsimp only [List.set]
    refine ev_aload dX11_cell_18 rfl ?_
    refine k_v (c_kMissing x1) (by decide) dX11_cell_20 cbX7_isMissing (mt4 56 rfl rfl) (mt4 57 rfl rfl) (mt4 58 rfl rfl) (ci := 7) rfl x1 rfl rfl (Nat.le_of_ble_eq_true rfl) (fun v μ1 hq => ?_)
    obtain ⟨rfl, hμ⟩ := hq
    have hμ := hμ.symm
    subst hμ
    simp only [Option.toList, List.cons_append, List.nil_append]
    refine ev_if_eq (tgt := 29) dX11_cell_23 (by decide) (fun h23 => ?_) (fun h23 => ?_)
    · rw [if_neg (fun q => b2i_eq (by assumption) (hneg.mpr q))]
      refine ev_aload dX11_cell_29 rfl ?_
      refine ev_iload_n dX11_cell_31 rfl ?_
      refine ev_iconst (v := 1) dX11_cell_32 (by decide) ?_
      refine k_v (c_kHas x1 _ _) (by decide) dX11_cell_33 cbX7_has (mt4 210 rfl rfl) (mt4 69 rfl rfl) (mt4 70 rfl rfl) (ci := 7) rfl x1 rfl rfl (Nat.le_of_ble_eq_true rfl) (fun v μ1 hq => ?_)
      obtain ⟨rfl, hμ⟩ := hq
      have hμ := hμ.symm
      subst hμ
      simp only [Option.toList, List.cons_append, List.nil_append]
      refine ev_if_ne (tgt := 42) dX11_cell_36 (by decide) (fun h36 => ?_) (fun h36 => ?_)
      · have hin := in1.mp (b2i_ne (by assumption))
        rw [if_pos hin]
        have hin2 := hin
        rw [ez] at hin2
        have iz : i.toInt.toNat < z ∧ i = nI i.toInt.toNat := by
          have z1 : (nI z).toInt = z := nI_i (by omega)
          have e1 : (1 : Int32).toInt = 1 := by decide
          obtain ⟨q1, q2⟩ := hin2
          rw [Int32.le_iff_toInt_le] at q1 q2
          rw [Int32.toInt_zero] at q1
          rw [sub_i (by omega) (by omega), z1, e1] at q2
          refine ⟨by omega, ?_⟩
          apply Int32.toInt_inj.mp
          rw [nI_i (by omega)]; omega
        generalize i.toInt.toNat = i' at iz ⊢
        obtain ⟨iz, ei⟩ := iz
        refine ev_aload dX11_cell_42 rfl ?_
        refine ev_iload_n dX11_cell_44 rfl ?_
        refine ev_iload_n dX11_cell_45 rfl ?_
        refine k_v (c_kPut x1 x2 (i' := i') (by omega) (by rw [ei]; exact ix_n (by omega)) (b2i_ne (by assumption)) v) (by decide) dX11_cell_46 cbX7_put (mt4 211 rfl rfl) (mt4 212 rfl rfl) (mt4 213 rfl rfl) (ci := 7) rfl x1 rfl rfl (Nat.le_of_ble_eq_true rfl) (fun v μ1 hq => ?_)
        obtain ⟨rfl, hq⟩ := hq; subst hq
        simp only [Option.toList, List.cons_append, List.nil_append]
        refine ev_iconst (v := 1) dX11_cell_49 (by decide) ?_
        refine ev_iret dX11_cell_50 rfl ?_
        refine ⟨rfl, ⟨⟨ShO.set3, SH.set3 hS⟩, ⟨shS σ s' ((ρ.1 33).getD s' 0) ((ρ.1 34).getD s' 0) ((σ.1 (50 + 2 * s')).set i' (cutS ((ρ.1 33).getD s' 0) v)), ?_, KTie.shs ShO.set3 hT hs (by rw [List.length_set]; exact l50) (hT.shh.upd hS (fun _ _ => rfl) (fun _ _ => rfl) ?_ rfl rfl ?_)⟩⟩, hF.upd (by omega)⟩
        · have q := hM.shm hs ((ρ.1 33).getD s' 0) ((ρ.1 34).getD s' 0) ((σ.1 (50 + 2 * s')).set i' (cutS ((ρ.1 33).getD s' 0) v))
          rw [mupd_self x1] at q
          exact q
        · intro s2 k e hk
          exact setD_ne (by omega)
        · intro k hk
          rw [ez, nI_i (by omega)] at hk
          have hk' : k < z := hk
          show _ = ((ρ.1 35).set (40 * s' + i') (cutS ((ρ.1 33).getD s' 0) v)).getD (40 * s' + k) 0
          by_cases e : k = i'
          · subst e
            rw [setD_eq (l := σ.1 (50 + 2 * s')) (by omega), setD_eq (l := ρ.1 35) (by omega)]
          · rw [setD_ne e, setD_ne (by omega)]
            exact y3 k (by rw [ez, nI_i (by omega)]; exact hk)
      · refine ev_bipush (v := (-12)) dX11_cell_39 (by decide) ?_
        refine ev_iret dX11_cell_41 rfl ?_
        rw [if_neg (fun q => b2i_eq (by assumption) (in1.mpr q))]
        exact ⟨rfl, stay⟩
    · refine ev_bipush (v := (-11)) dX11_cell_26 (by decide) ?_
      refine ev_iret dX11_cell_28 rfl ?_
      rw [if_pos (hneg.mp (b2i_ne (by assumption)))]
      exact ⟨rfl, stay⟩
  · rw [if_neg h1]
    refine ev_iload_n dX11_cell_0 rfl ?_
    refine k_s (c_kIsSheet _) (by decide) dX11_cell_1 cbX11_isSheet (mt4 53 rfl rfl) (mt4 54 rfl rfl) rfl rfl (Nat.le_of_ble_eq_true rfl) (fun v μ1 hq => ?_)
    obtain ⟨rfl, hμ⟩ := hq
    have hμ := hμ.symm
    subst hμ
    simp only [Option.toList, List.cons_append, List.nil_append]
    rw [b2i_f h1]
    refine ev_if_ne (tgt := 10) dX11_cell_4 (by decide) (fun h4 => absurd (rfl) h4) (fun _ => ?_)
    refine ev_bipush (v := (-2)) dX11_cell_7 (by decide) ?_
    refine ev_iret dX11_cell_9 rfl ?_
    exact ⟨rfl, stay⟩
theorem c_kCopy (hG : GI ρ) (hC : CLn ρ) (hS : SH ρ) (hB : TB ρ) (hI : IM ρ n t tx cd Lf) (hM : KM a m tx σ μ) (hT : KTie ρ n t tx cd Lf m σ) (s i o j z : Int32) : Mt g 2 mX11_copy [.ref a, .int s, .int i, .int o, .int j, .int z] μ (fun r μ' => r = some (.int (opCopy ρ s i o j z).1) ∧ ((ShO (opCopy ρ s i o j z).2 ρ ∧ SH (opCopy ρ s i o j z).2) ∧ KV a (opCopy ρ s i o j z).2 n t tx cd Lf m μ') ∧ FC a μ μ') := by
  refine Mt.of0 (ls0 := [some (.ref a), some (.int s), some (.int i), some (.int o), some (.int j), some (.int z), none, none]) (by decide) (by simp [Value.category]) (Nat.le_of_ble_eq_true rfl) rfl ?_
  have hF : FC a μ μ := FC.rf
  have l35 : (ρ.1 35).length = 160 := hC (35, 160) (by decide) (by decide)
  have stay : ((ShO ρ ρ ∧ SH ρ) ∧ KV a ρ n t tx cd Lf m μ) ∧ FC a μ μ := ⟨⟨⟨⟨fun _ _ => rfl, rfl⟩, hS⟩, ⟨σ, hM, hT⟩⟩, hF⟩
  rw [opCopy]
  by_cases h1 : (0 ≤ s ∧ s < 4) ∧ 0 ≤ o ∧ o < 4
  · rw [if_pos h1]
    obtain ⟨hs, es⟩ := sheet_n h1.1.1 h1.1.2
    obtain ⟨ho, eo⟩ := sheet_n h1.2.1 h1.2.2
    obtain ⟨b1, b2⟩ := h1
    generalize s.toInt.toNat = s' at hs es ⊢
    generalize o.toInt.toNat = o' at ho eo ⊢
    subst es
    subst eo
    obtain ⟨x1, x2⟩ := hM.sh hs
    obtain ⟨w1, w2⟩ := hM.sh ho
    have l50 := hT.l50 hs
    have l51 := hT.l50 ho
    obtain ⟨y1, y2, y3⟩ := hT.shh s' hs
    obtain ⟨u1, u2, u3⟩ := hT.shh o' ho
    have hneg := so_neg (hS s' hs).1
    have hneg2 := so_neg (hS o' ho).1
    obtain ⟨k1, hk1, ek1⟩ := size_n (hS s' hs).2
    obtain ⟨k2, hk2, ek2⟩ := size_n (hS o' ho).2
    rw [y1, y2] at x1
    rw [u1, u2] at w1
    have in1 : hasP ((ρ.1 34).getD s' 0) i z ↔ 0 ≤ z ∧ 0 ≤ i ∧ i ≤ (ρ.1 34).getD s' 0 ∧ z ≤ (ρ.1 34).getD s' 0 - i := by rw [ek1]; exact hasP_iff hk1
    have in2 : hasP ((ρ.1 34).getD o' 0) j z ↔ 0 ≤ z ∧ 0 ≤ j ∧ j ≤ (ρ.1 34).getD o' 0 ∧ z ≤ (ρ.1 34).getD o' 0 - j := by rw [ek2]; exact hasP_iff hk2
    refine ev_iload_n dX11_copy_0 rfl ?_
    refine k_s (c_kIsSheet _) (by decide) dX11_copy_1 cbX11_isSheet (mt4 53 rfl rfl) (mt4 54 rfl rfl) rfl rfl (Nat.le_of_ble_eq_true rfl) (fun v μ1 hq => ?_)
    obtain ⟨rfl, hμ⟩ := hq
    have hμ := hμ.symm
    subst hμ
    simp only [Option.toList, List.cons_append, List.nil_append]
    rw [b2i_t b1]
    refine ev_if_eq (tgt := 14) dX11_copy_4 (by decide) (fun h4 => absurd h4 ((show ¬ (1 : Int32) = 0 by decide))) (fun _ => ?_)
    refine ev_iload_n dX11_copy_7 rfl ?_
    refine k_s (c_kIsSheet _) (by decide) dX11_copy_8 cbX11_isSheet (mt4 53 rfl rfl) (mt4 54 rfl rfl) rfl rfl (Nat.le_of_ble_eq_true rfl) (fun v μ1 hq => ?_)
    obtain ⟨rfl, hμ⟩ := hq
    have hμ := hμ.symm
    subst hμ
    simp only [Option.toList, List.cons_append, List.nil_append]
    rw [b2i_t b2]
    refine ev_if_ne (tgt := 17) dX11_copy_11 (by decide) (fun _ => ?_) (fun h11 => absurd h11 ((show ¬ (1 : Int32) = 0 by decide)))
    refine ev_aload_n dX11_copy_17 rfl ?_
    refine ev_get dX11_copy_18 flX11_55_11 (hM.o 0 11 (by decide)) rfl ?_
    refine ev_iload_n dX11_copy_21 rfl ?_
    refine ev_aald dX11_copy_22 hM.sl (by decide) (by decide) (ix_n (by omega)) (kSl_at hs) ?_
    refine ev_astore dX11_copy_23 (by decide) ?_
    dsimp only [List.set]
    refine ev_aload_n dX11_copy_25 rfl ?_
    refine ev_get dX11_copy_26 flX11_55_11 (hM.o 0 11 (by decide)) rfl ?_
    refine ev_iload_n dX11_copy_29 rfl ?_
    refine ev_aald dX11_copy_30 hM.sl (by decide) (by decide) (ix_n (by omega)) (kSl_at ho) ?_
    refine ev_astore dX11_copy_31 (by decide) ?_
    dsimp only [List.set]
    refine ev_aload dX11_copy_33 rfl ?_
    refine k_v (c_kMissing x1) (by decide) dX11_copy_35 cbX7_isMissing (mt4 56 rfl rfl) (mt4 57 rfl rfl) (mt4 58 rfl rfl) (ci := 7) rfl x1 rfl rfl (Nat.le_of_ble_eq_true rfl) (fun v μ1 hq => ?_)
    obtain ⟨rfl, hμ⟩ := hq
    have hμ := hμ.symm
    subst hμ
    simp only [Option.toList, List.cons_append, List.nil_append]
    refine ev_if_ne (tgt := 49) dX11_copy_38 (by decide) (fun h38 => ?_) (fun h38 => ?_)
    · refine ev_bipush (v := (-11)) dX11_copy_49 (by decide) ?_
      refine ev_iret dX11_copy_51 rfl ?_
      first
        | (rw [if_pos (Or.inl (hneg.mp (b2i_ne h38)))]; exact ⟨rfl, stay⟩)
        | (rw [if_pos (Or.inr (hneg2.mp (b2i_ne h46)))]; exact ⟨rfl, stay⟩)
    · refine ev_aload dX11_copy_41 rfl ?_
      refine k_v (c_kMissing w1) (by decide) dX11_copy_43 cbX7_isMissing (mt4 56 rfl rfl) (mt4 57 rfl rfl) (mt4 58 rfl rfl) (ci := 7) rfl w1 rfl rfl (Nat.le_of_ble_eq_true rfl) (fun v μ1 hq => ?_)
      obtain ⟨rfl, hμ⟩ := hq
      have hμ := hμ.symm
      subst hμ
      simp only [Option.toList, List.cons_append, List.nil_append]
      refine ev_if_eq (tgt := 52) dX11_copy_46 (by decide) (fun h46 => ?_) (fun h46 => ?_)
      · rw [if_neg (fun q => q.elim (fun q => b2i_eq h38 (hneg.mpr q)) (fun q => b2i_eq h46 (hneg2.mpr q)))]
        refine ev_aload dX11_copy_52 rfl ?_
        refine ev_get dX11_copy_54 flX11_283_7 x1 rfl ?_
        refine ev_aload dX11_copy_57 rfl ?_
        refine ev_get dX11_copy_59 flX11_283_7 w1 rfl ?_
        refine ev_icmp_eq (tgt := 68) dX11_copy_62 (by decide) (fun h62 => ?_) (fun h62 => ?_)
        · rw [if_neg (fun q => q h62)]
          refine ev_aload dX11_copy_68 rfl ?_
          refine ev_iload_n dX11_copy_70 rfl ?_
          refine ev_iload dX11_copy_71 rfl ?_
          refine k_v (c_kHas x1 _ _) (by decide) dX11_copy_73 cbX7_has (mt4 210 rfl rfl) (mt4 69 rfl rfl) (mt4 70 rfl rfl) (ci := 7) rfl x1 rfl rfl (Nat.le_of_ble_eq_true rfl) (fun v μ1 hq => ?_)
          obtain ⟨rfl, hμ⟩ := hq
          have hμ := hμ.symm
          subst hμ
          simp only [Option.toList, List.cons_append, List.nil_append]
          refine ev_if_eq (tgt := 91) dX11_copy_76 (by decide) (fun h76 => ?_) (fun h76 => ?_)
          · refine ev_bipush (v := (-12)) dX11_copy_91 (by decide) ?_
            refine ev_iret dX11_copy_93 rfl ?_
            first
              | (rw [if_neg (fun q => b2i_eq h76 (in1.mpr ⟨q.1, q.2.1⟩))]; exact ⟨rfl, stay⟩)
              | (rw [if_neg (fun q => b2i_eq h88 (in2.mpr ⟨q.1, q.2.2⟩))]; exact ⟨rfl, stay⟩)
          · refine ev_aload dX11_copy_79 rfl ?_
            refine ev_iload dX11_copy_81 rfl ?_
            refine ev_iload dX11_copy_83 rfl ?_
            refine k_v (c_kHas w1 _ _) (by decide) dX11_copy_85 cbX7_has (mt4 210 rfl rfl) (mt4 69 rfl rfl) (mt4 70 rfl rfl) (ci := 7) rfl w1 rfl rfl (Nat.le_of_ble_eq_true rfl) (fun v μ1 hq => ?_)
            obtain ⟨rfl, hμ⟩ := hq
            have hμ := hμ.symm
            subst hμ
            simp only [Option.toList, List.cons_append, List.nil_append]
            refine ev_if_ne (tgt := 94) dX11_copy_88 (by decide) (fun h88 => ?_) (fun h88 => ?_)
            · have p1 := in1.mp (b2i_ne h76)
              have p2 := in2.mp (b2i_ne h88)
              rw [if_pos ⟨p1.1, p1.2, p2.2⟩]
              obtain ⟨i', n', e1, e2, e3, e4, e5⟩ := in_n ek1 hk1 p1.2 p1.1
              obtain ⟨j', n2, f1, f2, f3, f4, f5⟩ := in_n ek2 hk2 p2.2 p2.1
              have hnn : n2 = n' := f5.symm.trans e5
              subst hnn
              rw [e4, e5, f4]
              clear e4 f4 e5 f5
              subst e1
              subst f1
              subst e2
              refine ev_aload dX11_copy_94 rfl ?_
              refine ev_get dX11_copy_96 flX11_284_7 x1 rfl ?_
              refine ev_iload_n dX11_copy_99 rfl ?_
              refine ev_aload dX11_copy_100 rfl ?_
              refine ev_get dX11_copy_102 flX11_284_7 w1 rfl ?_
              refine ev_iload dX11_copy_105 rfl ?_
              refine ev_iload dX11_copy_107 rfl ?_
              refine ev_copyi dX11_copy_109 (mt4 123 rfl rfl) x2 w2 (ix_n (by omega)) (ix_n (by omega)) (ix_n (by omega)) (by omega) (by omega) (Nat.le_of_ble_eq_true rfl) ?_
              refine ev_iload dX11_copy_112 rfl ?_
              refine ev_iret dX11_copy_114 rfl ?_
              refine ⟨rfl, ⟨⟨ShO.set3, SH.set3 hS⟩, ⟨shS σ o' ((ρ.1 33).getD o' 0) ((ρ.1 34).getD o' 0) (cpyL (σ.1 (50 + 2 * s')) (σ.1 (50 + 2 * o')) i' j' n2), ?_, KTie.shs ShO.set3 hT ho (by rw [cpyL_len]; exact l51) (hT.shh.upd hS (fun _ _ => rfl) (fun _ _ => rfl) ?_ rfl rfl ?_)⟩⟩, hF.upd (by omega)⟩
              · have q := hM.shm ho ((ρ.1 33).getD o' 0) ((ρ.1 34).getD o' 0) (cpyL (σ.1 (50 + 2 * s')) (σ.1 (50 + 2 * o')) i' j' n2)
                rw [mupd_self w1] at q
                exact q
              · intro s2 k e hk
                show (cpK (ρ.1 35) (40 * s' + i') (40 * o' + j') n2 0 (ρ.1 35)).getD (40 * s2 + k) 0 = _
                rw [cpK_D _ _ _ (by omega), if_neg (by omega)]
              · intro k hk
                rw [ek2, nI_i (by omega)] at hk
                have hk' : k < k2 := hk
                show _ = (cpK (ρ.1 35) (40 * s' + i') (40 * o' + j') n2 0 (ρ.1 35)).getD (40 * o' + k) 0
                rw [cpK_D _ _ _ (by omega), cpyL_D (by omega)]
                by_cases e : j' ≤ k ∧ k < j' + n2
                · rw [if_pos e, if_pos (by omega), y3 _ (by rw [ek1, nI_i (by omega)]; show i' + (k - j') < k1; omega)]
                  congr 1; omega
                · rw [if_neg e, if_neg (by omega)]
                  exact u3 k (by rw [ek2, nI_i (by omega)]; exact hk)
            · refine ev_bipush (v := (-12)) dX11_copy_91 (by decide) ?_
              refine ev_iret dX11_copy_93 rfl ?_
              first
                | (rw [if_neg (fun q => b2i_eq h76 (in1.mpr ⟨q.1, q.2.1⟩))]; exact ⟨rfl, stay⟩)
                | (rw [if_neg (fun q => b2i_eq h88 (in2.mpr ⟨q.1, q.2.2⟩))]; exact ⟨rfl, stay⟩)
        · refine ev_bipush (v := (-13)) dX11_copy_65 (by decide) ?_
          refine ev_iret dX11_copy_67 rfl ?_
          rw [if_pos (by assumption)]
          exact ⟨rfl, stay⟩
      · refine ev_bipush (v := (-11)) dX11_copy_49 (by decide) ?_
        refine ev_iret dX11_copy_51 rfl ?_
        first
          | (rw [if_pos (Or.inl (hneg.mp (b2i_ne h38)))]; exact ⟨rfl, stay⟩)
          | (rw [if_pos (Or.inr (hneg2.mp (b2i_ne h46)))]; exact ⟨rfl, stay⟩)
  · rw [if_neg h1]
    refine ev_iload_n dX11_copy_0 rfl ?_
    refine k_s (c_kIsSheet _) (by decide) dX11_copy_1 cbX11_isSheet (mt4 53 rfl rfl) (mt4 54 rfl rfl) rfl rfl (Nat.le_of_ble_eq_true rfl) (fun v μ1 hq => ?_)
    obtain ⟨rfl, hμ⟩ := hq
    have hμ := hμ.symm
    subst hμ
    simp only [Option.toList, List.cons_append, List.nil_append]
    refine ev_if_eq (tgt := 14) dX11_copy_4 (by decide) (fun h4 => ?_) (fun h4 => ?_)
    · refine ev_bipush (v := (-2)) dX11_copy_14 (by decide) ?_
      refine ev_iret dX11_copy_16 rfl ?_
      exact ⟨rfl, stay⟩
    · refine ev_iload_n dX11_copy_7 rfl ?_
      refine k_s (c_kIsSheet _) (by decide) dX11_copy_8 cbX11_isSheet (mt4 53 rfl rfl) (mt4 54 rfl rfl) rfl rfl (Nat.le_of_ble_eq_true rfl) (fun v μ1 hq => ?_)
      obtain ⟨rfl, hμ⟩ := hq
      have hμ := hμ.symm
      subst hμ
      simp only [Option.toList, List.cons_append, List.nil_append]
      refine ev_if_ne (tgt := 17) dX11_copy_11 (by decide) (fun h11 => ?_) (fun h11 => ?_)
      · exact absurd ⟨b2i_ne h4, b2i_ne h11⟩ h1
      · refine ev_bipush (v := (-2)) dX11_copy_14 (by decide) ?_
        refine ev_iret dX11_copy_16 rfl ?_
        exact ⟨rfl, stay⟩
end KSH2
