/-! ===== the class's search: grow ===== -/
def EqD (o d : Nat) (σ' σ : KS) : Prop := (∀ p k, (p ≠ o ∨ k ≠ 1) → (p ≤ o + 7 + d ∨ o + 15 ≤ p) → kI σ' p k = kI σ p k) ∧ (∀ k, k ≠ o + 1 → k ≠ o + 3 → σ'.1 k = σ.1 k) ∧ σ'.2.2 = σ.2.2 ∧ (σ'.1 (o + 1)).length = (σ.1 (o + 1)).length ∧ (σ'.1 (o + 3)).length = (σ.1 (o + 3)).length ∧ ∀ i, i < d → (σ'.1 (o + 3))[i]? = (σ.1 (o + 3))[i]?
theorem EqD.rf {o d : Nat} {σ : KS} : EqD o d σ σ := ⟨fun _ _ _ _ => rfl, fun _ _ _ => rfl, rfl, rfl, rfl, fun _ _ => rfl⟩
theorem EqD.tr {o d : Nat} {x y z : KS} (h : EqD o d x y) (k : EqD o d y z) : EqD o d x z := ⟨fun p q h1 h2 => (h.1 p q h1 h2).trans (k.1 p q h1 h2), fun q h1 h2 => (h.2.1 q h1 h2).trans (k.2.1 q h1 h2), h.2.2.1.trans k.2.2.1, h.2.2.2.1.trans k.2.2.2.1, h.2.2.2.2.1.trans k.2.2.2.2.1, fun i hi => (h.2.2.2.2.2 i hi).trans (k.2.2.2.2.2 i hi)⟩
theorem EqD.wk {o d d' : Nat} {x y : KS} (h : EqD o d' x y) (hd : d ≤ d') : EqD o d x y := ⟨fun p q h1 h2 => h.1 p q h1 (by omega), h.2.1, h.2.2.1, h.2.2.2.1, h.2.2.2.2.1, fun i hi => h.2.2.2.2.2 i (by omega)⟩
theorem EqD.w6 {o d q : Nat} {x y : KS} (h : EqD o d x y) (hq : q ≤ o + 7 + d) (hne : q ≠ o) : w6o x q = w6o y q := by
  unfold w6o
  rw [h.1 q 0 (Or.inl hne) (Or.inl hq), h.1 q 1 (Or.inl hne) (Or.inl hq), h.1 q 2 (Or.inl hne) (Or.inl hq), h.1 q 3 (Or.inl hne) (Or.inl hq), h.1 q 4 (Or.inl hne) (Or.inl hq), h.1 q 5 (Or.inl hne) (Or.inl hq)]
theorem SO.w {o : Nat} (h : SO o) {d : Nat} (hd : d ≤ 7) : (o + 7 + d, 10) ∈ kO := by
  have e : d = 0 ∨ d = 1 ∨ d = 2 ∨ d = 3 ∨ d = 4 ∨ d = 5 ∨ d = 6 ∨ d = 7 := by omega
  rcases h with rfl | rfl <;> rcases e with rfl | rfl | rfl | rfl | rfl | rfl | rfl | rfl <;> decide
theorem SX.eqD {a n t o so' d : Nat} {ρ : MS} {cd : Nat → List Int32} {σ' σ : KS} (h : SX a ρ n t cd so' o σ) (e : EqD o d σ' σ) : SX a ρ n t cd so' o σ' := by
  obtain ⟨h1, h2, h3, h4, h5, h6, h7, h8⟩ := h
  have eT : kT σ' = kT σ := by show σ'.2.2.2.2 = _; rw [e.2.2.1]
  refine ⟨h1, h2, (e.1 o 3 (Or.inr (by decide)) (Or.inl (by omega))).trans h3, (e.1 o 10 (Or.inr (by decide)) (Or.inl (by omega))).trans h4, by rw [eT]; exact h5, ?_, ?_, ?_⟩
  · rw [e.2.1 _ (by omega) (by omega)]; exact h6
  · rw [e.2.1 _ (by omega) (by omega), e.2.1 _ (by omega) (by omega)]; exact h7
  · rw [e.2.1 (o + 15) (by omega) (by omega), e.2.1 (o + 16) (by omega) (by omega), e.2.1 (o + 4) (by omega) (by omega)]; exact h8
theorem KHs.eqD {n m o d : Nat} {ρ : MS} {σ' σ : KS} (h : KHs ρ n m σ) (ho : SO o) (e : EqD o d σ' σ) (hn7 : n ≤ 7) : KHs ρ n m σ' := by
  obtain ⟨h1, h2, h3⟩ := h
  have eD : kD σ' = kD σ := by show σ'.2.2.1 = _; rw [e.2.2.1]
  have ho2 : o = 12 ∨ o = 29 := ho
  refine ⟨h1, (e.1 0 1 (Or.inl (by omega)) (Or.inl (by omega))).trans h2, fun x hx => ?_⟩
  obtain ⟨x1, x2, x3⟩ := h3 x hx
  exact ⟨by rw [eD]; exact x1, (e.1 _ 0 (Or.inl (by omega)) (Or.inr (by omega))).trans x2, fun k hk => (e.1 _ (k + 1) (Or.inl (by omega)) (Or.inr (by omega))).trans (x3 k hk)⟩
theorem EqD.walk {o d q : Nat} {x y : KS} {f : Nat → Int32} (h : EqD o d x y) (hq : o + 7 + d < q) (hq2 : q < o + 15) : EqD o d (ksO x q f) y := ⟨fun p k h1 h2 => (ksO_ne (by omega)).trans (h.1 p k h1 h2), h.2.1, h.2.2.1, h.2.2.2.1, h.2.2.2.2.1, h.2.2.2.2.2⟩
theorem EqD.trial {o d : Nat} {x y : KS} {v : Int32} (h : EqD o d x y) : EqD o d (ksR x (o + 3) ((x.1 (o + 3)).set d v)) y := by
  refine ⟨h.1, fun k h1 h2 => ?_, h.2.2.1, ?_, ?_, fun i hi => ?_⟩
  · show (if k = o + 3 then _ else x.1 k) = _; rw [if_neg h2]; exact h.2.1 k h1 h2
  · show (if o + 1 = o + 3 then _ else x.1 (o + 1)).length = _; rw [if_neg (by omega)]; exact h.2.2.2.1
  · show (if o + 3 = o + 3 then (x.1 (o + 3)).set d v else _).length = _; rw [if_pos rfl, List.length_set]; exact h.2.2.2.2.1
  · show (if o + 3 = o + 3 then (x.1 (o + 3)).set d v else _)[i]? = _
    rw [if_pos rfl, List.getElem?_set_ne (by omega)]; exact h.2.2.2.2.2 i hi
/-- so far the row holds the list -/
def OrdP (σ : KS) (k : Nat) (P : List Nat) : Prop := ∀ i x : Nat, P[i]? = some x → (σ.1 k)[i]? = some (nI x)
section KGROW
variable {g : Gl} {a m tx n t o so' : Nat} {ρ : MS} {cd : Nat → List Int32}
abbrev VlS (ρ : MS) (t : Nat) (cd : Nat → List Int32) (so' : Nat) (z : W6) (p : Int32) : List Nat → Int32 := fun r => vlK (Fc ρ) (Se ρ) (WTs (Fc ρ) (Se ρ) (cdt t cd) (nI so')) (nI so') r z p
/-- what grow leaves -/
def GrQ (a m tx o d : Nat) (σ : KS) (μ : Mm) (b : Int32 × List Nat) : Option Value → Mm → Prop := fun v μ' => v = none ∧ (∃ σ', KM a m tx σ' μ' ∧ EqD o d σ' σ ∧ kI σ' o 1 = b.1 ∧ OrdP σ' (o + 1) b.2) ∧ FC a μ μ'
/-- before grow -/
def GrP (a m tx n o m' d u : Nat) (P : List Nat) (z : W6) (p s : Int32) (bo : List Nat) (σ : KS) (μ : Mm) : Prop := P.length = d ∧ d + m' = n ∧ u < 128 ∧ (usd u n 0).length = m' ∧ w6o σ (o + 7 + d) = z ∧ WkO z ∧ z.1.toInt + 250 * m' ≤ 90000 ∧ 0 ≤ p.toInt ∧ p.toInt + 1000 * m' ≤ 90000 ∧ OrdP σ (o + 3) P ∧ KM a m tx σ μ ∧ kI σ o 1 = s ∧ OrdP σ (o + 1) bo ∧ (σ.1 (o + 1)).length = 7 ∧ (σ.1 (o + 3)).length = 7
theorem kWl_at {a o : Nat} {μ : Mm} {σ : KS} (hM : KM a m tx σ μ) (ho : SO o) : μ.1 (a + (o + 2)) = some (rar 4 (kWl a (o + 7))) := by
  rcases ho with rfl | rfl
  · exact hM.w1
  · exact hM.w2
theorem kWl_i {a o d : Nat} (hd : d ≤ 7) : (kWl a (o + 7))[d]? = some (some (a + (o + 7 + d))) := by
  have e : d = 0 ∨ d = 1 ∨ d = 2 ∨ d = 3 ∨ d = 4 ∨ d = 5 ∨ d = 6 ∨ d = 7 := by omega
  rcases e with rfl | rfl | rfl | rfl | rfl | rfl | rfl | rfl <;> rfl
/-- all orders that begin so are no better -/
theorem gr_no (hV : VF (Fc ρ)) (hS : VS (Se ρ)) (hn7 : n ≤ 7) {u m' : Nat} {P bo : List Nat} {z : W6} {p s : Int32} (hl : (usd u n 0).length = m') (hm : m' ≤ 7) (hz : WkO z) (h1 : z.1.toInt + 250 * m' ≤ 90000) (p0 : 0 ≤ p.toInt) (p1 : p.toInt + 1000 * m' ≤ 90000) (hs : ¬ s < hpK (Fc ρ) (Se ρ) (HTs (Fc ρ) (Se ρ) (cdt t cd) (nI so')) (nI so') (usd u n 0) z p) : srK (VlS ρ t cd so' z p) P (pmK m' (usd u n 0)) (s, bo) = (s, bo) := by
  refine srK_no _ _ (fun r hr => ?_)
  have ha : ∀ h ∈ usd u n 0, h < 7 := fun h hh => by have := (usd_mem n 0 h).mp hh; omega
  have := hope_ub hV hS (WH_ok (cd := cdt t cd) hV hS (nI so')) (so := nI so') m' (usd u n 0) r z p hl hr ha hm hz h1 p0 p1
  have hs' := Int32.not_lt.mp hs
  rw [Int32.le_iff_toInt_le] at hs' ⊢
  exact Int.le_trans this hs'
theorem c_grow0 (hV : VF (Fc ρ)) (hS : VS (Se ρ)) (hn7 : n ≤ 7) {σ : KS} {μ : Mm} (hH : KHs ρ n m σ) (h3 : σ.1 3 = ρ.1 6) (hl3 : (σ.1 3).length = 10) (hX : SX a ρ n t cd so' o σ) {d u : Nat} {P bo : List Nat} {z : W6} {p s : Int32} (hP : GrP a m tx n o 0 d u P z p s bo σ μ) : Mt g 6 mX6_grow [.ref (a + o), .int (nI d), .int (nI u), .int p] μ (GrQ a m tx o d σ μ (srK (VlS ρ t cd so' z p) P (pmK 0 (usd u n 0)) (s, bo))) := by
  obtain ⟨g1, g2, g3, g4, g5, g6, g7, g8, g9, g10, hM, g12, g13, g14, g15⟩ := hP
  have ho := hX.so
  have hobj := hM.srch ho hX.2.2.2.2.1
  have e10 := hX.2.2.2.1
  rw [e10, g12] at hobj
  have hd : d = n := by omega
  subst hd
  have hwl := kWl_at hM ho
  have hwk := hM.o (o + 7 + d) 10 (ho.w hn7)
  have ez : kI σ (o + 7 + d) 0 = z.1 := by rw [← g5]
  have hF : FC a μ μ := FC.rf
  have hnil : usd u d 0 = [] := List.length_eq_zero_iff.mp g4
  refine Mt.of0 (ls0 := [some (.ref (a + o)), some (.int (nI d)), some (.int (nI u)), some (.int p), none, none]) (by decide) (by simp [Value.category]) (Nat.le_of_ble_eq_true rfl) rfl ?_
  by_cases hs : s < hpK (Fc ρ) (Se ρ) (HTs (Fc ρ) (Se ρ) (cdt t cd) (nI so')) (nI so') (usd u d 0) z p
  · have ev : hpK (Fc ρ) (Se ρ) (HTs (Fc ρ) (Se ρ) (cdt t cd) (nI so')) (nI so') (usd u d 0) z p = VlS ρ t cd so' z p [] := by rw [hnil]; rfl
    have er : srK (VlS ρ t cd so' z p) P (pmK 0 (usd u d 0)) (s, bo) = (hpK (Fc ρ) (Se ρ) (HTs (Fc ρ) (Se ρ) (cdt t cd) (nI so')) (nI so') (usd u d 0) z p, P) := by
      show srK _ P [[]] (s, bo) = _
      rw [srK, srK, if_pos (by rw [← ev]; exact hs), ← ev, List.append_nil]
    rw [er]
    refine ev_aload_n dX6_grow_0 rfl ?_
    refine ev_aload_n dX6_grow_1 rfl ?_
    refine ev_get dX6_grow_2 flX6_25_6 hobj rfl ?_
    refine ev_iload_n dX6_grow_5 rfl ?_
    refine ev_aald dX6_grow_6 hwl (by decide) (by decide) (ix_n (by omega)) (kWl_i hn7) ?_
    refine ev_get dX6_grow_7 flX6_93_10 hwk rfl ?_
    rw [ez]
    refine ev_iload_n dX6_grow_10 rfl ?_
    refine ev_iload_n dX6_grow_11 rfl ?_
    refine k_v (c_kHopeOf hV hS hn7 hM hH h3 hl3 hX u z p) (by decide) dX6_grow_12 cbX6_hopeOf (mt4 99 rfl rfl) (mt4 101 rfl rfl) (ms0 36 rfl rfl) (ci := 6) rfl hobj rfl rfl (Nat.le_of_ble_eq_true rfl) (fun v μ1 hq => ?_)
    obtain ⟨rfl, hμ⟩ := hq
    have hμ := hμ.symm
    subst hμ
    simp only [Option.toList, List.cons_append, List.nil_append]
    generalize hpK (Fc ρ) (Se ρ) (HTs (Fc ρ) (Se ρ) (cdt t cd) (nI so')) (nI so') (usd u d 0) z p = hp at hs ⊢
    refine ev_istore dX6_grow_15 (by decide) ?_
    dsimp only [List.set]
    refine ev_iload dX6_grow_17 rfl ?_
    refine ev_aload_n dX6_grow_19 rfl ?_
    refine ev_get dX6_grow_20 flX6_15_6 hobj rfl ?_
    refine ev_icmp_gt (tgt := 27) dX6_grow_23 (by decide) (fun _ => ?_) (fun h23 => absurd (hs) h23)
    refine ev_iload_n dX6_grow_27 rfl ?_
    refine ev_aload_n dX6_grow_28 rfl ?_
    refine ev_get dX6_grow_29 flX6_41_6 hobj rfl ?_
    refine ev_icmp_lt (tgt := 59) dX6_grow_32 (by decide) (fun h32 => absurd h32 ((show ¬ nI d < nI d from Int32.lt_irrefl))) (fun _ => ?_)
    refine ev_aload_n dX6_grow_35 rfl ?_
    refine ev_iload dX6_grow_36 rfl ?_
    refine evK_put hM hF (o := o) (ci := 6) (k := 1) ho.k (by decide) dX6_grow_38 fpX6_15_6 rfl rfl (fun μ hM hF => ?_)
    have hobj := hM.srch ho (show kT (ksI σ o 1 hp) o = (a + 1, a + 3) from hX.2.2.2.2.1)
    rw [show kI (ksI σ o 1 hp) o 10 = nI d from (ksI_ne2 (by decide)).trans e10] at hobj
    refine ev_aload_n dX6_grow_41 rfl ?_
    refine ev_get dX6_grow_42 flX6_29_6 hobj rfl ?_
    refine ev_iconst (v := 0) dX6_grow_45 (by decide) ?_
    refine ev_aload_n dX6_grow_46 rfl ?_
    refine ev_get dX6_grow_47 flX6_9_6 hobj rfl ?_
    refine ev_iconst (v := 0) dX6_grow_50 (by decide) ?_
    refine ev_aload_n dX6_grow_51 rfl ?_
    refine ev_get dX6_grow_52 flX6_41_6 hobj rfl ?_
    refine ev_copyi dX6_grow_55 (mt4 109 rfl rfl) (hM.r (o + 3) (ho.r (by omega))) (hM.r (o + 1) (ho.r (by omega))) (s' := 0) (d' := 0) (n' := d) ixl0 ixl0 (ix_n (by omega)) (show 0 + d ≤ (σ.1 (o + 3)).length by omega) (show 0 + d ≤ (σ.1 (o + 1)).length by omega) (Nat.le_of_ble_eq_true rfl) ?_
    refine ev_vret dX6_grow_58 rfl ?_
    refine ⟨rfl, ⟨_, hM.setR (k := o + 1) (ho.r (by omega)) _, ⟨fun p k h1 h2 => ?_, fun k h1 h2 => ?_, rfl, ?_, ?_, fun i hi => ?_⟩, ksI_eq, fun i x hx => ?_⟩, hF.upd (by have := ho; unfold SO at this; omega)⟩
    · show kI (ksI σ o 1 hp) p k = _
      by_cases e : p = o
      · rw [e, ksI_ne2 (h1.resolve_left (fun z => z e))]
      · exact ksI_ne e
    · show (if k = o + 1 then _ else σ.1 k) = _; rw [if_neg h1]
    · show (if o + 1 = o + 1 then cpyL (σ.1 (o + 3)) (σ.1 (o + 1)) 0 0 d else _).length = _; rw [if_pos rfl, cpyL_len]
    · show (if o + 3 = o + 1 then _ else σ.1 (o + 3)).length = _; rw [if_neg (by omega)]
    · show (if o + 3 = o + 1 then _ else σ.1 (o + 3))[i]? = _; rw [if_neg (by omega)]
    · show (if o + 1 = o + 1 then cpyL (σ.1 (o + 3)) (σ.1 (o + 1)) 0 0 d else _)[i]? = _
      have hi : i < d := by
        have q : i < P.length := (List.getElem?_eq_some_iff.mp hx).1
        omega
      have q := g10 i x hx
      rw [if_pos rfl, gd (by rw [cpyL_len]; omega), cpyL_D (by omega), if_pos ⟨Nat.zero_le _, by omega⟩]
      rw [gd (by omega)] at q
      rw [Nat.zero_add, Nat.sub_zero]; exact q
  · rw [gr_no hV hS hn7 g4 (by omega) g6 g7 g8 g9 hs]
    refine ev_aload_n dX6_grow_0 rfl ?_
    refine ev_aload_n dX6_grow_1 rfl ?_
    refine ev_get dX6_grow_2 flX6_25_6 hobj rfl ?_
    refine ev_iload_n dX6_grow_5 rfl ?_
    refine ev_aald dX6_grow_6 hwl (by decide) (by decide) (ix_n (by omega)) (kWl_i hn7) ?_
    refine ev_get dX6_grow_7 flX6_93_10 hwk rfl ?_
    rw [ez]
    refine ev_iload_n dX6_grow_10 rfl ?_
    refine ev_iload_n dX6_grow_11 rfl ?_
    refine k_v (c_kHopeOf hV hS hn7 hM hH h3 hl3 hX u z p) (by decide) dX6_grow_12 cbX6_hopeOf (mt4 99 rfl rfl) (mt4 101 rfl rfl) (ms0 36 rfl rfl) (ci := 6) rfl hobj rfl rfl (Nat.le_of_ble_eq_true rfl) (fun v μ1 hq => ?_)
    obtain ⟨rfl, hμ⟩ := hq
    have hμ := hμ.symm
    subst hμ
    simp only [Option.toList, List.cons_append, List.nil_append]
    refine ev_istore dX6_grow_15 (by decide) ?_
    dsimp only [List.set]
    refine ev_iload dX6_grow_17 rfl ?_
    refine ev_aload_n dX6_grow_19 rfl ?_
    refine ev_get dX6_grow_20 flX6_15_6 hobj rfl ?_
    refine ev_icmp_gt (tgt := 27) dX6_grow_23 (by decide) (fun h23 => absurd h23 (hs)) (fun _ => ?_)
    refine ev_vret dX6_grow_26 rfl ?_
    exact ⟨rfl, ⟨σ, hM, EqD.rf, g12, g13⟩, hF⟩
end KGROW
