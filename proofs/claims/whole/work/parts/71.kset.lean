/-! ===== the class: set, feed ===== -/
/-- how long the rows that count are -/
def CLn (ρ : MS) : Prop := ∀ q ∈ mLen, q.1 ∈ coreA → (ρ.1 q.1).length = q.2
theorem MW.cl {b : Nat} {ρ : MS} {μ : Mm} (h : MW b ρ μ) : CLn ρ := by
  obtain ⟨ρ0, -, hL, hE⟩ := h
  intro q hq hc
  rw [← hE.1 q.1 hc]
  exact hL q hq
def mfs : List Int32 := [9, 99, 1, 3]
abbrev isF (w v : Int32) : Prop := (0 ≤ w ∧ w < 4) ∧ 0 ≤ v ∧ v ≤ mfs.getD w.toInt.toNat 0
theorem w4_n {w : Int32} (h : 0 ≤ w ∧ w < 4) : w.toInt.toNat < 4 ∧ w = nI w.toInt.toNat := sheet_n h.1 h.2
theorem opSet_eq {ρ : MS} {n : Nat} {h v : Int32} {w' : Nat} (hw : w' < 4) (hh : 0 ≤ h ∧ h < nI n) (hv : 0 ≤ v ∧ v ≤ mfs.getD w' 0) : opSet ρ n h (nI w') v = ((ρ.1 (w' + 1)).getD h.toInt.toNat 0, setA ρ (w' + 1) ((ρ.1 (w' + 1)).set h.toInt.toNat v)) := by
  have e : w' = 0 ∨ w' = 1 ∨ w' = 2 ∨ w' = 3 := by omega
  unfold opSet
  rcases e with rfl | rfl | rfl | rfl
  · rw [if_pos ⟨⟨hh, by decide⟩, hv⟩]; rfl
  · rw [if_pos ⟨⟨hh, by decide⟩, hv⟩]; rfl
  · rw [if_pos ⟨⟨hh, by decide⟩, hv⟩]; rfl
  · rw [if_pos ⟨⟨hh, by decide⟩, hv⟩]; rfl
theorem opSet_no {ρ : MS} {n : Nat} {h w v : Int32} (hn : ¬ ((0 ≤ h ∧ h < nI n) ∧ isF w v)) : opSet ρ n h w v = (-2, ρ) := by
  unfold opSet
  rw [if_neg]
  rintro ⟨⟨h1, h2, h3⟩, h4, h5⟩
  have hw : 0 ≤ w ∧ w < 4 := ⟨h2, by rw [Int32.le_iff_toInt_le] at h3; rw [Int32.lt_iff_toInt_lt]; simp only [Int32.reduceToInt] at h3 ⊢; omega⟩
  refine hn ⟨h1, hw, h4, ?_⟩
  obtain ⟨q1, q2⟩ := w4_n hw
  generalize w.toInt.toNat = w' at q1 q2 ⊢
  subst q2
  have e : w' = 0 ∨ w' = 1 ∨ w' = 2 ∨ w' = 3 := by omega
  rcases e with rfl | rfl | rfl | rfl <;> exact h5
/-- a house's facts, once one was set -/
def sfc (F : Nat → Nat → Int32) (h w' : Nat) (v : Int32) : Nat → Int32 := fun k => if k = 0 then nI h else if k = w' + 1 then v else F k h
theorem sfc_dch {F : Nat → Nat → Int32} {h w' : Nat} {v : Int32} (hw : w' < 4) : dfs (nI h) (sfc F h w' v 1) (sfc F h w' v 2) (sfc F h w' v 3) (sfc F h w' v 4) = dfq (nI h) (dch (nI w') v (F 1 h) (F 2 h) (F 3 h) (F 4 h)) := by
  have e : w' = 0 ∨ w' = 1 ∨ w' = 2 ∨ w' = 3 := by omega
  rcases e with rfl | rfl | rfl | rfl <;> rfl
theorem Fc_set {ρ : MS} {w' h : Nat} {v : Int32} (hw : w' < 4) (hl : h < (ρ.1 (w' + 1)).length) (k x : Nat) : Fc (setA ρ (w' + 1) ((ρ.1 (w' + 1)).set h v)) k x = if k = w' + 1 ∧ x = h then v else Fc ρ k x := by
  show (if k < 5 then (if k = w' + 1 then (ρ.1 (w' + 1)).set h v else ρ.1 k).getD x 0 else 0) = _
  by_cases hk : k < 5
  · rw [if_pos hk]
    by_cases e : k = w' + 1
    · rw [if_pos e]
      subst e
      rw [getD_set hl]
      by_cases ex : x = h
      · rw [if_pos ex, if_pos ⟨rfl, ex⟩]
      · rw [if_neg ex, if_neg (fun q => ex q.2)]
        show _ = (if w' + 1 < 5 then (ρ.1 (w' + 1)).getD x 0 else 0)
        rw [if_pos hk]
    · rw [if_neg e, if_neg (fun q => e q.1)]
      show _ = (if k < 5 then (ρ.1 k).getD x 0 else 0)
      rw [if_pos hk]
  · rw [if_neg hk, if_neg (fun q => hk (by omega))]
    show _ = (if k < 5 then (ρ.1 k).getD x 0 else 0)
    rw [if_neg hk]
section KSET
variable {g : Gl} {a m tx n t : Nat} {ρ : MS} {cd : Nat → List Int32} {Lf : Nat → Nat} {σ : KS} {μ : Mm}
theorem c_isFact (w v : Int32) : Pu g 0 mX11_isFact [.int w, .int v] μ (b2i (isF w v)) := by
  refine Mt.of0 (ls0 := [some (.int w), some (.int v)]) (by decide) (by simp [Value.category]) (Nat.le_of_ble_eq_true rfl) rfl ?_
  have ixw : ¬ w < 0 → ¬ 4 ≤ w → ix w w.toInt.toNat ∧ w.toInt.toNat < 4 := fun q1 q2 => ⟨ix_r (Int32.not_lt.mp q1), (w4_n ⟨Int32.not_lt.mp q1, Int32.not_le.mp q2⟩).1⟩
  refine ev_iload_n dX11_isFact_0 rfl ?_
  refine ev_if_lt (tgt := 26) dX11_isFact_1 (by decide) (fun h1 => ?_) (fun h1 => ?_)
  · refine ev_iconst (v := 0) dX11_isFact_26 (by decide) ?_
    refine ev_zret dX11_isFact_27 rfl (by decide) ?_
    refine ⟨?_, rfl⟩
    first
      | (rw [b2i_t ⟨⟨Int32.not_lt.mp h1, Int32.not_le.mp h6⟩, Int32.not_lt.mp h10, Int32.not_lt.mp h19⟩]; done)
      | (rw [b2i_f (fun q => by first | exact Int32.not_lt.mpr q.1.1 h1 | exact Int32.not_le.mpr q.1.2 h6 | exact Int32.not_lt.mpr q.2.1 h10 | exact Int32.not_lt.mpr q.2.2 h19)]; done)
  · refine ev_iload_n dX11_isFact_4 rfl ?_
    refine ev_iconst (v := 4) dX11_isFact_5 (by decide) ?_
    refine ev_icmp_ge (tgt := 26) dX11_isFact_6 (by decide) (fun h6 => ?_) (fun h6 => ?_)
    · refine ev_iconst (v := 0) dX11_isFact_26 (by decide) ?_
      refine ev_zret dX11_isFact_27 rfl (by decide) ?_
      refine ⟨?_, rfl⟩
      first
        | (rw [b2i_t ⟨⟨Int32.not_lt.mp h1, Int32.not_le.mp h6⟩, Int32.not_lt.mp h10, Int32.not_lt.mp h19⟩]; done)
        | (rw [b2i_f (fun q => by first | exact Int32.not_lt.mpr q.1.1 h1 | exact Int32.not_le.mpr q.1.2 h6 | exact Int32.not_lt.mpr q.2.1 h10 | exact Int32.not_lt.mpr q.2.2 h19)]; done)
    · refine ev_iload_n dX11_isFact_9 rfl ?_
      refine ev_if_lt (tgt := 26) dX11_isFact_10 (by decide) (fun h10 => ?_) (fun h10 => ?_)
      · refine ev_iconst (v := 0) dX11_isFact_26 (by decide) ?_
        refine ev_zret dX11_isFact_27 rfl (by decide) ?_
        refine ⟨?_, rfl⟩
        first
          | (rw [b2i_t ⟨⟨Int32.not_lt.mp h1, Int32.not_le.mp h6⟩, Int32.not_lt.mp h10, Int32.not_lt.mp h19⟩]; done)
          | (rw [b2i_f (fun q => by first | exact Int32.not_lt.mpr q.1.1 h1 | exact Int32.not_le.mpr q.1.2 h6 | exact Int32.not_lt.mpr q.2.1 h10 | exact Int32.not_lt.mpr q.2.2 h19)]; done)
      · refine ev_iload_n dX11_isFact_13 rfl ?_
        refine ev_gets (k := 3) dX11_isFact_14 rfl (mt2 178 rfl rfl) ?_
        refine ev_iload_n dX11_isFact_17 rfl ?_
        refine ev_stald dX11_isFact_18 rfl (ixw h1 h6).1 (show (saT.getD 3 ("", "", [])).2.2[w.toInt.toNat]? = some (mfs.getD w.toInt.toNat 0) from gd (ixw h1 h6).2) ?_
        refine ev_icmp_gt (tgt := 26) dX11_isFact_19 (by decide) (fun h19 => ?_) (fun h19 => ?_)
        · refine ev_iconst (v := 0) dX11_isFact_26 (by decide) ?_
          refine ev_zret dX11_isFact_27 rfl (by decide) ?_
          refine ⟨?_, rfl⟩
          first
            | (rw [b2i_t ⟨⟨Int32.not_lt.mp h1, Int32.not_le.mp h6⟩, Int32.not_lt.mp h10, Int32.not_lt.mp h19⟩]; done)
            | (rw [b2i_f (fun q => by first | exact Int32.not_lt.mpr q.1.1 h1 | exact Int32.not_le.mpr q.1.2 h6 | exact Int32.not_lt.mpr q.2.1 h10 | exact Int32.not_lt.mpr q.2.2 h19)]; done)
        · refine ev_iconst (v := 1) dX11_isFact_22 (by decide) ?_
          refine ev_goto (tgt := 27) dX11_isFact_23 (by decide) ?_
          refine ev_zret dX11_isFact_27 rfl (by decide) ?_
          refine ⟨?_, rfl⟩
          first
            | (rw [b2i_t ⟨⟨Int32.not_lt.mp h1, Int32.not_le.mp h6⟩, Int32.not_lt.mp h10, Int32.not_lt.mp h19⟩]; done)
            | (rw [b2i_f (fun q => by first | exact Int32.not_lt.mpr q.1.1 h1 | exact Int32.not_le.mpr q.1.2 h6 | exact Int32.not_lt.mpr q.2.1 h10 | exact Int32.not_lt.mpr q.2.2 h19)]; done)
theorem KTie.fact (h : KTie ρ n t tx cd Lf m σ) {i w' : Nat} {v : Int32} (hi : i < n) (hw : w' < 4) (hl : i < (ρ.1 (w' + 1)).length) : KT8 (setA ρ (w' + 1) ((ρ.1 (w' + 1)).set i v)) n t tx cd Lf m (ksO σ (100 + i) (sfc (Fc ρ) i w' v)) := by
  obtain ⟨h1, h2, h3, h4, h5, h6, h7, h8⟩ := h.t8
  have er : ∀ k, 5 ≤ k → (setA ρ (w' + 1) ((ρ.1 (w' + 1)).set i v)).1 k = ρ.1 k := fun k hk => by show (if k = w' + 1 then _ else ρ.1 k) = _; rw [if_neg (by omega)]
  refine ⟨h1, (er 6 (by decide)).symm ▸ h2, ⟨h3.1, (ksO_ne (by omega)).trans h3.2.1, fun x hx => ?_⟩, h4, ⟨(ksO_ne (by omega)).trans h5.1, fun j c hj hc => h5.2 j c hj (by rw [er 10 (by decide)] at hc; exact hc)⟩, ⟨(ksO_ne (by omega)).trans h6.1, (ksO_ne (by omega)).trans h6.2.1, fun r hr => ?_⟩, fun s hs => ?_, ?_⟩
  · obtain ⟨x1, x2, x3⟩ := h3.2.2 x hx
    refine ⟨?_, ?_, fun k hk => ?_⟩
    · rw [Fc_set hw hl, if_neg (fun q => by omega)]; exact x1
    · by_cases e : x = i
      · subst e; rw [ksO_eq]; rfl
      · rw [ksO_ne (by omega)]; exact x2
    · rw [Fc_set hw hl]
      by_cases e : x = i
      · subst e
        rw [ksO_eq]
        show (if k + 1 = 0 then _ else if k + 1 = w' + 1 then v else Fc ρ (k + 1) x) = _
        rw [if_neg (by omega)]
        by_cases e2 : k + 1 = w' + 1
        · rw [if_pos e2, if_pos ⟨e2, rfl⟩]
        · rw [if_neg e2, if_neg (fun q => e2 q.1)]
      · rw [ksO_ne (by omega), if_neg (fun q => e q.2)]; exact x3 k hk
  · obtain ⟨x1, x2, x3, x4, x5⟩ := h6.2.2 r hr
    have hr6 : 200 + r ≠ 100 + i ∨ 100 ≤ i := by omega
    have hi7 : i < 100 := by
      rcases Nat.lt_or_ge i 100 with q | q
      · exact q
      · exfalso
        have := h.hc
        have hnm := h.nm
        have := (h.1 (2, 7) (by decide))
        have h4i := h4 i hi
        have := (List.getElem?_eq_some_iff.mp h4i).1
        simp only at *
        omega
    exact ⟨x1, (ksO_ne (by omega)).trans x2, (ksO_ne (by omega)).trans x3, x4, x5⟩
  · obtain ⟨x1, x2, x3⟩ := h7 s hs
    refine ⟨(ksO_ne (by omega)).trans (x1.trans (by rw [er 33 (by decide)])), (ksO_ne (by omega)).trans (x2.trans (by rw [er 34 (by decide)])), fun j hj => ?_⟩
    rw [er 34 (by decide)] at hj
    rw [er 35 (by decide)]
    exact x3 j hj
  · unfold KKp KImg
    rw [er 29 (by decide), ksO_ne (by omega), ksO_ne (by omega)]
    exact h8
theorem IM.fact (hI : IM ρ n t tx cd Lf) {i w' : Nat} {v : Int32} (hw : w' < 4) (hl : i < (ρ.1 (w' + 1)).length) (hv : 0 ≤ v ∧ v ≤ mfs.getD w' 0) : IM (setA ρ (w' + 1) ((ρ.1 (w' + 1)).set i v)) n t tx cd Lf := by
  obtain ⟨h1, h2, h3, h4, h5, h6, h7, h8⟩ := hI
  have er : ∀ k, 5 ≤ k → (setA ρ (w' + 1) ((ρ.1 (w' + 1)).set i v)).1 k = ρ.1 k := fun k hk => by show (if k = w' + 1 then _ else ρ.1 k) = _; rw [if_neg (by omega)]
  have hvi := hv
  rw [Int32.le_iff_toInt_le, Int32.toInt_zero, Int32.le_iff_toInt_le] at hvi
  refine ⟨fun k hk => ?_, ?_, h3, h4, h5, fun r hr => ⟨?_, (h6 r hr).2⟩, fun j hj => by rw [er 5 (by decide)]; exact h7 j hj, h8⟩
  · obtain ⟨v0, v1, v2, v3, v4⟩ := h1 k hk
    rw [Fc_set hw hl, Fc_set hw hl, Fc_set hw hl, Fc_set hw hl, Fc_set hw hl]
    have e : w' = 0 ∨ w' = 1 ∨ w' = 2 ∨ w' = 3 := by omega
    refine ⟨by rw [if_neg (fun q => by omega)]; exact v0, ?_, ?_, ?_, ?_⟩
    all_goals
      split
      · rename_i q
        rcases e with rfl | rfl | rfl | rfl
        all_goals first
          | (exfalso; omega)
          | exact ⟨hvi.1, hvi.2⟩
      · first | exact v1 | exact v2 | exact v3 | exact v4
  · have : Se (setA ρ (w' + 1) ((ρ.1 (w' + 1)).set i v)) = Se ρ := by funext j; show ((setA ρ _ _).1 6).getD j 0 = _; rw [er 6 (by decide)]
    rw [this]; exact h2
  · have := (h6 r hr).1
    unfold RC at this ⊢
    rw [er 11 (by decide), er 12 (by decide)]; exact this
theorem c_kSet (hG : GI ρ) (hC : CLn ρ) (hI : IM ρ n t tx cd Lf) (hM : KM a m tx σ μ) (hT : KTie ρ n t tx cd Lf m σ) (h w v : Int32) : Mt g 2 mX11_set [.ref a, .int h, .int w, .int v] μ (fun r μ' => r = some (.int (opSet ρ n h w v).1) ∧ (IM (gho (opSet ρ n h w v).2) n t tx cd Lf ∧ KV a (gho (opSet ρ n h w v).2) n t tx cd Lf m μ') ∧ FC a μ μ') := by
  refine Mt.of0 (ls0 := [some (.ref a), some (.int h), some (.int w), some (.int v), none, none]) (by decide) (by simp [Value.category]) (Nat.le_of_ble_eq_true rfl) rfl ?_
  have hF : FC a μ μ := FC.rf
  have hn7 := hI.2.2.1.2
  by_cases hh : 0 ≤ h ∧ h < nI n
  · obtain ⟨hl, eh⟩ := house_n hn7 hh.1 hh.2
    by_cases hf : isF w v
    · obtain ⟨hw, ew⟩ := w4_n hf.1
      have hfv := hf.2
      generalize w.toInt.toNat = w' at hw ew hfv
      subst ew
      rw [opSet_eq hw hh hfv]
      generalize h.toInt.toNat = h' at hl eh ⊢
      subst eh
      obtain ⟨hd, hkc⟩ := hT.door hM hl
      have hlen : h' < (ρ.1 (w' + 1)).length := by
        have e : w' = 0 ∨ w' = 1 ∨ w' = 2 ∨ w' = 3 := by omega
        have : (ρ.1 (w' + 1)).length = 7 := by rcases e with rfl | rfl | rfl | rfl <;> exact hC (_, 7) (by decide) (by decide)
        omega
      have e4 : (if nI w' = 0 then Fc ρ 1 h' else if nI w' = 1 then Fc ρ 2 h' else if nI w' = 2 then Fc ρ 3 h' else Fc ρ 4 h') = (ρ.1 (w' + 1)).getD h' 0 := by
        have e : w' = 0 ∨ w' = 1 ∨ w' = 2 ∨ w' = 3 := by omega
        rcases e with rfl | rfl | rfl | rfl <;> rfl
      refine ev_aload_n dX11_set_0 rfl ?_
      refine ev_iload_n dX11_set_1 rfl ?_
      refine k_v (c_doorOf hM hT.hc hT.nm hl) (by decide) dX11_set_2 cbX11_doorOf (mt3 61 rfl rfl) (mt3 63 rfl rfl) (ms0 17 rfl rfl) (ci := 11) rfl (hM.o 0 11 (by decide)) rfl rfl (Nat.le_of_ble_eq_true rfl) (fun v μ1 hq => ?_)
      obtain ⟨rfl, hμ⟩ := hq; have hμ := hμ.symm; subst hμ
      simp only [Option.toList, List.cons_append, List.nil_append]
      refine ev_astore dX11_set_5 (by decide) ?_
      dsimp only [List.set]
      refine ev_aload dX11_set_7 rfl ?_
      refine ev_ifnull dX11_set_9 ?_
      refine ev_iload_n dX11_set_12 rfl ?_
      refine ev_iload_n dX11_set_13 rfl ?_
      refine k_s (c_isFact _ _) (by decide) dX11_set_14 cbX11_isFact (mt2 175 rfl rfl) (mt2 176 rfl rfl) rfl rfl (Nat.le_of_ble_eq_true rfl) (fun v μ1 hq => ?_)
      obtain ⟨rfl, hμ⟩ := hq
      have hμ := hμ.symm
      subst hμ
      simp only [Option.toList, List.cons_append, List.nil_append]
      rw [b2i_t hf]
      refine ev_if_ne (tgt := 23) dX11_set_17 (by decide) (fun _ => ?_) (fun h17 => absurd h17 ((show ¬ (1 : Int32) = 0 by decide)))
      refine ev_aload dX11_set_23 rfl ?_
      refine ev_iload_n dX11_set_25 rfl ?_
      refine u_fact dX11_set_26 (mt3 69 rfl rfl) hkc.1 hd (Nat.le_of_ble_eq_true rfl) ?_
      rw [e4]
      refine ev_istore dX11_set_29 (by decide) ?_
      dsimp only [List.set]
      refine ev_aload dX11_set_31 rfl ?_
      refine ev_iload_n dX11_set_33 rfl ?_
      refine ev_iload_n dX11_set_34 rfl ?_
      refine u_change dX11_set_35 (mt3 43 rfl rfl) hkc.1 hd (Nat.le_of_ble_eq_true rfl) ?_
      have hM2 := hM.setD (j := h') (Nat.lt_of_lt_of_le hl hT.nm) (sfc (Fc ρ) h' w' v)
      have ed : dF (ksO σ (100 + h') (sfc (Fc ρ) h' w' v)) h' = dfq (nI h') (dch (nI w') v (Fc ρ 1 h') (Fc ρ 2 h') (Fc ρ 3 h') (Fc ρ 4 h')) := by
        rw [← sfc_dch hw]
        unfold dF
        rw [ksO_eq]
        rfl
      rw [ed] at hM2
      have hF2 := hF.upd (c := (kD σ h').1) (e := obj (kD σ h').2 (dfq (nI h') (dch (nI w') v (Fc ρ 1 h') (Fc ρ 2 h') (Fc ρ 3 h') (Fc ρ 4 h')))) (by have := hM.da (Nat.lt_of_lt_of_le hl hT.nm); omega)
      generalize mupd μ (kD σ h').1 (obj (kD σ h').2 (dfq (nI h') (dch (nI w') v (Fc ρ 1 h') (Fc ρ 2 h') (Fc ρ 3 h') (Fc ρ 4 h')))) = μ2 at hM2 hF2 ⊢
      clear hM hF hd
      have hM := hM2
      refine ev_aload_n dX11_set_38 rfl ?_
      refine k_v (c_kForget hM2) (by decide) dX11_set_39 cbX11_forgetBest (mt3 53 rfl rfl) (mt3 55 rfl rfl) (ms0 16 rfl rfl) (ci := 11) rfl (hM.o 0 11 (by decide)) rfl rfl (Nat.le_of_ble_eq_true rfl) (fun v μ1 hq => ?_)
      obtain ⟨rfl, hM3, hF3⟩ := hq; have hF := hF2.tr hF3
      simp only [Option.toList, List.cons_append, List.nil_append]
      refine ev_iload dX11_set_42 rfl ?_
      refine ev_iret dX11_set_44 rfl ?_
      exact ⟨rfl, ⟨(hI.fact hw hlen hfv).eqc gho_eqc, (hT.fact hl hw hlen).kv (fun so hso => (ksO_ne (by omega)).trans (hT.s0 so hso)) hM3⟩, hF⟩
    · rw [opSet_no (fun q => hf q.2), hG.eq]
      generalize h.toInt.toNat = h' at hl eh
      subst eh
      refine ev_aload_n dX11_set_0 rfl ?_
      refine ev_iload_n dX11_set_1 rfl ?_
      refine k_v (c_doorOf hM hT.hc hT.nm hl) (by decide) dX11_set_2 cbX11_doorOf (mt3 61 rfl rfl) (mt3 63 rfl rfl) (ms0 17 rfl rfl) (ci := 11) rfl (hM.o 0 11 (by decide)) rfl rfl (Nat.le_of_ble_eq_true rfl) (fun v μ1 hq => ?_)
      obtain ⟨rfl, hμ⟩ := hq; have hμ := hμ.symm; subst hμ
      simp only [Option.toList, List.cons_append, List.nil_append]
      refine ev_astore dX11_set_5 (by decide) ?_
      dsimp only [List.set]
      refine ev_aload dX11_set_7 rfl ?_
      refine ev_ifnull dX11_set_9 ?_
      refine ev_iload_n dX11_set_12 rfl ?_
      refine ev_iload_n dX11_set_13 rfl ?_
      refine k_s (c_isFact _ _) (by decide) dX11_set_14 cbX11_isFact (mt2 175 rfl rfl) (mt2 176 rfl rfl) rfl rfl (Nat.le_of_ble_eq_true rfl) (fun v μ1 hq => ?_)
      obtain ⟨rfl, hμ⟩ := hq
      have hμ := hμ.symm
      subst hμ
      simp only [Option.toList, List.cons_append, List.nil_append]
      rw [b2i_f hf]
      refine ev_if_ne (tgt := 23) dX11_set_17 (by decide) (fun h17 => absurd (rfl) h17) (fun _ => ?_)
      refine ev_bipush (v := (-2)) dX11_set_20 (by decide) ?_
      refine ev_iret dX11_set_22 rfl ?_
      exact ⟨rfl, ⟨hI, ⟨σ, hM, hT⟩⟩, hF⟩
  · rw [opSet_no (fun q => hh q.1), hG.eq]
    refine ev_aload_n dX11_set_0 rfl ?_
    refine ev_iload_n dX11_set_1 rfl ?_
    refine k_v (c_doorNo hM hT.hc hh) (by decide) dX11_set_2 cbX11_doorOf (mt3 61 rfl rfl) (mt3 63 rfl rfl) (ms0 17 rfl rfl) (ci := 11) rfl (hM.o 0 11 (by decide)) rfl rfl (Nat.le_of_ble_eq_true rfl) (fun v μ1 hq => ?_)
    obtain ⟨rfl, hμ⟩ := hq; have hμ := hμ.symm; subst hμ
    simp only [Option.toList, List.cons_append, List.nil_append]
    refine ev_astoreN dX11_set_5 (by decide) ?_
    dsimp only [List.set]
    refine ev_aloadN dX11_set_7 rfl ?_
    refine ev_ifnullN (tgt := 20) dX11_set_9 (by decide) ?_
    refine ev_bipush (v := (-2)) dX11_set_20 (by decide) ?_
    refine ev_iret dX11_set_22 rfl ?_
    exact ⟨rfl, ⟨hI, ⟨σ, hM, hT⟩⟩, hF⟩
/-- the tape's size -/
def TB (ρ : MS) : Prop := 0 ≤ (ρ.2 15).toInt ∧ (ρ.2 15).toInt ≤ 160
theorem TB.z (h : TB ρ) : ∃ z, z ≤ 160 ∧ ρ.2 15 = nI z ∧ (ρ.2 15).toInt.toNat = z := by
  obtain ⟨b0, b1⟩ := h
  refine ⟨(ρ.2 15).toInt.toNat, by omega, ?_, rfl⟩
  apply Int32.toInt_inj.mp
  rw [nI_i (by omega)]; omega
theorem c_kAppend (hM : KM a m tx σ μ) (hl5 : (σ.1 5).length = 160) {z : Nat} (hz : kI σ 4 0 = nI z) (hz2 : z < 160) (x : Int32) : Mt g 0 mX4_append [.ref (a + 4), .int x] μ (fun v μ' => v = none ∧ KM a m tx (ksI (ksR σ 5 ((σ.1 5).set z x)) 4 0 (nI (z + 1))) μ' ∧ FC a μ μ') := by
  refine Mt.of0 (ls0 := [some (.ref (a + 4)), some (.int x)]) (by decide) (by simp [Value.category]) (Nat.le_of_ble_eq_true rfl) rfl ?_
  have hF : FC a μ μ := FC.rf
  refine ev_aload_n dX4_append_0 rfl ?_
  refine ev_get dX4_append_1 flX4_9_4 (hM.o 4 4 (by decide)) rfl ?_
  rw [hz]
  refine ev_sipush (v := 160) dX4_append_4 (by decide) ?_
  refine ev_icmp_ge (tgt := 30) dX4_append_7 (by decide) (fun h7 => absurd h7 ((show ¬ nI 160 ≤ nI z from nI_ge hz2 (by decide)))) (fun _ => ?_)
  refine ev_aload_n dX4_append_10 rfl ?_
  refine ev_get dX4_append_11 flX4_18_4 (hM.o 4 4 (by decide)) rfl ?_
  refine ev_aload_n dX4_append_14 rfl ?_
  refine ev_get dX4_append_15 flX4_9_4 (hM.o 4 4 (by decide)) rfl ?_
  rw [hz]
  refine ev_iload_n dX4_append_18 rfl ?_
  refine evK_iast hM hF (k := 5) (by decide) dX4_append_19 (ix_n (by omega)) (show z < (σ.1 5).length by omega) (fun μ hM hF => ?_)
  refine ev_aload_n dX4_append_20 rfl ?_
  refine ev_dup dX4_append_21 rfl ?_
  refine ev_get dX4_append_22 flX4_9_4 (hM.o 4 4 (by decide)) rfl ?_
  rw [show kI (ksR σ 5 ((σ.1 5).set z x)) 4 0 = nI z from hz]
  refine ev_iconst (v := 1) dX4_append_25 (by decide) ?_
  refine ev_iadd dX4_append_26 ?_
  rw [nI_1]
  refine evK_put hM hF (o := 4) (ci := 4) (k := 0) (by decide) (by decide) dX4_append_27 fpX4_9_4 rfl rfl (fun μ hM hF => ?_)
  refine ev_vret dX4_append_30 rfl ?_
  exact ⟨rfl, hM, hF⟩
theorem Fc_s10 {ρ : MS} {l : List Int32} {w : Int32} : Fc (setI (setA ρ 10 l) 15 w) = Fc ρ := by
  funext k x
  show (if k < 5 then (if k = 10 then l else ρ.1 k).getD x 0 else 0) = (if k < 5 then (ρ.1 k).getD x 0 else 0)
  split
  · rw [if_neg (by omega)]
  · rfl
theorem c_kFeed (hC : CLn ρ) (hB : TB ρ) (hI : IM ρ n t tx cd Lf) (hM : KM a m tx σ μ) (hT : KTie ρ n t tx cd Lf m σ) (x : Int32) : Mt g 1 mX11_feed [.ref a, .int x] μ (fun v μ' => v = some (.int (opFeed ρ x).1) ∧ (IM (opFeed ρ x).2 n t tx cd Lf ∧ TB (opFeed ρ x).2 ∧ KV a (opFeed ρ x).2 n t tx cd Lf m μ') ∧ FC a μ μ') := by
  refine Mt.of0 (ls0 := [some (.ref a), some (.int x)]) (by decide) (by simp [Value.category]) (Nat.le_of_ble_eq_true rfl) rfl ?_
  have hF : FC a μ μ := FC.rf
  obtain ⟨z, hz1, hz2, hz3⟩ := hB.z
  have hl5 : (σ.1 5).length = 160 := hT.ln (k := 5) (by decide)
  have hl10 : (ρ.1 10).length = 160 := hC (10, 160) (by decide) (by decide)
  have hsz : kI σ 4 0 = nI z := hT.t8.2.2.2.2.1.1.trans hz2
  rw [opFeed, hz3, hz2]
  refine ev_iload_n dX11_feed_0 rfl ?_
  refine ev_if_lt (tgt := 11) dX11_feed_1 (by decide) (fun h1 => ?_) (fun h1 => ?_)
  · refine ev_bipush (v := (-2)) dX11_feed_11 (by decide) ?_
    refine ev_iret dX11_feed_13 rfl ?_
    rw [if_neg (fun q => by first | exact Int32.not_lt.mpr q.1 h1 | exact h8 q.2)]
    exact ⟨rfl, ⟨hI, hB, ⟨σ, hM, hT⟩⟩, hF⟩
  · refine ev_iload_n dX11_feed_4 rfl ?_
    refine ev_sipush (v := 255) dX11_feed_5 (by decide) ?_
    refine ev_icmp_le (tgt := 14) dX11_feed_8 (by decide) (fun h8 => ?_) (fun h8 => ?_)
    · rw [if_pos ⟨Int32.not_lt.mp h1, h8⟩]
      refine ev_aload_n dX11_feed_14 rfl ?_
      refine ev_get dX11_feed_15 flX11_37_11 (hM.o 0 11 (by decide)) rfl ?_
      refine ev_get dX11_feed_18 flX11_176_4 (hM.o 4 4 (by decide)) rfl ?_
      rw [hsz]
      refine ev_sipush (v := 160) dX11_feed_21 (by decide) ?_
      refine ev_icmp_lt (tgt := 30) dX11_feed_24 (by decide) (fun h24 => ?_) (fun h24 => ?_)
      · have hzl : z < 160 := by
          have h24' : nI z < nI 160 := h24
          exact (nI_ltI (by omega) (by decide)).mp h24'
        have q : ¬ nI z = 160 := fun q => by
          have := (nI_eq (a := z) (b := 160) (by omega) (by decide)).mp q
          omega
        rw [if_neg q, nI_1]
        refine ev_aload_n dX11_feed_30 rfl ?_
        refine ev_get dX11_feed_31 flX11_37_11 (hM.o 0 11 (by decide)) rfl ?_
        refine ev_iload_n dX11_feed_34 rfl ?_
        refine k_v (c_kAppend hM hl5 hsz hzl x) (by decide) dX11_feed_35 cbX4_append (mt1 223 rfl rfl) (mt1 224 rfl rfl) (mt1 225 rfl rfl) (ci := 4) rfl (hM.o 4 4 (by decide)) rfl rfl (Nat.le_of_ble_eq_true rfl) (fun v μ1 hq => ?_)
        obtain ⟨rfl, hM, hF1⟩ := hq; have hF := hF.tr hF1
        simp only [Option.toList, List.cons_append, List.nil_append]
        refine ev_aload_n dX11_feed_38 rfl ?_
        refine ev_get dX11_feed_39 flX11_37_11 (hM.o 0 11 (by decide)) rfl ?_
        refine ev_get dX11_feed_42 flX11_176_4 (hM.o 4 4 (by decide)) rfl ?_
        rw [show kI (ksI (ksR σ 5 ((σ.1 5).set z x)) 4 0 (nI (z + 1))) 4 0 = nI (z + 1) from rfl]
        refine ev_iret dX11_feed_45 rfl ?_
        refine ⟨rfl, ⟨?_, ?_, ⟨_, hM, ?_⟩⟩, hF⟩
        · obtain ⟨y1, y2, y3, y4, y5, y6, y7, y8⟩ := hI
          exact ⟨y1, y2, y3, y4, y5, y6, y7, y8⟩
        · show 0 ≤ (nI (z + 1)).toInt ∧ (nI (z + 1)).toInt ≤ 160
          rw [nI_i (by omega)]; omega
        · have hB0 := hT.bs
          obtain ⟨x1, x2, x3, x4, x5, x6, x7, x8⟩ := hT.t8
          have e : ∀ k, k ≠ 5 → (ksI (ksR σ 5 ((σ.1 5).set z x)) 4 0 (nI (z + 1))).1 k = σ.1 k := fun k hk => by show (if k = 5 then _ else σ.1 k) = _; rw [if_neg hk]
          have ei : ∀ o k, o ≠ 4 → kI (ksI (ksR σ 5 ((σ.1 5).set z x)) 4 0 (nI (z + 1))) o k = kI σ o k := fun o k ho => ksI_ne ho
          refine KT8.tie ⟨fun q hq => ?_, (e 3 (by decide)).trans x2, ⟨x3.1, (ei 0 1 (by decide)).trans x3.2.1, fun y hy => ?_⟩, fun i hi => by rw [e 2 (by decide)]; exact x4 i hi, ⟨rfl, fun i c hi hc => ?_⟩, ⟨(ei 0 6 (by decide)).trans x6.1, (ei 0 7 (by decide)).trans x6.2.1, fun r hr => ?_⟩, fun s hs => ?_, ?_⟩ ?_
          · by_cases q5 : q.1 = 5
            · have k3 : ∀ q ∈ kLen, q.1 = 5 → q.2 = 160 := by decide
              rw [k3 q hq q5, q5]
              show ((σ.1 5).set z x).length = 160
              rw [List.length_set]; exact hl5
            · rw [e _ q5]; exact x1 q hq
          · obtain ⟨w1, w2, w3⟩ := x3.2.2 y hy
            rw [Fc_s10]; exact ⟨w1, (ei _ _ (by omega)).trans w2, fun k hk => (ei _ _ (by omega)).trans (w3 k hk)⟩
          · have hi2 : i < z + 1 := by
              have : (nI (z + 1)).toInt.toNat = z + 1 := by rw [nI_i (by omega)]; rfl
              rw [← this]; exact hi
            show ((σ.1 5).set z x)[i]? = some c
            have hc : ((ρ.1 10).set z x)[i]? = some c := hc
            rw [List.getElem?_set] at hc ⊢
            by_cases ez : z = i
            · rw [if_pos ez, if_pos (by omega)] at hc ⊢; exact hc
            · rw [if_neg ez] at hc ⊢
              exact x5.2 i c (by rw [hz3]; omega) hc
          · obtain ⟨w1, w2, w3, w4, w5⟩ := x6.2.2 r hr
            exact ⟨(e _ (by omega)).trans w1, (ei _ _ (by omega)).trans w2, (ei _ _ (by omega)).trans w3, by rw [e _ (by omega)]; exact w4, w5⟩
          · obtain ⟨w1, w2, w3⟩ := x7 s hs
            exact ⟨(ei _ _ (by omega)).trans w1, (ei _ _ (by omega)).trans w2, fun i hi => by rw [e _ (by omega)]; exact w3 i hi⟩
          · unfold KKp
            rw [ei 0 14 (by decide), ei 0 15 (by decide), e 46 (by decide), e 47 (by decide), e 48 (by decide)]
            exact x8
          · intro so hso
            rw [ei _ _ (by omega), ei _ _ (by omega), ei _ _ (by omega), e _ (by omega)]
            exact hB0.eq (ρ' := setI (setA ρ 10 ((ρ.1 10).set z x)) 15 (nI (z + 1))) Fc_s10 rfl so hso
      · refine ev_bipush (v := (-4)) dX11_feed_27 (by decide) ?_
        refine ev_iret dX11_feed_29 rfl ?_
        have q : nI z = 160 := by
          have h24' : ¬ nI z < nI 160 := h24
          have : ¬ z < 160 := fun q => h24' (nI_lt q (by decide))
          rw [show z = 160 by omega]; rfl
        rw [if_pos q]
        exact ⟨rfl, ⟨hI, hB, ⟨σ, hM, hT⟩⟩, hF⟩
    · refine ev_bipush (v := (-2)) dX11_feed_11 (by decide) ?_
      refine ev_iret dX11_feed_13 rfl ?_
      rw [if_neg (fun q => by first | exact Int32.not_lt.mpr q.1 h1 | exact h8 q.2)]
      exact ⟨rfl, ⟨hI, hB, ⟨σ, hM, hT⟩⟩, hF⟩
end KSET
