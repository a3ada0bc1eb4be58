/-! ===== the reference: who is late, rings up, gives ===== -/
def WF (code : List Int32) : Prop := ∀ (F : Nat → Nat → Int32) (S : Nat → Int32) (h : Nat) (late : Int32), ∃ x, exe F S h late code [] = some [x]
/-- an E's value -/
def vl (F : Nat → Nat → Int32) (S : Nat → Int32) (h : Nat) (late : Int32) (code : List Int32) : Int32 := match exe F S h late code [] with
  | some (x :: _) => x
  | _ => 0
theorem WF.ex {code : List Int32} (h : WF code) (F : Nat → Nat → Int32) (S : Nat → Int32) (k : Nat) (late : Int32) : exe F S k late code [] = some [vl F S k late code] := by
  obtain ⟨x, hx⟩ := h F S k late
  rw [vl, hx]
/-- THE RULE as the reference holds it: its number, its three rows -/
def RU (ρ : MS) (t : Nat) (cd : Nat → List Int32) : Prop := ρ.2 8 = nI t ∧ t < 6 ∧ ∀ w, w < 3 → RC ρ (3 * t + w) (cd w) ∧ WF (cd w)
def bnd (v a z : Int32) : Int32 := if v < a then a else if z < v then z else v
def byv (F : Nat → Nat → Int32) (S : Nat → Int32) (cd : Nat → List Int32) (h : Nat) : Int32 := bnd (vl F S h 0 (cd 0)) 0 999
def ltv (F : Nat → Nat → Int32) (S : Nat → Int32) (cd : Nat → List Int32) (th : List Int32) (h : Nat) : Int32 := if th.getD h 0 - byv F S cd h < 0 then 0 else th.getD h 0 - byv F S cd h
def tpd (F : Nat → Nat → Int32) (S : Nat → Int32) (cd : Nat → List Int32) (h : Nat) (late : Int32) : Int32 := bnd (vl F S h late (cd 2)) 0 99 - late
def tpq (F : Nat → Nat → Int32) (S : Nat → Int32) (h : Nat) (late door : Int32) : Int32 := if F 0 h = 2 then door / 2 else if F 0 h = 3 then door + F 1 h else if F 0 h = 4 then door / 2 + (if late = 0 then 2 else 0) else if F 0 h = 5 then door - S 5 else door
def tpv (F : Nat → Nat → Int32) (S : Nat → Int32) (cd : Nat → List Int32) (h : Nat) (late : Int32) : Int32 := if tpq F S h late (tpd F S cd h late) < 0 then 0 else tpq F S h late (tpd F S cd h late)
section TPQ
variable {ρ : MS} {h : Nat} {late door : Int32}
theorem tpq_2 (e : (ρ.1 0).getD h 0 = 2) : tpq (Fc ρ) (Se ρ) h late door = door / 2 := if_pos e
theorem tpq_3 (e : (ρ.1 0).getD h 0 = 3) : tpq (Fc ρ) (Se ρ) h late door = door + (ρ.1 1).getD h 0 := by
  have e : Fc ρ 0 h = 3 := e
  rw [tpq, e, if_neg (by decide), if_pos rfl]
  rfl
theorem tpq_4a (e : (ρ.1 0).getD h 0 = 4) (hl : late = 0) : tpq (Fc ρ) (Se ρ) h late door = door / 2 + 2 := by
  have e : Fc ρ 0 h = 4 := e
  rw [tpq, e, if_neg (by decide), if_neg (by decide), if_pos rfl, if_pos hl]
theorem tpq_4b (e : (ρ.1 0).getD h 0 = 4) (hl : ¬ late = 0) : tpq (Fc ρ) (Se ρ) h late door = door / 2 + 0 := by
  have e : Fc ρ 0 h = 4 := e
  rw [tpq, e, if_neg (by decide), if_neg (by decide), if_pos rfl, if_neg hl]
theorem tpq_5 (e : (ρ.1 0).getD h 0 = 5) : tpq (Fc ρ) (Se ρ) h late door = door - Se ρ 5 := by
  have e : Fc ρ 0 h = 5 := e
  rw [tpq, e, if_neg (by decide), if_neg (by decide), if_neg (by decide), if_pos rfl]
theorem tpq_d (e2 : ¬ (ρ.1 0).getD h 0 = 2) (e3 : ¬ (ρ.1 0).getD h 0 = 3) (e4 : ¬ (ρ.1 0).getD h 0 = 4) (e5 : ¬ (ρ.1 0).getD h 0 = 5) : tpq (Fc ρ) (Se ρ) h late door = door := by
  rw [tpq, if_neg (show ¬ Fc ρ 0 h = 2 from e2), if_neg (show ¬ Fc ρ 0 h = 3 from e3), if_neg (show ¬ Fc ρ 0 h = 4 from e4), if_neg (show ¬ Fc ρ 0 h = 5 from e5)]
end TPQ
/-- loops over houses k .. k + m - 1 -/
def rngK (F : Nat → Nat → Int32) (S : Nat → Int32) (cd : Nat → List Int32) (th : List Int32) : Nat → Nat → Int32 → Int32
  | 0, _, s => s
  | m + 1, k, s => rngK F S cd th m (k + 1) (s ||| (if vl F S k (ltv F S cd th k) (cd 1) = 0 then (0 : Int32) else (1 : Int32) <<< (nI k &&& 31)))
def prsK (F : Nat → Nat → Int32) (S : Nat → Int32) (cd : Nat → List Int32) (th : List Int32) (ring : Int32) : Nat → Nat → Int32 → Int32
  | 0, _, s => s
  | m + 1, k, s => prsK F S cd th ring m (k + 1) (s + (if (ring >>> (nI k &&& 31)) &&& 1 = 1 then 0 else tpv F S cd k (ltv F S cd th k)))
def lmnK (F : Nat → Nat → Int32) (S : Nat → Int32) (cd : Nat → List Int32) (th : List Int32) : Nat → Nat → Int32 → Int32
  | 0, _, s => s
  | m + 1, k, s => lmnK F S cd th m (k + 1) (s + (if ltv F S cd th k ≤ 0 then 0 else 1))
section MLATE
variable {g : Gl} {μ : Mm} {b : Nat} {ρ : MS}
theorem RS.of (hL : ML ρ) (hM : RM b ρ μ) : RS b ρ μ := by
  refine ⟨ρ.1 14, hL.at (by decide), ?_⟩
  have : setA ρ 14 (ρ.1 14) = ρ := by
    simp only [setA]
    refine Prod.ext ?_ rfl
    funext q
    show (if q = 14 then ρ.1 14 else ρ.1 q) = ρ.1 q
    split
    · rename_i h; rw [h]
    · rfl
  rw [this]; exact hM
theorem c_byOf (hR : RS b ρ μ) (hL : ML ρ) {t h : Nat} {cd : Nat → List Int32} (hU : RU ρ t cd) (hh : h < 7) : Mt g 2 mX12_byOf [.ref b, .int (nI h)] μ (fun v μ' => v = some (.int (byv (Fc ρ) (Se ρ) cd h)) ∧ RS b ρ μ' ∧ FM b μ μ') := by
  refine Mt.of0 (ls0 := [some (.ref b), some (.int (nI h))]) (by decide) (by simp [Value.category]) (Nat.le_of_ble_eq_true rfl) rfl ?_
  obtain ⟨l, hl, hM⟩ := id hR
  have hF : FM b μ μ := FM.rf
  refine ev_aload_n dX12_byOf_0 rfl ?_
  refine ev_iconst (v := 0) dX12_byOf_1 (by decide) ?_
  refine ev_iload_n dX12_byOf_2 rfl ?_
  refine ev_iconst (v := 0) dX12_byOf_3 (by decide) ?_
  refine k_v (c_says (w := 0) hR hL hU.1 hU.2.1 (by decide) hh (hU.2.2 0 (by decide)).1 ((hU.2.2 0 (by decide)).2.ex _ _ _ _)) (by decide) dX12_byOf_4 cbX12_says (mt5 231 rfl rfl) (mt5 233 rfl rfl) (ms0 62 rfl rfl) (ci := 12) rfl hM.1 rfl rfl (Nat.le_of_ble_eq_true rfl) (fun v μ1 hq => ?_)
  obtain ⟨rfl, hR, hF1⟩ := hq
  have hF := hF.tr hF1
  obtain ⟨l1, hl1, hM⟩ := id hR
  simp only [Option.toList, List.cons_append, List.nil_append]
  refine ev_iconst (v := 0) dX12_byOf_7 (by decide) ?_
  refine ev_sipush (v := 999) dX12_byOf_8 (by decide) ?_
  refine k_s (c_bounded _ _ _) (by decide) dX12_byOf_11 cbX12_bounded (mt6 2 rfl rfl) (mt6 3 rfl rfl) rfl rfl (Nat.le_of_ble_eq_true rfl) (fun v μ1 hq => ?_)
  obtain ⟨rfl, hμ⟩ := hq
  have hμ := hμ.symm
  subst hμ
  simp only [Option.toList, List.cons_append, List.nil_append]
  refine ev_iret dX12_byOf_14 rfl ?_
  exact ⟨rfl, hR, hF⟩
theorem c_lateOf (hR : RS b ρ μ) (hL : ML ρ) {t h : Nat} {cd : Nat → List Int32} (hU : RU ρ t cd) (hh : h < 7) : Mt g 3 mX12_lateOf [.ref b, .int (nI h)] μ (fun v μ' => v = some (.int (ltv (Fc ρ) (Se ρ) cd (ρ.1 25) h)) ∧ RS b ρ μ' ∧ FM b μ μ') := by
  refine Mt.of0 (ls0 := [some (.ref b), some (.int (nI h)), none]) (by decide) (by simp [Value.category]) (Nat.le_of_ble_eq_true rfl) rfl ?_
  obtain ⟨l, hl, hM⟩ := id hR
  have hF : FM b μ μ := FM.rf
  unfold ltv
  refine ev_aload_n dX12_lateOf_0 rfl ?_
  refine ev_get dX12_lateOf_1 flX12_58_12 hM.1 rfl ?_
  refine ev_iload_n dX12_lateOf_4 rfl ?_
  refine ev_iald dX12_lateOf_5 (hM.a 25 27 (by decide)) (ix_n (by omega)) (rd hL (n := 7) (by decide) hh) ?_
  refine ev_aload_n dX12_lateOf_6 rfl ?_
  refine ev_iload_n dX12_lateOf_7 rfl ?_
  refine k_v (c_byOf hR hL hU hh) (by decide) dX12_lateOf_8 cbX12_byOf (mt5 227 rfl rfl) (mt5 229 rfl rfl) (ms0 61 rfl rfl) (ci := 12) rfl hM.1 rfl rfl (Nat.le_of_ble_eq_true rfl) (fun v μ1 hq => ?_)
  obtain ⟨rfl, hR, hF1⟩ := hq
  have hF := hF.tr hF1
  obtain ⟨l1, hl1, hM⟩ := id hR
  simp only [Option.toList, List.cons_append, List.nil_append]
  refine ev_isub dX12_lateOf_11 ?_
  refine ev_istore_n dX12_lateOf_12 (by decide) ?_
  dsimp only [List.set]
  refine ev_iload_n dX12_lateOf_13 rfl ?_
  refine ev_if_ge (tgt := 21) dX12_lateOf_14 (by decide) (fun h14 => ?_) (fun h14 => ?_)
  · refine ev_iload_n dX12_lateOf_21 rfl ?_
    refine ev_iret dX12_lateOf_22 rfl ?_
    refine ⟨?_, hR, hF⟩
    first | rw [if_pos (Int32.not_le.mp h14)] | rw [if_neg (Int32.not_lt.mpr h14)]
  · refine ev_iconst (v := 0) dX12_lateOf_17 (by decide) ?_
    refine ev_goto (tgt := 22) dX12_lateOf_18 (by decide) ?_
    refine ev_iret dX12_lateOf_22 rfl ?_
    refine ⟨?_, hR, hF⟩
    first | rw [if_pos (Int32.not_le.mp h14)] | rw [if_neg (Int32.not_lt.mpr h14)]
theorem c_tipsOf (hR : RS b ρ μ) (hL : ML ρ) {t h : Nat} {cd : Nat → List Int32} (hU : RU ρ t cd) (hh : h < 7) (late : Int32) : Mt g 2 mX12_tipsOf [.ref b, .int (nI h), .int late] μ (fun v μ' => v = some (.int (tpv (Fc ρ) (Se ρ) cd h late)) ∧ RS b ρ μ' ∧ FM b μ μ') := by
  refine Mt.of0 (ls0 := [some (.ref b), some (.int (nI h)), some (.int late), none, none]) (by decide) (by simp [Value.category]) (Nat.le_of_ble_eq_true rfl) rfl ?_
  obtain ⟨l, hl, hM⟩ := id hR
  have hF : FM b μ μ := FM.rf
  unfold tpv
  refine ev_aload_n dX12_tipsOf_0 rfl ?_
  refine ev_iconst (v := 2) dX12_tipsOf_1 (by decide) ?_
  refine ev_iload_n dX12_tipsOf_2 rfl ?_
  refine ev_iload_n dX12_tipsOf_3 rfl ?_
  refine k_v (c_says (w := 2) hR hL hU.1 hU.2.1 (by decide) hh (hU.2.2 2 (by decide)).1 ((hU.2.2 2 (by decide)).2.ex _ _ _ _)) (by decide) dX12_tipsOf_4 cbX12_says (mt5 231 rfl rfl) (mt5 233 rfl rfl) (ms0 62 rfl rfl) (ci := 12) rfl hM.1 rfl rfl (Nat.le_of_ble_eq_true rfl) (fun v μ1 hq => ?_)
  obtain ⟨rfl, hR, hF1⟩ := hq
  have hF := hF.tr hF1
  obtain ⟨l1, hl1, hM⟩ := id hR
  simp only [Option.toList, List.cons_append, List.nil_append]
  refine ev_iconst (v := 0) dX12_tipsOf_7 (by decide) ?_
  refine ev_bipush (v := 99) dX12_tipsOf_8 (by decide) ?_
  refine k_s (c_bounded _ _ _) (by decide) dX12_tipsOf_10 cbX12_bounded (mt6 2 rfl rfl) (mt6 3 rfl rfl) rfl rfl (Nat.le_of_ble_eq_true rfl) (fun v μ1 hq => ?_)
  obtain ⟨rfl, hμ⟩ := hq
  have hμ := hμ.symm
  subst hμ
  simp only [Option.toList, List.cons_append, List.nil_append]
  refine ev_iload_n dX12_tipsOf_13 rfl ?_
  refine ev_isub dX12_tipsOf_14 ?_
  rw [show (if vl (Fc ρ) (Se ρ) h late (cd 2) < 0 then 0 else if 99 < vl (Fc ρ) (Se ρ) h late (cd 2) then 99 else vl (Fc ρ) (Se ρ) h late (cd 2)) - late = tpd (Fc ρ) (Se ρ) cd h late from rfl]
  generalize hdoor : tpd (Fc ρ) (Se ρ) cd h late = door
  refine ev_istore_n dX12_tipsOf_15 (by decide) ?_
  dsimp only [List.set]
  refine ev_iload_n dX12_tipsOf_16 rfl ?_
  refine ev_istore dX12_tipsOf_17 (by decide) ?_
  dsimp only [List.set]
  refine ev_aload_n dX12_tipsOf_19 rfl ?_
  refine ev_get dX12_tipsOf_20 flX12_7_12 hM.1 rfl ?_
  refine ev_iload_n dX12_tipsOf_23 rfl ?_
  refine ev_iald dX12_tipsOf_24 (hM.a 0 1 (by decide)) (ix_n (by omega)) (rd hL (n := 7) (by decide) hh) ?_
  by_cases hs25 : ((ρ.1 0).getD h 0).toInt < 2 ∨ 5 < ((ρ.1 0).getD h 0).toInt
  · refine ev_tout (tgt := 108) dX12_tipsOf_25 hs25 (by decide) ?_
    have hn25_0 : ¬ ((ρ.1 0).getD h 0) = 2 := fun q => by rw [q] at hs25; revert hs25; decide
    have hn25_1 : ¬ ((ρ.1 0).getD h 0) = 3 := fun q => by rw [q] at hs25; revert hs25; decide
    have hn25_2 : ¬ ((ρ.1 0).getD h 0) = 4 := fun q => by rw [q] at hs25; revert hs25; decide
    have hn25_3 : ¬ ((ρ.1 0).getD h 0) = 5 := fun q => by rw [q] at hs25; revert hs25; decide
    refine ev_iload dX12_tipsOf_108 rfl ?_
    refine ev_if_ge (tgt := 117) dX12_tipsOf_110 (by decide) (fun h110 => ?_) (fun h110 => ?_)
    · refine ev_iload dX12_tipsOf_117 rfl ?_
      refine ev_iret dX12_tipsOf_119 rfl ?_
      refine ⟨?_, hR, hF⟩
      first | rw [tpq_2 he25] | rw [tpq_3 he25] | rw [tpq_4a he25 h81] | rw [tpq_4b he25 h81] | rw [tpq_5 he25] | rw [tpq_d hn25_0 hn25_1 hn25_2 hn25_3]
      first | rw [if_pos (Int32.not_le.mp h110)] | (rw [if_neg (Int32.not_lt.mpr h110)]; try rfl)
    · refine ev_iconst (v := 0) dX12_tipsOf_113 (by decide) ?_
      refine ev_goto (tgt := 119) dX12_tipsOf_114 (by decide) ?_
      refine ev_iret dX12_tipsOf_119 rfl ?_
      refine ⟨?_, hR, hF⟩
      first | rw [tpq_2 he25] | rw [tpq_3 he25] | rw [tpq_4a he25 h81] | rw [tpq_4b he25 h81] | rw [tpq_5 he25] | rw [tpq_d hn25_0 hn25_1 hn25_2 hn25_3]
      first | rw [if_pos (Int32.not_le.mp h110)] | (rw [if_neg (Int32.not_lt.mpr h110)]; try rfl)
  have hs25 : ((ρ.1 0).getD h 0).toInt = 2 ∨ ((ρ.1 0).getD h 0).toInt = 3 ∨ ((ρ.1 0).getD h 0).toInt = 4 ∨ ((ρ.1 0).getD h 0).toInt = 5 := by omega
  rcases hs25 with hs25 | hs25 | hs25 | hs25
  · refine ev_tin (off := 31) (tgt := 56) dX12_tipsOf_25 (by omega) (by omega) (by rw [hs25]; rfl) (by decide) ?_
    have he25 : ((ρ.1 0).getD h 0) = 2 := Int32.toInt_inj.mp (hs25.trans (by decide))
    refine ev_iload_n dX12_tipsOf_56 rfl ?_
    refine ev_iconst (v := 2) dX12_tipsOf_57 (by decide) ?_
    refine ev_idiv dX12_tipsOf_58 (by decide) ?_
    refine ev_istore dX12_tipsOf_59 (by decide) ?_
    dsimp only [List.set]
    refine ev_goto (tgt := 108) dX12_tipsOf_61 (by decide) ?_
    refine ev_iload dX12_tipsOf_108 rfl ?_
    refine ev_if_ge (tgt := 117) dX12_tipsOf_110 (by decide) (fun h110 => ?_) (fun h110 => ?_)
    · refine ev_iload dX12_tipsOf_117 rfl ?_
      refine ev_iret dX12_tipsOf_119 rfl ?_
      refine ⟨?_, hR, hF⟩
      first | rw [tpq_2 he25] | rw [tpq_3 he25] | rw [tpq_4a he25 h81] | rw [tpq_4b he25 h81] | rw [tpq_5 he25] | rw [tpq_d hn25_0 hn25_1 hn25_2 hn25_3]
      first | rw [if_pos (Int32.not_le.mp h110)] | (rw [if_neg (Int32.not_lt.mpr h110)]; try rfl)
    · refine ev_iconst (v := 0) dX12_tipsOf_113 (by decide) ?_
      refine ev_goto (tgt := 119) dX12_tipsOf_114 (by decide) ?_
      refine ev_iret dX12_tipsOf_119 rfl ?_
      refine ⟨?_, hR, hF⟩
      first | rw [tpq_2 he25] | rw [tpq_3 he25] | rw [tpq_4a he25 h81] | rw [tpq_4b he25 h81] | rw [tpq_5 he25] | rw [tpq_d hn25_0 hn25_1 hn25_2 hn25_3]
      first | rw [if_pos (Int32.not_le.mp h110)] | (rw [if_neg (Int32.not_lt.mpr h110)]; try rfl)
  · refine ev_tin (off := 39) (tgt := 64) dX12_tipsOf_25 (by omega) (by omega) (by rw [hs25]; rfl) (by decide) ?_
    have he25 : ((ρ.1 0).getD h 0) = 3 := Int32.toInt_inj.mp (hs25.trans (by decide))
    refine ev_iload_n dX12_tipsOf_64 rfl ?_
    refine ev_aload_n dX12_tipsOf_65 rfl ?_
    refine ev_get dX12_tipsOf_66 flX12_13_12 hM.1 rfl ?_
    refine ev_iload_n dX12_tipsOf_69 rfl ?_
    refine ev_iald dX12_tipsOf_70 (hM.a 1 2 (by decide)) (ix_n (by omega)) (rd hL (n := 7) (by decide) hh) ?_
    refine ev_iadd dX12_tipsOf_71 ?_
    refine ev_istore dX12_tipsOf_72 (by decide) ?_
    dsimp only [List.set]
    refine ev_goto (tgt := 108) dX12_tipsOf_74 (by decide) ?_
    refine ev_iload dX12_tipsOf_108 rfl ?_
    refine ev_if_ge (tgt := 117) dX12_tipsOf_110 (by decide) (fun h110 => ?_) (fun h110 => ?_)
    · refine ev_iload dX12_tipsOf_117 rfl ?_
      refine ev_iret dX12_tipsOf_119 rfl ?_
      refine ⟨?_, hR, hF⟩
      first | rw [tpq_2 he25] | rw [tpq_3 he25] | rw [tpq_4a he25 h81] | rw [tpq_4b he25 h81] | rw [tpq_5 he25] | rw [tpq_d hn25_0 hn25_1 hn25_2 hn25_3]
      first | rw [if_pos (Int32.not_le.mp h110)] | (rw [if_neg (Int32.not_lt.mpr h110)]; try rfl)
    · refine ev_iconst (v := 0) dX12_tipsOf_113 (by decide) ?_
      refine ev_goto (tgt := 119) dX12_tipsOf_114 (by decide) ?_
      refine ev_iret dX12_tipsOf_119 rfl ?_
      refine ⟨?_, hR, hF⟩
      first | rw [tpq_2 he25] | rw [tpq_3 he25] | rw [tpq_4a he25 h81] | rw [tpq_4b he25 h81] | rw [tpq_5 he25] | rw [tpq_d hn25_0 hn25_1 hn25_2 hn25_3]
      first | rw [if_pos (Int32.not_le.mp h110)] | (rw [if_neg (Int32.not_lt.mpr h110)]; try rfl)
  · refine ev_tin (off := 52) (tgt := 77) dX12_tipsOf_25 (by omega) (by omega) (by rw [hs25]; rfl) (by decide) ?_
    have he25 : ((ρ.1 0).getD h 0) = 4 := Int32.toInt_inj.mp (hs25.trans (by decide))
    refine ev_iload_n dX12_tipsOf_77 rfl ?_
    refine ev_iconst (v := 2) dX12_tipsOf_78 (by decide) ?_
    refine ev_idiv dX12_tipsOf_79 (by decide) ?_
    refine ev_iload_n dX12_tipsOf_80 rfl ?_
    refine ev_if_ne (tgt := 88) dX12_tipsOf_81 (by decide) (fun h81 => ?_) (fun h81 => ?_)
    · refine ev_iconst (v := 0) dX12_tipsOf_88 (by decide) ?_
      refine ev_iadd dX12_tipsOf_89 ?_
      refine ev_istore dX12_tipsOf_90 (by decide) ?_
      dsimp only [List.set]
      refine ev_goto (tgt := 108) dX12_tipsOf_92 (by decide) ?_
      refine ev_iload dX12_tipsOf_108 rfl ?_
      refine ev_if_ge (tgt := 117) dX12_tipsOf_110 (by decide) (fun h110 => ?_) (fun h110 => ?_)
      · refine ev_iload dX12_tipsOf_117 rfl ?_
        refine ev_iret dX12_tipsOf_119 rfl ?_
        refine ⟨?_, hR, hF⟩
        first | rw [tpq_2 he25] | rw [tpq_3 he25] | rw [tpq_4a he25 h81] | rw [tpq_4b he25 h81] | rw [tpq_5 he25] | rw [tpq_d hn25_0 hn25_1 hn25_2 hn25_3]
        first | rw [if_pos (Int32.not_le.mp h110)] | (rw [if_neg (Int32.not_lt.mpr h110)]; try rfl)
      · refine ev_iconst (v := 0) dX12_tipsOf_113 (by decide) ?_
        refine ev_goto (tgt := 119) dX12_tipsOf_114 (by decide) ?_
        refine ev_iret dX12_tipsOf_119 rfl ?_
        refine ⟨?_, hR, hF⟩
        first | rw [tpq_2 he25] | rw [tpq_3 he25] | rw [tpq_4a he25 h81] | rw [tpq_4b he25 h81] | rw [tpq_5 he25] | rw [tpq_d hn25_0 hn25_1 hn25_2 hn25_3]
        first | rw [if_pos (Int32.not_le.mp h110)] | (rw [if_neg (Int32.not_lt.mpr h110)]; try rfl)
    · refine ev_iconst (v := 2) dX12_tipsOf_84 (by decide) ?_
      refine ev_goto (tgt := 89) dX12_tipsOf_85 (by decide) ?_
      refine ev_iadd dX12_tipsOf_89 ?_
      refine ev_istore dX12_tipsOf_90 (by decide) ?_
      dsimp only [List.set]
      refine ev_goto (tgt := 108) dX12_tipsOf_92 (by decide) ?_
      refine ev_iload dX12_tipsOf_108 rfl ?_
      refine ev_if_ge (tgt := 117) dX12_tipsOf_110 (by decide) (fun h110 => ?_) (fun h110 => ?_)
      · refine ev_iload dX12_tipsOf_117 rfl ?_
        refine ev_iret dX12_tipsOf_119 rfl ?_
        refine ⟨?_, hR, hF⟩
        first | rw [tpq_2 he25] | rw [tpq_3 he25] | rw [tpq_4a he25 h81] | rw [tpq_4b he25 h81] | rw [tpq_5 he25] | rw [tpq_d hn25_0 hn25_1 hn25_2 hn25_3]
        first | rw [if_pos (Int32.not_le.mp h110)] | (rw [if_neg (Int32.not_lt.mpr h110)]; try rfl)
      · refine ev_iconst (v := 0) dX12_tipsOf_113 (by decide) ?_
        refine ev_goto (tgt := 119) dX12_tipsOf_114 (by decide) ?_
        refine ev_iret dX12_tipsOf_119 rfl ?_
        refine ⟨?_, hR, hF⟩
        first | rw [tpq_2 he25] | rw [tpq_3 he25] | rw [tpq_4a he25 h81] | rw [tpq_4b he25 h81] | rw [tpq_5 he25] | rw [tpq_d hn25_0 hn25_1 hn25_2 hn25_3]
        first | rw [if_pos (Int32.not_le.mp h110)] | (rw [if_neg (Int32.not_lt.mpr h110)]; try rfl)
  · refine ev_tin (off := 70) (tgt := 95) dX12_tipsOf_25 (by omega) (by omega) (by rw [hs25]; rfl) (by decide) ?_
    have he25 : ((ρ.1 0).getD h 0) = 5 := Int32.toInt_inj.mp (hs25.trans (by decide))
    refine ev_iload_n dX12_tipsOf_95 rfl ?_
    refine ev_aload_n dX12_tipsOf_96 rfl ?_
    refine ev_get dX12_tipsOf_97 flX12_28_12 hM.1 rfl ?_
    refine ev_iconst (v := 5) dX12_tipsOf_100 (by decide) ?_
    refine ev_iald dX12_tipsOf_101 (hM.a 6 7 (by decide)) ixl5 (rd hL (n := 10) (by decide) (by decide)) ?_
    refine ev_isub dX12_tipsOf_102 ?_
    refine ev_istore dX12_tipsOf_103 (by decide) ?_
    dsimp only [List.set]
    refine ev_goto (tgt := 108) dX12_tipsOf_105 (by decide) ?_
    refine ev_iload dX12_tipsOf_108 rfl ?_
    refine ev_if_ge (tgt := 117) dX12_tipsOf_110 (by decide) (fun h110 => ?_) (fun h110 => ?_)
    · refine ev_iload dX12_tipsOf_117 rfl ?_
      refine ev_iret dX12_tipsOf_119 rfl ?_
      refine ⟨?_, hR, hF⟩
      first | rw [tpq_2 he25] | rw [tpq_3 he25] | rw [tpq_4a he25 h81] | rw [tpq_4b he25 h81] | rw [tpq_5 he25] | rw [tpq_d hn25_0 hn25_1 hn25_2 hn25_3]
      first | rw [if_pos (Int32.not_le.mp h110)] | (rw [if_neg (Int32.not_lt.mpr h110)]; try rfl)
    · refine ev_iconst (v := 0) dX12_tipsOf_113 (by decide) ?_
      refine ev_goto (tgt := 119) dX12_tipsOf_114 (by decide) ?_
      refine ev_iret dX12_tipsOf_119 rfl ?_
      refine ⟨?_, hR, hF⟩
      first | rw [tpq_2 he25] | rw [tpq_3 he25] | rw [tpq_4a he25 h81] | rw [tpq_4b he25 h81] | rw [tpq_5 he25] | rw [tpq_d hn25_0 hn25_1 hn25_2 hn25_3]
      first | rw [if_pos (Int32.not_le.mp h110)] | (rw [if_neg (Int32.not_lt.mpr h110)]; try rfl)
theorem l_ringing (hL : ML ρ) {t n : Nat} {cd : Nat → List Int32} (hU : RU ρ t cd) (hN : ρ.2 7 = nI n) (hn : n ≤ 7) {w : Int32} {μ0 : Mm} : ∀ (m k : Nat) (s : Int32) (μ : Mm), k + m = n → RS b ρ μ → FM b μ0 μ → Ev g 4 mX12_ringing 4 [some (.ref b), some (.int w), some (.int s), some (.int (nI k))] [] μ (fun v μ' => v = some (.int (rngK (Fc ρ) (Se ρ) cd (ρ.1 25) m k s)) ∧ RS b ρ μ' ∧ FM b μ0 μ') := by
  intro m
  induction m with
  | zero =>
    intro k s μ hk hR hF
    obtain ⟨l, hl, hM⟩ := id hR
    refine ev_iload_n dX12_ringing_4 rfl ?_
    refine ev_aload_n dX12_ringing_5 rfl ?_
    refine ev_get dX12_ringing_6 flX12_82_12 hM.1 rfl ?_
    refine ev_icmp_ge (tgt := 42) dX12_ringing_9 (by decide) (fun _ => ?_) (fun h9 => absurd ((show ρ.2 7 ≤ nI k by rw [hN]; exact nI_le (by omega) (by omega))) h9)
    refine ev_iload_n dX12_ringing_42 rfl ?_
    refine ev_iret dX12_ringing_43 rfl ?_
    exact ⟨rfl, hR, hF⟩
  | succ m ih =>
    intro k s μ hk hR hF
    obtain ⟨l, hl, hM⟩ := id hR
    rw [rngK]
    refine ev_iload_n dX12_ringing_4 rfl ?_
    refine ev_aload_n dX12_ringing_5 rfl ?_
    refine ev_get dX12_ringing_6 flX12_82_12 hM.1 rfl ?_
    refine ev_icmp_ge (tgt := 42) dX12_ringing_9 (by decide) (fun h9 => absurd h9 ((show ¬ ρ.2 7 ≤ nI k by rw [hN]; exact nI_ge (by omega) (by omega)))) (fun _ => ?_)
    refine ev_iload_n dX12_ringing_12 rfl ?_
    refine ev_aload_n dX12_ringing_13 rfl ?_
    refine ev_iconst (v := 1) dX12_ringing_14 (by decide) ?_
    refine ev_iload_n dX12_ringing_15 rfl ?_
    refine ev_aload_n dX12_ringing_16 rfl ?_
    refine ev_iload_n dX12_ringing_17 rfl ?_
    refine k_v (c_lateOf hR hL hU (by omega)) (by decide) dX12_ringing_18 cbX12_lateOf (mt6 36 rfl rfl) (mt6 38 rfl rfl) (ms0 68 rfl rfl) (ci := 12) rfl hM.1 rfl rfl (Nat.le_of_ble_eq_true rfl) (fun v μ1 hq => ?_)
    obtain ⟨rfl, hR, hF1⟩ := hq
    have hF := hF.tr hF1
    obtain ⟨l1, hl1, hM⟩ := id hR
    simp only [Option.toList, List.cons_append, List.nil_append]
    refine k_v (c_says (w := 1) hR hL hU.1 hU.2.1 (by decide) (by omega) (hU.2.2 1 (by decide)).1 ((hU.2.2 1 (by decide)).2.ex _ _ _ _)) (by decide) dX12_ringing_21 cbX12_says (mt5 231 rfl rfl) (mt5 233 rfl rfl) (ms0 62 rfl rfl) (ci := 12) rfl hM.1 rfl rfl (Nat.le_of_ble_eq_true rfl) (fun v μ1 hq => ?_)
    obtain ⟨rfl, hR, hF1⟩ := hq
    have hF := hF.tr hF1
    obtain ⟨l1, hl1, hM⟩ := id hR
    simp only [Option.toList, List.cons_append, List.nil_append]
    refine ev_if_eq (tgt := 33) dX12_ringing_24 (by decide) (fun h24 => ?_) (fun h24 => ?_)
    · refine ev_iconst (v := 0) dX12_ringing_33 (by decide) ?_
      refine ev_ior dX12_ringing_34 ?_
      refine ev_istore_n dX12_ringing_35 (by decide) ?_
      dsimp only [List.set]
      refine ev_iinc dX12_ringing_36 rfl (by decide) ?_
      dsimp only [List.set]
      refine ev_goto (tgt := 4) dX12_ringing_39 (by decide) ?_
      rw [nI_inc]
      first | rw [if_pos h24] | rw [if_neg h24]
      exact ih (k + 1) _ _ (by omega) hR hF
    · refine ev_iconst (v := 1) dX12_ringing_27 (by decide) ?_
      refine ev_iload_n dX12_ringing_28 rfl ?_
      refine ev_ishl dX12_ringing_29 ?_
      refine ev_goto (tgt := 34) dX12_ringing_30 (by decide) ?_
      refine ev_ior dX12_ringing_34 ?_
      refine ev_istore_n dX12_ringing_35 (by decide) ?_
      dsimp only [List.set]
      refine ev_iinc dX12_ringing_36 rfl (by decide) ?_
      dsimp only [List.set]
      refine ev_goto (tgt := 4) dX12_ringing_39 (by decide) ?_
      rw [nI_inc]
      first | rw [if_pos h24] | rw [if_neg h24]
      exact ih (k + 1) _ _ (by omega) hR hF
theorem c_ringing (hR : RS b ρ μ) (hL : ML ρ) {t n : Nat} {cd : Nat → List Int32} (hU : RU ρ t cd) (hN : ρ.2 7 = nI n) (hn : n ≤ 7) (w : Int32) : Mt g 4 mX12_ringing [.ref b, .int w] μ (fun v μ' => v = some (.int (rngK (Fc ρ) (Se ρ) cd (ρ.1 25) n 0 w)) ∧ RS b ρ μ' ∧ FM b μ μ') := by
  refine Mt.of0 (ls0 := [some (.ref b), some (.int w), none, none]) (by decide) (by simp [Value.category]) (Nat.le_of_ble_eq_true rfl) rfl ?_
  have hF : FM b μ μ := FM.rf
  refine ev_iload_n dX12_ringing_0 rfl ?_
  refine ev_istore_n dX12_ringing_1 (by decide) ?_
  dsimp only [List.set]
  refine ev_iconst (v := 0) dX12_ringing_2 (by decide) ?_
  refine ev_istore_n dX12_ringing_3 (by decide) ?_
  dsimp only [List.set]
  exact l_ringing hL hU hN hn n 0 _ μ (by omega) hR hF
theorem l_purse (hL : ML ρ) {t n : Nat} {cd : Nat → List Int32} (hU : RU ρ t cd) (hN : ρ.2 7 = nI n) (hn : n ≤ 7) {w : Int32} {μ0 : Mm} : ∀ (m k : Nat) (s : Int32) (μ : Mm), k + m = n → RS b ρ μ → FM b μ0 μ → Ev g 4 mX12_purse 4 [some (.ref b), some (.int w), some (.int s), some (.int (nI k))] [] μ (fun v μ' => v = some (.int (prsK (Fc ρ) (Se ρ) cd (ρ.1 25) w m k s)) ∧ RS b ρ μ' ∧ FM b μ0 μ') := by
  intro m
  induction m with
  | zero =>
    intro k s μ hk hR hF
    obtain ⟨l, hl, hM⟩ := id hR
    refine ev_iload_n dX12_purse_4 rfl ?_
    refine ev_aload_n dX12_purse_5 rfl ?_
    refine ev_get dX12_purse_6 flX12_82_12 hM.1 rfl ?_
    refine ev_icmp_ge (tgt := 44) dX12_purse_9 (by decide) (fun _ => ?_) (fun h9 => absurd ((show ρ.2 7 ≤ nI k by rw [hN]; exact nI_le (by omega) (by omega))) h9)
    refine ev_iload_n dX12_purse_44 rfl ?_
    refine ev_iret dX12_purse_45 rfl ?_
    exact ⟨rfl, hR, hF⟩
  | succ m ih =>
    intro k s μ hk hR hF
    obtain ⟨l, hl, hM⟩ := id hR
    rw [prsK]
    refine ev_iload_n dX12_purse_4 rfl ?_
    refine ev_aload_n dX12_purse_5 rfl ?_
    refine ev_get dX12_purse_6 flX12_82_12 hM.1 rfl ?_
    refine ev_icmp_ge (tgt := 44) dX12_purse_9 (by decide) (fun h9 => absurd h9 ((show ¬ ρ.2 7 ≤ nI k by rw [hN]; exact nI_ge (by omega) (by omega)))) (fun _ => ?_)
    refine ev_iload_n dX12_purse_12 rfl ?_
    refine ev_iload_n dX12_purse_13 rfl ?_
    refine ev_iload_n dX12_purse_14 rfl ?_
    refine ev_ishr dX12_purse_15 ?_
    refine ev_iconst (v := 1) dX12_purse_16 (by decide) ?_
    refine ev_iand dX12_purse_17 ?_
    refine ev_iconst (v := 1) dX12_purse_18 (by decide) ?_
    refine ev_icmp_ne (tgt := 26) dX12_purse_19 (by decide) (fun h19 => ?_) (fun h19 => ?_)
    · refine ev_aload_n dX12_purse_26 rfl ?_
      refine ev_iload_n dX12_purse_27 rfl ?_
      refine ev_aload_n dX12_purse_28 rfl ?_
      refine ev_iload_n dX12_purse_29 rfl ?_
      refine k_v (c_lateOf hR hL hU (by omega)) (by decide) dX12_purse_30 cbX12_lateOf (mt6 36 rfl rfl) (mt6 38 rfl rfl) (ms0 68 rfl rfl) (ci := 12) rfl hM.1 rfl rfl (Nat.le_of_ble_eq_true rfl) (fun v μ1 hq => ?_)
      obtain ⟨rfl, hR, hF1⟩ := hq
      have hF := hF.tr hF1
      obtain ⟨l1, hl1, hM⟩ := id hR
      simp only [Option.toList, List.cons_append, List.nil_append]
      refine k_v (c_tipsOf hR hL hU (by omega) _) (by decide) dX12_purse_33 cbX12_tipsOf (mt6 40 rfl rfl) (mt6 42 rfl rfl) (ms0 69 rfl rfl) (ci := 12) rfl hM.1 rfl rfl (Nat.le_of_ble_eq_true rfl) (fun v μ1 hq => ?_)
      obtain ⟨rfl, hR, hF1⟩ := hq
      have hF := hF.tr hF1
      obtain ⟨l1, hl1, hM⟩ := id hR
      simp only [Option.toList, List.cons_append, List.nil_append]
      refine ev_iadd dX12_purse_36 ?_
      refine ev_istore_n dX12_purse_37 (by decide) ?_
      dsimp only [List.set]
      refine ev_iinc dX12_purse_38 rfl (by decide) ?_
      dsimp only [List.set]
      refine ev_goto (tgt := 4) dX12_purse_41 (by decide) ?_
      rw [nI_inc]
      first | rw [if_pos h19] | rw [if_neg h19]
      exact ih (k + 1) _ _ (by omega) hR hF
    · refine ev_iconst (v := 0) dX12_purse_22 (by decide) ?_
      refine ev_goto (tgt := 36) dX12_purse_23 (by decide) ?_
      refine ev_iadd dX12_purse_36 ?_
      refine ev_istore_n dX12_purse_37 (by decide) ?_
      dsimp only [List.set]
      refine ev_iinc dX12_purse_38 rfl (by decide) ?_
      dsimp only [List.set]
      refine ev_goto (tgt := 4) dX12_purse_41 (by decide) ?_
      rw [nI_inc]
      first | rw [if_pos h19] | rw [if_neg h19]
      exact ih (k + 1) _ _ (by omega) hR hF
theorem c_purse (hR : RS b ρ μ) (hL : ML ρ) {t n : Nat} {cd : Nat → List Int32} (hU : RU ρ t cd) (hN : ρ.2 7 = nI n) (hn : n ≤ 7) (w : Int32) : Mt g 4 mX12_purse [.ref b, .int w] μ (fun v μ' => v = some (.int (prsK (Fc ρ) (Se ρ) cd (ρ.1 25) w n 0 0)) ∧ RS b ρ μ' ∧ FM b μ μ') := by
  refine Mt.of0 (ls0 := [some (.ref b), some (.int w), none, none]) (by decide) (by simp [Value.category]) (Nat.le_of_ble_eq_true rfl) rfl ?_
  have hF : FM b μ μ := FM.rf
  refine ev_iconst (v := 0) dX12_purse_0 (by decide) ?_
  refine ev_istore_n dX12_purse_1 (by decide) ?_
  dsimp only [List.set]
  refine ev_iconst (v := 0) dX12_purse_2 (by decide) ?_
  refine ev_istore_n dX12_purse_3 (by decide) ?_
  dsimp only [List.set]
  exact l_purse hL hU hN hn n 0 _ μ (by omega) hR hF
theorem l_lateMany (hL : ML ρ) {t n : Nat} {cd : Nat → List Int32} (hU : RU ρ t cd) (hN : ρ.2 7 = nI n) (hn : n ≤ 7) {μ0 : Mm} : ∀ (m k : Nat) (s : Int32) (μ : Mm), k + m = n → RS b ρ μ → FM b μ0 μ → Ev g 4 mX12_lateMany 4 [some (.ref b), some (.int s), some (.int (nI k))] [] μ (fun v μ' => v = some (.int (lmnK (Fc ρ) (Se ρ) cd (ρ.1 25) m k s)) ∧ RS b ρ μ' ∧ FM b μ0 μ') := by
  intro m
  induction m with
  | zero =>
    intro k s μ hk hR hF
    obtain ⟨l, hl, hM⟩ := id hR
    refine ev_iload_n dX12_lateMany_4 rfl ?_
    refine ev_aload_n dX12_lateMany_5 rfl ?_
    refine ev_get dX12_lateMany_6 flX12_82_12 hM.1 rfl ?_
    refine ev_icmp_ge (tgt := 34) dX12_lateMany_9 (by decide) (fun _ => ?_) (fun h9 => absurd ((show ρ.2 7 ≤ nI k by rw [hN]; exact nI_le (by omega) (by omega))) h9)
    refine ev_iload_n dX12_lateMany_34 rfl ?_
    refine ev_iret dX12_lateMany_35 rfl ?_
    exact ⟨rfl, hR, hF⟩
  | succ m ih =>
    intro k s μ hk hR hF
    obtain ⟨l, hl, hM⟩ := id hR
    rw [lmnK]
    refine ev_iload_n dX12_lateMany_4 rfl ?_
    refine ev_aload_n dX12_lateMany_5 rfl ?_
    refine ev_get dX12_lateMany_6 flX12_82_12 hM.1 rfl ?_
    refine ev_icmp_ge (tgt := 34) dX12_lateMany_9 (by decide) (fun h9 => absurd h9 ((show ¬ ρ.2 7 ≤ nI k by rw [hN]; exact nI_ge (by omega) (by omega)))) (fun _ => ?_)
    refine ev_iload_n dX12_lateMany_12 rfl ?_
    refine ev_aload_n dX12_lateMany_13 rfl ?_
    refine ev_iload_n dX12_lateMany_14 rfl ?_
    refine k_v (c_lateOf hR hL hU (by omega)) (by decide) dX12_lateMany_15 cbX12_lateOf (mt6 36 rfl rfl) (mt6 38 rfl rfl) (ms0 68 rfl rfl) (ci := 12) rfl hM.1 rfl rfl (Nat.le_of_ble_eq_true rfl) (fun v μ1 hq => ?_)
    obtain ⟨rfl, hR, hF1⟩ := hq
    have hF := hF.tr hF1
    obtain ⟨l1, hl1, hM⟩ := id hR
    simp only [Option.toList, List.cons_append, List.nil_append]
    refine ev_if_le (tgt := 25) dX12_lateMany_18 (by decide) (fun h18 => ?_) (fun h18 => ?_)
    · refine ev_iconst (v := 0) dX12_lateMany_25 (by decide) ?_
      refine ev_iadd dX12_lateMany_26 ?_
      refine ev_istore_n dX12_lateMany_27 (by decide) ?_
      dsimp only [List.set]
      refine ev_iinc dX12_lateMany_28 rfl (by decide) ?_
      dsimp only [List.set]
      refine ev_goto (tgt := 4) dX12_lateMany_31 (by decide) ?_
      rw [nI_inc]
      first | rw [if_pos h18] | rw [if_neg h18]
      exact ih (k + 1) _ _ (by omega) hR hF
    · refine ev_iconst (v := 1) dX12_lateMany_21 (by decide) ?_
      refine ev_goto (tgt := 26) dX12_lateMany_22 (by decide) ?_
      refine ev_iadd dX12_lateMany_26 ?_
      refine ev_istore_n dX12_lateMany_27 (by decide) ?_
      dsimp only [List.set]
      refine ev_iinc dX12_lateMany_28 rfl (by decide) ?_
      dsimp only [List.set]
      refine ev_goto (tgt := 4) dX12_lateMany_31 (by decide) ?_
      rw [nI_inc]
      first | rw [if_pos h18] | rw [if_neg h18]
      exact ih (k + 1) _ _ (by omega) hR hF
theorem c_lateMany (hR : RS b ρ μ) (hL : ML ρ) {t n : Nat} {cd : Nat → List Int32} (hU : RU ρ t cd) (hN : ρ.2 7 = nI n) (hn : n ≤ 7) : Mt g 4 mX12_lateMany [.ref b] μ (fun v μ' => v = some (.int (lmnK (Fc ρ) (Se ρ) cd (ρ.1 25) n 0 0)) ∧ RS b ρ μ' ∧ FM b μ μ') := by
  refine Mt.of0 (ls0 := [some (.ref b), none, none]) (by decide) (by simp [Value.category]) (Nat.le_of_ble_eq_true rfl) rfl ?_
  have hF : FM b μ μ := FM.rf
  refine ev_iconst (v := 0) dX12_lateMany_0 (by decide) ?_
  refine ev_istore_n dX12_lateMany_1 (by decide) ?_
  dsimp only [List.set]
  refine ev_iconst (v := 0) dX12_lateMany_2 (by decide) ?_
  refine ev_istore_n dX12_lateMany_3 (by decide) ?_
  dsimp only [List.set]
  exact l_lateMany hL hU hN hn n 0 _ μ (by omega) hR hF
end MLATE
