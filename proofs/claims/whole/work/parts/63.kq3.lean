/-! ===== the class: drop, away, thrownBy, chance ===== -/
theorem gcd_le_of {x y k : Nat} (hy : 0 < y) (h : Nat.gcd x y ≤ k + 1) (hn : ¬ ((k + 1) ∣ x ∧ (k + 1) ∣ y)) : Nat.gcd x y ≤ k := by
  have h1 : Nat.gcd x y ≠ k + 1 := fun e => hn ⟨e ▸ Nat.gcd_dvd_left x y, e ▸ Nat.gcd_dvd_right x y⟩
  omega
theorem mul_b1 {x y : Int32} : (x &&& 1) * y = if x &&& 1 = 0 then 0 else y := by
  split
  · rename_i h; rw [h, Int32.zero_mul]
  · rename_i h; rw [(and1 x).mp h, Int32.one_mul]
section KQ3
variable {g : Gl} {a m tx n t : Nat} {ρ : MS} {cd : Nat → List Int32} {Lf : Nat → Nat} {σ : KS} {μ : Mm}
theorem l_kWithout (hI : IM ρ n t tx cd Lf) {σ0 : KS} (hT0 : KTie ρ n t tx cd Lf m σ0) {set : Int32} {μ0 : Mm} : ∀ (k i : Nat) (os : List Nat) (σ : KS) (μ : Mm), i + k = n → os.length ≤ i → KM a m tx σ μ → EqK [11] [] σ σ0 → (σ.1 11).length = 7 → PreL (σ.1 11) os → (∀ h ∈ os, h < n) → FC a μ0 μ → Ev g 5 mX11_goWithout 4 [some (.ref a), some (.int set), some (.int (nI os.length)), some (.int (nI i))] [] μ (fun v μ' => v = some (.int (rd0 (Fc ρ) (Se ρ) (os ++ woK set Lf k i)).1) ∧ KV a ρ n t tx cd Lf m μ' ∧ FC a μ0 μ') := by
  have hn7 := hI.2.2.1.2
  have sc : ∀ σ : KS, EqK [11] [] σ σ0 → (σ.1 11).length = 7 → ScK t σ σ0 := fun σ hE hl => ⟨hE.wd (by simp) (by simp), by rw [hE.1 10 (by decide)], by rw [hl, hT0.ln (k := 11) (z := 7) (by decide)], by rw [hE.1 (201 + 3 * t) (by simp; omega)]⟩
  intro k
  induction k with
  | zero =>
    intro i os σ μ hi ho hM hE hl hP hos hF
    have hT := hT0.sc (sc σ hE hl)
    rw [woK, List.append_nil]
    refine ev_iload_n dX11_goWithout_4 rfl ?_
    refine ev_aload_n dX11_goWithout_5 rfl ?_
    refine ev_get dX11_goWithout_6 flX11_15_11 (hM.o 0 11 (by decide)) rfl ?_
    rw [hT.hc]
    refine ev_icmp_ge (tgt := 46) dX11_goWithout_9 (by decide) (fun _ => ?_) (fun h9 => absurd ((nI_le (by omega) (by omega))) h9)
    refine ev_aload_n dX11_goWithout_46 rfl ?_
    refine ev_aload_n dX11_goWithout_47 rfl ?_
    refine ev_get dX11_goWithout_48 flX11_69_11 (hM.o 0 11 (by decide)) rfl ?_
    refine ev_iconst (v := 0) dX11_goWithout_51 (by decide) ?_
    refine ev_iload_n dX11_goWithout_52 rfl ?_
    refine k_v (c_kGo (fr := 0) (os := os) hI.1 hI.2.1 hn7 hM hT (o := 11) (Or.inr rfl) (fun i h hh => by rw [Nat.zero_add]; exact ⟨(hP i h hh).1, hos h (List.mem_of_getElem? hh)⟩) (by rw [Nat.zero_add]) (by omega)) (by decide) dX11_goWithout_53 cbX11_goThrough (mt3 194 rfl rfl) (mt3 196 rfl rfl) (ms0 22 rfl rfl) (ci := 11) rfl (hM.o 0 11 (by decide)) rfl rfl (Nat.le_of_ble_eq_true rfl) (fun v μ1 hq => ?_)
    obtain ⟨rfl, ⟨σ', hM', hE', hl', hb', ha'⟩, hF'⟩ := hq
    simp only [Option.toList, List.cons_append, List.nil_append]
    refine ev_iret dX11_goWithout_56 rfl ?_
    exact ⟨rfl, ⟨σ', hM', hT.sc (ScK.of10 hE' (hl'.trans (hT.ln (k := 10) (z := 7) (by decide)).symm))⟩, hF.tr hF'⟩
  | succ k ih =>
    intro i os σ μ hi ho hM hE hl hP hos hF
    have hT := hT0.sc (sc σ hE hl)
    have hLi := (hI.2.2.2.2.2.2.1 i (by omega)).2
    rw [woK]
    refine ev_iload_n dX11_goWithout_4 rfl ?_
    refine ev_aload_n dX11_goWithout_5 rfl ?_
    refine ev_get dX11_goWithout_6 flX11_15_11 (hM.o 0 11 (by decide)) rfl ?_
    rw [hT.hc]
    refine ev_icmp_ge (tgt := 46) dX11_goWithout_9 (by decide) (fun h9 => absurd h9 ((nI_ge (by omega) (by omega)))) (fun _ => ?_)
    refine ev_iload_n dX11_goWithout_12 rfl ?_
    refine ev_aload_n dX11_goWithout_13 rfl ?_
    refine ev_get dX11_goWithout_14 flX11_19_11 (hM.o 0 11 (by decide)) rfl ?_
    refine ev_iload_n dX11_goWithout_17 rfl ?_
    refine ev_iald dX11_goWithout_18 (hM.r 2 (by decide)) (ix_n (by omega)) (hT.ls i (by omega)) ?_
    refine ev_ishr dX11_goWithout_19 ?_
    refine ev_iconst (v := 1) dX11_goWithout_20 (by decide) ?_
    refine ev_iand dX11_goWithout_21 ?_
    refine ev_if_ne (tgt := 40) dX11_goWithout_22 (by decide) (fun h22 => ?_) (fun h22 => ?_)
    · refine ev_iinc dX11_goWithout_40 rfl (by decide) ?_
      dsimp only [List.set]
      refine ev_goto (tgt := 4) dX11_goWithout_43 (by decide) ?_
      rw [nI_inc]
      first
        | (have q := (and1 _).mp h22
           rw [if_pos q]
           exact ih (i + 1) os σ _ (by omega) (by omega) hM hE hl hP hos hF)
        | (have q : ¬ (set >>> (nI (Lf i) &&& 31)) &&& 1 = 1 := fun z => absurd h22 ((and1 _).mpr z)
           rw [if_neg q, nI_inc]
           have hz := ih (i + 1) (os ++ [Lf i]) _ _ (by omega) (by simp; omega) hM (hE.sR (by simp)) (show ((σ.1 11).set os.length (nI (Lf i))).length = 7 by rw [List.length_set]; exact hl) (show PreL ((σ.1 11).set os.length (nI (Lf i))) (os ++ [Lf i]) from hP.snoc (by omega) (by omega)) (fun h hm => (List.mem_append.mp hm).elim (hos h) (fun q => by rw [List.mem_singleton.mp q]; exact hLi)) hF
           rw [List.append_assoc, List.length_append, List.length_singleton] at hz
           exact hz)
    · refine ev_aload_n dX11_goWithout_25 rfl ?_
      refine ev_get dX11_goWithout_26 flX11_69_11 (hM.o 0 11 (by decide)) rfl ?_
      refine ev_iload_n dX11_goWithout_29 rfl ?_
      refine ev_aload_n dX11_goWithout_30 rfl ?_
      refine ev_get dX11_goWithout_31 flX11_19_11 (hM.o 0 11 (by decide)) rfl ?_
      refine ev_iload_n dX11_goWithout_34 rfl ?_
      refine ev_iald dX11_goWithout_35 (hM.r 2 (by decide)) (ix_n (by omega)) (hT.ls i (by omega)) ?_
      refine evK_iast hM hF (k := 11) (by decide) dX11_goWithout_36 (ix_n (by omega)) (show os.length < (σ.1 11).length by omega) (fun μ hM hF => ?_)
      refine ev_iinc dX11_goWithout_37 rfl (by decide) ?_
      dsimp only [List.set]
      refine ev_iinc dX11_goWithout_40 rfl (by decide) ?_
      dsimp only [List.set]
      refine ev_goto (tgt := 4) dX11_goWithout_43 (by decide) ?_
      rw [nI_inc]
      first
        | (have q := (and1 _).mp h22
           rw [if_pos q]
           exact ih (i + 1) os σ _ (by omega) (by omega) hM hE hl hP hos hF)
        | (have q : ¬ (set >>> (nI (Lf i) &&& 31)) &&& 1 = 1 := fun z => absurd h22 ((and1 _).mpr z)
           rw [if_neg q, nI_inc]
           have hz := ih (i + 1) (os ++ [Lf i]) _ _ (by omega) (by simp; omega) hM (hE.sR (by simp)) (show ((σ.1 11).set os.length (nI (Lf i))).length = 7 by rw [List.length_set]; exact hl) (show PreL ((σ.1 11).set os.length (nI (Lf i))) (os ++ [Lf i]) from hP.snoc (by omega) (by omega)) (fun h hm => (List.mem_append.mp hm).elim (hos h) (fun q => by rw [List.mem_singleton.mp q]; exact hLi)) hF
           rw [List.append_assoc, List.length_append, List.length_singleton] at hz
           exact hz)
theorem c_kWithout (hI : IM ρ n t tx cd Lf) (hM : KM a m tx σ μ) (hT : KTie ρ n t tx cd Lf m σ) (set : Int32) : Mt g 5 mX11_goWithout [.ref a, .int set] μ (fun v μ' => v = some (.int (rd0 (Fc ρ) (Se ρ) (woK set Lf n 0)).1) ∧ KV a ρ n t tx cd Lf m μ' ∧ FC a μ μ') := by
  refine Mt.of0 (ls0 := [some (.ref a), some (.int set), none, none]) (by decide) (by simp [Value.category]) (Nat.le_of_ble_eq_true rfl) rfl ?_
  refine ev_iconst (v := 0) dX11_goWithout_0 (by decide) ?_
  refine ev_istore_n dX11_goWithout_1 (by decide) ?_
  dsimp only [List.set]
  refine ev_iconst (v := 0) dX11_goWithout_2 (by decide) ?_
  refine ev_istore_n dX11_goWithout_3 (by decide) ?_
  dsimp only [List.set]
  exact l_kWithout hI hT n 0 [] σ _ (by omega) (Nat.le_refl _) hM EqK.rf (hT.ln (k := 11) (by decide)) PreL.nil (fun h hm => by simp at hm) FC.rf
theorem c_kDrop (hI : IM ρ n t tx cd Lf) (hM : KM a m tx σ μ) (hT : KTie ρ n t tx cd Lf m σ) (h : Int32) : Mt g 6 mX11_drop [.ref a, .int h] μ (fun v μ' => v = some (.int (ansDrop ρ n Lf h)) ∧ KV a ρ n t tx cd Lf m μ' ∧ FC a μ μ') := by
  refine Mt.of0 (ls0 := [some (.ref a), some (.int h)]) (by decide) (by simp [Value.category]) (Nat.le_of_ble_eq_true rfl) rfl ?_
  rw [ansDrop]
  refine ev_aload_n dX11_drop_0 rfl ?_
  refine ev_iload_n dX11_drop_1 rfl ?_
  refine k_v (c_kHouse hM hT.hc h) (by decide) dX11_drop_2 cbX11_isHouse (mt3 65 rfl rfl) (mt3 67 rfl rfl) (ms0 18 rfl rfl) (ci := 11) rfl (hM.o 0 11 (by decide)) rfl rfl (Nat.le_of_ble_eq_true rfl) (fun v μ1 hq => ?_)
  obtain ⟨rfl, hμ⟩ := hq
  have hμ := hμ.symm
  subst hμ
  simp only [Option.toList, List.cons_append, List.nil_append]
  refine ev_if_eq (tgt := 18) dX11_drop_5 (by decide) (fun h5 => ?_) (fun h5 => ?_)
  · refine ev_bipush (v := (-2)) dX11_drop_18 (by decide) ?_
    refine ev_iret dX11_drop_20 rfl ?_
    first
      | (rw [if_pos (b2i_ne h5)]; exact ⟨rfl, hV, hF⟩)
      | (rw [if_neg (b2i_eq h5)]; exact ⟨rfl, ⟨σ, hM, hT⟩, FC.rf⟩)
  · refine ev_aload_n dX11_drop_8 rfl ?_
    refine ev_iconst (v := 1) dX11_drop_9 (by decide) ?_
    refine ev_iload_n dX11_drop_10 rfl ?_
    refine ev_ishl dX11_drop_11 ?_
    refine k_v (c_kWithout hI hM hT _) (by decide) dX11_drop_12 cbX11_goWithout (mt4 150 rfl rfl) (mt4 152 rfl rfl) (ms0 40 rfl rfl) (ci := 11) rfl (hM.o 0 11 (by decide)) rfl rfl (Nat.le_of_ble_eq_true rfl) (fun v μ1 hq => ?_)
    obtain ⟨rfl, hV, hF⟩ := hq
    simp only [Option.toList, List.cons_append, List.nil_append]
    refine ev_goto (tgt := 20) dX11_drop_15 (by decide) ?_
    refine ev_iret dX11_drop_20 rfl ?_
    first
      | (rw [if_pos (b2i_ne h5)]; exact ⟨rfl, hV, hF⟩)
      | (rw [if_neg (b2i_eq h5)]; exact ⟨rfl, ⟨σ, hM, hT⟩, FC.rf⟩)
theorem l_kThickT (hI : IM ρ n t tx cd Lf) (hM : KM a m tx σ μ) (hT : KTie ρ n t tx cd Lf m σ) {set : Int32} : ∀ (k i : Nat) (s : Int32), i + k = n → Ev g 1 mX11_thickTogether 4 [some (.ref a), some (.int set), some (.int s), some (.int (nI i))] [] μ (fun v μ' => v = some (.int (tkbK (Fc ρ) (Se ρ) set k i s)) ∧ μ' = μ) := by
  have hn7 := hI.2.2.1.2
  have h7 := hM.ad.2.2.2.2.2.2.1
  have hnm := hT.nm
  have e3 : σ.1 3 = ρ.1 6 := hT.tm
  have hl3 : (σ.1 3).length = 10 := hT.ln (k := 3) (by decide)
  intro k
  induction k with
  | zero =>
    intro i s hi
    refine ev_iload_n dX11_thickTogether_4 rfl ?_
    refine ev_aload_n dX11_thickTogether_5 rfl ?_
    refine ev_get dX11_thickTogether_6 flX11_15_11 (hM.o 0 11 (by decide)) rfl ?_
    rw [hT.hc]
    refine ev_icmp_ge (tgt := 45) dX11_thickTogether_9 (by decide) (fun _ => ?_) (fun h9 => absurd ((nI_le (by omega) (by omega))) h9)
    refine ev_iload_n dX11_thickTogether_45 rfl ?_
    refine ev_iret dX11_thickTogether_46 rfl ?_
    exact ⟨rfl, rfl⟩
  | succ k ih =>
    intro i s hi
    obtain ⟨hd, hkc⟩ := hT.door hM (show i < n by omega)
    have hVh := hI.1 i (by omega)
    rw [tkbK, mul_b1]
    refine ev_iload_n dX11_thickTogether_4 rfl ?_
    refine ev_aload_n dX11_thickTogether_5 rfl ?_
    refine ev_get dX11_thickTogether_6 flX11_15_11 (hM.o 0 11 (by decide)) rfl ?_
    rw [hT.hc]
    refine ev_icmp_ge (tgt := 45) dX11_thickTogether_9 (by decide) (fun h9 => absurd h9 ((nI_ge (by omega) (by omega)))) (fun _ => ?_)
    refine ev_iload_n dX11_thickTogether_12 rfl ?_
    refine ev_iload_n dX11_thickTogether_13 rfl ?_
    refine ev_ishr dX11_thickTogether_14 ?_
    refine ev_iconst (v := 1) dX11_thickTogether_15 (by decide) ?_
    refine ev_iand dX11_thickTogether_16 ?_
    refine ev_if_eq (tgt := 39) dX11_thickTogether_17 (by decide) (fun h17 => ?_) (fun h17 => ?_)
    · refine ev_iinc dX11_thickTogether_39 rfl (by decide) ?_
      dsimp only [List.set]
      refine ev_goto (tgt := 4) dX11_thickTogether_42 (by decide) ?_
      rw [nI_inc]
      first
        | (rw [if_pos h17, Int32.add_zero]; exact ih (i + 1) s (by omega))
        | (rw [if_neg h17]; exact ih (i + 1) _ (by omega))
    · refine ev_iload_n dX11_thickTogether_20 rfl ?_
      refine ev_aload_n dX11_thickTogether_21 rfl ?_
      refine ev_get dX11_thickTogether_22 flX11_31_11 (hM.o 0 11 (by decide)) rfl ?_
      refine ev_aload_n dX11_thickTogether_25 rfl ?_
      refine ev_get dX11_thickTogether_26 flX11_11_11 (hM.o 0 11 (by decide)) rfl ?_
      refine ev_iload_n dX11_thickTogether_29 rfl ?_
      refine ev_aald dX11_thickTogether_30 hM.dl (by decide) (by decide) (ix_n (by omega)) (kDl_at (m := m) (by omega) h7) ?_
      refine ev_get dX11_thickTogether_31 (glX11_157 hkc.1) hd rfl ?_
      refine k_s (c_kThick (hM.r 3 (by decide)) hl3 hVh.2.2.2.2) (by decide) dX11_thickTogether_34 cbX11_thickOf (mt3 115 rfl rfl) (mt3 116 rfl rfl) rfl rfl (Nat.le_of_ble_eq_true rfl) (fun v μ1 hq => ?_)
      obtain ⟨rfl, hμ⟩ := hq
      have hμ := hμ.symm
      subst hμ
      simp only [Option.toList, List.cons_append, List.nil_append]
      rw [e3, show (ρ.1 6).getD (6 + (Fc ρ 4 i).toInt.toNat) 0 = thk (Fc ρ) (Se ρ) i from rfl]
      refine ev_iadd dX11_thickTogether_37 ?_
      refine ev_istore_n dX11_thickTogether_38 (by decide) ?_
      dsimp only [List.set]
      refine ev_iinc dX11_thickTogether_39 rfl (by decide) ?_
      dsimp only [List.set]
      refine ev_goto (tgt := 4) dX11_thickTogether_42 (by decide) ?_
      rw [nI_inc]
      first
        | (rw [if_pos h17, Int32.add_zero]; exact ih (i + 1) s (by omega))
        | (rw [if_neg h17]; exact ih (i + 1) _ (by omega))
theorem c_kThickT (hI : IM ρ n t tx cd Lf) (hM : KM a m tx σ μ) (hT : KTie ρ n t tx cd Lf m σ) (set : Int32) : Pu g 1 mX11_thickTogether [.ref a, .int set] μ (tkbK (Fc ρ) (Se ρ) set n 0 0) := by
  refine Mt.of0 (ls0 := [some (.ref a), some (.int set), none, none]) (by decide) (by simp [Value.category]) (Nat.le_of_ble_eq_true rfl) rfl ?_
  refine ev_iconst (v := 0) dX11_thickTogether_0 (by decide) ?_
  refine ev_istore_n dX11_thickTogether_1 (by decide) ?_
  dsimp only [List.set]
  refine ev_iconst (v := 0) dX11_thickTogether_2 (by decide) ?_
  refine ev_istore_n dX11_thickTogether_3 (by decide) ?_
  dsimp only [List.set]
  exact l_kThickT hI hM hT n 0 0 (by omega)
theorem c_kAway (hI : IM ρ n t tx cd Lf) (hM : KM a m tx σ μ) (hT : KTie ρ n t tx cd Lf m σ) (set w : Int32) : Mt g 6 mX11_away [.ref a, .int set, .int w] μ (fun v μ' => v = some (.int (ansAway ρ n Lf set w)) ∧ KV a ρ n t tx cd Lf m μ' ∧ FC a μ μ') := by
  refine Mt.of0 (ls0 := [some (.ref a), some (.int set), some (.int w)]) (by decide) (by simp [Value.category]) (Nat.le_of_ble_eq_true rfl) rfl ?_
  have hn7 := hI.2.2.1.2
  have hsh : set ≤ 1 <<< (nI n &&& 31) - 1 ↔ ¬ (1 : Int32) <<< (nI n &&& 31) ≤ set := by
    have h8 : ∀ n, n < 8 → ((1 : Int32) <<< (nI n &&& 31)).toInt = ((2 ^ n : Nat) : Int) ∧ ((1 : Int32) <<< (nI n &&& 31) - 1).toInt = ((2 ^ n : Nat) : Int) - 1 := by decide
    obtain ⟨q1, q2⟩ := h8 n (by omega)
    rw [Int32.le_iff_toInt_le, Int32.le_iff_toInt_le, q1, q2]
    omega
  rw [ansAway]
  refine ev_iload_n dX11_away_0 rfl ?_
  refine ev_if_lt (tgt := 23) dX11_away_1 (by decide) (fun h1 => ?_) (fun h1 => ?_)
  · refine ev_bipush (v := (-2)) dX11_away_23 (by decide) ?_
    refine ev_iret dX11_away_25 rfl ?_
    rw [if_neg (fun q => by first | exact Int32.not_lt.mpr q.1.1 h1 | exact hsh.mp q.1.2 h11 | exact Int32.not_lt.mpr q.2.1 h15 | exact h20 q.2.2)]
    exact ⟨rfl, ⟨σ, hM, hT⟩, FC.rf⟩
  · refine ev_iload_n dX11_away_4 rfl ?_
    refine ev_iconst (v := 1) dX11_away_5 (by decide) ?_
    refine ev_aload_n dX11_away_6 rfl ?_
    refine ev_get dX11_away_7 flX11_15_11 (hM.o 0 11 (by decide)) rfl ?_
    rw [hT.hc]
    refine ev_ishl dX11_away_10 ?_
    refine ev_icmp_ge (tgt := 23) dX11_away_11 (by decide) (fun h11 => ?_) (fun h11 => ?_)
    · refine ev_bipush (v := (-2)) dX11_away_23 (by decide) ?_
      refine ev_iret dX11_away_25 rfl ?_
      rw [if_neg (fun q => by first | exact Int32.not_lt.mpr q.1.1 h1 | exact hsh.mp q.1.2 h11 | exact Int32.not_lt.mpr q.2.1 h15 | exact h20 q.2.2)]
      exact ⟨rfl, ⟨σ, hM, hT⟩, FC.rf⟩
    · refine ev_iload_n dX11_away_14 rfl ?_
      refine ev_if_lt (tgt := 23) dX11_away_15 (by decide) (fun h15 => ?_) (fun h15 => ?_)
      · refine ev_bipush (v := (-2)) dX11_away_23 (by decide) ?_
        refine ev_iret dX11_away_25 rfl ?_
        rw [if_neg (fun q => by first | exact Int32.not_lt.mpr q.1.1 h1 | exact hsh.mp q.1.2 h11 | exact Int32.not_lt.mpr q.2.1 h15 | exact h20 q.2.2)]
        exact ⟨rfl, ⟨σ, hM, hT⟩, FC.rf⟩
      · refine ev_iload_n dX11_away_18 rfl ?_
        refine ev_iconst (v := 1) dX11_away_19 (by decide) ?_
        refine ev_icmp_le (tgt := 26) dX11_away_20 (by decide) (fun h20 => ?_) (fun h20 => ?_)
        · rw [if_pos ⟨⟨Int32.not_lt.mp h1, hsh.mpr h11⟩, Int32.not_lt.mp h15, h20⟩]
          refine ev_iload_n dX11_away_26 rfl ?_
          refine ev_if_ne (tgt := 38) dX11_away_27 (by decide) (fun h27 => ?_) (fun h27 => ?_)
          · refine ev_aload_n dX11_away_38 rfl ?_
            refine ev_iload_n dX11_away_39 rfl ?_
            refine k_v (c_kThickT hI hM hT _) (by decide) dX11_away_40 cbX11_thickTogether (mt4 158 rfl rfl) (mt4 160 rfl rfl) (ms0 41 rfl rfl) (ci := 11) rfl (hM.o 0 11 (by decide)) rfl rfl (Nat.le_of_ble_eq_true rfl) (fun v μ1 hq => ?_)
            obtain ⟨rfl, hμ⟩ := hq
            have hμ := hμ.symm
            subst hμ
            simp only [Option.toList, List.cons_append, List.nil_append]
            refine ev_iret dX11_away_43 rfl ?_
            first
              | (rw [if_pos h27]; exact ⟨rfl, hV, hF⟩)
              | (rw [if_neg h27]; exact ⟨rfl, ⟨σ, hM, hT⟩, FC.rf⟩)
          · refine ev_aload_n dX11_away_30 rfl ?_
            refine ev_iload_n dX11_away_31 rfl ?_
            refine k_v (c_kWithout hI hM hT _) (by decide) dX11_away_32 cbX11_goWithout (mt4 150 rfl rfl) (mt4 152 rfl rfl) (ms0 40 rfl rfl) (ci := 11) rfl (hM.o 0 11 (by decide)) rfl rfl (Nat.le_of_ble_eq_true rfl) (fun v μ1 hq => ?_)
            obtain ⟨rfl, hV, hF⟩ := hq
            simp only [Option.toList, List.cons_append, List.nil_append]
            refine ev_goto (tgt := 43) dX11_away_35 (by decide) ?_
            refine ev_iret dX11_away_43 rfl ?_
            first
              | (rw [if_pos h27]; exact ⟨rfl, hV, hF⟩)
              | (rw [if_neg h27]; exact ⟨rfl, ⟨σ, hM, hT⟩, FC.rf⟩)
        · refine ev_bipush (v := (-2)) dX11_away_23 (by decide) ?_
          refine ev_iret dX11_away_25 rfl ?_
          rw [if_neg (fun q => by first | exact Int32.not_lt.mpr q.1.1 h1 | exact hsh.mp q.1.2 h11 | exact Int32.not_lt.mpr q.2.1 h15 | exact h20 q.2.2)]
          exact ⟨rfl, ⟨σ, hM, hT⟩, FC.rf⟩
theorem l_kRight (hI : IM ρ n t tx cd Lf) (hM : KM a m tx σ μ) (hT : KTie ρ n t tx cd Lf m σ) {seed odds : Int32} : ∀ (k i : Nat) (z s : Int32), i + k = n → Ev g 0 mX11_lyingRight 8 [some (.ref a), some (.int seed), some (.int odds), some (.int z), some (.int s), some (.int (nI i))] [] μ (fun v μ' => v = some (.int (rgtK odds k z s)) ∧ μ' = μ) := by
  have hn7 := hI.2.2.1.2
  intro k
  induction k with
  | zero =>
    intro i z s hi
    refine ev_iload dX11_lyingRight_8 rfl ?_
    refine ev_aload_n dX11_lyingRight_10 rfl ?_
    refine ev_get dX11_lyingRight_11 flX11_15_11 (hM.o 0 11 (by decide)) rfl ?_
    rw [hT.hc]
    refine ev_icmp_ge (tgt := 47) dX11_lyingRight_14 (by decide) (fun _ => ?_) (fun h14 => absurd ((nI_le (by omega) (by omega))) h14)
    refine ev_iload dX11_lyingRight_47 rfl ?_
    refine ev_iret dX11_lyingRight_49 rfl ?_
    exact ⟨rfl, rfl⟩
  | succ k ih =>
    intro i z s hi
    rw [rgtK]
    refine ev_iload dX11_lyingRight_8 rfl ?_
    refine ev_aload_n dX11_lyingRight_10 rfl ?_
    refine ev_get dX11_lyingRight_11 flX11_15_11 (hM.o 0 11 (by decide)) rfl ?_
    rw [hT.hc]
    refine ev_icmp_ge (tgt := 47) dX11_lyingRight_14 (by decide) (fun h14 => absurd h14 ((nI_ge (by omega) (by omega)))) (fun _ => ?_)
    refine ev_iload_n dX11_lyingRight_17 rfl ?_
    refine ev_ldcw dX11_lyingRight_18 (mt4 174 rfl rfl) ?_
    refine ev_imul dX11_lyingRight_21 ?_
    refine ev_sipush (v := 12345) dX11_lyingRight_22 (by decide) ?_
    refine ev_iadd dX11_lyingRight_25 ?_
    refine ev_istore_n dX11_lyingRight_26 (by decide) ?_
    dsimp only [List.set]
    refine ev_iload_n dX11_lyingRight_27 rfl ?_
    refine ev_bipush (v := 10) dX11_lyingRight_28 (by decide) ?_
    refine ev_iushr dX11_lyingRight_30 ?_
    refine ev_bipush (v := 10) dX11_lyingRight_31 (by decide) ?_
    refine ev_irem dX11_lyingRight_33 (by decide) ?_
    refine ev_iload_n dX11_lyingRight_34 rfl ?_
    refine ev_icmp_ge (tgt := 41) dX11_lyingRight_35 (by decide) (fun h35 => ?_) (fun h35 => ?_)
    · refine ev_iinc dX11_lyingRight_41 rfl (by decide) ?_
      dsimp only [List.set]
      refine ev_goto (tgt := 8) dX11_lyingRight_44 (by decide) ?_
      rw [nI_inc]
      first
        | (rw [b2i_f (Int32.not_lt.mpr h35), Int32.add_zero]; exact ih (i + 1) _ _ (by omega))
        | (rw [b2i_t (Int32.not_le.mp h35)]; exact ih (i + 1) _ _ (by omega))
    · refine ev_iinc dX11_lyingRight_38 rfl (by decide) ?_
      dsimp only [List.set]
      refine ev_iinc dX11_lyingRight_41 rfl (by decide) ?_
      dsimp only [List.set]
      refine ev_goto (tgt := 8) dX11_lyingRight_44 (by decide) ?_
      rw [nI_inc]
      first
        | (rw [b2i_f (Int32.not_lt.mpr h35), Int32.add_zero]; exact ih (i + 1) _ _ (by omega))
        | (rw [b2i_t (Int32.not_le.mp h35)]; exact ih (i + 1) _ _ (by omega))
theorem c_kRight (hI : IM ρ n t tx cd Lf) (hM : KM a m tx σ μ) (hT : KTie ρ n t tx cd Lf m σ) (seed odds : Int32) : Pu g 0 mX11_lyingRight [.ref a, .int seed, .int odds] μ (rgtK odds n seed 0) := by
  refine Mt.of0 (ls0 := [some (.ref a), some (.int seed), some (.int odds), none, none, none]) (by decide) (by simp [Value.category]) (Nat.le_of_ble_eq_true rfl) rfl ?_
  refine ev_iload_n dX11_lyingRight_0 rfl ?_
  refine ev_istore_n dX11_lyingRight_1 (by decide) ?_
  dsimp only [List.set]
  refine ev_iconst (v := 0) dX11_lyingRight_2 (by decide) ?_
  refine ev_istore dX11_lyingRight_3 (by decide) ?_
  dsimp only [List.set]
  refine ev_iconst (v := 0) dX11_lyingRight_5 (by decide) ?_
  refine ev_istore dX11_lyingRight_6 (by decide) ?_
  dsimp only [List.set]
  exact l_kRight hI hM hT n 0 _ _ (by omega)
theorem c_kThrown (hI : IM ρ n t tx cd Lf) (hM : KM a m tx σ μ) (hT : KTie ρ n t tx cd Lf m σ) (seed odds : Int32) : Mt g 1 mX11_thrownBy [.ref a, .int seed, .int odds] μ (fun v μ' => v = some (.int (ansThrown n seed odds)) ∧ KV a ρ n t tx cd Lf m μ' ∧ FC a μ μ') := by
  refine Mt.of0 (ls0 := [some (.ref a), some (.int seed), some (.int odds)]) (by decide) (by simp [Value.category]) (Nat.le_of_ble_eq_true rfl) rfl ?_
  rw [ansThrown]
  refine ev_iload_n dX11_thrownBy_0 rfl ?_
  refine ev_if_lt (tgt := 10) dX11_thrownBy_1 (by decide) (fun h1 => ?_) (fun h1 => ?_)
  · refine ev_bipush (v := (-2)) dX11_thrownBy_10 (by decide) ?_
    refine ev_goto (tgt := 21) dX11_thrownBy_12 (by decide) ?_
    refine ev_iret dX11_thrownBy_21 rfl ?_
    first
      | (rw [if_pos ⟨Int32.not_lt.mp h1, h7⟩]; exact ⟨rfl, ⟨σ, hM, hT⟩, FC.rf⟩)
      | (rw [if_neg (fun q => by first | exact Int32.not_lt.mpr q.1 h1 | exact h7 q.2)]; exact ⟨rfl, ⟨σ, hM, hT⟩, FC.rf⟩)
  · refine ev_iload_n dX11_thrownBy_4 rfl ?_
    refine ev_bipush (v := 10) dX11_thrownBy_5 (by decide) ?_
    refine ev_icmp_le (tgt := 15) dX11_thrownBy_7 (by decide) (fun h7 => ?_) (fun h7 => ?_)
    · refine ev_aload_n dX11_thrownBy_15 rfl ?_
      refine ev_iload_n dX11_thrownBy_16 rfl ?_
      refine ev_iload_n dX11_thrownBy_17 rfl ?_
      refine k_v (c_kRight hI hM hT _ _) (by decide) dX11_thrownBy_18 cbX11_lyingRight (mt4 170 rfl rfl) (mt4 172 rfl rfl) (ms0 42 rfl rfl) (ci := 11) rfl (hM.o 0 11 (by decide)) rfl rfl (Nat.le_of_ble_eq_true rfl) (fun v μ1 hq => ?_)
      obtain ⟨rfl, hμ⟩ := hq
      have hμ := hμ.symm
      subst hμ
      simp only [Option.toList, List.cons_append, List.nil_append]
      refine ev_iret dX11_thrownBy_21 rfl ?_
      first
        | (rw [if_pos ⟨Int32.not_lt.mp h1, h7⟩]; exact ⟨rfl, ⟨σ, hM, hT⟩, FC.rf⟩)
        | (rw [if_neg (fun q => by first | exact Int32.not_lt.mpr q.1 h1 | exact h7 q.2)]; exact ⟨rfl, ⟨σ, hM, hT⟩, FC.rf⟩)
    · refine ev_bipush (v := (-2)) dX11_thrownBy_10 (by decide) ?_
      refine ev_goto (tgt := 21) dX11_thrownBy_12 (by decide) ?_
      refine ev_iret dX11_thrownBy_21 rfl ?_
      first
        | (rw [if_pos ⟨Int32.not_lt.mp h1, h7⟩]; exact ⟨rfl, ⟨σ, hM, hT⟩, FC.rf⟩)
        | (rw [if_neg (fun q => by first | exact Int32.not_lt.mpr q.1 h1 | exact h7 q.2)]; exact ⟨rfl, ⟨σ, hM, hT⟩, FC.rf⟩)
theorem l_kDivisor {x y : Nat} (hx : x < 21) (hy : y < 21) (hy0 : 0 < y) : ∀ (k : Nat), k ≤ y → Nat.gcd x y ≤ k → Ev g 0 mX11_commonDivisor 2 [some (.int (nI x)), some (.int (nI y)), some (.int (nI k))] [] μ (fun v μ' => v = some (.int (nI (Nat.gcd x y))) ∧ μ' = μ) := by
  have hg0 : 0 < Nat.gcd x y := Nat.gcd_pos_of_pos_right x hy0
  intro k
  induction k with
  | zero => intro hk hg; omega
  | succ k ih =>
    intro hk hg
    by_cases h1 : k = 0
    · subst h1
      have e : Nat.gcd x y = 1 := by omega
      rw [e]
      refine ev_iload_n dX11_commonDivisor_2 rfl ?_
      refine ev_iconst (v := 1) dX11_commonDivisor_3 (by decide) ?_
      refine ev_icmp_le (tgt := 27) dX11_commonDivisor_4 (by decide) (fun _ => ?_) (fun h4 => absurd ((show nI (0 + 1) ≤ 1 from Int32.le_refl _)) h4)
      refine ev_iconst (v := 1) dX11_commonDivisor_27 (by decide) ?_
      refine ev_iret dX11_commonDivisor_28 rfl ?_
      exact ⟨rfl, rfl⟩
    · have r1 := rem20 x hx (k + 1) (by omega) (by omega)
      have r2 := rem20 y hy (k + 1) (by omega) (by omega)
      have hk0 : ¬ nI (k + 1) = 0 := by rw [nI_eq0 (by omega)]; omega
      have m1 : x % (k + 1) < 2 ^ 31 := Nat.lt_of_le_of_lt (Nat.mod_le x _) (by omega)
      have m2 : y % (k + 1) < 2 ^ 31 := Nat.lt_of_le_of_lt (Nat.mod_le y _) (by omega)
      refine ev_iload_n dX11_commonDivisor_2 rfl ?_
      refine ev_iconst (v := 1) dX11_commonDivisor_3 (by decide) ?_
      refine ev_icmp_le (tgt := 27) dX11_commonDivisor_4 (by decide) (fun h4 => absurd h4 ((show ¬ nI (k + 1) ≤ nI 1 from nI_ge (by omega) (by omega)))) (fun _ => ?_)
      refine ev_iload_n dX11_commonDivisor_7 rfl ?_
      refine ev_iload_n dX11_commonDivisor_8 rfl ?_
      refine ev_irem dX11_commonDivisor_9 hk0 ?_
      refine ev_if_ne (tgt := 21) dX11_commonDivisor_10 (by decide) (fun h10 => ?_) (fun h10 => ?_)
      · refine ev_iinc dX11_commonDivisor_21 rfl (by decide) ?_
        dsimp only [List.set]
        refine ev_goto (tgt := 2) dX11_commonDivisor_24 (by decide) ?_
        rw [nI_dec]
        refine ih (by omega) (gcd_le_of hy0 hg (fun q => ?_))
        first
          | (rw [r1, nI_eq0 m1] at h10; exact h10 (Nat.mod_eq_zero_of_dvd q.1))
          | (rw [r2, nI_eq0 m2] at h16; exact h16 (Nat.mod_eq_zero_of_dvd q.2))
      · refine ev_iload_n dX11_commonDivisor_13 rfl ?_
        refine ev_iload_n dX11_commonDivisor_14 rfl ?_
        refine ev_irem dX11_commonDivisor_15 hk0 ?_
        refine ev_if_ne (tgt := 21) dX11_commonDivisor_16 (by decide) (fun h16 => ?_) (fun h16 => ?_)
        · refine ev_iinc dX11_commonDivisor_21 rfl (by decide) ?_
          dsimp only [List.set]
          refine ev_goto (tgt := 2) dX11_commonDivisor_24 (by decide) ?_
          rw [nI_dec]
          refine ih (by omega) (gcd_le_of hy0 hg (fun q => ?_))
          first
            | (rw [r1, nI_eq0 m1] at h10; exact h10 (Nat.mod_eq_zero_of_dvd q.1))
            | (rw [r2, nI_eq0 m2] at h16; exact h16 (Nat.mod_eq_zero_of_dvd q.2))
        · refine ev_iload_n dX11_commonDivisor_19 rfl ?_
          refine ev_iret dX11_commonDivisor_20 rfl ?_
          rw [r1, nI_eq0 m1] at h10
          rw [r2, nI_eq0 m2] at h16
          have hd : (k + 1) ∣ Nat.gcd x y := Nat.dvd_gcd (Nat.dvd_of_mod_eq_zero h10) (Nat.dvd_of_mod_eq_zero h16)
          have := Nat.le_of_dvd hg0 hd
          rw [show Nat.gcd x y = k + 1 by omega]
          exact ⟨rfl, rfl⟩
theorem c_kDivisor {x y : Nat} (hx : x < 21) (hy : y < 21) (hy0 : 0 < y) : Pu g 0 mX11_commonDivisor [.int (nI x), .int (nI y)] μ (nI (Nat.gcd x y)) := by
  refine Mt.of0 (ls0 := [some (.int (nI x)), some (.int (nI y)), none]) (by decide) (by simp [Value.category]) (Nat.le_of_ble_eq_true rfl) rfl ?_
  refine ev_iload_n dX11_commonDivisor_0 rfl ?_
  refine ev_istore_n dX11_commonDivisor_1 (by decide) ?_
  dsimp only [List.set]
  exact l_kDivisor hx hy hy0 y (Nat.le_refl _) (Nat.gcd_le_right x hy0)
theorem l_kChance (hI : IM ρ n t tx cd Lf) (hM : KM a m tx σ μ) (hT : KTie ρ n t tx cd Lf m σ) {seed odds part : Int32} {c : Nat} (hc : c < 21) (hc0 : 0 < c) : ∀ (k i s : Nat), i + k = c → s ≤ i → Ev g 1 mX11_chance 42 [some (.ref a), some (.int seed), some (.int (nI c)), some (.int odds), some (.int part), some (.int (nI s)), some (.int (nI i))] [] μ (fun v μ' => v = some (.long ((if part = 0 then nI (mnyK n seed odds k i s) else nI c) / nI (Nat.gcd (mnyK n seed odds k i s) c)).toInt64) ∧ KV a ρ n t tx cd Lf m μ' ∧ FC a μ μ') := by
  intro k
  induction k with
  | zero =>
    intro i s hi hs
    have hg0 : 0 < Nat.gcd s c := Nat.gcd_pos_of_pos_right s hc0
    have hgl : Nat.gcd s c ≤ c := Nat.gcd_le_right s hc0
    have hg : ¬ nI (Nat.gcd s c) = 0 := by rw [nI_eq0 (by omega)]; omega
    rw [mnyK]
    refine ev_iload dX11_chance_42 rfl ?_
    refine ev_iload_n dX11_chance_44 rfl ?_
    refine ev_icmp_ge (tgt := 73) dX11_chance_45 (by decide) (fun _ => ?_) (fun h45 => absurd ((show nI c ≤ nI i from nI_le (by omega) (by omega))) h45)
    refine ev_iload dX11_chance_73 rfl ?_
    refine ev_if_ne (tgt := 83) dX11_chance_75 (by decide) (fun h75 => ?_) (fun h75 => ?_)
    · refine ev_iload_n dX11_chance_83 rfl ?_
      refine ev_iload dX11_chance_84 rfl ?_
      refine ev_iload_n dX11_chance_86 rfl ?_
      refine k_s (c_kDivisor (by omega) hc hc0) (by decide) dX11_chance_87 cbX11_commonDivisor (mt4 180 rfl rfl) (mt4 181 rfl rfl) rfl rfl (Nat.le_of_ble_eq_true rfl) (fun v μ1 hq => ?_)
      obtain ⟨rfl, hμ⟩ := hq
      have hμ := hμ.symm
      subst hμ
      simp only [Option.toList, List.cons_append, List.nil_append]
      refine ev_idiv dX11_chance_90 hg ?_
      refine ev_i2l dX11_chance_91 ?_
      refine ev_lret dX11_chance_92 rfl ?_
      first
        | (rw [if_pos h75]; exact ⟨rfl, ⟨σ, hM, hT⟩, FC.rf⟩)
        | (rw [if_neg h75]; exact ⟨rfl, ⟨σ, hM, hT⟩, FC.rf⟩)
    · refine ev_iload dX11_chance_78 rfl ?_
      refine ev_goto (tgt := 84) dX11_chance_80 (by decide) ?_
      refine ev_iload dX11_chance_84 rfl ?_
      refine ev_iload_n dX11_chance_86 rfl ?_
      refine k_s (c_kDivisor (by omega) hc hc0) (by decide) dX11_chance_87 cbX11_commonDivisor (mt4 180 rfl rfl) (mt4 181 rfl rfl) rfl rfl (Nat.le_of_ble_eq_true rfl) (fun v μ1 hq => ?_)
      obtain ⟨rfl, hμ⟩ := hq
      have hμ := hμ.symm
      subst hμ
      simp only [Option.toList, List.cons_append, List.nil_append]
      refine ev_idiv dX11_chance_90 hg ?_
      refine ev_i2l dX11_chance_91 ?_
      refine ev_lret dX11_chance_92 rfl ?_
      first
        | (rw [if_pos h75]; exact ⟨rfl, ⟨σ, hM, hT⟩, FC.rf⟩)
        | (rw [if_neg h75]; exact ⟨rfl, ⟨σ, hM, hT⟩, FC.rf⟩)
  | succ k ih =>
    intro i s hi hs
    rw [mnyK]
    refine ev_iload dX11_chance_42 rfl ?_
    refine ev_iload_n dX11_chance_44 rfl ?_
    refine ev_icmp_ge (tgt := 73) dX11_chance_45 (by decide) (fun h45 => absurd h45 ((show ¬ nI c ≤ nI i from nI_ge (by omega) (by omega)))) (fun _ => ?_)
    refine ev_aload_n dX11_chance_48 rfl ?_
    refine ev_iload_n dX11_chance_49 rfl ?_
    refine ev_iload dX11_chance_50 rfl ?_
    refine ev_iadd dX11_chance_52 ?_
    refine ev_iload_n dX11_chance_53 rfl ?_
    refine k_v (c_kRight hI hM hT _ _) (by decide) dX11_chance_54 cbX11_lyingRight (mt4 170 rfl rfl) (mt4 172 rfl rfl) (ms0 42 rfl rfl) (ci := 11) rfl (hM.o 0 11 (by decide)) rfl rfl (Nat.le_of_ble_eq_true rfl) (fun v μ1 hq => ?_)
    obtain ⟨rfl, hμ⟩ := hq
    have hμ := hμ.symm
    subst hμ
    simp only [Option.toList, List.cons_append, List.nil_append]
    refine ev_aload_n dX11_chance_57 rfl ?_
    refine ev_get dX11_chance_58 flX11_15_11 (hM.o 0 11 (by decide)) rfl ?_
    rw [hT.hc]
    refine ev_icmp_ne (tgt := 67) dX11_chance_61 (by decide) (fun h61 => ?_) (fun h61 => ?_)
    · refine ev_iinc dX11_chance_67 rfl (by decide) ?_
      dsimp only [List.set]
      refine ev_goto (tgt := 42) dX11_chance_70 (by decide) ?_
      rw [nI_inc]
      first
        | (rw [if_neg h61]; exact ih (i + 1) s (by omega) (by omega))
        | (rw [if_pos h61, nI_inc]; exact ih (i + 1) (s + 1) (by omega) (by omega))
    · refine ev_iinc dX11_chance_64 rfl (by decide) ?_
      dsimp only [List.set]
      refine ev_iinc dX11_chance_67 rfl (by decide) ?_
      dsimp only [List.set]
      refine ev_goto (tgt := 42) dX11_chance_70 (by decide) ?_
      rw [nI_inc]
      first
        | (rw [if_neg h61]; exact ih (i + 1) s (by omega) (by omega))
        | (rw [if_pos h61, nI_inc]; exact ih (i + 1) (s + 1) (by omega) (by omega))
theorem c_kChance (hI : IM ρ n t tx cd Lf) (hM : KM a m tx σ μ) (hT : KTie ρ n t tx cd Lf m σ) (seed c odds part : Int32) : Mt g 1 mX11_chance [.ref a, .int seed, .int c, .int odds, .int part] μ (fun v μ' => v = some (.long (ansChance n seed c odds part)) ∧ KV a ρ n t tx cd Lf m μ' ∧ FC a μ μ') := by
  refine Mt.of0 (ls0 := [some (.ref a), some (.int seed), some (.int c), some (.int odds), some (.int part), none, none]) (by decide) (by simp [Value.category]) (Nat.le_of_ble_eq_true rfl) rfl ?_
  rw [ansChance]
  refine ev_iload_n dX11_chance_0 rfl ?_
  refine ev_iconst (v := 1) dX11_chance_1 (by decide) ?_
  refine ev_icmp_lt (tgt := 32) dX11_chance_2 (by decide) (fun h2 => ?_) (fun h2 => ?_)
  · refine ev_ldc2 dX11_chance_32 (mt4 179 rfl rfl) ?_
    refine ev_lret dX11_chance_35 rfl ?_
    rw [if_neg (fun q => by first | exact Int32.not_lt.mpr q.1.1 h2 | exact Int32.not_lt.mpr q.1.2 h8 | exact Int32.not_lt.mpr q.2.1.1 h12 | exact Int32.not_lt.mpr q.2.1.2 h18 | exact Int32.not_lt.mpr q.2.2.1 h23 | exact h29 q.2.2.2)]
    exact ⟨rfl, ⟨σ, hM, hT⟩, FC.rf⟩
  · refine ev_iload_n dX11_chance_5 rfl ?_
    refine ev_bipush (v := 20) dX11_chance_6 (by decide) ?_
    refine ev_icmp_gt (tgt := 32) dX11_chance_8 (by decide) (fun h8 => ?_) (fun h8 => ?_)
    · refine ev_ldc2 dX11_chance_32 (mt4 179 rfl rfl) ?_
      refine ev_lret dX11_chance_35 rfl ?_
      rw [if_neg (fun q => by first | exact Int32.not_lt.mpr q.1.1 h2 | exact Int32.not_lt.mpr q.1.2 h8 | exact Int32.not_lt.mpr q.2.1.1 h12 | exact Int32.not_lt.mpr q.2.1.2 h18 | exact Int32.not_lt.mpr q.2.2.1 h23 | exact h29 q.2.2.2)]
      exact ⟨rfl, ⟨σ, hM, hT⟩, FC.rf⟩
    · refine ev_iload_n dX11_chance_11 rfl ?_
      refine ev_if_lt (tgt := 32) dX11_chance_12 (by decide) (fun h12 => ?_) (fun h12 => ?_)
      · refine ev_ldc2 dX11_chance_32 (mt4 179 rfl rfl) ?_
        refine ev_lret dX11_chance_35 rfl ?_
        rw [if_neg (fun q => by first | exact Int32.not_lt.mpr q.1.1 h2 | exact Int32.not_lt.mpr q.1.2 h8 | exact Int32.not_lt.mpr q.2.1.1 h12 | exact Int32.not_lt.mpr q.2.1.2 h18 | exact Int32.not_lt.mpr q.2.2.1 h23 | exact h29 q.2.2.2)]
        exact ⟨rfl, ⟨σ, hM, hT⟩, FC.rf⟩
      · refine ev_iload_n dX11_chance_15 rfl ?_
        refine ev_bipush (v := 10) dX11_chance_16 (by decide) ?_
        refine ev_icmp_gt (tgt := 32) dX11_chance_18 (by decide) (fun h18 => ?_) (fun h18 => ?_)
        · refine ev_ldc2 dX11_chance_32 (mt4 179 rfl rfl) ?_
          refine ev_lret dX11_chance_35 rfl ?_
          rw [if_neg (fun q => by first | exact Int32.not_lt.mpr q.1.1 h2 | exact Int32.not_lt.mpr q.1.2 h8 | exact Int32.not_lt.mpr q.2.1.1 h12 | exact Int32.not_lt.mpr q.2.1.2 h18 | exact Int32.not_lt.mpr q.2.2.1 h23 | exact h29 q.2.2.2)]
          exact ⟨rfl, ⟨σ, hM, hT⟩, FC.rf⟩
        · refine ev_iload dX11_chance_21 rfl ?_
          refine ev_if_lt (tgt := 32) dX11_chance_23 (by decide) (fun h23 => ?_) (fun h23 => ?_)
          · refine ev_ldc2 dX11_chance_32 (mt4 179 rfl rfl) ?_
            refine ev_lret dX11_chance_35 rfl ?_
            rw [if_neg (fun q => by first | exact Int32.not_lt.mpr q.1.1 h2 | exact Int32.not_lt.mpr q.1.2 h8 | exact Int32.not_lt.mpr q.2.1.1 h12 | exact Int32.not_lt.mpr q.2.1.2 h18 | exact Int32.not_lt.mpr q.2.2.1 h23 | exact h29 q.2.2.2)]
            exact ⟨rfl, ⟨σ, hM, hT⟩, FC.rf⟩
          · refine ev_iload dX11_chance_26 rfl ?_
            refine ev_iconst (v := 1) dX11_chance_28 (by decide) ?_
            refine ev_icmp_le (tgt := 36) dX11_chance_29 (by decide) (fun h29 => ?_) (fun h29 => ?_)
            · have q1 := Int32.not_lt.mp h2
              have q2 := Int32.not_lt.mp h8
              rw [if_pos ⟨⟨q1, q2⟩, ⟨Int32.not_lt.mp h12, Int32.not_lt.mp h18⟩, Int32.not_lt.mp h23, h29⟩]
              have hcc : 0 < c.toInt.toNat ∧ c.toInt.toNat < 21 ∧ c = nI c.toInt.toNat := by
                rw [Int32.le_iff_toInt_le] at q1 q2
                simp only [Int32.reduceToInt] at q1 q2
                refine ⟨by omega, by omega, ?_⟩
                apply Int32.toInt_inj.mp
                rw [nI_i (by omega)]
                omega
              obtain ⟨hc0, hc1, hc2⟩ := hcc
              generalize c.toInt.toNat = c' at hc0 hc1 hc2 ⊢
              subst hc2
              refine ev_iconst (v := 0) dX11_chance_36 (by decide) ?_
              refine ev_istore dX11_chance_37 (by decide) ?_
              dsimp only [List.set]
              refine ev_iconst (v := 0) dX11_chance_39 (by decide) ?_
              refine ev_istore dX11_chance_40 (by decide) ?_
              dsimp only [List.set]
              exact l_kChance hI hM hT hc1 hc0 c' 0 0 (by omega) (Nat.le_refl _)
            · refine ev_ldc2 dX11_chance_32 (mt4 179 rfl rfl) ?_
              refine ev_lret dX11_chance_35 rfl ?_
              rw [if_neg (fun q => by first | exact Int32.not_lt.mpr q.1.1 h2 | exact Int32.not_lt.mpr q.1.2 h8 | exact Int32.not_lt.mpr q.2.1.1 h12 | exact Int32.not_lt.mpr q.2.1.2 h18 | exact Int32.not_lt.mpr q.2.2.1 h23 | exact h29 q.2.2.2)]
              exact ⟨rfl, ⟨σ, hM, hT⟩, FC.rf⟩
end KQ3
