/-! ===== the reference: its first rule; both at first ===== -/
def rI : Nat → List Int32
  | 6 => [12, 0, 0, 4, 1, 0, 1, 2, 3, 4]
  | 10 => List.replicate 160 0
  | 11 => List.replicate 3060 0
  | 12 => List.replicate 18 0
  | 13 => List.replicate 200 0
  | 14 => List.replicate 200 0
  | 29 => List.replicate 60 0
  | 33 => [-1, -1, -1, -1]
  | 34 => List.replicate 4 0
  | 35 => List.replicate 160 0
  | 36 => List.replicate 40 0
  | _ => List.replicate 7 0
def msI : MS := (rI, fun k => if k = 16 then 1 else 0)
def fr0 : List Int32 := [30, 20005, 5, 30003, 30001]
def fr1 : List Int32 := [5, 20003, 30004]
def fr2 : List Int32 := [20, 20003, 30002]
theorem vcN {x : Nat} (h : x < 10000) : vc (nI x) := Or.inl ⟨x, h, rfl⟩
theorem fr0_B : HB fr0 := by
  refine ⟨by decide, fun x hx => ?_⟩
  simp only [fr0, List.mem_cons, List.not_mem_nil, or_false] at hx
  rcases hx with rfl | rfl | rfl | rfl | rfl
  · exact vcN (x := 30) (by decide)
  · exact Or.inr (Or.inl ⟨5, by decide, rfl⟩)
  · exact vcN (x := 5) (by decide)
  · exact Or.inr (Or.inr (Or.inl (by decide)))
  · exact Or.inr (Or.inr (Or.inl (by decide)))
theorem fr1_B : HB fr1 := by
  refine ⟨by decide, fun x hx => ?_⟩
  simp only [fr1, List.mem_cons, List.not_mem_nil, or_false] at hx
  rcases hx with rfl | rfl | rfl
  · exact vcN (x := 5) (by decide)
  · exact Or.inr (Or.inl ⟨3, by decide, rfl⟩)
  · exact Or.inr (Or.inr (Or.inl (by decide)))
theorem fr2_B : HB fr2 := by
  refine ⟨by decide, fun x hx => ?_⟩
  simp only [fr2, List.mem_cons, List.not_mem_nil, or_false] at hx
  rcases hx with rfl | rfl | rfl
  · exact vcN (x := 20) (by decide)
  · exact Or.inr (Or.inl ⟨3, by decide, rfl⟩)
  · exact Or.inr (Or.inr (Or.inl (by decide)))
section MFIRST
variable {g : Gl} {μ μ0 : Mm} {b s : Nat}
theorem rm_I (hB : BW b 34 (c12 b) s μ0 μ) : RM b msI μ := by
  refine ⟨hB.1 0 (by decide), fun q hq => ?_, hB.1 8 (by decide), fun i w hi => ?_⟩
  · simp only [mA, List.mem_cons, List.not_mem_nil, or_false] at hq
    rcases hq with rfl | rfl | rfl | rfl | rfl | rfl | rfl | rfl | rfl | rfl | rfl | rfl | rfl | rfl | rfl | rfl | rfl | rfl | rfl | rfl
    · exact hB.1 1 (by decide)
    · exact hB.1 2 (by decide)
    · exact hB.1 3 (by decide)
    · exact hB.1 4 (by decide)
    · exact hB.1 5 (by decide)
    · exact hB.1 6 (by decide)
    · exact hB.1 7 (by decide)
    · exact hB.1 21 (by decide)
    · exact hB.1 22 (by decide)
    · exact hB.1 23 (by decide)
    · exact hB.1 24 (by decide)
    · exact hB.1 25 (by decide)
    · exact hB.1 26 (by decide)
    · exact hB.1 27 (by decide)
    · exact hB.1 28 (by decide)
    · exact hB.1 29 (by decide)
    · exact hB.1 30 (by decide)
    · exact hB.1 31 (by decide)
    · exact hB.1 32 (by decide)
    · exact hB.1 33 (by decide)
  · have hi12 := mWd_len hi
    have k : ∀ i, i < 12 → ∀ w, mWd[i]? = some w → c12 b (9 + i) = iar w := by
      intro i hi w hw
      match i, hi with
      | 0, _ => cases hw; rfl
      | 1, _ => cases hw; rfl
      | 2, _ => cases hw; rfl
      | 3, _ => cases hw; rfl
      | 4, _ => cases hw; rfl
      | 5, _ => cases hw; rfl
      | 6, _ => cases hw; rfl
      | 7, _ => cases hw; rfl
      | 8, _ => cases hw; rfl
      | 9, _ => cases hw; rfl
      | 10, _ => cases hw; rfl
      | 11, _ => cases hw; rfl
      | n + 12, h => exact absurd h (by omega)
    rw [hB.1 (9 + i) (by omega), k i hi12 w hi]
theorem ml_I : ML msI := by
  intro q hq
  simp only [mLen, List.mem_cons, List.not_mem_nil, or_false] at hq
  rcases hq with rfl | rfl | rfl | rfl | rfl | rfl | rfl | rfl | rfl | rfl | rfl | rfl | rfl | rfl | rfl | rfl | rfl | rfl | rfl | rfl <;> first | exact List.length_replicate | rfl
/-- what the constructor leaves -/
def MFi (b : Nat) (μ' : Mm) : Prop := ∃ ρ, RM b ρ μ' ∧ ML ρ ∧ EqE [11, 12, 13] [21, 22, 23] ρ msI ∧ RC ρ 0 fr0 ∧ RC ρ 1 fr1 ∧ RC ρ 2 fr2
theorem rc_keep {r r' : Nat} {ρ ρ' : MS} {c : List Int32} (h : RCw ρ r c) (hc : c.length ≤ 170) (e : PE r' ρ' ρ) (hr : r ≠ r') : RCw ρ' r c := by
  refine ⟨by rw [e.2.2.2 r hr]; exact h.1, fun k v hk => ?_⟩
  have hl := (List.getElem?_eq_some_iff.mp hk).1
  rw [e.2.2.1 _ (by omega)]
  exact h.2 k v hk
theorem l_fr2 {ρ1 : MS} (hM : RM b ρ1 μ) (hF : FM b μ0 μ) {Q : Option Value → Mm → Prop} (hL : ML ρ1) (h22 : ρ1.2 22 = 0) (h21 : ρ1.2 21 = 0) (h12 : (ρ1.1 12)[2]? = some 0) (go : ∀ (ρ : MS) (μ : Mm), RM b ρ μ → FM b μ0 μ → PE 2 ρ (setI ρ1 23 2) → PM ρ 2 ([], fr2, 0) → Q none μ) : Ev g 1 mX12_firstRule 61 [some (.ref b)] [] μ Q := by
  refine ev_aload_n dX12_firstRule_61 rfl ?_
  refine ev_iconst (v := 2) dX12_firstRule_62 (by decide) ?_
  refine evM_put hM hF (k := 23) (by decide) dX12_firstRule_63 fpX12_85_12 rfl rfl (fun μ hM hF => ?_)
  have hP : PM (setI ρ1 23 2) 2 ([], [], 0) := ⟨⟨h12, fun k c hk => by simp at hk⟩, fun i x hx => by simp at hx, h22, h21, rfl⟩
  refine ev_aload_n dX12_firstRule_66 rfl ?_
  refine ev_bipush (v := 20) dX12_firstRule_67 (by decide) ?_
  refine k_v (c_writes hM (ML.setI hL) (by decide) hP (by decide) 20) (by decide) dX12_firstRule_69 cbX12_writes (mt5 3 rfl rfl) (mt5 5 rfl rfl) (ms0 44 rfl rfl) (ci := 12) rfl hM.1 rfl rfl (Nat.le_of_ble_eq_true rfl) (fun v μ1 hq => ?_)
  obtain ⟨rfl, ⟨ρ2, hM, hE, hP⟩, hF2⟩ := hq; have hF := hF.tr hF2; clear hF2
  simp only [Option.toList, List.cons_append, List.nil_append]
  refine ev_aload_n dX12_firstRule_72 rfl ?_
  refine ev_sipush (v := 20003) dX12_firstRule_73 (by decide) ?_
  refine k_v (c_writes hM hE.1 (by decide) hP (by decide) 20003) (by decide) dX12_firstRule_76 cbX12_writes (mt5 3 rfl rfl) (mt5 5 rfl rfl) (ms0 44 rfl rfl) (ci := 12) rfl hM.1 rfl rfl (Nat.le_of_ble_eq_true rfl) (fun v μ1 hq => ?_)
  obtain ⟨rfl, ⟨ρ2, hM, hE2, hP⟩, hF2⟩ := hq; have hF := hF.tr hF2; clear hF2; have hE := hE2.tr hE; clear hE2
  simp only [Option.toList, List.cons_append, List.nil_append]
  refine ev_aload_n dX12_firstRule_79 rfl ?_
  refine ev_sipush (v := 30002) dX12_firstRule_80 (by decide) ?_
  refine k_v (c_writes hM hE.1 (by decide) hP (by decide) 30002) (by decide) dX12_firstRule_83 cbX12_writes (mt5 3 rfl rfl) (mt5 5 rfl rfl) (ms0 44 rfl rfl) (ci := 12) rfl hM.1 rfl rfl (Nat.le_of_ble_eq_true rfl) (fun v μ1 hq => ?_)
  obtain ⟨rfl, ⟨ρ2, hM, hE2, hP⟩, hF2⟩ := hq; have hF := hF.tr hF2; clear hF2; have hE := hE2.tr hE; clear hE2
  simp only [Option.toList, List.cons_append, List.nil_append]
  refine ev_vret dX12_firstRule_86 rfl ?_
  exact go ρ2 _ hM hF hE hP
theorem l_fr1 {ρ1 : MS} (hM : RM b ρ1 μ) (hF : FM b μ0 μ) {Q : Option Value → Mm → Prop} (hL : ML ρ1) (h22 : ρ1.2 22 = 0) (h21 : ρ1.2 21 = 0) (h12 : (ρ1.1 12)[1]? = some 0) (go : ∀ (ρ : MS) (μ : Mm), RM b ρ μ → FM b μ0 μ → PE 1 ρ (setI ρ1 23 1) → PM ρ 1 ([], fr1, 0) → Ev g 1 mX12_firstRule 61 [some (.ref b)] [] μ Q) : Ev g 1 mX12_firstRule 37 [some (.ref b)] [] μ Q := by
  refine ev_aload_n dX12_firstRule_37 rfl ?_
  refine ev_iconst (v := 1) dX12_firstRule_38 (by decide) ?_
  refine evM_put hM hF (k := 23) (by decide) dX12_firstRule_39 fpX12_85_12 rfl rfl (fun μ hM hF => ?_)
  have hP : PM (setI ρ1 23 1) 1 ([], [], 0) := ⟨⟨h12, fun k c hk => by simp at hk⟩, fun i x hx => by simp at hx, h22, h21, rfl⟩
  refine ev_aload_n dX12_firstRule_42 rfl ?_
  refine ev_iconst (v := 5) dX12_firstRule_43 (by decide) ?_
  refine k_v (c_writes hM (ML.setI hL) (by decide) hP (by decide) 5) (by decide) dX12_firstRule_44 cbX12_writes (mt5 3 rfl rfl) (mt5 5 rfl rfl) (ms0 44 rfl rfl) (ci := 12) rfl hM.1 rfl rfl (Nat.le_of_ble_eq_true rfl) (fun v μ1 hq => ?_)
  obtain ⟨rfl, ⟨ρ2, hM, hE, hP⟩, hF2⟩ := hq; have hF := hF.tr hF2; clear hF2
  simp only [Option.toList, List.cons_append, List.nil_append]
  refine ev_aload_n dX12_firstRule_47 rfl ?_
  refine ev_sipush (v := 20003) dX12_firstRule_48 (by decide) ?_
  refine k_v (c_writes hM hE.1 (by decide) hP (by decide) 20003) (by decide) dX12_firstRule_51 cbX12_writes (mt5 3 rfl rfl) (mt5 5 rfl rfl) (ms0 44 rfl rfl) (ci := 12) rfl hM.1 rfl rfl (Nat.le_of_ble_eq_true rfl) (fun v μ1 hq => ?_)
  obtain ⟨rfl, ⟨ρ2, hM, hE2, hP⟩, hF2⟩ := hq; have hF := hF.tr hF2; clear hF2; have hE := hE2.tr hE; clear hE2
  simp only [Option.toList, List.cons_append, List.nil_append]
  refine ev_aload_n dX12_firstRule_54 rfl ?_
  refine ev_sipush (v := 30004) dX12_firstRule_55 (by decide) ?_
  refine k_v (c_writes hM hE.1 (by decide) hP (by decide) 30004) (by decide) dX12_firstRule_58 cbX12_writes (mt5 3 rfl rfl) (mt5 5 rfl rfl) (ms0 44 rfl rfl) (ci := 12) rfl hM.1 rfl rfl (Nat.le_of_ble_eq_true rfl) (fun v μ1 hq => ?_)
  obtain ⟨rfl, ⟨ρ2, hM, hE2, hP⟩, hF2⟩ := hq; have hF := hF.tr hF2; clear hF2; have hE := hE2.tr hE; clear hE2
  simp only [Option.toList, List.cons_append, List.nil_append]
  exact go ρ2 _ hM hF hE hP
theorem c_firstRule (hM : RM b msI μ) : Mt g 1 mX12_firstRule [.ref b] μ (fun v μ' => v = none ∧ MFi b μ' ∧ FM b μ μ') := by
  refine Mt.of0 (ls0 := [some (.ref b)]) (by decide) (by simp [Value.category]) (Nat.le_of_ble_eq_true rfl) rfl ?_
  have hF : FM b μ μ := FM.rf
  have hL := ml_I
  refine ev_aload_n dX12_firstRule_0 rfl ?_
  refine ev_iconst (v := 0) dX12_firstRule_1 (by decide) ?_
  refine evM_put hM hF (k := 23) (by decide) dX12_firstRule_2 fpX12_85_12 rfl rfl (fun μ hM hF => ?_)
  have hP : PM (setI msI 23 0) 0 ([], [], 0) := ⟨⟨rfl, fun k c hk => by simp at hk⟩, fun i x hx => by simp at hx, rfl, rfl, rfl⟩
  refine ev_aload_n dX12_firstRule_5 rfl ?_
  refine ev_bipush (v := 30) dX12_firstRule_6 (by decide) ?_
  refine k_v (c_writes hM (ML.setI hL) (by decide) hP (by decide) 30) (by decide) dX12_firstRule_8 cbX12_writes (mt5 3 rfl rfl) (mt5 5 rfl rfl) (ms0 44 rfl rfl) (ci := 12) rfl hM.1 rfl rfl (Nat.le_of_ble_eq_true rfl) (fun v μ1 hq => ?_)
  obtain ⟨rfl, ⟨ρ2, hM, hE, hP⟩, hF2⟩ := hq; have hF := hF.tr hF2; clear hF2
  simp only [Option.toList, List.cons_append, List.nil_append]
  refine ev_aload_n dX12_firstRule_11 rfl ?_
  refine ev_sipush (v := 20005) dX12_firstRule_12 (by decide) ?_
  refine k_v (c_writes hM hE.1 (by decide) hP (by decide) 20005) (by decide) dX12_firstRule_15 cbX12_writes (mt5 3 rfl rfl) (mt5 5 rfl rfl) (ms0 44 rfl rfl) (ci := 12) rfl hM.1 rfl rfl (Nat.le_of_ble_eq_true rfl) (fun v μ1 hq => ?_)
  obtain ⟨rfl, ⟨ρ2, hM, hE2, hP⟩, hF2⟩ := hq; have hF := hF.tr hF2; clear hF2; have hE := hE2.tr hE; clear hE2
  simp only [Option.toList, List.cons_append, List.nil_append]
  refine ev_aload_n dX12_firstRule_18 rfl ?_
  refine ev_iconst (v := 5) dX12_firstRule_19 (by decide) ?_
  refine k_v (c_writes hM hE.1 (by decide) hP (by decide) 5) (by decide) dX12_firstRule_20 cbX12_writes (mt5 3 rfl rfl) (mt5 5 rfl rfl) (ms0 44 rfl rfl) (ci := 12) rfl hM.1 rfl rfl (Nat.le_of_ble_eq_true rfl) (fun v μ1 hq => ?_)
  obtain ⟨rfl, ⟨ρ2, hM, hE2, hP⟩, hF2⟩ := hq; have hF := hF.tr hF2; clear hF2; have hE := hE2.tr hE; clear hE2
  simp only [Option.toList, List.cons_append, List.nil_append]
  refine ev_aload_n dX12_firstRule_23 rfl ?_
  refine ev_sipush (v := 30003) dX12_firstRule_24 (by decide) ?_
  refine k_v (c_writes hM hE.1 (by decide) hP (by decide) 30003) (by decide) dX12_firstRule_27 cbX12_writes (mt5 3 rfl rfl) (mt5 5 rfl rfl) (ms0 44 rfl rfl) (ci := 12) rfl hM.1 rfl rfl (Nat.le_of_ble_eq_true rfl) (fun v μ1 hq => ?_)
  obtain ⟨rfl, ⟨ρ2, hM, hE2, hP⟩, hF2⟩ := hq; have hF := hF.tr hF2; clear hF2; have hE := hE2.tr hE; clear hE2
  simp only [Option.toList, List.cons_append, List.nil_append]
  refine ev_aload_n dX12_firstRule_30 rfl ?_
  refine ev_sipush (v := 30001) dX12_firstRule_31 (by decide) ?_
  refine k_v (c_writes hM hE.1 (by decide) hP (by decide) 30001) (by decide) dX12_firstRule_34 cbX12_writes (mt5 3 rfl rfl) (mt5 5 rfl rfl) (ms0 44 rfl rfl) (ci := 12) rfl hM.1 rfl rfl (Nat.le_of_ble_eq_true rfl) (fun v μ1 hq => ?_)
  obtain ⟨rfl, ⟨ρ2, hM, hE2, hP⟩, hF2⟩ := hq; have hF := hF.tr hF2; clear hF2; have hE := hE2.tr hE; clear hE2
  simp only [Option.toList, List.cons_append, List.nil_append]
  refine l_fr1 hM hF hE.1 hP.2.2.1 hP.2.2.2.1 (by rw [hE.2.2.2 1 (by decide)]; rfl) (fun ρ3 μ3 hM3 hF3 hE3 hP3 => ?_)
  refine l_fr2 hM3 hF3 hE3.1 hP3.2.2.1 hP3.2.2.2.1 (by rw [hE3.2.2.2 2 (by decide)]; show (ρ2.1 12)[2]? = _; rw [hE.2.2.2 2 (by decide)]; rfl) (fun ρ4 μ4 hM4 hF4 hE4 hP4 => ?_)
  have hE3' : PE 1 ρ3 (setI ρ2 23 1) := hE3
  have r0 : RCw ρ2 0 fr0 := hP.1
  have r0' : RCw (setI ρ2 23 1) 0 fr0 := r0
  have r1 : RCw ρ3 0 fr0 := rc_keep r0' (by decide) hE3 (by decide)
  have r1' : RCw (setI ρ3 23 2) 0 fr0 := r1
  have r2 : RCw ρ4 0 fr0 := rc_keep r1' (by decide) hE4 (by decide)
  have q1 : RCw ρ3 1 fr1 := hP3.1
  have q1' : RCw (setI ρ3 23 2) 1 fr1 := q1
  have q2 : RCw ρ4 1 fr1 := rc_keep q1' (by decide) hE4 (by decide)
  have e1 : EqE [11, 12, 13] [21, 22, 23] ρ2 msI := (hE.2.1.wd (fun _ h => h) (by decide)).tr (EqE.rf.sI (by decide))
  have e2 : EqE [11, 12, 13] [21, 22, 23] ρ3 msI := ((hE3.2.1.wd (fun _ h => h) (by decide)).tr (EqE.rf.sI (by decide))).tr e1
  have e3 : EqE [11, 12, 13] [21, 22, 23] ρ4 msI := ((hE4.2.1.wd (fun _ h => h) (by decide)).tr (EqE.rf.sI (by decide))).tr e2
  exact ⟨rfl, ⟨ρ4, hM4, hE4.1, e3, ⟨r2.1, by decide, r2.2⟩, ⟨q2.1, by decide, q2.2⟩, ⟨hP4.1.1, by decide, hP4.1.2⟩⟩, hF4⟩
end MFIRST
