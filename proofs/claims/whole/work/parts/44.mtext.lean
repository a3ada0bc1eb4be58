/-! ===== the reference: text ===== -/
/-- what reading row r leaves as it was -/
def PX (r : Nat) (ρ' ρ : MS) : Prop := ML ρ' ∧ EqE [11, 12, 13] [17, 18, 19, 20, 21, 22] ρ' ρ ∧ (∀ i, ¬ (170 * r ≤ i ∧ i < 170 * r + 170) → (ρ'.1 11)[i]? = (ρ.1 11)[i]?) ∧ ∀ i, i ≠ r → (ρ'.1 12)[i]? = (ρ.1 12)[i]?
theorem PX.tr {r : Nat} {a b c : MS} (h : PX r a b) (k : PX r b c) : PX r a c := ⟨h.1, h.2.1.tr k.2.1, fun i hi => (h.2.2.1 i hi).trans (k.2.2.1 i hi), fun i hi => (h.2.2.2 i hi).trans (k.2.2.2 i hi)⟩
theorem PE.px {r : Nat} {a b : MS} (h : PE r a b) : PX r a b := ⟨h.1, h.2.1.wd (fun _ h => h) (by decide), h.2.2.1, h.2.2.2⟩
theorem EqE.px {r : Nat} {a b : MS} (h : EqE [] [17, 18, 19, 20] a b) (hL : ML b) : PX r a b := ⟨eqe_ml hL h, h.wd (by simp) (by decide), fun i _ => by rw [h.1 11 (by simp)], fun i _ => by rw [h.1 12 (by simp)]⟩
theorem PM.eq {r : Nat} {ρ' ρ : MS} {P : PS} (h : PM ρ r P) (e : EqE [] [17, 18, 19, 20] ρ' ρ) : PM ρ' r P := by
  obtain ⟨h1, h2, h3, h4, h5⟩ := h
  refine ⟨?_, ?_, ?_, ?_, ?_⟩
  · unfold RCw; rw [e.1 11 (by simp), e.1 12 (by simp)]; exact h1
  · rw [e.1 13 (by simp)]; exact h2
  · rw [e.2 22 (by decide)]; exact h3
  · rw [e.2 21 (by decide)]; exact h4
  · rw [e.2 23 (by decide)]; exact h5
theorem TokM.pe {r : Nat} {ρ' ρ : MS} {tp s : List Int32} (h : TokM ρ tp s) (e : PE r ρ' ρ) : TokM ρ' tp s := by
  obtain ⟨h1, h2, h3, h4⟩ := h
  have e1 := e.2.1.2
  refine ⟨h1, ?_, ?_, fun q => ?_⟩
  · rw [e1 19 (by decide)]; exact h2
  · rw [e1 18 (by decide)]; exact h3
  · rw [e1 20 (by decide), e1 17 (by decide)]; exact h4 q
theorem TokM.tk {ρ : MS} {tp s : List Int32} (h : TokM ρ tp s) : TkV ρ (tkK s) (tkV s) := ⟨h.2.2.1, fun q => (h.2.2.2 q).1⟩
theorem psn_lt {tp s s' : List Int32} (h : Sfx tp s) (hl : s'.length < s.length) : psn tp s < psn tp s' := by
  have := h.le
  simp only [psn]; omega
section MTEXT
variable {g : Gl} {b : Nat} {tp : List Int32} {r : Nat}
abbrev RowQ (b r : Nat) (ρ0 : MS) (tp : List Int32) (z : Bool × (List Int32 × PS)) (μ0 : Mm) : Option Value → Mm → Prop := fun v μ' => v = some (.int (b2i (z.1 = true))) ∧ (∃ ρ', RM b ρ' μ' ∧ PX r ρ' ρ0 ∧ PM ρ' r z.2.2 ∧ TokM ρ' tp z.2.1 ∧ szP z.2.2 ≤ 160) ∧ FM b μ0 μ'
theorem l_readsRow (hr : r < 18) {ρ0 : MS} {μ0 : Mm} (hT : TP ρ0 tp) : ∀ (f : Nat) (w : Bool) (s : List Int32) (P : PS) (o2 o3 : Option Value) (ρ : MS) (μ : Mm), s.length < f → RM b ρ μ → FM b μ0 μ → PX r ρ ρ0 → PM ρ r P → TokM ρ tp s → szP P < psn tp s →
    Ev g 4 mX12_readsRow 22 [some (.ref b), some (.int (b2i (w = true))), o2, o3] [] μ (RowQ b r ρ0 tp (rowP f w s P) μ0) := by
  have h160 := hT.2.1
  intro f
  induction f with
  | zero => intro w s P o2 o3 ρ μ h; omega
  | succ f ih =>
    intro w s P o2 o3 ρ μ hf hM hF hE hP hK hz
    have hps : psn tp s ≤ 160 := by simp only [psn]; omega
    have hTk := hK.tk
    have hkd := kds s
    have go : ∀ (x : Int32) (ρ2 : MS) (μ2 : Mm) (w' : Bool), x = (stT w s P).1 → ¬ x < 0 → ¬ (w = false ∧ x = 2) → w' = wNx w x → RM b ρ2 μ2 → FM b μ0 μ2 → PE r ρ2 ρ → PM ρ2 r (stT w s P).2 → Ev g 4 mX12_readsRow 86 [some (.ref b), some (.int (b2i (w' = true))), some (.int x), some (.int 0)] [] μ2 (RowQ b r ρ0 tp (rowP (f + 1) w s P) μ0) := by
      intro x ρ2 μ2 w' e1 e2 e3 e4 hM hF hE2 hP2
      rw [e1] at e2 e3
      have hk := stT_ok e2
      have hl := nxT_lt hk.1
      have hK2 := hK.pe hE2
      have hE3 := hE2.px.tr hE
      have h2 := hK2.2.2.2 hk.2
      have hsz := stT_sz (w := w) (s := s) (P := P)
      have hpl := psn_lt hK.1 hl
      rw [rowP, if_neg e2, if_neg e3]
      refine ev_aload_n dX12_readsRow_86 rfl ?_
      refine k_v (c_reads hM hE3.1 (hT.eq hE3.2.1 (by decide) (by decide)) ⟨hK2.1.tr tkR_sfx, h2.2⟩) (by decide) dX12_readsRow_87 cbX12_reads (mt5 130 rfl rfl) (mt5 132 rfl rfl) (ms0 45 rfl rfl) (ci := 12) rfl hM.1 rfl rfl (Nat.le_of_ble_eq_true rfl) (fun v μ1 hq => ?_)
      obtain ⟨rfl, ⟨ρ3, hM, hE4, hK3⟩, hF2⟩ := hq; have hF := hF.tr hF2
      simp only [Option.toList, List.cons_append, List.nil_append]
      refine ev_iload_n dX12_readsRow_90 rfl ?_
      refine ev_if_eq (tgt := 96) dX12_readsRow_91 (by decide) (fun _ => ?_) (fun h91 => absurd (rfl) h91)
      refine ev_goto (tgt := 22) dX12_readsRow_96 (by decide) ?_
      rw [e4, e1]
      exact ih _ _ _ _ _ ρ3 _ (by omega) hM hF ((hE4.px hE3.1).tr hE3) (hP2.eq hE4) hK3 (by omega)
    have fin : ∀ (x : Int32) (ρ2 : MS) (μ2 : Mm) (y : Int32), w = false → x = (stT w s P).1 → x = 2 → RM b ρ2 μ2 → FM b μ0 μ2 → PE r ρ2 ρ → PM ρ2 r (stT w s P).2 → Ev g 4 mX12_readsRow 86 [some (.ref b), some (.int y), some (.int x), some (.int 1)] [] μ2 (RowQ b r ρ0 tp (rowP (f + 1) w s P) μ0) := by
      intro x ρ2 μ2 y e0 e1 e3 hM hF hE2 hP2
      have e2 : ¬ (stT w s P).1 < 0 := by rw [← e1, e3]; decide
      have hk := stT_ok e2
      have hl := nxT_lt hk.1
      have hK2 := hK.pe hE2
      have hE3 := hE2.px.tr hE
      have h2 := hK2.2.2.2 hk.2
      have hsz := stT_sz (w := w) (s := s) (P := P)
      rw [rowP, if_neg e2, if_pos ⟨e0, e1.symm.trans e3⟩]
      refine ev_aload_n dX12_readsRow_86 rfl ?_
      refine k_v (c_reads hM hE3.1 (hT.eq hE3.2.1 (by decide) (by decide)) ⟨hK2.1.tr tkR_sfx, h2.2⟩) (by decide) dX12_readsRow_87 cbX12_reads (mt5 130 rfl rfl) (mt5 132 rfl rfl) (ms0 45 rfl rfl) (ci := 12) rfl hM.1 rfl rfl (Nat.le_of_ble_eq_true rfl) (fun v μ1 hq => ?_)
      obtain ⟨rfl, ⟨ρ3, hM, hE4, hK3⟩, hF2⟩ := hq; have hF := hF.tr hF2
      simp only [Option.toList, List.cons_append, List.nil_append]
      refine ev_iload_n dX12_readsRow_90 rfl ?_
      refine ev_if_eq (tgt := 96) dX12_readsRow_91 (by decide) (fun h91 => absurd h91 ((show ¬ (1 : Int32) = 0 by decide))) (fun _ => ?_)
      refine ev_iconst (v := 1) dX12_readsRow_94 (by decide) ?_
      refine ev_zret dX12_readsRow_95 rfl (by decide) ?_
      exact ⟨rfl, ⟨ρ3, hM, (hE4.px hE3.1).tr hE3, hP2.eq hE4, hK3, by show szP (stT w s P).2 ≤ 160; omega⟩, hF⟩
    cases w with
    | true =>
      refine ev_iload_n dX12_readsRow_22 rfl ?_
      refine ev_if_eq (tgt := 33) dX12_readsRow_23 (by decide) (fun h23 => absurd h23 ((show ¬ b2i (true = true) = 0 by decide))) (fun _ => ?_)
      refine ev_aload_n dX12_readsRow_26 rfl ?_
      refine k_v (c_ahead hM hE.1 hr hP (by omega) hkd hTk) (by decide) dX12_readsRow_27 cbX12_ahead (mt5 149 rfl rfl) (mt5 151 rfl rfl) (ms0 49 rfl rfl) (ci := 12) rfl hM.1 rfl rfl (Nat.le_of_ble_eq_true rfl) (fun v μ1 hq => ?_)
      obtain ⟨rfl, ⟨ρ2, hM, hE2, hP2⟩, hF2⟩ := hq; have hF := hF.tr hF2
      simp only [Option.toList, List.cons_append, List.nil_append]
      refine ev_goto (tgt := 37) dX12_readsRow_30 (by decide) ?_
      refine ev_istore_n dX12_readsRow_37 (by decide) ?_
      dsimp only [List.set]
      refine ev_iload_n dX12_readsRow_38 rfl ?_
      refine ev_if_ge (tgt := 44) dX12_readsRow_39 (by decide) (fun h39 => ?_) (fun h39 => ?_)
      · refine ev_iload_n dX12_readsRow_44 rfl ?_
        refine ev_if_ne (tgt := 57) dX12_readsRow_45 (by decide) (fun _ => ?_) (fun h45 => absurd h45 ((show ¬ b2i (true = true) = 0 by decide)))
        refine ev_iconst (v := 0) dX12_readsRow_57 (by decide) ?_
        refine ev_istore_n dX12_readsRow_58 (by decide) ?_
        dsimp only [List.set]
        refine ev_iload_n dX12_readsRow_59 rfl ?_
        refine ev_if_eq (tgt := 75) dX12_readsRow_60 (by decide) (fun h60 => absurd h60 ((show ¬ b2i (true = true) = 0 by decide))) (fun _ => ?_)
        refine ev_iload_n dX12_readsRow_63 rfl ?_
        refine ev_if_ne (tgt := 71) dX12_readsRow_64 (by decide) (fun h64 => ?_) (fun h64 => ?_)
        · refine ev_iconst (v := 0) dX12_readsRow_71 (by decide) ?_
          refine ev_goto (tgt := 85) dX12_readsRow_72 (by decide) ?_
          refine ev_istore_n dX12_readsRow_85 (by decide) ?_
          dsimp only [List.set]
          first
            | exact go _ ρ2 _ true rfl (Int32.not_lt.mpr h39) (fun q => absurd q.1 (by decide)) (by rw [wNx, if_pos rfl]; exact (decide_eq_true h64).symm) hM hF hE2 hP2
            | exact go _ ρ2 _ false rfl (Int32.not_lt.mpr h39) (fun q => absurd q.1 (by decide)) (by rw [wNx, if_pos rfl]; exact (decide_eq_false h64).symm) hM hF hE2 hP2
        · refine ev_iconst (v := 1) dX12_readsRow_67 (by decide) ?_
          refine ev_goto (tgt := 85) dX12_readsRow_68 (by decide) ?_
          refine ev_istore_n dX12_readsRow_85 (by decide) ?_
          dsimp only [List.set]
          first
            | exact go _ ρ2 _ true rfl (Int32.not_lt.mpr h39) (fun q => absurd q.1 (by decide)) (by rw [wNx, if_pos rfl]; exact (decide_eq_true h64).symm) hM hF hE2 hP2
            | exact go _ ρ2 _ false rfl (Int32.not_lt.mpr h39) (fun q => absurd q.1 (by decide)) (by rw [wNx, if_pos rfl]; exact (decide_eq_false h64).symm) hM hF hE2 hP2
      · refine ev_iconst (v := 0) dX12_readsRow_42 (by decide) ?_
        refine ev_zret dX12_readsRow_43 rfl rfl ?_
        rw [rowP, if_pos (show (stT true s P).1 < 0 from Int32.not_le.mp h39)]
        exact ⟨rfl, ⟨ρ2, hM, hE2.px.tr hE, hP2, hK.pe hE2, by have := stT_sz (w := true) (s := s) (P := P); show szP (stT true s P).2 ≤ 160; omega⟩, hF⟩
    | false =>
      refine ev_iload_n dX12_readsRow_22 rfl ?_
      refine ev_if_eq (tgt := 33) dX12_readsRow_23 (by decide) (fun _ => ?_) (fun h23 => absurd ((show b2i (false = true) = 0 by decide)) h23)
      refine ev_aload_n dX12_readsRow_33 rfl ?_
      refine k_v (c_behind hM hE.1 hr hP (by omega) hkd hTk) (by decide) dX12_readsRow_34 cbX12_behind (mt5 165 rfl rfl) (mt5 167 rfl rfl) (ms0 53 rfl rfl) (ci := 12) rfl hM.1 rfl rfl (Nat.le_of_ble_eq_true rfl) (fun v μ1 hq => ?_)
      obtain ⟨rfl, ⟨ρ2, hM, hE2, hP2⟩, hF2⟩ := hq; have hF := hF.tr hF2
      simp only [Option.toList, List.cons_append, List.nil_append]
      refine ev_istore_n dX12_readsRow_37 (by decide) ?_
      dsimp only [List.set]
      refine ev_iload_n dX12_readsRow_38 rfl ?_
      refine ev_if_ge (tgt := 44) dX12_readsRow_39 (by decide) (fun h39 => ?_) (fun h39 => ?_)
      · refine ev_iload_n dX12_readsRow_44 rfl ?_
        refine ev_if_ne (tgt := 57) dX12_readsRow_45 (by decide) (fun h45 => absurd ((show b2i (false = true) = 0 by decide)) h45) (fun _ => ?_)
        refine ev_iload_n dX12_readsRow_48 rfl ?_
        refine ev_iconst (v := 2) dX12_readsRow_49 (by decide) ?_
        refine ev_icmp_ne (tgt := 57) dX12_readsRow_50 (by decide) (fun h50 => ?_) (fun h50 => ?_)
        · refine ev_iconst (v := 0) dX12_readsRow_57 (by decide) ?_
          refine ev_istore_n dX12_readsRow_58 (by decide) ?_
          dsimp only [List.set]
          refine ev_iload_n dX12_readsRow_59 rfl ?_
          refine ev_if_eq (tgt := 75) dX12_readsRow_60 (by decide) (fun _ => ?_) (fun h60 => absurd ((show b2i (false = true) = 0 by decide)) h60)
          refine ev_iload_n dX12_readsRow_75 rfl ?_
          refine ev_iconst (v := 1) dX12_readsRow_76 (by decide) ?_
          refine ev_icmp_ne (tgt := 84) dX12_readsRow_77 (by decide) (fun h77 => ?_) (fun h77 => ?_)
          · refine ev_iconst (v := 0) dX12_readsRow_84 (by decide) ?_
            refine ev_istore_n dX12_readsRow_85 (by decide) ?_
            dsimp only [List.set]
            first
              | exact go _ ρ2 _ true rfl (Int32.not_lt.mpr h39) (fun q => h50 q.2) (by rw [wNx, if_neg (by decide)]; exact (decide_eq_true h77).symm) hM hF hE2 hP2
              | exact go _ ρ2 _ false rfl (Int32.not_lt.mpr h39) (fun q => h50 q.2) (by rw [wNx, if_neg (by decide)]; exact (decide_eq_false h77).symm) hM hF hE2 hP2
              | exact absurd (h50.symm.trans h77) (by decide)
              | exact fin _ ρ2 _ 0 rfl rfl h50 hM hF hE2 hP2
          · refine ev_iconst (v := 1) dX12_readsRow_80 (by decide) ?_
            refine ev_goto (tgt := 85) dX12_readsRow_81 (by decide) ?_
            refine ev_istore_n dX12_readsRow_85 (by decide) ?_
            dsimp only [List.set]
            first
              | exact go _ ρ2 _ true rfl (Int32.not_lt.mpr h39) (fun q => h50 q.2) (by rw [wNx, if_neg (by decide)]; exact (decide_eq_true h77).symm) hM hF hE2 hP2
              | exact go _ ρ2 _ false rfl (Int32.not_lt.mpr h39) (fun q => h50 q.2) (by rw [wNx, if_neg (by decide)]; exact (decide_eq_false h77).symm) hM hF hE2 hP2
              | exact absurd (h50.symm.trans h77) (by decide)
              | exact fin _ ρ2 _ 0 rfl rfl h50 hM hF hE2 hP2
        · refine ev_iconst (v := 1) dX12_readsRow_53 (by decide) ?_
          refine ev_goto (tgt := 58) dX12_readsRow_54 (by decide) ?_
          refine ev_istore_n dX12_readsRow_58 (by decide) ?_
          dsimp only [List.set]
          refine ev_iload_n dX12_readsRow_59 rfl ?_
          refine ev_if_eq (tgt := 75) dX12_readsRow_60 (by decide) (fun _ => ?_) (fun h60 => absurd ((show b2i (false = true) = 0 by decide)) h60)
          refine ev_iload_n dX12_readsRow_75 rfl ?_
          refine ev_iconst (v := 1) dX12_readsRow_76 (by decide) ?_
          refine ev_icmp_ne (tgt := 84) dX12_readsRow_77 (by decide) (fun h77 => ?_) (fun h77 => ?_)
          · refine ev_iconst (v := 0) dX12_readsRow_84 (by decide) ?_
            refine ev_istore_n dX12_readsRow_85 (by decide) ?_
            dsimp only [List.set]
            first
              | exact go _ ρ2 _ true rfl (Int32.not_lt.mpr h39) (fun q => h50 q.2) (by rw [wNx, if_neg (by decide)]; exact (decide_eq_true h77).symm) hM hF hE2 hP2
              | exact go _ ρ2 _ false rfl (Int32.not_lt.mpr h39) (fun q => h50 q.2) (by rw [wNx, if_neg (by decide)]; exact (decide_eq_false h77).symm) hM hF hE2 hP2
              | exact absurd (h50.symm.trans h77) (by decide)
              | exact fin _ ρ2 _ 0 rfl rfl h50 hM hF hE2 hP2
          · refine ev_iconst (v := 1) dX12_readsRow_80 (by decide) ?_
            refine ev_goto (tgt := 85) dX12_readsRow_81 (by decide) ?_
            refine ev_istore_n dX12_readsRow_85 (by decide) ?_
            dsimp only [List.set]
            first
              | exact go _ ρ2 _ true rfl (Int32.not_lt.mpr h39) (fun q => h50 q.2) (by rw [wNx, if_neg (by decide)]; exact (decide_eq_true h77).symm) hM hF hE2 hP2
              | exact go _ ρ2 _ false rfl (Int32.not_lt.mpr h39) (fun q => h50 q.2) (by rw [wNx, if_neg (by decide)]; exact (decide_eq_false h77).symm) hM hF hE2 hP2
              | exact absurd (h50.symm.trans h77) (by decide)
              | exact fin _ ρ2 _ 0 rfl rfl h50 hM hF hE2 hP2
      · refine ev_iconst (v := 0) dX12_readsRow_42 (by decide) ?_
        refine ev_zret dX12_readsRow_43 rfl rfl ?_
        rw [rowP, if_pos (show (stT false s P).1 < 0 from Int32.not_le.mp h39)]
        exact ⟨rfl, ⟨ρ2, hM, hE2.px.tr hE, hP2, hK.pe hE2, by have := stT_sz (w := false) (s := s) (P := P); show szP (stT false s P).2 ≤ 160; omega⟩, hF⟩
theorem c_readsRow (hr : r < 18) {ρ : MS} {μ : Mm} (hT : TP ρ tp) (hM : RM b ρ μ) (hL : ML ρ) (h23 : ρ.2 23 = nI r) {s : List Int32} (hK : TokM ρ tp s) (hz : 0 < psn tp s) : Mt g 4 mX12_readsRow [.ref b] μ (RowQ b r ρ tp (rowR true s ([], [], 0)) μ) := by
  refine Mt.of0 (ls0 := [some (.ref b), none, none, none]) (by decide) (by simp [Value.category]) (Nat.le_of_ble_eq_true rfl) rfl ?_
  have hF : FM b μ μ := FM.rf
  have l12 := hL.at (k := 12) (n := 18) (by decide)
  refine ev_aload_n dX12_readsRow_0 rfl ?_
  refine ev_get dX12_readsRow_1 flX12_42_12 hM.1 rfl ?_
  refine ev_aload_n dX12_readsRow_4 rfl ?_
  refine ev_get dX12_readsRow_5 flX12_85_12 hM.1 rfl ?_
  rw [h23]
  refine ev_iconst (v := 0) dX12_readsRow_8 (by decide) ?_
  refine evM_iast hM hF (k := 12) (o := 23) (by decide) dX12_readsRow_9 (ix_n (by omega)) (by show _ < (ρ.1 12).length; omega) (fun μ hM hF => ?_)
  refine ev_aload_n dX12_readsRow_10 rfl ?_
  refine ev_iconst (v := 0) dX12_readsRow_11 (by decide) ?_
  refine evM_put hM hF (k := 22) (by decide) dX12_readsRow_12 fpX12_123_12 rfl rfl (fun μ hM hF => ?_)
  refine ev_aload_n dX12_readsRow_15 rfl ?_
  refine ev_iconst (v := 0) dX12_readsRow_16 (by decide) ?_
  refine evM_put hM hF (k := 21) (by decide) dX12_readsRow_17 fpX12_126_12 rfl rfl (fun μ hM hF => ?_)
  refine ev_iconst (v := 1) dX12_readsRow_20 (by decide) ?_
  refine ev_istore_n dX12_readsRow_21 (by decide) ?_
  dsimp only [List.set]
  refine l_readsRow hr (ρ0 := ρ) hT (s.length + 1) true s ([], [], 0) _ _ _ _ (Nat.lt_succ_self _) hM hF ⟨ML.setI (ML.setI (ML.setA hL (by rw [List.length_set]))), ((EqE.rf.sA (by decide)).sI (by decide)).sI (by decide), fun i _ => rfl, fun i hi => ?_⟩ ⟨⟨?_, fun k c hc => by simp at hc⟩, fun i x hx => by simp at hx, rfl, rfl, h23⟩ hK hz
  · show ((ρ.1 12).set r 0)[i]? = _
    rw [List.getElem?_set_ne (by omega)]
  · show ((ρ.1 12).set r 0)[r]? = _
    rw [List.getElem?_set_self (by omega)]
    rfl
end MTEXT
