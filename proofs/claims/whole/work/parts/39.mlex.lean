/-! ===== the reference: the next token ===== -/
/-- alike but for some rows and ints -/
def EqE (A I : List Nat) (ρ' ρ : MS) : Prop := (∀ k, k ∉ A → ρ'.1 k = ρ.1 k) ∧ ∀ k, k ∉ I → ρ'.2 k = ρ.2 k
theorem EqE.rf {A I : List Nat} {ρ : MS} : EqE A I ρ ρ := ⟨fun _ _ => rfl, fun _ _ => rfl⟩
theorem EqE.tr {A I : List Nat} {a b c : MS} (h : EqE A I a b) (k : EqE A I b c) : EqE A I a c := ⟨fun q hq => (h.1 q hq).trans (k.1 q hq), fun q hq => (h.2 q hq).trans (k.2 q hq)⟩
theorem EqE.wd {A I A' I' : List Nat} {a b : MS} (h : EqE A I a b) (hA : ∀ k ∈ A, k ∈ A') (hI : ∀ k ∈ I, k ∈ I') : EqE A' I' a b := ⟨fun q hq => h.1 q (fun n => hq (hA q n)), fun q hq => h.2 q (fun n => hq (hI q n))⟩
theorem EqE.sI {A I : List Nat} {a b : MS} (h : EqE A I a b) {k : Nat} {v : Int32} (hk : k ∈ I) : EqE A I (setI a k v) b := by
  refine ⟨h.1, fun q hq => ?_⟩
  simp only [setI]
  rw [if_neg (fun e : q = k => hq (e ▸ hk))]
  exact h.2 q hq
theorem EqE.sA {A I : List Nat} {a b : MS} (h : EqE A I a b) {k : Nat} {l : List Int32} (hk : k ∈ A) : EqE A I (setA a k l) b := by
  refine ⟨fun q hq => ?_, h.2⟩
  simp only [setA]
  rw [if_neg (fun e : q = k => hq (e ▸ hk))]
  exact h.1 q hq
/-- the tape -/
def TP (ρ : MS) (tp : List Int32) : Prop := ρ.2 15 = nI tp.length ∧ tp.length ≤ 160 ∧ ∀ (i : Nat) (c : Int32), tp[i]? = some c → (ρ.1 10)[i]? = some c
theorem TP.eq {A I : List Nat} {ρ ρ' : MS} {tp : List Int32} (h : TP ρ tp) (e : EqE A I ρ' ρ) (h1 : 10 ∉ A) (h2 : 15 ∉ I) : TP ρ' tp := by
  refine ⟨(e.2 15 h2).trans h.1, h.2.1, fun i c hc => ?_⟩
  rw [e.1 10 h1]; exact h.2.2 i c hc
def AtP (ρ : MS) (tp s : List Int32) : Prop := Sfx tp s ∧ ρ.2 17 = nI (psn tp s)
/-- the token that is looked at -/
def TokM (ρ : MS) (tp s : List Int32) : Prop := Sfx tp s ∧ ρ.2 19 = nI (psn tp s) ∧ ρ.2 18 = rkT (tkK s) ∧ (¬ tkK s = 1 → ρ.2 20 = rkV (tkK s) (tkV s) ∧ ρ.2 17 = nI (psn tp (tkR s)))
def isAtB (x y : Int32) : List Int32 → Bool
  | [] => false
  | c :: _ => decide (x ≤ c ∧ c ≤ y)
section MLEX
variable {g : Gl} {b : Nat} {ρ : MS} {tp : List Int32}
theorem c_isAt {μ : Mm} (hM : RM b ρ μ) (hP : TP ρ tp) {s : List Int32} (hA : AtP ρ tp s) (x y : Int32) : Pu g 1 mX12_isAt [.ref b, .int x, .int y] μ (b2i (isAtB x y s = true)) := by
  refine Mt.of0 (ls0 := [some (.ref b), some (.int x), some (.int y)]) (by decide) (by simp [Value.category]) (Nat.le_of_ble_eq_true rfl) rfl ?_
  obtain ⟨hs, h17⟩ := hA
  obtain ⟨p1, p2, p3⟩ := hP
  cases s with
  | nil =>
    refine ev_aload_n dX12_isAt_0 rfl ?_
    refine ev_get dX12_isAt_1 flX12_99_12 hM.1 rfl ?_
    refine ev_aload_n dX12_isAt_4 rfl ?_
    refine ev_get dX12_isAt_5 flX12_96_12 hM.1 rfl ?_
    refine ev_icmp_ge (tgt := 32) dX12_isAt_8 (by decide) (fun _ => ?_) (fun h8 => absurd ((show ρ.2 15 ≤ ρ.2 17 by rw [p1, h17]; exact nI_le (by simp [psn]) (by simp only [psn]; omega))) h8)
    refine ev_iconst (v := 0) dX12_isAt_32 (by decide) ?_
    refine ev_zret dX12_isAt_33 rfl (by decide) ?_
    exact ⟨rfl, rfl⟩
  | cons c r =>
    have hps := hs.ps
    refine ev_aload_n dX12_isAt_0 rfl ?_
    refine ev_get dX12_isAt_1 flX12_99_12 hM.1 rfl ?_
    refine ev_aload_n dX12_isAt_4 rfl ?_
    refine ev_get dX12_isAt_5 flX12_96_12 hM.1 rfl ?_
    refine ev_icmp_ge (tgt := 32) dX12_isAt_8 (by decide) (fun h8 => absurd h8 ((show ¬ ρ.2 15 ≤ ρ.2 17 by rw [p1, h17]; exact nI_ge hps.2 (by omega)))) (fun _ => ?_)
    refine ev_aload_n dX12_isAt_11 rfl ?_
    refine ev_get dX12_isAt_12 flX12_36_12 hM.1 rfl ?_
    refine ev_aload_n dX12_isAt_15 rfl ?_
    refine ev_get dX12_isAt_16 flX12_99_12 hM.1 rfl ?_
    rw [h17]
    refine ev_iald dX12_isAt_19 (hM.a 10 21 (by decide)) (ix_n (by omega)) (p3 _ _ hs.hd) ?_
    refine ev_iload_n dX12_isAt_20 rfl ?_
    refine ev_iload_n dX12_isAt_21 rfl ?_
    refine k_s (c_isIn c x y) (by decide) dX12_isAt_22 cbX12_isIn (mt5 123 rfl rfl) (mt5 124 rfl rfl) rfl rfl (Nat.le_of_ble_eq_true rfl) (fun v μ1 hq => ?_)
    obtain ⟨rfl, hμ⟩ := hq
    have hμ := hμ.symm
    subst hμ
    simp only [Option.toList, List.cons_append, List.nil_append]
    refine ev_if_eq (tgt := 32) dX12_isAt_25 (by decide) (fun h25 => ?_) (fun h25 => ?_)
    · refine ev_iconst (v := 0) dX12_isAt_32 (by decide) ?_
      refine ev_zret dX12_isAt_33 rfl (by decide) ?_
      refine ⟨?_, rfl⟩
      first
        | (rw [b2i_t (show isAtB x y (c :: r) = true from decide_eq_true (b2i_ne h25))])
        | (rw [b2i_f (show ¬ isAtB x y (c :: r) = true from fun q => b2i_eq h25 (of_decide_eq_true q))])
    · refine ev_iconst (v := 1) dX12_isAt_28 (by decide) ?_
      refine ev_goto (tgt := 33) dX12_isAt_29 (by decide) ?_
      refine ev_zret dX12_isAt_33 rfl (by decide) ?_
      refine ⟨?_, rfl⟩
      first
        | (rw [b2i_t (show isAtB x y (c :: r) = true from decide_eq_true (b2i_ne h25))])
        | (rw [b2i_f (show ¬ isAtB x y (c :: r) = true from fun q => b2i_eq h25 (of_decide_eq_true q))])
theorem l_rdBl {ρ0 : MS} {μ0 : Mm} {s1 : List Int32} {Q : Option Value → Mm → Prop} (hP : TP ρ0 tp) (go : ∀ (ρ : MS) (μ : Mm), RM b ρ μ → FM b μ0 μ → EqE [] [17] ρ ρ0 → AtP ρ tp s1 → Ev g 2 mX12_reads 35 [some (.ref b), none] [] μ Q) : ∀ (s : List Int32) (ρ : MS) (μ : Mm), RM b ρ μ → FM b μ0 μ → EqE [] [17] ρ ρ0 → AtP ρ tp s → skp s = s1 → Ev g 2 mX12_reads 0 [some (.ref b), none] [] μ Q := by
  intro s
  induction s with
  | nil =>
    intro ρ μ hM hF hE hA e
    subst e
    refine ev_aload_n dX12_reads_0 rfl ?_
    refine ev_bipush (v := 32) dX12_reads_1 (by decide) ?_
    refine ev_bipush (v := 32) dX12_reads_3 (by decide) ?_
    refine k_v (c_isAt hM (hP.eq hE (by decide) (by decide)) hA 32 32) (by decide) dX12_reads_5 cbX12_isAt (mt5 134 rfl rfl) (mt5 136 rfl rfl) (ms0 46 rfl rfl) (ci := 12) rfl hM.1 rfl rfl (Nat.le_of_ble_eq_true rfl) (fun v μ1 hq => ?_)
    obtain ⟨rfl, hμ⟩ := hq
    have hμ := hμ.symm
    subst hμ
    simp only [Option.toList, List.cons_append, List.nil_append]
    refine ev_if_ne (tgt := 22) dX12_reads_8 (by decide) (fun h8 => absurd ((show b2i (isAtB 32 32 [] = true) = 0 by decide)) h8) (fun _ => ?_)
    refine ev_aload_n dX12_reads_11 rfl ?_
    refine ev_bipush (v := 10) dX12_reads_12 (by decide) ?_
    refine ev_bipush (v := 10) dX12_reads_14 (by decide) ?_
    refine k_v (c_isAt hM (hP.eq hE (by decide) (by decide)) hA 10 10) (by decide) dX12_reads_16 cbX12_isAt (mt5 134 rfl rfl) (mt5 136 rfl rfl) (ms0 46 rfl rfl) (ci := 12) rfl hM.1 rfl rfl (Nat.le_of_ble_eq_true rfl) (fun v μ1 hq => ?_)
    obtain ⟨rfl, hμ⟩ := hq
    have hμ := hμ.symm
    subst hμ
    simp only [Option.toList, List.cons_append, List.nil_append]
    refine ev_if_eq (tgt := 35) dX12_reads_19 (by decide) (fun _ => ?_) (fun h19 => absurd ((show b2i (isAtB 10 10 [] = true) = 0 by decide)) h19)
    exact go ρ μ hM hF hE hA
  | cons c r ih =>
    intro ρ μ hM hF hE hA e
    have hps := hA.1.ps
    have e1 : isAtB 32 32 (c :: r) = true ↔ c = 32 := by simp only [isAtB, decide_eq_true_iff]; exact ⟨fun q => Int32.le_antisymm q.2 q.1, fun q => by rw [q]; exact ⟨Int32.le_refl _, Int32.le_refl _⟩⟩
    have e2 : isAtB 10 10 (c :: r) = true ↔ c = 10 := by simp only [isAtB, decide_eq_true_iff]; exact ⟨fun q => Int32.le_antisymm q.2 q.1, fun q => by rw [q]; exact ⟨Int32.le_refl _, Int32.le_refl _⟩⟩
    refine ev_aload_n dX12_reads_0 rfl ?_
    refine ev_bipush (v := 32) dX12_reads_1 (by decide) ?_
    refine ev_bipush (v := 32) dX12_reads_3 (by decide) ?_
    refine k_v (c_isAt hM (hP.eq hE (by decide) (by decide)) hA 32 32) (by decide) dX12_reads_5 cbX12_isAt (mt5 134 rfl rfl) (mt5 136 rfl rfl) (ms0 46 rfl rfl) (ci := 12) rfl hM.1 rfl rfl (Nat.le_of_ble_eq_true rfl) (fun v μ1 hq => ?_)
    obtain ⟨rfl, hμ⟩ := hq
    have hμ := hμ.symm
    subst hμ
    simp only [Option.toList, List.cons_append, List.nil_append]
    refine ev_if_ne (tgt := 22) dX12_reads_8 (by decide) (fun h8 => ?_) (fun h8 => ?_)
    · refine ev_aload_n dX12_reads_22 rfl ?_
      refine ev_dup dX12_reads_23 rfl ?_
      refine ev_get dX12_reads_24 flX12_99_12 hM.1 rfl ?_
      refine ev_iconst (v := 1) dX12_reads_27 (by decide) ?_
      refine ev_iadd dX12_reads_28 ?_
      refine evM_put hM hF (k := 17) (by decide) dX12_reads_29 fpX12_99_12 rfl rfl (fun μ hM hF => ?_)
      refine ev_goto (tgt := 0) dX12_reads_32 (by decide) ?_
      have hb : isBl c = true := by
        rw [isBl_spec]
        first
          | exact Or.inl (e1.mp (b2i_ne h8))
          | exact Or.inr (e2.mp (b2i_ne h19))
      refine ih _ _ hM hF (hE.sI (by decide)) ⟨hA.1.tl, ?_⟩ (by rw [← e, skp, skp, List.dropWhile_cons_of_pos hb])
      show ρ.2 17 + 1 = _
      rw [hA.2, nI_1, hps.1]
    · refine ev_aload_n dX12_reads_11 rfl ?_
      refine ev_bipush (v := 10) dX12_reads_12 (by decide) ?_
      refine ev_bipush (v := 10) dX12_reads_14 (by decide) ?_
      refine k_v (c_isAt hM (hP.eq hE (by decide) (by decide)) hA 10 10) (by decide) dX12_reads_16 cbX12_isAt (mt5 134 rfl rfl) (mt5 136 rfl rfl) (ms0 46 rfl rfl) (ci := 12) rfl hM.1 rfl rfl (Nat.le_of_ble_eq_true rfl) (fun v μ1 hq => ?_)
      obtain ⟨rfl, hμ⟩ := hq
      have hμ := hμ.symm
      subst hμ
      simp only [Option.toList, List.cons_append, List.nil_append]
      refine ev_if_eq (tgt := 35) dX12_reads_19 (by decide) (fun h19 => ?_) (fun h19 => ?_)
      · have hb : ¬ isBl c = true := by
          rw [isBl_spec]
          exact fun q => q.elim (fun q => b2i_eq h8 (e1.mpr q)) (fun q => b2i_eq h19 (e2.mpr q))
        have e3 : s1 = c :: r := by rw [← e, skp, List.dropWhile_cons_of_neg hb]
        rw [e3] at go
        exact go ρ μ hM hF hE hA
      · refine ev_aload_n dX12_reads_22 rfl ?_
        refine ev_dup dX12_reads_23 rfl ?_
        refine ev_get dX12_reads_24 flX12_99_12 hM.1 rfl ?_
        refine ev_iconst (v := 1) dX12_reads_27 (by decide) ?_
        refine ev_iadd dX12_reads_28 ?_
        refine evM_put hM hF (k := 17) (by decide) dX12_reads_29 fpX12_99_12 rfl rfl (fun μ hM hF => ?_)
        refine ev_goto (tgt := 0) dX12_reads_32 (by decide) ?_
        have hb : isBl c = true := by
          rw [isBl_spec]
          first
            | exact Or.inl (e1.mp (b2i_ne h8))
            | exact Or.inr (e2.mp (b2i_ne h19))
        refine ih _ _ hM hF (hE.sI (by decide)) ⟨hA.1.tl, ?_⟩ (by rw [← e, skp, skp, List.dropWhile_cons_of_pos hb])
        show ρ.2 17 + 1 = _
        rw [hA.2, nI_1, hps.1]
theorem l_rdDg {ρ0 : MS} {μ0 : Mm} (hP : TP ρ0 tp) {p0 : Nat} {s1 dg1 : List Int32} {Q : Option Value → Mm → Prop} (go : ∀ (ρ : MS) (μ : Mm), RM b ρ μ → FM b μ0 μ → EqE [] [17, 18, 20] ρ ρ0 → AtP ρ tp s1 → ρ.2 20 = (if dg1.length ≤ 4 then dvl 0 dg1 else 0) → p0 + dg1.length = psn tp s1 → Ev g 2 mX12_reads 150 [some (.ref b), none] [] μ Q) (h19 : ρ0.2 19 = nI p0) : ∀ (s dg : List Int32) (ρ : MS) (μ : Mm), RM b ρ μ → FM b μ0 μ → ML ρ → EqE [] [17, 18, 20] ρ ρ0 → AtP ρ tp s → ρ.2 20 = (if dg.length ≤ 4 then dvl 0 dg else 0) → p0 + dg.length = psn tp s → s.dropWhile isDg = s1 → dg ++ s.takeWhile isDg = dg1 → Ev g 2 mX12_reads 85 [some (.ref b), none] [] μ Q := by
  intro s
  induction s with
  | nil =>
    intro dg ρ μ hM hF hL hE hA h20 hp e1 e2
    subst e1
    rw [List.takeWhile_nil, List.append_nil] at e2
    subst e2
    refine ev_aload_n dX12_reads_85 rfl ?_
    refine ev_bipush (v := 48) dX12_reads_86 (by decide) ?_
    refine ev_bipush (v := 57) dX12_reads_88 (by decide) ?_
    refine k_v (c_isAt hM (hP.eq hE (by decide) (by decide)) hA 48 57) (by decide) dX12_reads_90 cbX12_isAt (mt5 134 rfl rfl) (mt5 136 rfl rfl) (ms0 46 rfl rfl) (ci := 12) rfl hM.1 rfl rfl (Nat.le_of_ble_eq_true rfl) (fun v μ1 hq => ?_)
    obtain ⟨rfl, hμ⟩ := hq
    have hμ := hμ.symm
    subst hμ
    simp only [Option.toList, List.cons_append, List.nil_append]
    refine ev_if_eq (tgt := 150) dX12_reads_93 (by decide) (fun _ => ?_) (fun h93 => absurd ((show b2i (isAtB 48 57 [] = true) = 0 by decide)) h93)
    exact go ρ μ hM hF hE hA h20 hp
  | cons c r ih =>
    intro dg ρ μ hM hF hL hE hA h20 hp e1 e2
    have hps := hA.1.ps
    have hP1 := hP.eq hE (by decide) (by decide)
    have h19' : ρ.2 19 = nI p0 := (hE.2 19 (by decide)).trans h19
    have h160 := hP1.2.1
    have e17 : ρ.2 17 - ρ.2 19 = nI dg.length := by rw [hA.2, h19', nI_sub (by omega), ← hp]; congr 1; omega
    have hge : b2i (isAtB 48 57 (c :: r) = true) = 0 ↔ ¬ isDg c = true := by
      by_cases q : isDg c = true
      · rw [b2i_t (show isAtB 48 57 (c :: r) = true from q)]
        exact ⟨fun n => absurd n (by decide), fun n => absurd q n⟩
      · rw [b2i_f (show ¬ isAtB 48 57 (c :: r) = true from q)]
        exact ⟨fun _ => q, fun _ => rfl⟩
    refine ev_aload_n dX12_reads_85 rfl ?_
    refine ev_bipush (v := 48) dX12_reads_86 (by decide) ?_
    refine ev_bipush (v := 57) dX12_reads_88 (by decide) ?_
    refine k_v (c_isAt hM hP1 hA 48 57) (by decide) dX12_reads_90 cbX12_isAt (mt5 134 rfl rfl) (mt5 136 rfl rfl) (ms0 46 rfl rfl) (ci := 12) rfl hM.1 rfl rfl (Nat.le_of_ble_eq_true rfl) (fun v μ1 hq => ?_)
    obtain ⟨rfl, hμ⟩ := hq
    have hμ := hμ.symm
    subst hμ
    simp only [Option.toList, List.cons_append, List.nil_append]
    refine ev_if_eq (tgt := 150) dX12_reads_93 (by decide) (fun h93 => ?_) (fun h93 => ?_)
    · have hd := hge.mp h93
      rw [List.dropWhile_cons_of_neg hd] at e1
      rw [List.takeWhile_cons_of_neg hd, List.append_nil] at e2
      subst e1
      subst e2
      exact go ρ μ hM hF hE hA h20 hp
    · refine ev_aload_n dX12_reads_96 rfl ?_
      refine ev_aload_n dX12_reads_97 rfl ?_
      refine ev_get dX12_reads_98 flX12_99_12 hM.1 rfl ?_
      refine ev_aload_n dX12_reads_101 rfl ?_
      refine ev_get dX12_reads_102 flX12_102_12 hM.1 rfl ?_
      refine ev_isub dX12_reads_105 ?_
      rw [e17]
      refine ev_iconst (v := 4) dX12_reads_106 (by decide) ?_
      refine ev_icmp_ge (tgt := 133) dX12_reads_107 (by decide) (fun h107 => ?_) (fun h107 => ?_)
      · refine ev_iconst (v := 0) dX12_reads_133 (by decide) ?_
        refine evM_put hM hF (k := 20) (by decide) dX12_reads_134 fpX12_112_12 rfl rfl (fun μ hM hF => ?_)
        refine ev_aload_n dX12_reads_137 rfl ?_
        refine ev_dup dX12_reads_138 rfl ?_
        refine ev_get dX12_reads_139 flX12_99_12 hM.1 rfl ?_
        refine ev_iconst (v := 1) dX12_reads_142 (by decide) ?_
        refine ev_iadd dX12_reads_143 ?_
        refine evM_put hM hF (k := 17) (by decide) dX12_reads_144 fpX12_99_12 rfl rfl (fun μ hM hF => ?_)
        refine ev_goto (tgt := 85) dX12_reads_147 (by decide) ?_
        have hd : isDg c = true := Classical.byContradiction fun n => h93 (hge.mpr n)
        rw [List.dropWhile_cons_of_pos hd] at e1
        rw [List.takeWhile_cons_of_pos hd] at e2
        refine ih (dg ++ [c]) _ _ hM hF hL ((hE.sI (by decide)).sI (by decide)) ⟨hA.1.tl, ?_⟩ ?_ (by rw [List.length_append, List.length_singleton]; omega) e1 (by rw [← e2]; simp)
        · show ρ.2 17 + 1 = _
          rw [hA.2, nI_1, hps.1]
        · rw [List.length_append, List.length_singleton]
          have h4 := nI_leI (a := 4) (b := dg.length) (by decide) (by omega)
          first
            | (have q : ¬ 4 ≤ dg.length := fun n => Int32.not_le.mpr (Int32.not_le.mp h107) (h4.mpr n)
               rw [if_pos (show dg.length + 1 ≤ 4 by omega), dvl_app]
               show (10 : Int32) * (if dg.length ≤ 4 then dvl 0 dg else 0) + c - 48 = _
               rw [if_pos (by omega), Int32.mul_comm])
            | (have q : 4 ≤ dg.length := h4.mp h107
               rw [if_neg (show ¬ dg.length + 1 ≤ 4 by omega)]
               rfl)
      · refine ev_bipush (v := 10) dX12_reads_110 (by decide) ?_
        refine ev_aload_n dX12_reads_112 rfl ?_
        refine ev_get dX12_reads_113 flX12_112_12 hM.1 rfl ?_
        rw [h20]
        refine ev_imul dX12_reads_116 ?_
        refine ev_aload_n dX12_reads_117 rfl ?_
        refine ev_get dX12_reads_118 flX12_36_12 hM.1 rfl ?_
        refine ev_aload_n dX12_reads_121 rfl ?_
        refine ev_get dX12_reads_122 flX12_99_12 hM.1 rfl ?_
        rw [hA.2]
        refine ev_iald dX12_reads_125 (hM.a 10 21 (by decide)) (ix_n (by omega)) (hP1.2.2 _ _ hA.1.hd) ?_
        refine ev_iadd dX12_reads_126 ?_
        refine ev_bipush (v := 48) dX12_reads_127 (by decide) ?_
        refine ev_isub dX12_reads_129 ?_
        refine ev_goto (tgt := 134) dX12_reads_130 (by decide) ?_
        refine evM_put hM hF (k := 20) (by decide) dX12_reads_134 fpX12_112_12 rfl rfl (fun μ hM hF => ?_)
        refine ev_aload_n dX12_reads_137 rfl ?_
        refine ev_dup dX12_reads_138 rfl ?_
        refine ev_get dX12_reads_139 flX12_99_12 hM.1 rfl ?_
        refine ev_iconst (v := 1) dX12_reads_142 (by decide) ?_
        refine ev_iadd dX12_reads_143 ?_
        refine evM_put hM hF (k := 17) (by decide) dX12_reads_144 fpX12_99_12 rfl rfl (fun μ hM hF => ?_)
        refine ev_goto (tgt := 85) dX12_reads_147 (by decide) ?_
        have hd : isDg c = true := Classical.byContradiction fun n => h93 (hge.mpr n)
        rw [List.dropWhile_cons_of_pos hd] at e1
        rw [List.takeWhile_cons_of_pos hd] at e2
        refine ih (dg ++ [c]) _ _ hM hF hL ((hE.sI (by decide)).sI (by decide)) ⟨hA.1.tl, ?_⟩ ?_ (by rw [List.length_append, List.length_singleton]; omega) e1 (by rw [← e2]; simp)
        · show ρ.2 17 + 1 = _
          rw [hA.2, nI_1, hps.1]
        · rw [List.length_append, List.length_singleton]
          have h4 := nI_leI (a := 4) (b := dg.length) (by decide) (by omega)
          first
            | (have q : ¬ 4 ≤ dg.length := fun n => Int32.not_le.mpr (Int32.not_le.mp h107) (h4.mpr n)
               rw [if_pos (show dg.length + 1 ≤ 4 by omega), dvl_app]
               show (10 : Int32) * (if dg.length ≤ 4 then dvl 0 dg else 0) + c - 48 = _
               rw [if_pos (by omega), Int32.mul_comm])
            | (have q : 4 ≤ dg.length := h4.mp h107
               rw [if_neg (show ¬ dg.length + 1 ≤ 4 by omega)]
               rfl)
end MLEX
