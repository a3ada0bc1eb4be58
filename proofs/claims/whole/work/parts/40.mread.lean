/-! ===== the reference: words, the next token ===== -/
theorem Sfx.at {tp s : List Int32} (h : Sfx tp s) {j : Nat} : tp[psn tp s + j]? = s[j]? := by
  obtain ⟨p, rfl⟩ := h
  rw [List.getElem?_append_right (by simp only [psn, List.length_append]; omega)]
  congr 1
  simp only [psn, List.length_append]
  omega
section MREAD
variable {g : Gl} {b : Nat} {ρ : MS} {tp : List Int32}
theorem l_isWord {μ : Mm} (hM : RM b ρ μ) (hP : TP ρ tp) {run rest w : List Int32} {k : Nat} (hw : mWd[k]? = some w) (hs : Sfx tp (run ++ rest)) (h19 : ρ.2 19 = nI (psn tp (run ++ rest))) (hl : run.length = w.length) : ∀ (m j : Nat), j + m = w.length → (∀ i, i < j → run[i]? = w[i]?) → Ev g 0 mX12_isWord 18 [some (.ref b), some (.ref (b + (9 + k))), some (.int (nI j))] [] μ (fun v μ' => v = some (.int (b2i (run = w))) ∧ μ' = μ) := by
  have h160 := hP.2.1
  have hle := hs.le
  simp only [List.length_append] at hle
  intro m
  induction m with
  | zero =>
    intro j hj hi
    refine ev_iload_n dX12_isWord_18 rfl ?_
    refine ev_aload_n dX12_isWord_19 rfl ?_
    refine ev_alen dX12_isWord_20 (hM.2.2.2 k w hw) ?_
    refine ev_icmp_ge (tgt := 49) dX12_isWord_21 (by decide) (fun _ => ?_) (fun h21 => absurd ((show nI w.length ≤ nI j from nI_le (by omega) (by omega))) h21)
    refine ev_iconst (v := 1) dX12_isWord_49 (by decide) ?_
    refine ev_zret dX12_isWord_50 rfl (by decide) ?_
    refine ⟨?_, rfl⟩
    rw [b2i_t]
    apply List.ext_getElem?
    intro i
    by_cases q : i < j
    · exact hi i q
    · rw [List.getElem?_eq_none (by omega), List.getElem?_eq_none (by omega)]
  | succ m ih =>
    intro j hj hi
    have hjr : run[j]? = some (run.getD j 0) := gd (by omega)
    have hjw : w[j]? = some (w.getD j 0) := gd (by omega)
    have ht : tp[psn tp (run ++ rest) + j]? = some (run.getD j 0) := by
      rw [hs.at, List.getElem?_append_left (by omega)]
      exact hjr
    refine ev_iload_n dX12_isWord_18 rfl ?_
    refine ev_aload_n dX12_isWord_19 rfl ?_
    refine ev_alen dX12_isWord_20 (hM.2.2.2 k w hw) ?_
    refine ev_icmp_ge (tgt := 49) dX12_isWord_21 (by decide) (fun h21 => absurd h21 ((show ¬ nI w.length ≤ nI j from nI_ge (by omega) (by omega)))) (fun _ => ?_)
    refine ev_aload_n dX12_isWord_24 rfl ?_
    refine ev_get dX12_isWord_25 flX12_36_12 hM.1 rfl ?_
    refine ev_aload_n dX12_isWord_28 rfl ?_
    refine ev_get dX12_isWord_29 flX12_102_12 hM.1 rfl ?_
    refine ev_iload_n dX12_isWord_32 rfl ?_
    refine ev_iadd dX12_isWord_33 ?_
    rw [h19, nI_add]
    refine ev_iald dX12_isWord_34 (hM.a 10 21 (by decide)) (ix_n (by simp only [psn, List.length_append]; omega)) (hP.2.2 _ _ ht) ?_
    refine ev_aload_n dX12_isWord_35 rfl ?_
    refine ev_iload_n dX12_isWord_36 rfl ?_
    refine ev_iald dX12_isWord_37 (hM.2.2.2 k w hw) (ix_n (by omega)) hjw ?_
    refine ev_icmp_eq (tgt := 43) dX12_isWord_38 (by decide) (fun h38 => ?_) (fun h38 => ?_)
    · refine ev_iinc dX12_isWord_43 rfl (by decide) ?_
      dsimp only [List.set]
      refine ev_goto (tgt := 18) dX12_isWord_46 (by decide) ?_
      rw [nI_inc]
      refine ih (j + 1) (by omega) (fun i q => ?_)
      by_cases q2 : i < j
      · exact hi i q2
      · rw [show i = j by omega, hjr, hjw, h38]
    · refine ev_iconst (v := 0) dX12_isWord_41 (by decide) ?_
      refine ev_zret dX12_isWord_42 rfl (by decide) ?_
      refine ⟨?_, rfl⟩
      rw [b2i_f (fun q => h38 (by rw [q]))]
theorem c_isWord {μ : Mm} (hM : RM b ρ μ) (hP : TP ρ tp) {run rest w : List Int32} {k : Nat} (hw : mWd[k]? = some w) (hs : Sfx tp (run ++ rest)) (h19 : ρ.2 19 = nI (psn tp (run ++ rest))) (h17 : ρ.2 17 = nI (psn tp rest)) : Pu g 0 mX12_isWord [.ref b, .ref (b + (9 + k))] μ (b2i (run = w)) := by
  refine Mt.of0 (ls0 := [some (.ref b), some (.ref (b + (9 + k))), none]) (by decide) (by simp [Value.category]) (Nat.le_of_ble_eq_true rfl) rfl ?_
  have h160 := hP.2.1
  have hle := hs.le
  simp only [List.length_append] at hle
  have hwl : w.length ≤ 5 := by
    have k5 : ∀ w ∈ mWd, w.length ≤ 5 := by decide
    exact k5 w (List.mem_of_getElem? hw)
  have e1 : ρ.2 17 - ρ.2 19 = nI run.length := by
    rw [h17, h19, nI_sub (by simp only [psn, List.length_append]; omega)]
    congr 1
    simp only [psn, List.length_append]
    omega
  refine ev_aload_n dX12_isWord_0 rfl ?_
  refine ev_get dX12_isWord_1 flX12_99_12 hM.1 rfl ?_
  refine ev_aload_n dX12_isWord_4 rfl ?_
  refine ev_get dX12_isWord_5 flX12_102_12 hM.1 rfl ?_
  refine ev_isub dX12_isWord_8 ?_
  rw [e1]
  refine ev_aload_n dX12_isWord_9 rfl ?_
  refine ev_alen dX12_isWord_10 (hM.2.2.2 k w hw) ?_
  refine ev_icmp_eq (tgt := 16) dX12_isWord_11 (by decide) (fun h11 => ?_) (fun h11 => ?_)
  · refine ev_iconst (v := 0) dX12_isWord_16 (by decide) ?_
    refine ev_istore_n dX12_isWord_17 (by decide) ?_
    dsimp only [List.set]
    exact l_isWord hM hP hw hs h19 ((nI_eq (by omega) (by omega)).mp h11) w.length 0 (by omega) (fun i q => absurd q (by omega))
  · refine ev_iconst (v := 0) dX12_isWord_14 (by decide) ?_
    refine ev_zret dX12_isWord_15 rfl (by decide) ?_
    refine ⟨?_, rfl⟩
    rw [b2i_f (fun q => h11 (by rw [q]))]
theorem l_rdLt {ρ0 : MS} {μ0 : Mm} (hP : TP ρ0 tp) {s1 : List Int32} {Q : Option Value → Mm → Prop} (go : ∀ (ρ : MS) (μ : Mm), RM b ρ μ → FM b μ0 μ → EqE [] [17] ρ ρ0 → AtP ρ tp s1 → Ev g 2 mX12_reads 212 [some (.ref b), none] [] μ Q) : ∀ (s : List Int32) (ρ : MS) (μ : Mm), RM b ρ μ → FM b μ0 μ → EqE [] [17] ρ ρ0 → AtP ρ tp s → s.dropWhile isLt = s1 → Ev g 2 mX12_reads 188 [some (.ref b), none] [] μ Q := by
  intro s
  induction s with
  | nil =>
    intro ρ μ hM hF hE hA e
    subst e
    refine ev_aload_n dX12_reads_188 rfl ?_
    refine ev_bipush (v := 97) dX12_reads_189 (by decide) ?_
    refine ev_bipush (v := 122) dX12_reads_191 (by decide) ?_
    refine k_v (c_isAt hM (hP.eq hE (by decide) (by decide)) hA 97 122) (by decide) dX12_reads_193 cbX12_isAt (mt5 134 rfl rfl) (mt5 136 rfl rfl) (ms0 46 rfl rfl) (ci := 12) rfl hM.1 rfl rfl (Nat.le_of_ble_eq_true rfl) (fun v μ1 hq => ?_)
    obtain ⟨rfl, hμ⟩ := hq
    have hμ := hμ.symm
    subst hμ
    simp only [Option.toList, List.cons_append, List.nil_append]
    refine ev_if_eq (tgt := 212) dX12_reads_196 (by decide) (fun _ => ?_) (fun h196 => absurd ((show b2i (isAtB 97 122 [] = true) = 0 by decide)) h196)
    exact go ρ μ hM hF hE hA
  | cons c r ih =>
    intro ρ μ hM hF hE hA e
    have hps := hA.1.ps
    refine ev_aload_n dX12_reads_188 rfl ?_
    refine ev_bipush (v := 97) dX12_reads_189 (by decide) ?_
    refine ev_bipush (v := 122) dX12_reads_191 (by decide) ?_
    refine k_v (c_isAt hM (hP.eq hE (by decide) (by decide)) hA 97 122) (by decide) dX12_reads_193 cbX12_isAt (mt5 134 rfl rfl) (mt5 136 rfl rfl) (ms0 46 rfl rfl) (ci := 12) rfl hM.1 rfl rfl (Nat.le_of_ble_eq_true rfl) (fun v μ1 hq => ?_)
    obtain ⟨rfl, hμ⟩ := hq
    have hμ := hμ.symm
    subst hμ
    simp only [Option.toList, List.cons_append, List.nil_append]
    refine ev_if_eq (tgt := 212) dX12_reads_196 (by decide) (fun h196 => ?_) (fun h196 => ?_)
    · have hb : ¬ isLt c = true := b2i_eq h196
      have e3 : s1 = c :: r := by rw [← e, List.dropWhile_cons_of_neg hb]
      rw [e3] at go
      exact go ρ μ hM hF hE hA
    · refine ev_aload_n dX12_reads_199 rfl ?_
      refine ev_dup dX12_reads_200 rfl ?_
      refine ev_get dX12_reads_201 flX12_99_12 hM.1 rfl ?_
      refine ev_iconst (v := 1) dX12_reads_204 (by decide) ?_
      refine ev_iadd dX12_reads_205 ?_
      refine evM_put hM hF (k := 17) (by decide) dX12_reads_206 fpX12_99_12 rfl rfl (fun μ hM hF => ?_)
      refine ev_goto (tgt := 188) dX12_reads_209 (by decide) ?_
      have hb : isLt c = true := b2i_ne h196
      refine ih _ _ hM hF (hE.sI (by decide)) ⟨hA.1.tl, ?_⟩ (by rw [← e, List.dropWhile_cons_of_pos hb])
      show ρ.2 17 + 1 = _
      rw [hA.2, nI_1, hps.1]
/-- words k .. 11 are held against the one that was read -/
theorem l_rdWd {ρ0 : MS} {μ0 : Mm} (hP : TP ρ0 tp) {run rest : List Int32} (hs : Sfx tp (run ++ rest)) (h19 : ρ0.2 19 = nI (psn tp (run ++ rest))) (h17 : ρ0.2 17 = nI (psn tp rest)) : ∀ (m k : Nat) (ρ : MS) (μ : Mm), k + m = 12 → RM b ρ μ → FM b μ0 μ → ML ρ → EqE [] [18, 20] ρ ρ0 → (if wIx run < k then ρ.2 18 = 101 ∧ ρ.2 20 = nI (wIx run) else ρ.2 18 = 104) → Ev g 2 mX12_reads 214 [some (.ref b), some (.int (nI k))] [] μ (fun v μ' => v = none ∧ (∃ ρ', RM b ρ' μ' ∧ ML ρ' ∧ EqE [] [18, 20] ρ' ρ0 ∧ (if wIx run < 12 then ρ'.2 18 = 101 ∧ ρ'.2 20 = nI (wIx run) else ρ'.2 18 = 104)) ∧ FM b μ0 μ') := by
  intro m
  induction m with
  | zero =>
    intro k ρ μ hk hM hF hL hE h
    have hk : k = 12 := by omega
    subst hk
    refine ev_iload_n dX12_reads_214 rfl ?_
    refine ev_aload_n dX12_reads_215 rfl ?_
    refine ev_get dX12_reads_216 flX12_32_12 hM.1 rfl ?_
    refine ev_alenR dX12_reads_219 hM.2.2.1 (by decide) ?_
    refine ev_icmp_ge (tgt := 256) dX12_reads_220 (by decide) (fun _ => ?_) (fun h220 => absurd ((show nI (mWr b).length ≤ nI 12 from Int32.le_refl _)) h220)
    refine ev_goto (tgt := 303) dX12_reads_256 (by decide) ?_
    refine ev_vret dX12_reads_303 rfl ?_
    exact ⟨rfl, ⟨ρ, hM, hL, hE, h⟩, hF⟩
  | succ m ih =>
    intro k ρ μ hk hM hF hL hE h
    have hk12 : k < 12 := by omega
    obtain ⟨w, hw⟩ : ∃ w, mWd[k]? = some w := ⟨_, List.getElem?_eq_getElem (by show k < 12; exact hk12)⟩
    have hr : (mWr b)[k]? = some (some (b + (9 + k))) := by
      have k2 : ∀ k, k < 12 → (mWr b)[k]? = some (some (b + (9 + k))) := by
        intro k hk
        match k, hk with
        | 0, _ => rfl
        | 1, _ => rfl
        | 2, _ => rfl
        | 3, _ => rfl
        | 4, _ => rfl
        | 5, _ => rfl
        | 6, _ => rfl
        | 7, _ => rfl
        | 8, _ => rfl
        | 9, _ => rfl
        | 10, _ => rfl
        | 11, _ => rfl
        | n + 12, h => exact absurd h (by omega)
      exact k2 k hk12
    have hix := mWd_ix (l := run) hw
    have g19 : ρ.2 19 = nI (psn tp (run ++ rest)) := (hE.2 19 (by decide)).trans h19
    have g17 : ρ.2 17 = nI (psn tp rest) := (hE.2 17 (by decide)).trans h17
    refine ev_iload_n dX12_reads_214 rfl ?_
    refine ev_aload_n dX12_reads_215 rfl ?_
    refine ev_get dX12_reads_216 flX12_32_12 hM.1 rfl ?_
    refine ev_alenR dX12_reads_219 hM.2.2.1 (by decide) ?_
    refine ev_icmp_ge (tgt := 256) dX12_reads_220 (by decide) (fun h220 => absurd h220 ((show ¬ nI (mWr b).length ≤ nI k from nI_ge (show k < 12 from hk12) (by show 12 < _; decide)))) (fun _ => ?_)
    refine ev_aload_n dX12_reads_223 rfl ?_
    refine ev_aload_n dX12_reads_224 rfl ?_
    refine ev_get dX12_reads_225 flX12_32_12 hM.1 rfl ?_
    refine ev_iload_n dX12_reads_228 rfl ?_
    refine ev_aald dX12_reads_229 hM.2.2.1 (by decide) (by decide) (ix_n (by omega)) hr ?_
    refine k_v (c_isWord hM (hP.eq hE (by decide) (by decide)) hw hs g19 g17) (by decide) dX12_reads_230 cbX12_isWord (mt5 138 rfl rfl) (mt5 140 rfl rfl) (ms0 47 rfl rfl) (ci := 12) rfl hM.1 rfl rfl (Nat.le_of_ble_eq_true rfl) (fun v μ1 hq => ?_)
    obtain ⟨rfl, hμ⟩ := hq
    have hμ := hμ.symm
    subst hμ
    simp only [Option.toList, List.cons_append, List.nil_append]
    refine ev_if_ne (tgt := 239) dX12_reads_233 (by decide) (fun h233 => ?_) (fun h233 => ?_)
    · refine ev_aload_n dX12_reads_239 rfl ?_
      refine ev_bipush (v := 101) dX12_reads_240 (by decide) ?_
      refine evM_put hM hF (k := 18) (by decide) dX12_reads_242 fpX12_109_12 rfl rfl (fun μ hM hF => ?_)
      refine ev_aload_n dX12_reads_245 rfl ?_
      refine ev_iload_n dX12_reads_246 rfl ?_
      refine evM_put hM hF (k := 20) (by decide) dX12_reads_247 fpX12_112_12 rfl rfl (fun μ hM hF => ?_)
      refine ev_iinc dX12_reads_250 rfl (by decide) ?_
      dsimp only [List.set]
      refine ev_goto (tgt := 214) dX12_reads_253 (by decide) ?_
      rw [nI_inc]
      first
        | (have q : wIx run = k := hix.mp (b2i_ne h233)
           refine ih (k + 1) _ _ (by omega) hM hF hL ((hE.sI (by decide)).sI (by decide)) ?_
           rw [if_pos (by omega)]
           exact ⟨rfl, by rw [q]; rfl⟩)
        | (have q : ¬ wIx run = k := fun n => b2i_eq h233 (hix.mpr n)
           refine ih (k + 1) _ _ (by omega) hM hF hL hE ?_
           by_cases q2 : wIx run < k
           · rw [if_pos q2] at h; rw [if_pos (by omega)]; exact h
           · rw [if_neg q2] at h; rw [if_neg (by omega)]; exact h)
    · refine ev_goto (tgt := 250) dX12_reads_236 (by decide) ?_
      refine ev_iinc dX12_reads_250 rfl (by decide) ?_
      dsimp only [List.set]
      refine ev_goto (tgt := 214) dX12_reads_253 (by decide) ?_
      rw [nI_inc]
      first
        | (have q : wIx run = k := hix.mp (b2i_ne h233)
           refine ih (k + 1) _ _ (by omega) hM hF hL ((hE.sI (by decide)).sI (by decide)) ?_
           rw [if_pos (by omega)]
           exact ⟨rfl, by rw [q]; rfl⟩)
        | (have q : ¬ wIx run = k := fun n => b2i_eq h233 (hix.mpr n)
           refine ih (k + 1) _ _ (by omega) hM hF hL hE ?_
           by_cases q2 : wIx run < k
           · rw [if_pos q2] at h; rw [if_pos (by omega)]; exact h
           · rw [if_neg q2] at h; rw [if_neg (by omega)]; exact h)
theorem eqe_ml {ρ ρ' : MS} {I : List Nat} (hL : ML ρ) (e : EqE [] I ρ' ρ) : ML ρ' := fun q hq => by rw [e.1 q.1 (by simp)]; exact hL q hq
/-- what reads() leaves -/
abbrev RdQ (b : Nat) (ρ0 : MS) (tp s : List Int32) (μ0 : Mm) : Option Value → Mm → Prop := fun v μ' => v = none ∧ (∃ ρ', RM b ρ' μ' ∧ EqE [] [17, 18, 19, 20] ρ' ρ0 ∧ TokM ρ' tp s) ∧ FM b μ0 μ'
theorem l_rd150 {ρ0 : MS} {μ0 μ : Mm} {c : Int32} {r : List Int32} (hM : RM b ρ μ) (hF : FM b μ0 μ) (hE : EqE [] [17, 18, 19, 20] ρ ρ0) (hd : isDg c = true) (hs : Sfx tp (c :: r)) (h160 : tp.length ≤ 160) (i19 : ρ.2 19 = nI (psn tp (c :: r))) (hA : AtP ρ tp ((c :: r).dropWhile isDg)) (h20 : ρ.2 20 = (if ((c :: r).takeWhile isDg).length ≤ 4 then dvl 0 ((c :: r).takeWhile isDg) else 0)) (hp : psn tp (c :: r) + ((c :: r).takeWhile isDg).length = psn tp ((c :: r).dropWhile isDg)) : Ev g 2 mX12_reads 150 [some (.ref b), none] [] μ (RdQ b ρ0 tp (c :: r) μ0) := by
  have hlt : ¬ isLt c = true := by
    rw [isLt_spec]
    rw [isDg_spec] at hd
    intro q
    have := Int32.le_trans q.1 hd.2
    exact absurd this (by decide)
  have hle := hA.1.le
  have h17 := hA.2
  have eK : tkK (c :: r) = if ((c :: r).takeWhile isDg).length ≤ 4 then 2 else 1 := by rw [tkK, if_neg hlt, if_pos hd]
  have eR : tkR (c :: r) = (c :: r).dropWhile isDg := by rw [tkR, if_neg hlt, if_pos hd]
  have eV : tkV (c :: r) = dvl 0 ((c :: r).takeWhile isDg) := rfl
  generalize (c :: r).takeWhile isDg = run at *
  generalize (c :: r).dropWhile isDg = rest at *
  have e5 : ρ.2 17 - ρ.2 19 = nI run.length := by
    rw [h17, i19, nI_sub (by omega), ← hp]
    congr 1
    omega
  have hps := hs.ps
  have hrl : run.length ≤ 160 := by simp only [psn] at hp; omega
  have h4 := nI_leI (a := run.length) (b := 4) (by omega) (by decide)
  refine ev_aload_n dX12_reads_150 rfl ?_
  refine ev_aload_n dX12_reads_151 rfl ?_
  refine ev_get dX12_reads_152 flX12_99_12 hM.1 rfl ?_
  refine ev_aload_n dX12_reads_155 rfl ?_
  refine ev_get dX12_reads_156 flX12_102_12 hM.1 rfl ?_
  refine ev_isub dX12_reads_159 ?_
  rw [e5]
  refine ev_iconst (v := 4) dX12_reads_160 (by decide) ?_
  refine ev_icmp_le (tgt := 169) dX12_reads_161 (by decide) (fun h161 => ?_) (fun h161 => ?_)
  · refine ev_bipush (v := 100) dX12_reads_169 (by decide) ?_
    refine evM_put hM hF (k := 18) (by decide) dX12_reads_171 fpX12_109_12 rfl rfl (fun μ hM hF => ?_)
    refine ev_goto (tgt := 303) dX12_reads_174 (by decide) ?_
    refine ev_vret dX12_reads_303 rfl ?_
    refine ⟨rfl, ⟨_, hM, hE.sI (by decide), hs, i19, ?_, ?_⟩, hF⟩
    · first
      | (rw [eK, if_pos (h4.mp h161)]; rfl)
      | (rw [eK, if_neg (fun q => h161 (h4.mpr q))]; rfl)
    · intro q
      first
        | (have q4 := h4.mp h161
           rw [eK, if_pos q4, eV, eR]
           exact ⟨by show ρ.2 20 = _; rw [h20, if_pos q4]; rfl, h17⟩)
        | (rw [eK, if_neg (fun q => h161 (h4.mpr q))] at q
           exact absurd rfl q)
  · refine ev_bipush (v := 104) dX12_reads_164 (by decide) ?_
    refine ev_goto (tgt := 171) dX12_reads_166 (by decide) ?_
    refine evM_put hM hF (k := 18) (by decide) dX12_reads_171 fpX12_109_12 rfl rfl (fun μ hM hF => ?_)
    refine ev_goto (tgt := 303) dX12_reads_174 (by decide) ?_
    refine ev_vret dX12_reads_303 rfl ?_
    refine ⟨rfl, ⟨_, hM, hE.sI (by decide), hs, i19, ?_, ?_⟩, hF⟩
    · first
      | (rw [eK, if_pos (h4.mp h161)]; rfl)
      | (rw [eK, if_neg (fun q => h161 (h4.mpr q))]; rfl)
    · intro q
      first
        | (have q4 := h4.mp h161
           rw [eK, if_pos q4, eV, eR]
           exact ⟨by show ρ.2 20 = _; rw [h20, if_pos q4]; rfl, h17⟩)
        | (rw [eK, if_neg (fun q => h161 (h4.mpr q))] at q
           exact absurd rfl q)
theorem l_rd177 {ρ0 : MS} {μ0 μ : Mm} {c : Int32} {r : List Int32} (hM : RM b ρ μ) (hF : FM b μ0 μ) (hL : ML ρ) (hP : TP ρ tp) (hE : EqE [] [17, 18, 19, 20] ρ ρ0) (hd : ¬ isDg c = true) (hA : AtP ρ tp (c :: r)) (i19 : ρ.2 19 = nI (psn tp (c :: r))) (i18 : ρ.2 18 = 104) : Ev g 2 mX12_reads 177 [some (.ref b), none] [] μ (RdQ b ρ0 tp (c :: r) μ0) := by
  have h160 := hP.2.1
  have hps := hA.1.ps
  refine ev_aload_n dX12_reads_177 rfl ?_
  refine ev_bipush (v := 97) dX12_reads_178 (by decide) ?_
  refine ev_bipush (v := 122) dX12_reads_180 (by decide) ?_
  refine k_v (c_isAt hM hP hA 97 122) (by decide) dX12_reads_182 cbX12_isAt (mt5 134 rfl rfl) (mt5 136 rfl rfl) (ms0 46 rfl rfl) (ci := 12) rfl hM.1 rfl rfl (Nat.le_of_ble_eq_true rfl) (fun v μ1 hq => ?_)
  obtain ⟨rfl, hμ⟩ := hq
  have hμ := hμ.symm
  subst hμ
  simp only [Option.toList, List.cons_append, List.nil_append]
  refine ev_if_eq (tgt := 259) dX12_reads_185 (by decide) (fun h185 => ?_) (fun h185 => ?_)
  · refine ev_aload_n dX12_reads_259 rfl ?_
    refine ev_get dX12_reads_260 flX12_36_12 hM.1 rfl ?_
    refine ev_aload_n dX12_reads_263 rfl ?_
    refine ev_get dX12_reads_264 flX12_99_12 hM.1 rfl ?_
    rw [hA.2]
    refine ev_iald dX12_reads_267 (hM.a 10 21 (by decide)) (ix_n (by omega)) (hP.2.2 _ _ hA.1.hd) ?_
    refine k_s (c_isSign c) (by decide) dX12_reads_268 cbX12_isSign (mt5 142 rfl rfl) (mt5 143 rfl rfl) rfl rfl (Nat.le_of_ble_eq_true rfl) (fun v μ1 hq => ?_)
    obtain ⟨rfl, hμ⟩ := hq
    have hμ := hμ.symm
    subst hμ
    simp only [Option.toList, List.cons_append, List.nil_append]
    refine ev_if_eq (tgt := 303) dX12_reads_271 (by decide) (fun h271 => ?_) (fun h271 => ?_)
    · refine ev_vret dX12_reads_303 rfl ?_
      have hl : ¬ isLt c = true := b2i_eq h185
      have eR : tkR (c :: r) = r := by rw [tkR, if_neg hl, if_neg hd]
      first
        | (have q : ¬ isSg c = true := by rw [isSg_spec]; exact b2i_eq h271
           have eK : tkK (c :: r) = 1 := by rw [tkK, if_neg hl, if_neg hd, if_neg q]
           exact ⟨rfl, ⟨ρ, hM, hE, hA.1, i19, by rw [eK]; exact i18, fun n => absurd eK n⟩, hF⟩)
        | (have q : isSg c = true := by rw [isSg_spec]; exact b2i_ne h271
           have eK : tkK (c :: r) = c := by rw [tkK, if_neg hl, if_neg hd, if_pos q]
           refine ⟨rfl, ⟨_, hM, ((hE.sI (by decide)).sI (by decide)).sI (by decide), hA.1, i19, by rw [eK, (sg_ok q).1]; rfl, fun n => ?_⟩, hF⟩
           rw [eK, (sg_ok q).2, eR]
           refine ⟨rfl, ?_⟩
           show ρ.2 17 + 1 = _
           rw [hA.2, nI_1, hps.1])
    · refine ev_aload_n dX12_reads_274 rfl ?_
      refine ev_bipush (v := 102) dX12_reads_275 (by decide) ?_
      refine evM_put hM hF (k := 18) (by decide) dX12_reads_277 fpX12_109_12 rfl rfl (fun μ hM hF => ?_)
      refine ev_aload_n dX12_reads_280 rfl ?_
      refine ev_aload_n dX12_reads_281 rfl ?_
      refine ev_get dX12_reads_282 flX12_36_12 hM.1 rfl ?_
      refine ev_aload_n dX12_reads_285 rfl ?_
      refine ev_get dX12_reads_286 flX12_99_12 hM.1 rfl ?_
      rw [show (setI ρ 18 102).2 17 = nI (psn tp (c :: r)) from hA.2]
      refine ev_iald dX12_reads_289 (hM.a 10 21 (by decide)) (ix_n (by omega)) (hP.2.2 _ _ hA.1.hd) ?_
      refine evM_put hM hF (k := 20) (by decide) dX12_reads_290 fpX12_112_12 rfl rfl (fun μ hM hF => ?_)
      refine ev_aload_n dX12_reads_293 rfl ?_
      refine ev_dup dX12_reads_294 rfl ?_
      refine ev_get dX12_reads_295 flX12_99_12 hM.1 rfl ?_
      refine ev_iconst (v := 1) dX12_reads_298 (by decide) ?_
      refine ev_iadd dX12_reads_299 ?_
      refine evM_put hM hF (k := 17) (by decide) dX12_reads_300 fpX12_99_12 rfl rfl (fun μ hM hF => ?_)
      refine ev_vret dX12_reads_303 rfl ?_
      have hl : ¬ isLt c = true := b2i_eq h185
      have eR : tkR (c :: r) = r := by rw [tkR, if_neg hl, if_neg hd]
      first
        | (have q : ¬ isSg c = true := by rw [isSg_spec]; exact b2i_eq h271
           have eK : tkK (c :: r) = 1 := by rw [tkK, if_neg hl, if_neg hd, if_neg q]
           exact ⟨rfl, ⟨ρ, hM, hE, hA.1, i19, by rw [eK]; exact i18, fun n => absurd eK n⟩, hF⟩)
        | (have q : isSg c = true := by rw [isSg_spec]; exact b2i_ne h271
           have eK : tkK (c :: r) = c := by rw [tkK, if_neg hl, if_neg hd, if_pos q]
           refine ⟨rfl, ⟨_, hM, ((hE.sI (by decide)).sI (by decide)).sI (by decide), hA.1, i19, by rw [eK, (sg_ok q).1]; rfl, fun n => ?_⟩, hF⟩
           rw [eK, (sg_ok q).2, eR]
           refine ⟨rfl, ?_⟩
           show ρ.2 17 + 1 = _
           rw [hA.2, nI_1, hps.1])
  · have hl : isLt c = true := b2i_ne h185
    refine l_rdLt hP (s1 := (c :: r).dropWhile isLt) ?_ (c :: r) ρ μ hM hF EqE.rf hA rfl
    intro ρ1 μ1 hM hF hE1 hA1
    have hL1 := eqe_ml hL hE1
    refine ev_iconst (v := 0) dX12_reads_212 (by decide) ?_
    refine ev_istore_n dX12_reads_213 (by decide) ?_
    dsimp only [List.set]
    have eL : (c :: r).takeWhile isLt ++ (c :: r).dropWhile isLt = c :: r := List.takeWhile_append_dropWhile
    have j19 : ρ1.2 19 = nI (psn tp (c :: r)) := (hE1.2 19 (by decide)).trans i19
    have j18 : ρ1.2 18 = 104 := (hE1.2 18 (by decide)).trans i18
    refine Ev.imp (l_rdWd (run := (c :: r).takeWhile isLt) (rest := (c :: r).dropWhile isLt) (hP.eq hE1 (by decide) (by decide)) (by rw [eL]; exact hA.1) (by rw [eL]; exact j19) hA1.2 12 0 ρ1 _ (by omega) hM hF hL1 EqE.rf (by rw [if_neg (Nat.not_lt_zero _)]; exact j18)) ?_
    rintro v μ' ⟨rfl, ⟨ρ2, hM2, hL2, hE2, h2⟩, hF2⟩
    have eK : tkK (c :: r) = wKd (wIx ((c :: r).takeWhile isLt)) := by rw [tkK, if_pos hl]
    have eR : tkR (c :: r) = (c :: r).dropWhile isLt := by rw [tkR, if_pos hl]
    refine ⟨rfl, ⟨ρ2, hM2, ((hE2.wd (fun _ h => h) (by decide)).tr (hE1.wd (fun _ h => h) (by decide))).tr hE, hA.1, (hE2.2 19 (by decide)).trans j19, ?_, ?_⟩, hF2⟩
    · rw [eK]
      have h12 := wIx_12 ((c :: r).takeWhile isLt)
      by_cases q : wIx ((c :: r).takeWhile isLt) < 12
      · rw [if_pos q] at h2
        rw [(wKd_ok _ q).1]; exact h2.1
      · rw [if_neg q] at h2
        rw [show wIx ((c :: r).takeWhile isLt) = 12 by omega]; exact h2
    · intro q1
      rw [eK] at q1 ⊢
      have h12 := wIx_12 ((c :: r).takeWhile isLt)
      by_cases q : wIx ((c :: r).takeWhile isLt) < 12
      · rw [if_pos q] at h2
        rw [rkV_v (wKd_ok _ q).2.2.1, (wKd_ok _ q).2.1, eR]
        exact ⟨h2.2, (hE2.2 17 (by decide)).trans hA1.2⟩
      · rw [show wIx ((c :: r).takeWhile isLt) = 12 by omega] at q1
        exact absurd rfl q1
theorem l_rd74 {ρ0 : MS} {μ0 μ : Mm} {c : Int32} {r : List Int32} (hM : RM b ρ μ) (hF : FM b μ0 μ) (hL : ML ρ) (hP : TP ρ tp) (hE : EqE [] [17, 18, 19, 20] ρ ρ0) (hA : AtP ρ tp (c :: r)) (i19 : ρ.2 19 = nI (psn tp (c :: r))) (i18 : ρ.2 18 = 104) (i20 : ρ.2 20 = 0) : Ev g 2 mX12_reads 74 [some (.ref b), none] [] μ (RdQ b ρ0 tp (c :: r) μ0) := by
  refine ev_aload_n dX12_reads_74 rfl ?_
  refine ev_bipush (v := 48) dX12_reads_75 (by decide) ?_
  refine ev_bipush (v := 57) dX12_reads_77 (by decide) ?_
  refine k_v (c_isAt hM hP hA 48 57) (by decide) dX12_reads_79 cbX12_isAt (mt5 134 rfl rfl) (mt5 136 rfl rfl) (ms0 46 rfl rfl) (ci := 12) rfl hM.1 rfl rfl (Nat.le_of_ble_eq_true rfl) (fun v μ1 hq => ?_)
  obtain ⟨rfl, hμ⟩ := hq
  have hμ := hμ.symm
  subst hμ
  simp only [Option.toList, List.cons_append, List.nil_append]
  refine ev_if_eq (tgt := 177) dX12_reads_82 (by decide) (fun h82 => ?_) (fun h82 => ?_)
  · exact l_rd177 hM hF hL hP hE (b2i_eq h82) hA i19 i18
  · have hd : isDg c = true := b2i_ne h82
    refine l_rdDg (ρ0 := ρ) (μ0 := μ0) (p0 := psn tp (c :: r)) (s1 := (c :: r).dropWhile isDg) (dg1 := (c :: r).takeWhile isDg) hP ?_ i19 (c :: r) [] ρ μ hM hF hL EqE.rf hA i20 rfl rfl rfl
    intro ρ3 μ3 hM hF hE3 hA3 h20 hp
    exact l_rd150 hM hF ((hE3.wd (fun _ h => h) (by decide)).tr hE) hd hA.1 hP.2.1 ((hE3.2 19 (by decide)).trans i19) hA3 h20 hp
/-- the next token -/
theorem c_reads {μ : Mm} {ρ0 : MS} (hM : RM b ρ0 μ) (hL : ML ρ0) (hP : TP ρ0 tp) {s : List Int32} (hA : AtP ρ0 tp s) : Mt g 2 mX12_reads [.ref b] μ (RdQ b ρ0 tp (skp s) μ) := by
  refine Mt.of0 (ls0 := [some (.ref b), none]) (by decide) (by simp [Value.category]) (Nat.le_of_ble_eq_true rfl) rfl ?_
  refine l_rdBl (μ0 := μ) (s1 := skp s) hP ?_ s ρ0 μ hM FM.rf EqE.rf hA rfl
  clear hM hA
  intro ρ1 μ1 hM hF hE hA
  have hL1 := eqe_ml hL hE
  have hP1 := hP.eq hE (by decide) (by decide)
  have hE := hE.wd (A' := []) (I' := [17, 18, 19, 20]) (fun _ h => h) (by decide)
  have h160 := hP.2.1
  have h15 := hP1.1
  generalize hs1 : skp s = s1 at hA ⊢
  have h17 := hA.2
  cases s1 with
  | nil =>
    refine ev_aload_n dX12_reads_35 rfl ?_
    refine ev_aload_n dX12_reads_36 rfl ?_
    refine ev_get dX12_reads_37 flX12_99_12 hM.1 rfl ?_
    refine evM_put hM hF (k := 19) (by decide) dX12_reads_40 fpX12_102_12 rfl rfl (fun μ hM hF => ?_)
    refine ev_aload_n dX12_reads_43 rfl ?_
    refine ev_bipush (v := 104) dX12_reads_44 (by decide) ?_
    refine evM_put hM hF (k := 18) (by decide) dX12_reads_46 fpX12_109_12 rfl rfl (fun μ hM hF => ?_)
    refine ev_aload_n dX12_reads_49 rfl ?_
    refine ev_iconst (v := 0) dX12_reads_50 (by decide) ?_
    refine evM_put hM hF (k := 20) (by decide) dX12_reads_51 fpX12_112_12 rfl rfl (fun μ hM hF => ?_)
    refine ev_aload_n dX12_reads_54 rfl ?_
    refine ev_get dX12_reads_55 flX12_99_12 hM.1 rfl ?_
    refine ev_aload_n dX12_reads_58 rfl ?_
    refine ev_get dX12_reads_59 flX12_96_12 hM.1 rfl ?_
    refine ev_icmp_ne (tgt := 74) dX12_reads_62 (by decide) (fun h62 => absurd ((show ρ1.2 17 = ρ1.2 15 by rw [h17, h15]; congr 1)) h62) (fun _ => ?_)
    refine ev_aload_n dX12_reads_65 rfl ?_
    refine ev_bipush (v := 103) dX12_reads_66 (by decide) ?_
    refine evM_put hM hF (k := 18) (by decide) dX12_reads_68 fpX12_109_12 rfl rfl (fun μ hM hF => ?_)
    refine ev_goto (tgt := 303) dX12_reads_71 (by decide) ?_
    refine ev_vret dX12_reads_303 rfl ?_
    refine ⟨rfl, ⟨_, hM, (((hE.sI (by decide)).sI (by decide)).sI (by decide)).sI (by decide), hA.1, h17, rfl, fun _ => ⟨rfl, h17⟩⟩, hF⟩
  | cons c r =>
    have hps := hA.1.ps
    have hne : ¬ ρ1.2 17 = ρ1.2 15 := by rw [h17, h15, nI_eq (by omega) (by omega)]; omega
    have hE2 := ((hE.sI (k := 19) (v := ρ1.2 17) (by decide)).sI (k := 18) (v := 104) (by decide)).sI (k := 20) (v := 0) (by decide)
    refine ev_aload_n dX12_reads_35 rfl ?_
    refine ev_aload_n dX12_reads_36 rfl ?_
    refine ev_get dX12_reads_37 flX12_99_12 hM.1 rfl ?_
    refine evM_put hM hF (k := 19) (by decide) dX12_reads_40 fpX12_102_12 rfl rfl (fun μ hM hF => ?_)
    refine ev_aload_n dX12_reads_43 rfl ?_
    refine ev_bipush (v := 104) dX12_reads_44 (by decide) ?_
    refine evM_put hM hF (k := 18) (by decide) dX12_reads_46 fpX12_109_12 rfl rfl (fun μ hM hF => ?_)
    refine ev_aload_n dX12_reads_49 rfl ?_
    refine ev_iconst (v := 0) dX12_reads_50 (by decide) ?_
    refine evM_put hM hF (k := 20) (by decide) dX12_reads_51 fpX12_112_12 rfl rfl (fun μ hM hF => ?_)
    refine ev_aload_n dX12_reads_54 rfl ?_
    refine ev_get dX12_reads_55 flX12_99_12 hM.1 rfl ?_
    refine ev_aload_n dX12_reads_58 rfl ?_
    refine ev_get dX12_reads_59 flX12_96_12 hM.1 rfl ?_
    refine ev_icmp_ne (tgt := 74) dX12_reads_62 (by decide) (fun _ => ?_) (fun h62 => absurd h62 (hne))
    exact l_rd74 hM hF (eqe_ml hL hE2) (hP.eq hE2 (by decide) (by decide)) hE2 ⟨hA.1, h17⟩ h17 rfl rfl
end MREAD
