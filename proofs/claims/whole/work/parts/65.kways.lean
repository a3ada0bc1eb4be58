/-! ===== the class: ways ===== -/
def wrk (F : Nat → Nat → Int32) (w : Int32) (h : Nat) : Int32 := if w = 0 ∧ F 3 h = 1 then 200 - F 2 h else F 2 h
theorem wrk_ah {F : Nat → Nat → Int32} (hV : VF F) {w ac : Int32} (hw : w = 0 ∨ w = 1) (hac : ac = if w = 1 then 1 else 0) {h x : Nat} (hh : h < 7) (hx : x < h) : ahI F ac h x = 0 ↔ wrk F w x ≤ wrk F w h := by
  have vh := hV h hh
  have vx := hV x (by omega)
  have p1 := vh.2.2.1.1; have p2 := vh.2.2.1.2; have p3 := vx.2.2.1.1; have p4 := vx.2.2.1.2
  have s1 := vh.2.2.2.1.1; have s2 := vh.2.2.2.1.2; have s3 := vx.2.2.2.1.1; have s4 := vx.2.2.2.1.2
  have t200 : (200 : Int32).toInt = 200 := by decide
  have eh : (200 - F 2 h).toInt = 200 - (F 2 h).toInt := by rw [sub_i (by rw [t200]; omega) (by rw [t200]; omega), t200]
  have ex : (200 - F 2 x).toInt = 200 - (F 2 x).toInt := by rw [sub_i (by rw [t200]; omega) (by rw [t200]; omega), t200]
  have hnlt : ¬ nI h < nI x := nI_nlt (by omega) (by omega)
  have n01 : ¬ (0 : Int32) = 1 := by decide
  unfold ahI wrk
  rcases hw with rfl | rfl
  · have hac : ac = 0 := by rw [hac, if_neg n01]
    subst hac
    clear hV vh vx hac n01
    repeat' split
    all_goals (simp only [← Int32.toInt_inj, Int32.le_iff_toInt_le, Int32.lt_iff_toInt_lt, eh, ex, Int32.reduceToInt, true_and, and_true, not_true_eq_false, not_false_eq_true, false_or, or_false, true_or, or_true, false_and, and_false, Int.reduceEq, true_iff, false_iff, iff_true, iff_false] at *)
    all_goals omega
  · have hac : ac = 1 := by rw [hac, if_pos rfl]
    subst hac
    clear hV vh vx hac n01
    repeat' split
    all_goals (simp only [← Int32.toInt_inj, Int32.le_iff_toInt_le, Int32.lt_iff_toInt_lt, eh, ex, Int32.reduceToInt, true_and, and_true, not_true_eq_false, not_false_eq_true, false_or, or_false, true_or, or_true, false_and, and_false, Int.reduceEq, true_iff, false_iff, iff_true, iff_false] at *)
    all_goals omega
theorem ahI_01 {F : Nat → Nat → Int32} {ac : Int32} {h x : Nat} : ahI F ac h x = 0 ∨ ahI F ac h x = 1 := by
  unfold ahI
  repeat' split
  all_goals first | exact Or.inl rfl | exact Or.inr rfl
theorem ins_mem {F : Nat → Nat → Int32} {ac : Int32} {h : Nat} : ∀ (rp post : List Nat), (∀ x ∈ rp, x < h) → (∀ x ∈ post, x < h) → ∀ x ∈ ins F ac h rp post, x < h + 1 := by
  intro rp
  induction rp with
  | nil => intro post _ h2 x hx; rw [ins] at hx; rcases List.mem_cons.mp hx with rfl | q; omega; have := h2 x q; omega
  | cons y rp ih =>
    intro post h1 h2 x hx
    rw [ins] at hx
    split at hx
    · rcases List.mem_append.mp hx with q | q
      · have := h1 x (List.mem_reverse.mp q); omega
      · rcases List.mem_cons.mp q with rfl | q
        · omega
        · have := h2 x q; omega
    · refine ih (y :: post) (fun z q => h1 z (List.mem_cons_of_mem _ q)) (fun z q => ?_) x hx
      rcases List.mem_cons.mp q with rfl | q
      · exact h1 _ List.mem_cons_self
      · exact h2 z q
section KWAYS
variable {g : Gl} {a m tx n t : Nat} {ρ : MS} {cd : Nat → List Int32} {Lf : Nat → Nat}
theorem c_kRank {σ : KS} {μ : Mm} (hM : KM a m tx σ μ) (hT : KTie ρ n t tx cd Lf m σ) {h : Nat} (hh : h < n) (w : Int32) : Pu g 2 mX11_wayRank [.ref a, .int (nI h), .int w] μ (wrk (Fc ρ) w h) := by
  refine Mt.of0 (ls0 := [some (.ref a), some (.int (nI h)), some (.int w), none]) (by decide) (by simp [Value.category]) (Nat.le_of_ble_eq_true rfl) rfl ?_
  obtain ⟨hd, hkc⟩ := hT.door hM hh
  rw [wrk]
  refine ev_aload_n dX11_wayRank_0 rfl ?_
  refine ev_iload_n dX11_wayRank_1 rfl ?_
  refine k_v (c_doorOf hM hT.hc hT.nm hh) (by decide) dX11_wayRank_2 cbX11_doorOf (mt3 61 rfl rfl) (mt3 63 rfl rfl) (ms0 17 rfl rfl) (ci := 11) rfl (hM.o 0 11 (by decide)) rfl rfl (Nat.le_of_ble_eq_true rfl) (fun v μ1 hq => ?_)
  obtain ⟨rfl, hμ⟩ := hq; have hμ := hμ.symm; subst hμ
  simp only [Option.toList, List.cons_append, List.nil_append]
  refine ev_astore_n dX11_wayRank_5 (by decide) ?_
  dsimp only [List.set]
  refine ev_aload_n dX11_wayRank_6 rfl ?_
  refine ev_ifnonnull (tgt := 12) dX11_wayRank_7 (by decide) ?_
  refine ev_iload_n dX11_wayRank_12 rfl ?_
  refine ev_if_ne (tgt := 35) dX11_wayRank_13 (by decide) (fun h13 => ?_) (fun h13 => ?_)
  · refine ev_aload_n dX11_wayRank_35 rfl ?_
    refine ev_get dX11_wayRank_36 (glX11_337 hkc.1) hd rfl ?_
    refine ev_iret dX11_wayRank_39 rfl ?_
    first
      | (have q1 : Fc ρ 3 h = 1 := h21
         rw [if_pos ⟨h13, q1⟩]; exact ⟨rfl, rfl⟩)
      | (rw [if_neg (fun q => h13 q.1)]; exact ⟨rfl, rfl⟩)
      | (rw [if_neg (fun q => h21 q.2)]; exact ⟨rfl, rfl⟩)
  · refine ev_aload_n dX11_wayRank_16 rfl ?_
    refine ev_get dX11_wayRank_17 (glX11_334 hkc.1) hd rfl ?_
    refine ev_iconst (v := 1) dX11_wayRank_20 (by decide) ?_
    refine ev_icmp_ne (tgt := 35) dX11_wayRank_21 (by decide) (fun h21 => ?_) (fun h21 => ?_)
    · refine ev_aload_n dX11_wayRank_35 rfl ?_
      refine ev_get dX11_wayRank_36 (glX11_337 hkc.1) hd rfl ?_
      refine ev_iret dX11_wayRank_39 rfl ?_
      first
        | (have q1 : Fc ρ 3 h = 1 := h21
           rw [if_pos ⟨h13, q1⟩]; exact ⟨rfl, rfl⟩)
        | (rw [if_neg (fun q => h13 q.1)]; exact ⟨rfl, rfl⟩)
        | (rw [if_neg (fun q => h21 q.2)]; exact ⟨rfl, rfl⟩)
    · refine ev_sipush (v := 200) dX11_wayRank_24 (by decide) ?_
      refine ev_aload_n dX11_wayRank_27 rfl ?_
      refine ev_get dX11_wayRank_28 (glX11_337 hkc.1) hd rfl ?_
      refine ev_isub dX11_wayRank_31 ?_
      refine ev_goto (tgt := 39) dX11_wayRank_32 (by decide) ?_
      refine ev_iret dX11_wayRank_39 rfl ?_
      first
        | (have q1 : Fc ρ 3 h = 1 := h21
           rw [if_pos ⟨h13, q1⟩]; exact ⟨rfl, rfl⟩)
        | (rw [if_neg (fun q => h13 q.1)]; exact ⟨rfl, rfl⟩)
        | (rw [if_neg (fun q => h21 q.2)]; exact ⟨rfl, rfl⟩)
theorem l_kWaysIn (hV : VF (Fc ρ)) {w ac : Int32} (hw : w = 0 ∨ w = 1) (hac : ac = if w = 1 then 1 else 0) {σ0 : KS} (hT0 : KTie ρ n t tx cd Lf m σ0) (sc : ∀ σ : KS, EqK [11] [] σ σ0 → (σ.1 11).length = 7 → ScK t σ σ0) {h : Nat} (hh : h < 7) (hhn : h < n) {μ0 : Mm} {Q : Option Value → Mm → Prop} (target : List Nat) (go : ∀ (σ : KS) (o3 o4 : Option Value) (μ : Mm), (σ.1 11).length = 7 → PreL (σ.1 11) target → KM a m tx σ μ → EqK [11] [] σ σ0 → FC a μ0 μ → Ev g 5 mX11_ways 14 [some (.ref a), some (.int w), some (.int (nI (h + 1))), o3, o4] [] μ Q) :
    ∀ (rp post : List Nat) (σ : KS) (μ : Mm), ins (Fc ρ) ac h rp post = target → rp.length + post.length = h → (∀ x ∈ rp, x < h) → (σ.1 11).length = 7 → GapL (σ.1 11) rp.reverse post → KM a m tx σ μ → EqK [11] [] σ σ0 → FC a μ0 μ → Ev g 5 mX11_ways 32 [some (.ref a), some (.int w), some (.int (nI h)), some (.int (wrk (Fc ρ) w h)), some (.int (nI rp.length))] [] μ Q := by
  have fin : ∀ (rp post : List Nat) (σ : KS) (μ : Mm), rp.reverse ++ h :: post = target → rp.length + post.length = h → (σ.1 11).length = 7 → GapL (σ.1 11) rp.reverse post → KM a m tx σ μ → EqK [11] [] σ σ0 → FC a μ0 μ → Ev g 5 mX11_ways 77 [some (.ref a), some (.int w), some (.int (nI h)), some (.int (wrk (Fc ρ) w h)), some (.int (nI rp.length))] [] μ Q := by
    intro rp post σ μ ht hlen hl hG hM hE hF
    have hf := hG.fill hh (by rw [List.length_reverse, hl]; omega)
    rw [ht, List.length_reverse] at hf
    refine ev_aload_n dX11_ways_77 rfl ?_
    refine ev_get dX11_ways_78 flX11_69_11 (hM.o 0 11 (by decide)) rfl ?_
    refine ev_iload dX11_ways_81 rfl ?_
    refine ev_iload_n dX11_ways_83 rfl ?_
    refine evK_iast hM hF (k := 11) (by decide) dX11_ways_84 (ix_n (by omega)) (show rp.length < (σ.1 11).length by rw [hl]; omega) (fun μ hM hF => ?_)
    refine ev_iinc dX11_ways_85 rfl (by decide) ?_
    dsimp only [List.set]
    refine ev_goto (tgt := 14) dX11_ways_88 (by decide) ?_
    rw [nI_inc]
    exact go _ _ _ μ (show ((σ.1 11).set rp.length (nI h)).length = 7 by rw [List.length_set]; exact hl) hf hM (hE.sR (by simp)) hF
  intro rp
  induction rp with
  | nil =>
    intro post σ μ ht hlen hrp hl hG hM hE hF
    refine ev_iload dX11_ways_32 rfl ?_
    refine ev_if_le (tgt := 77) dX11_ways_34 (by decide) (fun _ => ?_) (fun h34 => absurd ((show nI 0 ≤ 0 by decide)) h34)
    exact fin [] post σ μ ht hlen hl hG hM hE hF
  | cons x rp ih =>
    intro post σ μ ht hlen hrp hl hG hM hE hF
    have hx := hG.1 rp.length x (by simp)
    have hxh := hrp x List.mem_cons_self
    have hT := hT0.sc (sc σ hE hl)
    have ixp : ix (nI (rp.length + 1) - 1) rp.length := by simp only [List.length_cons] at hlen; rw [nI_pred]; exact ix_n (by omega)
    have hmv := hG.move (by simp only [List.length_cons] at hlen; omega)
    have hwr := wrk_ah hV hw hac hh hxh
    simp only [List.length_cons] at hlen ⊢
    rw [ins] at ht
    refine ev_iload dX11_ways_32 rfl ?_
    refine ev_if_le (tgt := 77) dX11_ways_34 (by decide) (fun h34 => absurd h34 ((show ¬ nI (rp.length + 1) ≤ 0 by rw [nI_le0 (by omega)]; omega))) (fun _ => ?_)
    refine ev_aload_n dX11_ways_37 rfl ?_
    refine ev_aload_n dX11_ways_38 rfl ?_
    refine ev_get dX11_ways_39 flX11_69_11 (hM.o 0 11 (by decide)) rfl ?_
    refine ev_iload dX11_ways_42 rfl ?_
    refine ev_iconst (v := 1) dX11_ways_44 (by decide) ?_
    refine ev_isub dX11_ways_45 ?_
    refine ev_iald dX11_ways_46 (hM.r 11 (by decide)) ixp hx.1 ?_
    refine ev_iload_n dX11_ways_47 rfl ?_
    refine k_v (c_kRank hM hT (by omega) w) (by decide) dX11_ways_48 cbX11_wayRank (mt4 128 rfl rfl) (mt4 130 rfl rfl) (ms0 39 rfl rfl) (ci := 11) rfl (hM.o 0 11 (by decide)) rfl rfl (Nat.le_of_ble_eq_true rfl) (fun v μ1 hq => ?_)
    obtain ⟨rfl, hμ⟩ := hq
    have hμ := hμ.symm
    subst hμ
    simp only [Option.toList, List.cons_append, List.nil_append]
    refine ev_iload_n dX11_ways_51 rfl ?_
    refine ev_icmp_le (tgt := 77) dX11_ways_52 (by decide) (fun h52 => ?_) (fun h52 => ?_)
    · rw [if_pos (hwr.mpr h52)] at ht
      exact fin (x :: rp) post σ μ ht hlen hl hG hM hE hF
    · refine ev_aload_n dX11_ways_55 rfl ?_
      refine ev_get dX11_ways_56 flX11_69_11 (hM.o 0 11 (by decide)) rfl ?_
      refine ev_iload dX11_ways_59 rfl ?_
      refine ev_aload_n dX11_ways_61 rfl ?_
      refine ev_get dX11_ways_62 flX11_69_11 (hM.o 0 11 (by decide)) rfl ?_
      refine ev_iload dX11_ways_65 rfl ?_
      refine ev_iconst (v := 1) dX11_ways_67 (by decide) ?_
      refine ev_isub dX11_ways_68 ?_
      refine ev_iald dX11_ways_69 (hM.r 11 (by decide)) ixp hx.1 ?_
      refine evK_iast hM hF (k := 11) (by decide) dX11_ways_70 (ix_n (by omega)) (show rp.length + 1 < (σ.1 11).length by rw [hl]; omega) (fun μ hM hF => ?_)
      refine ev_iinc dX11_ways_71 rfl (by decide) ?_
      dsimp only [List.set]
      refine ev_goto (tgt := 32) dX11_ways_74 (by decide) ?_
      rw [nI_dec]
      rw [if_neg (fun q => h52 (hwr.mp q))] at ht
      exact ih (x :: post) _ μ ht (by simp only [List.length_cons]; omega) (fun z q => hrp z (List.mem_cons_of_mem _ q)) (show ((σ.1 11).set (rp.length + 1) (nI x)).length = 7 by rw [List.length_set]; exact hl) hmv hM (hE.sR (by simp)) hF
theorem l_kWaysOut {w ac : Int32} (hw : w = 0 ∨ w = 1) (hac : ac = if w = 1 then 1 else 0) (hI : IM ρ n t tx cd Lf) {σ0 : KS} (hT0 : KTie ρ n t tx cd Lf m σ0) {μ0 : Mm} : ∀ (k h : Nat) (os : List Nat) (σ : KS) (o3 o4 : Option Value) (μ : Mm), h + k = n → os.length = h → (∀ x ∈ os, x < h) → (σ.1 11).length = 7 → PreL (σ.1 11) os → KM a m tx σ μ → EqK [11] [] σ σ0 → FC a μ0 μ → Ev g 5 mX11_ways 14 [some (.ref a), some (.int w), some (.int (nI h)), o3, o4] [] μ (fun v μ' => v = some (.int (rd0 (Fc ρ) (Se ρ) (wayO (Fc ρ) ac k h os)).1) ∧ KV a ρ n t tx cd Lf m μ' ∧ FC a μ0 μ') := by
  have hn7 := hI.2.2.1.2
  have sc : ∀ σ : KS, EqK [11] [] σ σ0 → (σ.1 11).length = 7 → ScK t σ σ0 := fun σ hE hl => ⟨hE.wd (by simp) (by simp), by rw [hE.1 10 (by decide)], by rw [hl, hT0.ln (k := 11) (z := 7) (by decide)], by rw [hE.1 (201 + 3 * t) (by simp; omega)]⟩
  intro k
  induction k with
  | zero =>
    intro h os σ o3 o4 μ hk hos hox hl hp hM hE hF
    have hk : h = n := by omega
    subst hk
    have hT := hT0.sc (sc σ hE hl)
    refine ev_iload_n dX11_ways_14 rfl ?_
    refine ev_aload_n dX11_ways_15 rfl ?_
    refine ev_get dX11_ways_16 flX11_15_11 (hM.o 0 11 (by decide)) rfl ?_
    rw [hT.hc]
    refine ev_icmp_ge (tgt := 91) dX11_ways_19 (by decide) (fun _ => ?_) (fun h19 => absurd ((nI_le (by omega) (by omega))) h19)
    refine ev_aload_n dX11_ways_91 rfl ?_
    refine ev_aload_n dX11_ways_92 rfl ?_
    refine ev_get dX11_ways_93 flX11_69_11 (hM.o 0 11 (by decide)) rfl ?_
    refine ev_iconst (v := 0) dX11_ways_96 (by decide) ?_
    refine ev_aload_n dX11_ways_97 rfl ?_
    refine ev_get dX11_ways_98 flX11_15_11 (hM.o 0 11 (by decide)) rfl ?_
    rw [hT.hc]
    refine k_v (c_kGo (fr := 0) (os := os) hI.1 hI.2.1 hn7 hM hT (o := 11) (Or.inr rfl) (fun i x hx => by rw [Nat.zero_add]; exact ⟨(hp i x hx).1, hox x (List.mem_of_getElem? hx)⟩) (by rw [Nat.zero_add, hos]) hn7) (by decide) dX11_ways_101 cbX11_goThrough (mt3 194 rfl rfl) (mt3 196 rfl rfl) (ms0 22 rfl rfl) (ci := 11) rfl (hM.o 0 11 (by decide)) rfl rfl (Nat.le_of_ble_eq_true rfl) (fun v μ1 hq => ?_)
    obtain ⟨rfl, ⟨σ', hM', hE', hl', hb', ha'⟩, hF'⟩ := hq
    simp only [Option.toList, List.cons_append, List.nil_append]
    refine ev_iret dX11_ways_104 rfl ?_
    exact ⟨rfl, ⟨σ', hM', hT.sc (ScK.of10 hE' (hl'.trans (hT.ln (k := 10) (z := 7) (by decide)).symm))⟩, hF.tr hF'⟩
  | succ k ih =>
    intro h os σ o3 o4 μ hk hos hox hl hp hM hE hF
    have hT := hT0.sc (sc σ hE hl)
    rw [wayO]
    refine ev_iload_n dX11_ways_14 rfl ?_
    refine ev_aload_n dX11_ways_15 rfl ?_
    refine ev_get dX11_ways_16 flX11_15_11 (hM.o 0 11 (by decide)) rfl ?_
    rw [hT.hc]
    refine ev_icmp_ge (tgt := 91) dX11_ways_19 (by decide) (fun h19 => absurd h19 ((nI_ge (by omega) (by omega)))) (fun _ => ?_)
    refine ev_aload_n dX11_ways_22 rfl ?_
    refine ev_iload_n dX11_ways_23 rfl ?_
    refine ev_iload_n dX11_ways_24 rfl ?_
    refine k_v (c_kRank hM hT (by omega) w) (by decide) dX11_ways_25 cbX11_wayRank (mt4 128 rfl rfl) (mt4 130 rfl rfl) (ms0 39 rfl rfl) (ci := 11) rfl (hM.o 0 11 (by decide)) rfl rfl (Nat.le_of_ble_eq_true rfl) (fun v μ1 hq => ?_)
    obtain ⟨rfl, hμ⟩ := hq
    have hμ := hμ.symm
    subst hμ
    simp only [Option.toList, List.cons_append, List.nil_append]
    refine ev_istore_n dX11_ways_28 (by decide) ?_
    dsimp only [List.set]
    refine ev_iload_n dX11_ways_29 rfl ?_
    refine ev_istore dX11_ways_30 (by decide) ?_
    dsimp only [List.set]
    have hz := l_kWaysIn (g := g) (μ0 := μ0) hI.1 hw hac hT0 sc (h := h) (by omega) (by omega) (ins (Fc ρ) ac h os.reverse []) (Q := (fun v μ' => v = some (.int (rd0 (Fc ρ) (Se ρ) (wayO (Fc ρ) ac k (h + 1) (ins (Fc ρ) ac h os.reverse []))).1) ∧ KV a ρ n t tx cd Lf m μ' ∧ FC a μ0 μ')) (fun σ o3 o4 μ q1 q2 q3 q4 q5 => ih (h + 1) _ σ o3 o4 μ (by omega) (by rw [ins_len]; simp; omega) (ins_mem _ _ (fun x q => hox x (List.mem_reverse.mp q)) (fun x q => by simp at q)) q1 q2 q3 q4 q5) os.reverse [] σ μ rfl (by simp; omega) (fun x q => hox x (List.mem_reverse.mp q)) hl ⟨by rw [List.reverse_reverse]; exact hp, fun i x hx => by simp at hx⟩ hM hE hF
    rw [List.length_reverse, hos] at hz
    exact hz
theorem c_kWays {σ : KS} {μ : Mm} (hI : IM ρ n t tx cd Lf) (hM : KM a m tx σ μ) (hT : KTie ρ n t tx cd Lf m σ) (w : Int32) : Mt g 5 mX11_ways [.ref a, .int w] μ (fun v μ' => v = some (.int (ansWays ρ n w)) ∧ KV a ρ n t tx cd Lf m μ' ∧ FC a μ μ') := by
  refine Mt.of0 (ls0 := [some (.ref a), some (.int w), none, none, none]) (by decide) (by simp [Value.category]) (Nat.le_of_ble_eq_true rfl) rfl ?_
  rw [ansWays]
  refine ev_iload_n dX11_ways_0 rfl ?_
  refine ev_if_lt (tgt := 9) dX11_ways_1 (by decide) (fun h1 => ?_) (fun h1 => ?_)
  · refine ev_bipush (v := (-2)) dX11_ways_9 (by decide) ?_
    refine ev_iret dX11_ways_11 rfl ?_
    rw [if_neg (fun q => by first | exact Int32.not_lt.mpr q.1 h1 | exact h6 q.2)]
    exact ⟨rfl, ⟨σ, hM, hT⟩, FC.rf⟩
  · refine ev_iload_n dX11_ways_4 rfl ?_
    refine ev_iconst (v := 1) dX11_ways_5 (by decide) ?_
    refine ev_icmp_le (tgt := 12) dX11_ways_6 (by decide) (fun h6 => ?_) (fun h6 => ?_)
    · refine ev_iconst (v := 0) dX11_ways_12 (by decide) ?_
      refine ev_istore_n dX11_ways_13 (by decide) ?_
      dsimp only [List.set]
      have q0 := Int32.not_lt.mp h1
      rw [if_pos ⟨q0, h6⟩]
      have hw : w = 0 ∨ w = 1 := by
        have h6' := h6
        rw [Int32.le_iff_toInt_le] at q0 h6'
        simp only [Int32.reduceToInt] at q0 h6'
        by_cases q : w.toInt = 0
        · exact Or.inl (Int32.toInt_inj.mp (by rw [q, Int32.toInt_zero]))
        · exact Or.inr (Int32.toInt_inj.mp (by simp only [Int32.reduceToInt]; omega))
      exact l_kWaysOut hw rfl hI hT n 0 [] σ _ _ _ (by omega) rfl (fun x q => by simp at q) (hT.ln (by decide)) PreL.nil hM EqK.rf FC.rf
    · refine ev_bipush (v := (-2)) dX11_ways_9 (by decide) ?_
      refine ev_iret dX11_ways_11 rfl ?_
      rw [if_neg (fun q => by first | exact Int32.not_lt.mpr q.1 h1 | exact h6 q.2)]
      exact ⟨rfl, ⟨σ, hM, hT⟩, FC.rf⟩
end KWAYS
