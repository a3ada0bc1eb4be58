/-! ===== the reference: drop, away, split ===== -/
def ost (ρ : MS) (a : Nat) (l : List Int32) : MS := setI (setA ρ 24 l) 26 (nI a)
theorem ost_l {ρ : MS} {a : Nat} {l l' : List Int32} : setA (ost ρ a l) 24 l' = ost ρ a l' := by
  have : setA (ost ρ a l) 24 l' = setI (setA (setA ρ 24 l) 24 l') 26 (nI a) := rfl
  rw [this, setA_setA]; rfl
theorem ost_a {ρ : MS} {a : Nat} {l : List Int32} {v : Int32} : setI (ost ρ a l) 26 v = setI (setA ρ 24 l) 26 v := by
  simp only [ost, setI]
  congr 1
  funext q
  split <;> rfl
theorem ost_i {ρ : MS} {a : Nat} {l : List Int32} : setI (ost ρ a l) 26 ((ost ρ a l).2 26 + 1) = ost ρ (a + 1) l := by
  rw [ost_a]
  show setI (setA ρ 24 l) 26 (nI a + 1) = _
  rw [← nI_succ]; rfl
theorem ost_at {ρ : MS} {a : Nat} {l : List Int32} : (ost ρ a l).1 24 = l := by
  show (setA ρ 24 l).1 24 = l
  exact setA_at
def PreL (l : List Int32) (os : List Nat) : Prop := ∀ (i h : Nat), os[i]? = some h → l[i]? = some (nI h) ∧ h < 7
theorem PreL.snoc {l : List Int32} {os : List Nat} (h : PreL l os) {x : Nat} (hx : x < 7) (hl : os.length < l.length) : PreL (l.set os.length (nI x)) (os ++ [x]) := by
  intro i y hy
  rw [List.getElem?_append] at hy
  rw [List.getElem?_set]
  split at hy
  · rename_i hi
    rw [if_neg (by omega)]
    exact h i y hy
  · rename_i hi
    have : i - os.length = 0 := by
      rcases Nat.eq_zero_or_pos (i - os.length) with h0 | h0
      · exact h0
      · rw [List.getElem?_eq_none (by simp; omega)] at hy; cases hy
    rw [this] at hy
    simp at hy
    subst hy
    rw [if_pos (by omega), if_pos (by omega)]
    exact ⟨rfl, hx⟩
theorem PreL.om {ρ : MS} {l : List Int32} {os : List Nat} (h : PreL l os) (h7 : os.length ≤ 7) : OM (ost ρ os.length l) os := ⟨rfl, h7, fun i x hx => by rw [ost_at]; exact h i x hx⟩
theorem ost_L {ρ : MS} (hL : ML ρ) {a : Nat} {l : List Int32} (h : l.length = 7) : ML (ost ρ a l) := ML.setI (ML.setA hL (h.trans (hL.at (k := 24) (n := 7) (by decide)).symm))
theorem ost_E {ρ ρ' : MS} (hE : EqC ρ ρ') {a : Nat} {l : List Int32} : EqC (ost ρ a l) ρ' := (hE.sA (by decide)).sI (by decide)
/-- the houses of the list that aren't of a set -/
def woK (set : Int32) (Lf : Nat → Nat) : Nat → Nat → List Nat
  | 0, _ => []
  | m + 1, k => if (set >>> (nI (Lf k) &&& 31)) &&& 1 = 1 then woK set Lf m (k + 1) else Lf k :: woK set Lf m (k + 1)
theorem woK_len {set : Int32} {Lf : Nat → Nat} : ∀ (m k : Nat), (woK set Lf m k).length ≤ m := by
  intro m
  induction m with
  | zero => intro k; simp [woK]
  | succ m ih =>
    intro k
    rw [woK]
    have := ih (k + 1)
    split
    · omega
    · simp only [List.length_cons]; omega
def tkbK (F : Nat → Nat → Int32) (S : Nat → Int32) (set : Int32) : Nat → Nat → Int32 → Int32
  | 0, _, s => s
  | m + 1, k, s => tkbK F S set m (k + 1) (s + ((set >>> (nI k &&& 31)) &&& 1) * thk F S k)
def ansDrop (ρ : MS) (n : Nat) (Lf : Nat → Nat) (h : Int32) : Int32 := if 0 ≤ h ∧ h < nI n then (rd0 (Fc ρ) (Se ρ) (woK (1 <<< (h &&& 31)) Lf n 0)).1 else -2
def ansAway (ρ : MS) (n : Nat) (Lf : Nat → Nat) (set w : Int32) : Int32 := if (0 ≤ set ∧ set ≤ 1 <<< (nI n &&& 31) - 1) ∧ 0 ≤ w ∧ w ≤ 1 then (if w = 0 then (rd0 (Fc ρ) (Se ρ) (woK set Lf n 0)).1 else tkbK (Fc ρ) (Se ρ) set n 0 0) else -2
/-- the least of E, and where first; E 0 at first -/
def argK (E : Nat → Int32) : Nat → Nat → Nat → Int32 → Nat × Int32
  | 0, _, best, least => (best, least)
  | m + 1, k, best, least => if 0 < k ∧ least ≤ E k then argK E m (k + 1) best least else argK E m (k + 1) k (E k)
def endsP (ρ : MS) (Lf : Nat → Nat) (from' many : Nat) : Int32 := (rd0 (Fc ρ) (Se ρ) ((List.range many).map (fun i => Lf (from' + i)))).1
def splE (ρ : MS) (n : Nat) (Lf : Nat → Nat) (k : Nat) : Int32 := if endsP ρ Lf 0 k ≤ endsP ρ Lf k (n - k) then endsP ρ Lf k (n - k) else endsP ρ Lf 0 k
def ansSplit (ρ : MS) (n : Nat) (Lf : Nat → Nat) (w : Int32) : Int32 := if 0 ≤ w ∧ w ≤ 1 then (if w = 0 then nI (argK (splE ρ n Lf) (n + 1) 0 0 0).1 else (argK (splE ρ n Lf) (n + 1) 0 0 0).2) else -2
section MENDS
variable {g : Gl} {b : Nat} {ρ : MS}
/-- behind walks() by any order -/
theorem after_w {ρ1 : MS} (hL1 : ML ρ1) (hE : EqC ρ1 ρ) {os : List Nat} (hr : ∀ h ∈ os, h < 7) {bk : Int32} : ML (wst ρ1 bk (wlk0 (Fc ρ1) (Se ρ1) os (ρ1.1 25)).2.2) ∧ EqC (wst ρ1 bk (wlk0 (Fc ρ1) (Se ρ1) os (ρ1.1 25)).2.2) ρ ∧ (wlk0 (Fc ρ1) (Se ρ1) os (ρ1.1 25)).1 = (rd0 (Fc ρ) (Se ρ) os).1 := by
  have h25 := hL1.at (k := 25) (n := 7) (by decide)
  obtain ⟨a1, a2, a3, a4⟩ := wlk0_rd (F := Fc ρ1) (S := Se ρ1) h25 hr
  refine ⟨wst_L hL1 a3, (hE.sI (by decide)).sA (by decide), ?_⟩
  rw [a1, hE.fc, hE.se]
theorem c_walksO {μ : Mm} {ρ1 : MS} (hM : RM b ρ1 μ) (hL1 : ML ρ1) (hE : EqC ρ1 ρ) {n t tx : Nat} {cd : Nat → List Int32} {Lf : Nat → Nat} (hI : IM ρ n t tx cd Lf) {os : List Nat} (hO : OM ρ1 os) : Mt g 3 mX12_walks [.ref b] μ (fun v μ' => v = some (.int (rd0 (Fc ρ) (Se ρ) os).1) ∧ (∃ ρ2, RM b ρ2 μ' ∧ ML ρ2 ∧ EqC ρ2 ρ) ∧ FM b μ μ') := by
  have hI1 := hI.eqc hE
  refine Mt.imp (c_walks hM hL1 hI1.1 hI1.s3 hO) ?_
  rintro v μ' ⟨q1, q2, q3⟩
  have hr : ∀ h ∈ os, h < 7 := fun h hh => by
    obtain ⟨i, hi⟩ := List.getElem?_of_mem hh
    exact (hO.2.2 i h hi).2
  obtain ⟨w1, w2, w3⟩ := after_w (bk := (wlk0 (Fc ρ1) (Se ρ1) os (ρ1.1 25)).2.1) hL1 hE hr
  exact ⟨by rw [q1, w3], ⟨_, q2, w1, w2⟩, q3⟩
theorem l_endsWithout {ρ0 : MS} (hL : ML ρ0) (hE : EqC ρ0 ρ) {n t tx : Nat} {cd : Nat → List Int32} {Lf : Nat → Nat} (hI : IM ρ n t tx cd Lf) {set : Int32} {μ0 : Mm} : ∀ (m k : Nat) (os : List Nat) (l : List Int32) (μ : Mm), k + m = n → os.length ≤ k → l.length = 7 → PreL l os → RM b (ost ρ0 os.length l) μ → FM b μ0 μ → Ev g 4 mX12_endsWithout 7 [some (.ref b), some (.int set), some (.int (nI k))] [] μ (fun v μ' => v = some (.int (rd0 (Fc ρ) (Se ρ) (os ++ woK set Lf m k)).1) ∧ MW b ρ μ' ∧ FM b μ0 μ') := by
  have hI0 := hI.eqc hE
  have hn7 := hI.2.2.1.2
  intro m
  induction m with
  | zero =>
    intro k os l μ hk hos hl hp hM hF
    refine ev_iload_n dX12_endsWithout_7 rfl ?_
    refine ev_aload_n dX12_endsWithout_8 rfl ?_
    refine ev_get dX12_endsWithout_9 flX12_82_12 hM.1 rfl ?_
    refine ev_icmp_ge (tgt := 63) dX12_endsWithout_12 (by decide) (fun _ => ?_) (fun h12 => absurd ((show ρ0.2 7 ≤ nI k by rw [hI0.2.2.1.1]; exact nI_le (by omega) (by omega))) h12)
    refine ev_aload_n dX12_endsWithout_63 rfl ?_
    refine k_v (c_walksO hM (ost_L hL hl) (ost_E hE) hI (hp.om (by omega))) (by decide) dX12_endsWithout_64 cbX12_walks (mt6 24 rfl rfl) (mt6 26 rfl rfl) (ms0 65 rfl rfl) (ci := 12) rfl hM.1 rfl rfl (Nat.le_of_ble_eq_true rfl) (fun v μ1 hq => ?_)
    obtain ⟨rfl, hW1, hF1⟩ := hq; have hF := hF.tr hF1
    simp only [Option.toList, List.cons_append, List.nil_append]
    refine ev_iret dX12_endsWithout_67 rfl ?_
    rw [woK, List.append_nil]
    exact ⟨rfl, hW1, hF⟩
  | succ m ih =>
    intro k os l μ hk hos hl hp hM hF
    have hq := hI0.2.2.2.2.2.2.1 k (by omega)
    rw [woK]
    refine ev_iload_n dX12_endsWithout_7 rfl ?_
    refine ev_aload_n dX12_endsWithout_8 rfl ?_
    refine ev_get dX12_endsWithout_9 flX12_82_12 hM.1 rfl ?_
    refine ev_icmp_ge (tgt := 63) dX12_endsWithout_12 (by decide) (fun h12 => absurd h12 ((show ¬ ρ0.2 7 ≤ nI k by rw [hI0.2.2.1.1]; exact nI_ge (by omega) (by omega)))) (fun _ => ?_)
    refine ev_iload_n dX12_endsWithout_15 rfl ?_
    refine ev_aload_n dX12_endsWithout_16 rfl ?_
    refine ev_get dX12_endsWithout_17 flX12_25_12 hM.1 rfl ?_
    refine ev_iload_n dX12_endsWithout_20 rfl ?_
    refine ev_iald dX12_endsWithout_21 (hM.a 5 6 (by decide)) (ix_n (by omega)) hq.1 ?_
    refine ev_ishr dX12_endsWithout_22 ?_
    refine ev_iconst (v := 1) dX12_endsWithout_23 (by decide) ?_
    refine ev_iand dX12_endsWithout_24 ?_
    refine ev_iconst (v := 1) dX12_endsWithout_25 (by decide) ?_
    refine ev_icmp_ne (tgt := 32) dX12_endsWithout_26 (by decide) (fun h26 => ?_) (fun h26 => ?_)
    · refine ev_aload_n dX12_endsWithout_32 rfl ?_
      refine ev_get dX12_endsWithout_33 flX12_55_12 hM.1 rfl ?_
      refine ev_aload_n dX12_endsWithout_36 rfl ?_
      refine ev_get dX12_endsWithout_37 flX12_208_12 hM.1 rfl ?_
      refine ev_aload_n dX12_endsWithout_40 rfl ?_
      refine ev_get dX12_endsWithout_41 flX12_25_12 hM.1 rfl ?_
      refine ev_iload_n dX12_endsWithout_44 rfl ?_
      refine ev_iald dX12_endsWithout_45 (hM.a 5 6 (by decide)) (ix_n (by omega)) hq.1 ?_
      refine evM_iast hM hF (k := 24) (o := 26) (by decide) dX12_endsWithout_46 (show ix (nI os.length) os.length from ix_n (by omega)) (show os.length < ((ost ρ0 os.length l).1 24).length by rw [ost_at, hl]; omega) (fun μ hM hF => ?_)
      rw [ost_at, ost_l] at hM
      refine ev_aload_n dX12_endsWithout_47 rfl ?_
      refine ev_dup dX12_endsWithout_48 rfl ?_
      refine ev_get dX12_endsWithout_49 flX12_208_12 hM.1 rfl ?_
      refine ev_iconst (v := 1) dX12_endsWithout_52 (by decide) ?_
      refine ev_iadd dX12_endsWithout_53 ?_
      refine evM_put hM hF (k := 26) (by decide) dX12_endsWithout_54 fpX12_208_12 rfl rfl (fun μ hM hF => ?_)
      rw [ost_i] at hM
      refine ev_iinc dX12_endsWithout_57 rfl (by decide) ?_
      dsimp only [List.set]
      refine ev_goto (tgt := 7) dX12_endsWithout_60 (by decide) ?_
      rw [nI_inc]
      first
        | (rw [if_pos h26]; exact ih (k + 1) os l μ (by omega) (by omega) hl hp hM hF)
        | (rw [if_neg h26, List.append_cons]; exact ih (k + 1) (os ++ [Lf k]) _ μ (by omega) (by simp; omega) (by rw [List.length_set]; exact hl) (hp.snoc (by omega) (by omega)) (by rw [List.length_append]; exact hM) hF)
    · refine ev_goto (tgt := 57) dX12_endsWithout_29 (by decide) ?_
      refine ev_iinc dX12_endsWithout_57 rfl (by decide) ?_
      dsimp only [List.set]
      refine ev_goto (tgt := 7) dX12_endsWithout_60 (by decide) ?_
      rw [nI_inc]
      first
        | (rw [if_pos h26]; exact ih (k + 1) os l μ (by omega) (by omega) hl hp hM hF)
        | (rw [if_neg h26, List.append_cons]; exact ih (k + 1) (os ++ [Lf k]) _ μ (by omega) (by simp; omega) (by rw [List.length_set]; exact hl) (hp.snoc (by omega) (by omega)) (by rw [List.length_append]; exact hM) hF)
theorem c_endsWithout {μ : Mm} (hW : MW b ρ μ) {n t tx : Nat} {cd : Nat → List Int32} {Lf : Nat → Nat} (hI : IM ρ n t tx cd Lf) (set : Int32) : Mt g 4 mX12_endsWithout [.ref b, .int set] μ (fun v μ' => v = some (.int (rd0 (Fc ρ) (Se ρ) (woK set Lf n 0)).1) ∧ MW b ρ μ' ∧ FM b μ μ') := by
  refine Mt.of0 (ls0 := [some (.ref b), some (.int set), none]) (by decide) (by simp [Value.category]) (Nat.le_of_ble_eq_true rfl) rfl ?_
  obtain ⟨ρ0, hM, hL, hE⟩ := id hW
  have hF : FM b μ μ := FM.rf
  refine ev_aload_n dX12_endsWithout_0 rfl ?_
  refine ev_iconst (v := 0) dX12_endsWithout_1 (by decide) ?_
  refine evM_put hM hF (k := 26) (by decide) dX12_endsWithout_2 fpX12_208_12 rfl rfl (fun μ hM hF => ?_)
  refine ev_iconst (v := 0) dX12_endsWithout_5 (by decide) ?_
  refine ev_istore_n dX12_endsWithout_6 (by decide) ?_
  dsimp only [List.set]
  exact l_endsWithout hL hE hI n 0 [] (ρ0.1 24) μ (by omega) (Nat.le_refl _) (hL.at (by decide)) (fun i h hh => by simp at hh) (by have e : setA ρ0 24 (ρ0.1 24) = ρ0 := setA_self; rw [ost, e]; exact hM) hF
theorem c_drop {μ : Mm} (hW : MW b ρ μ) {n t tx : Nat} {cd : Nat → List Int32} {Lf : Nat → Nat} (hI : IM ρ n t tx cd Lf) (h : Int32) : Mt g 5 mX12_drop [.ref b, .int h] μ (fun v μ' => v = some (.int (ansDrop ρ n Lf h)) ∧ MW b ρ μ' ∧ FM b μ μ') := by
  refine Mt.of0 (ls0 := [some (.ref b), some (.int h)]) (by decide) (by simp [Value.category]) (Nat.le_of_ble_eq_true rfl) rfl ?_
  obtain ⟨ρ0, hM, hL, hE⟩ := id hW
  have hF : FM b μ μ := FM.rf
  have hI0 := hI.eqc hE
  rw [ansDrop]
  refine ev_aload_n dX12_drop_0 rfl ?_
  refine ev_iload_n dX12_drop_1 rfl ?_
  refine k_v (c_isHouse hM h) (by decide) dX12_drop_2 cbX12_isHouse (mt5 199 rfl rfl) (mt5 201 rfl rfl) (ms0 57 rfl rfl) (ci := 12) rfl hM.1 rfl rfl (Nat.le_of_ble_eq_true rfl) (fun v μ1 hq => ?_)
  obtain ⟨rfl, hμ⟩ := hq
  have hμ := hμ.symm
  subst hμ
  simp only [Option.toList, List.cons_append, List.nil_append]
  rw [hI0.2.2.1.1]
  refine ev_if_eq (tgt := 18) dX12_drop_5 (by decide) (fun h5 => ?_) (fun h5 => ?_)
  · refine ev_bipush (v := (-2)) dX12_drop_18 (by decide) ?_
    refine ev_iret dX12_drop_20 rfl ?_
    first
      | (rw [if_neg (b2i_eq h5)]; exact ⟨rfl, hW, hF⟩)
      | (rw [if_pos (b2i_ne h5)]; exact ⟨rfl, hW1, hF⟩)
  · refine ev_aload_n dX12_drop_8 rfl ?_
    refine ev_iconst (v := 1) dX12_drop_9 (by decide) ?_
    refine ev_iload_n dX12_drop_10 rfl ?_
    refine ev_ishl dX12_drop_11 ?_
    refine k_v (c_endsWithout hW hI _) (by decide) dX12_drop_12 cbX12_endsWithout (mt6 127 rfl rfl) (mt6 129 rfl rfl) (ms0 80 rfl rfl) (ci := 12) rfl hM.1 rfl rfl (Nat.le_of_ble_eq_true rfl) (fun v μ1 hq => ?_)
    obtain ⟨rfl, hW1, hF1⟩ := hq; have hF := hF.tr hF1
    simp only [Option.toList, List.cons_append, List.nil_append]
    refine ev_goto (tgt := 20) dX12_drop_15 (by decide) ?_
    refine ev_iret dX12_drop_20 rfl ?_
    first
      | (rw [if_neg (b2i_eq h5)]; exact ⟨rfl, hW, hF⟩)
      | (rw [if_pos (b2i_ne h5)]; exact ⟨rfl, hW1, hF⟩)
theorem l_away {μ : Mm} {ρ0 : MS} (hM : RM b ρ0 μ) (hL : ML ρ0) (hE : EqC ρ0 ρ) {n t tx : Nat} {cd : Nat → List Int32} {Lf : Nat → Nat} (hI : IM ρ n t tx cd Lf) {set w : Int32} {μ0 : Mm} (hF : FM b μ0 μ) : ∀ (m k : Nat) (s : Int32), k + m = n → Ev g 5 mX12_away 43 [some (.ref b), some (.int set), some (.int w), some (.int s), some (.int (nI k))] [] μ (fun v μ' => v = some (.int (tkbK (Fc ρ) (Se ρ) set m k s)) ∧ MW b ρ μ' ∧ FM b μ0 μ') := by
  have hI0 := hI.eqc hE
  have hn7 := hI.2.2.1.2
  intro m
  induction m with
  | zero =>
    intro k s hk
    refine ev_iload dX12_away_43 rfl ?_
    refine ev_aload_n dX12_away_45 rfl ?_
    refine ev_get dX12_away_46 flX12_82_12 hM.1 rfl ?_
    refine ev_icmp_ge (tgt := 74) dX12_away_49 (by decide) (fun _ => ?_) (fun h49 => absurd ((show ρ0.2 7 ≤ nI k by rw [hI0.2.2.1.1]; exact nI_le (by omega) (by omega))) h49)
    refine ev_iload_n dX12_away_74 rfl ?_
    refine ev_iret dX12_away_75 rfl ?_
    exact ⟨rfl, ⟨_, hM, hL, hE⟩, hF⟩
  | succ m ih =>
    intro k s hk
    rw [tkbK]
    refine ev_iload dX12_away_43 rfl ?_
    refine ev_aload_n dX12_away_45 rfl ?_
    refine ev_get dX12_away_46 flX12_82_12 hM.1 rfl ?_
    refine ev_icmp_ge (tgt := 74) dX12_away_49 (by decide) (fun h49 => absurd h49 ((show ¬ ρ0.2 7 ≤ nI k by rw [hI0.2.2.1.1]; exact nI_ge (by omega) (by omega)))) (fun _ => ?_)
    refine ev_iload_n dX12_away_52 rfl ?_
    refine ev_iload_n dX12_away_53 rfl ?_
    refine ev_iload dX12_away_54 rfl ?_
    refine ev_ishr dX12_away_56 ?_
    refine ev_iconst (v := 1) dX12_away_57 (by decide) ?_
    refine ev_iand dX12_away_58 ?_
    refine ev_aload_n dX12_away_59 rfl ?_
    refine ev_iload dX12_away_60 rfl ?_
    refine k_v (c_thickOf hM hL hI0.1 (k := k) (by omega)) (by decide) dX12_away_62 cbX12_thickOf (mt5 223 rfl rfl) (mt5 225 rfl rfl) (ms0 60 rfl rfl) (ci := 12) rfl hM.1 rfl rfl (Nat.le_of_ble_eq_true rfl) (fun v μ1 hq => ?_)
    obtain ⟨rfl, hμ⟩ := hq
    have hμ := hμ.symm
    subst hμ
    simp only [Option.toList, List.cons_append, List.nil_append]
    rw [hE.fc, hE.se]
    refine ev_imul dX12_away_65 ?_
    refine ev_iadd dX12_away_66 ?_
    refine ev_istore_n dX12_away_67 (by decide) ?_
    dsimp only [List.set]
    refine ev_iinc dX12_away_68 rfl (by decide) ?_
    dsimp only [List.set]
    refine ev_goto (tgt := 43) dX12_away_71 (by decide) ?_
    rw [nI_inc]
    exact ih (k + 1) _ (by omega)
theorem c_away {μ : Mm} (hW : MW b ρ μ) {n t tx : Nat} {cd : Nat → List Int32} {Lf : Nat → Nat} (hI : IM ρ n t tx cd Lf) (set w : Int32) : Mt g 5 mX12_away [.ref b, .int set, .int w] μ (fun v μ' => v = some (.int (ansAway ρ n Lf set w)) ∧ MW b ρ μ' ∧ FM b μ μ') := by
  refine Mt.of0 (ls0 := [some (.ref b), some (.int set), some (.int w), none, none]) (by decide) (by simp [Value.category]) (Nat.le_of_ble_eq_true rfl) rfl ?_
  obtain ⟨ρ0, hM, hL, hE⟩ := id hW
  have hF : FM b μ μ := FM.rf
  have hI0 := hI.eqc hE
  rw [ansAway]
  refine ev_iload_n dX12_away_0 rfl ?_
  refine ev_iconst (v := 0) dX12_away_1 (by decide) ?_
  refine ev_iconst (v := 1) dX12_away_2 (by decide) ?_
  refine ev_aload_n dX12_away_3 rfl ?_
  refine ev_get dX12_away_4 flX12_82_12 hM.1 rfl ?_
  rw [hI0.2.2.1.1]
  refine ev_ishl dX12_away_7 ?_
  refine ev_iconst (v := 1) dX12_away_8 (by decide) ?_
  refine ev_isub dX12_away_9 ?_
  refine k_s (c_isIn set 0 _) (by decide) dX12_away_10 cbX12_isIn (mt5 123 rfl rfl) (mt5 124 rfl rfl) rfl rfl (Nat.le_of_ble_eq_true rfl) (fun v μ1 hq => ?_)
  obtain ⟨rfl, hμ⟩ := hq
  have hμ := hμ.symm
  subst hμ
  simp only [Option.toList, List.cons_append, List.nil_append]
  refine ev_if_eq (tgt := 25) dX12_away_13 (by decide) (fun h13 => ?_) (fun h13 => ?_)
  · refine ev_bipush (v := (-2)) dX12_away_25 (by decide) ?_
    refine ev_iret dX12_away_27 rfl ?_
    first
      | (rw [if_neg (fun q => b2i_eq h13 q.1)]; exact ⟨rfl, hW, hF⟩)
      | (rw [if_neg (fun q => b2i_eq h22 q.2)]; exact ⟨rfl, hW, hF⟩)
  · refine ev_iload_n dX12_away_16 rfl ?_
    refine ev_iconst (v := 0) dX12_away_17 (by decide) ?_
    refine ev_iconst (v := 1) dX12_away_18 (by decide) ?_
    refine k_s (c_isIn w 0 1) (by decide) dX12_away_19 cbX12_isIn (mt5 123 rfl rfl) (mt5 124 rfl rfl) rfl rfl (Nat.le_of_ble_eq_true rfl) (fun v μ1 hq => ?_)
    obtain ⟨rfl, hμ⟩ := hq
    have hμ := hμ.symm
    subst hμ
    simp only [Option.toList, List.cons_append, List.nil_append]
    refine ev_if_ne (tgt := 28) dX12_away_22 (by decide) (fun h22 => ?_) (fun h22 => ?_)
    · rw [if_pos ⟨b2i_ne h13, b2i_ne h22⟩]
      refine ev_iload_n dX12_away_28 rfl ?_
      refine ev_if_ne (tgt := 38) dX12_away_29 (by decide) (fun h29 => ?_) (fun h29 => ?_)
      · refine ev_iconst (v := 0) dX12_away_38 (by decide) ?_
        refine ev_istore_n dX12_away_39 (by decide) ?_
        dsimp only [List.set]
        refine ev_iconst (v := 0) dX12_away_40 (by decide) ?_
        refine ev_istore dX12_away_41 (by decide) ?_
        dsimp only [List.set]
        rw [if_neg h29]
        exact l_away hM hL hE hI hF n 0 0 (by omega)
      · refine ev_aload_n dX12_away_32 rfl ?_
        refine ev_iload_n dX12_away_33 rfl ?_
        refine k_v (c_endsWithout hW hI _) (by decide) dX12_away_34 cbX12_endsWithout (mt6 127 rfl rfl) (mt6 129 rfl rfl) (ms0 80 rfl rfl) (ci := 12) rfl hM.1 rfl rfl (Nat.le_of_ble_eq_true rfl) (fun v μ1 hq => ?_)
        obtain ⟨rfl, hW1, hF1⟩ := hq; have hF := hF.tr hF1
        simp only [Option.toList, List.cons_append, List.nil_append]
        refine ev_iret dX12_away_37 rfl ?_
        rw [if_pos h29]
        exact ⟨rfl, hW1, hF⟩
    · refine ev_bipush (v := (-2)) dX12_away_25 (by decide) ?_
      refine ev_iret dX12_away_27 rfl ?_
      first
        | (rw [if_neg (fun q => b2i_eq h13 q.1)]; exact ⟨rfl, hW, hF⟩)
        | (rw [if_neg (fun q => b2i_eq h22 q.2)]; exact ⟨rfl, hW, hF⟩)
theorem l_endsPart {ρ0 : MS} (hL : ML ρ0) (hE : EqC ρ0 ρ) {n t tx : Nat} {cd : Nat → List Int32} {Lf : Nat → Nat} (hI : IM ρ n t tx cd Lf) {f c : Nat} (hfc : f + c ≤ n) {μ0 : Mm} : ∀ (m k : Nat) (l : List Int32) (μ : Mm), k + m = c → l.length = 7 → PreL l ((List.range k).map (fun i => Lf (f + i))) → RM b (ost ρ0 c l) μ → FM b μ0 μ → Ev g 4 mX12_endsPart 7 [some (.ref b), some (.int (nI f)), some (.int (nI c)), some (.int (nI k))] [] μ (fun v μ' => v = some (.int (endsP ρ Lf f c)) ∧ MW b ρ μ' ∧ FM b μ0 μ') := by
  have hI0 := hI.eqc hE
  have hn7 := hI.2.2.1.2
  intro m
  induction m with
  | zero =>
    intro k l μ hk hl hp hM hF
    have hk : k = c := by omega
    subst hk
    have hO := hp.om (ρ := ρ0) (by simp; omega)
    rw [List.length_map, List.length_range] at hO
    refine ev_iload_n dX12_endsPart_7 rfl ?_
    refine ev_iload_n dX12_endsPart_8 rfl ?_
    refine ev_icmp_ge (tgt := 32) dX12_endsPart_9 (by decide) (fun _ => ?_) (fun h9 => absurd ((nI_le (by omega) (by omega))) h9)
    refine ev_aload_n dX12_endsPart_32 rfl ?_
    refine k_v (c_walksO hM (ost_L hL hl) (ost_E hE) hI hO) (by decide) dX12_endsPart_33 cbX12_walks (mt6 24 rfl rfl) (mt6 26 rfl rfl) (ms0 65 rfl rfl) (ci := 12) rfl hM.1 rfl rfl (Nat.le_of_ble_eq_true rfl) (fun v μ1 hq => ?_)
    obtain ⟨rfl, hW1, hF1⟩ := hq; have hF := hF.tr hF1
    simp only [Option.toList, List.cons_append, List.nil_append]
    refine ev_iret dX12_endsPart_36 rfl ?_
    exact ⟨rfl, hW1, hF⟩
  | succ m ih =>
    intro k l μ hk hl hp hM hF
    have hq := hI0.2.2.2.2.2.2.1 (f + k) (by omega)
    have hs := hp.snoc (x := Lf (f + k)) (by omega) (by simp; omega)
    rw [List.length_map, List.length_range] at hs
    rw [show (List.range k).map (fun i => Lf (f + i)) ++ [Lf (f + k)] = (List.range (k + 1)).map (fun i => Lf (f + i)) by rw [List.range_succ, List.map_append]; rfl] at hs
    refine ev_iload_n dX12_endsPart_7 rfl ?_
    refine ev_iload_n dX12_endsPart_8 rfl ?_
    refine ev_icmp_ge (tgt := 32) dX12_endsPart_9 (by decide) (fun h9 => absurd h9 ((nI_ge (by omega) (by omega)))) (fun _ => ?_)
    refine ev_aload_n dX12_endsPart_12 rfl ?_
    refine ev_get dX12_endsPart_13 flX12_55_12 hM.1 rfl ?_
    refine ev_iload_n dX12_endsPart_16 rfl ?_
    refine ev_aload_n dX12_endsPart_17 rfl ?_
    refine ev_get dX12_endsPart_18 flX12_25_12 hM.1 rfl ?_
    refine ev_iload_n dX12_endsPart_21 rfl ?_
    refine ev_iload_n dX12_endsPart_22 rfl ?_
    refine ev_iadd dX12_endsPart_23 ?_
    refine ev_iald dX12_endsPart_24 (hM.a 5 6 (by decide)) (by rw [nI_add]; exact ix_n (by omega)) hq.1 ?_
    refine evM_iast hM hF (k := 24) (o := 26) (by decide) dX12_endsPart_25 (ix_n (by omega)) (show k < ((ost ρ0 c l).1 24).length by rw [ost_at, hl]; omega) (fun μ hM hF => ?_)
    rw [ost_at, ost_l] at hM
    refine ev_iinc dX12_endsPart_26 rfl (by decide) ?_
    dsimp only [List.set]
    refine ev_goto (tgt := 7) dX12_endsPart_29 (by decide) ?_
    rw [nI_inc]
    exact ih (k + 1) _ μ (by omega) (by rw [List.length_set]; exact hl) hs hM hF
theorem c_endsPart {μ : Mm} (hW : MW b ρ μ) {n t tx : Nat} {cd : Nat → List Int32} {Lf : Nat → Nat} (hI : IM ρ n t tx cd Lf) {f c : Nat} (hfc : f + c ≤ n) : Mt g 4 mX12_endsPart [.ref b, .int (nI f), .int (nI c)] μ (fun v μ' => v = some (.int (endsP ρ Lf f c)) ∧ MW b ρ μ' ∧ FM b μ μ') := by
  refine Mt.of0 (ls0 := [some (.ref b), some (.int (nI f)), some (.int (nI c)), none]) (by decide) (by simp [Value.category]) (Nat.le_of_ble_eq_true rfl) rfl ?_
  obtain ⟨ρ0, hM, hL, hE⟩ := id hW
  have hF : FM b μ μ := FM.rf
  refine ev_aload_n dX12_endsPart_0 rfl ?_
  refine ev_iload_n dX12_endsPart_1 rfl ?_
  refine evM_put hM hF (k := 26) (by decide) dX12_endsPart_2 fpX12_208_12 rfl rfl (fun μ hM hF => ?_)
  refine ev_iconst (v := 0) dX12_endsPart_5 (by decide) ?_
  refine ev_istore_n dX12_endsPart_6 (by decide) ?_
  dsimp only [List.set]
  exact l_endsPart hL hE hI hfc c 0 (ρ0.1 24) μ (by omega) (hL.at (by decide)) (fun i h hh => by simp at hh) (by have e : setA ρ0 24 (ρ0.1 24) = ρ0 := setA_self; rw [ost, e]; exact hM) hF
theorem nI_sub {a c : Nat} (h : c ≤ a) : nI a - nI c = nI (a - c) := by
  have e : nI a = nI (a - c) + nI c := by rw [nI_add]; congr 1; omega
  rw [e, Int32.add_sub_cancel]
theorem l_split {n t tx : Nat} {cd : Nat → List Int32} {Lf : Nat → Nat} (hI : IM ρ n t tx cd Lf) {w : Int32} {μ0 : Mm} : ∀ (m k best : Nat) (least : Int32) (o5 o6 o7 : Option Value) (μ : Mm), k + m = n + 1 → MW b ρ μ → FM b μ0 μ → Ev g 5 mX12_split 19 [some (.ref b), some (.int w), some (.int (nI best)), some (.int least), some (.int (nI k)), o5, o6, o7] [] μ (fun v μ' => v = some (.int (if w = 0 then nI (argK (splE ρ n Lf) m k best least).1 else (argK (splE ρ n Lf) m k best least).2)) ∧ MW b ρ μ' ∧ FM b μ0 μ') := by
  have hn7 := hI.2.2.1.2
  intro m
  induction m with
  | zero =>
    intro k best least o5 o6 o7 μ hk hW hF
    obtain ⟨ρ0, hM, hL, hE⟩ := id hW
    have hI0 := hI.eqc hE
    refine ev_iload dX12_split_19 rfl ?_
    refine ev_aload_n dX12_split_21 rfl ?_
    refine ev_get dX12_split_22 flX12_82_12 hM.1 rfl ?_
    refine ev_icmp_gt (tgt := 94) dX12_split_25 (by decide) (fun _ => ?_) (fun h25 => absurd ((show ρ0.2 7 < nI k by rw [hI0.2.2.1.1]; exact nI_lt (by omega) (by omega))) h25)
    refine ev_iload_n dX12_split_94 rfl ?_
    refine ev_if_ne (tgt := 102) dX12_split_95 (by decide) (fun h95 => ?_) (fun h95 => ?_)
    · refine ev_iload_n dX12_split_102 rfl ?_
      refine ev_iret dX12_split_103 rfl ?_
      rw [argK]
      first | (rw [if_pos h95]; exact ⟨rfl, hW, hF⟩) | (rw [if_neg h95]; exact ⟨rfl, hW, hF⟩)
    · refine ev_iload_n dX12_split_98 rfl ?_
      refine ev_goto (tgt := 103) dX12_split_99 (by decide) ?_
      refine ev_iret dX12_split_103 rfl ?_
      rw [argK]
      first | (rw [if_pos h95]; exact ⟨rfl, hW, hF⟩) | (rw [if_neg h95]; exact ⟨rfl, hW, hF⟩)
  | succ m ih =>
    intro k best least o5 o6 o7 μ hk hW hF
    obtain ⟨ρ0, hM, hL, hE⟩ := id hW
    have hI0 := hI.eqc hE
    rw [argK]
    refine ev_iload dX12_split_19 rfl ?_
    refine ev_aload_n dX12_split_21 rfl ?_
    refine ev_get dX12_split_22 flX12_82_12 hM.1 rfl ?_
    refine ev_icmp_gt (tgt := 94) dX12_split_25 (by decide) (fun h25 => absurd h25 ((show ¬ ρ0.2 7 < nI k by rw [hI0.2.2.1.1]; exact nI_nlt (by omega) (by omega)))) (fun _ => ?_)
    refine ev_aload_n dX12_split_28 rfl ?_
    refine ev_iconst (v := 0) dX12_split_29 (by decide) ?_
    refine ev_iload dX12_split_30 rfl ?_
    refine k_v (c_endsPart (f := 0) (c := k) hW hI (by omega)) (by decide) dX12_split_32 cbX12_endsPart (mt6 119 rfl rfl) (mt6 121 rfl rfl) (ms0 79 rfl rfl) (ci := 12) rfl hM.1 rfl rfl (Nat.le_of_ble_eq_true rfl) (fun v μ1 hq => ?_)
    obtain ⟨rfl, hW, hF1⟩ := hq; have hF := hF.tr hF1; obtain ⟨ρ1, hM, hL1, hE1⟩ := id hW; have hI1 := hI.eqc hE1
    simp only [Option.toList, List.cons_append, List.nil_append]
    refine ev_istore dX12_split_35 (by decide) ?_
    dsimp only [List.set]
    refine ev_aload_n dX12_split_37 rfl ?_
    refine ev_iload dX12_split_38 rfl ?_
    refine ev_aload_n dX12_split_40 rfl ?_
    refine ev_get dX12_split_41 flX12_82_12 hM.1 rfl ?_
    refine ev_iload dX12_split_44 rfl ?_
    refine ev_isub dX12_split_46 ?_
    rw [hI1.2.2.1.1, nI_sub (by omega)]
    refine k_v (c_endsPart (f := k) (c := n - k) hW hI (by omega)) (by decide) dX12_split_47 cbX12_endsPart (mt6 119 rfl rfl) (mt6 121 rfl rfl) (ms0 79 rfl rfl) (ci := 12) rfl hM.1 rfl rfl (Nat.le_of_ble_eq_true rfl) (fun v μ1 hq => ?_)
    obtain ⟨rfl, hW, hF1⟩ := hq; have hF := hF.tr hF1; obtain ⟨ρ1, hM, hL1, hE1⟩ := id hW; have hI1 := hI.eqc hE1
    simp only [Option.toList, List.cons_append, List.nil_append]
    refine ev_istore dX12_split_50 (by decide) ?_
    dsimp only [List.set]
    refine ev_iload dX12_split_52 rfl ?_
    refine ev_iload dX12_split_54 rfl ?_
    refine ev_icmp_le (tgt := 64) dX12_split_56 (by decide) (fun h56 => ?_) (fun h56 => ?_)
    · refine ev_iload dX12_split_64 rfl ?_
      first | rw [show endsP ρ Lf k (n - k) = splE ρ n Lf k by rw [splE, if_pos h56]] | rw [show endsP ρ Lf 0 k = splE ρ n Lf k by rw [splE, if_neg h56]]
      refine ev_istore dX12_split_66 (by decide) ?_
      dsimp only [List.set]
      refine ev_iload dX12_split_68 rfl ?_
      refine ev_if_le (tgt := 82) dX12_split_70 (by decide) (fun h70 => ?_) (fun h70 => ?_)
      · refine ev_iload dX12_split_82 rfl ?_
        refine ev_istore_n dX12_split_84 (by decide) ?_
        dsimp only [List.set]
        refine ev_iload dX12_split_85 rfl ?_
        refine ev_istore_n dX12_split_87 (by decide) ?_
        dsimp only [List.set]
        refine ev_iinc dX12_split_88 rfl (by decide) ?_
        dsimp only [List.set]
        refine ev_goto (tgt := 19) dX12_split_91 (by decide) ?_
        rw [nI_inc]
        first
          | (rw [nI_le0 (by omega)] at h70; rw [if_neg (c := 0 < k ∧ least ≤ splE ρ n Lf k) (fun q => by omega)]; exact ih (k + 1) k _ _ _ _ _ (by omega) hW hF)
          | (rw [nI_le0 (by omega)] at h70; rw [if_neg (c := 0 < k ∧ least ≤ splE ρ n Lf k) (fun q => Int32.not_le.mpr h76 q.2)]; exact ih (k + 1) k _ _ _ _ _ (by omega) hW hF)
          | (rw [nI_le0 (by omega)] at h70; rw [if_pos (c := 0 < k ∧ least ≤ splE ρ n Lf k) ⟨by omega, Int32.not_lt.mp h76⟩]; exact ih (k + 1) best _ _ _ _ _ (by omega) hW hF)
      · refine ev_iload dX12_split_73 rfl ?_
        refine ev_iload_n dX12_split_75 rfl ?_
        refine ev_icmp_lt (tgt := 82) dX12_split_76 (by decide) (fun h76 => ?_) (fun h76 => ?_)
        · refine ev_iload dX12_split_82 rfl ?_
          refine ev_istore_n dX12_split_84 (by decide) ?_
          dsimp only [List.set]
          refine ev_iload dX12_split_85 rfl ?_
          refine ev_istore_n dX12_split_87 (by decide) ?_
          dsimp only [List.set]
          refine ev_iinc dX12_split_88 rfl (by decide) ?_
          dsimp only [List.set]
          refine ev_goto (tgt := 19) dX12_split_91 (by decide) ?_
          rw [nI_inc]
          first
            | (rw [nI_le0 (by omega)] at h70; rw [if_neg (c := 0 < k ∧ least ≤ splE ρ n Lf k) (fun q => by omega)]; exact ih (k + 1) k _ _ _ _ _ (by omega) hW hF)
            | (rw [nI_le0 (by omega)] at h70; rw [if_neg (c := 0 < k ∧ least ≤ splE ρ n Lf k) (fun q => Int32.not_le.mpr h76 q.2)]; exact ih (k + 1) k _ _ _ _ _ (by omega) hW hF)
            | (rw [nI_le0 (by omega)] at h70; rw [if_pos (c := 0 < k ∧ least ≤ splE ρ n Lf k) ⟨by omega, Int32.not_lt.mp h76⟩]; exact ih (k + 1) best _ _ _ _ _ (by omega) hW hF)
        · refine ev_goto (tgt := 88) dX12_split_79 (by decide) ?_
          refine ev_iinc dX12_split_88 rfl (by decide) ?_
          dsimp only [List.set]
          refine ev_goto (tgt := 19) dX12_split_91 (by decide) ?_
          rw [nI_inc]
          first
            | (rw [nI_le0 (by omega)] at h70; rw [if_neg (c := 0 < k ∧ least ≤ splE ρ n Lf k) (fun q => by omega)]; exact ih (k + 1) k _ _ _ _ _ (by omega) hW hF)
            | (rw [nI_le0 (by omega)] at h70; rw [if_neg (c := 0 < k ∧ least ≤ splE ρ n Lf k) (fun q => Int32.not_le.mpr h76 q.2)]; exact ih (k + 1) k _ _ _ _ _ (by omega) hW hF)
            | (rw [nI_le0 (by omega)] at h70; rw [if_pos (c := 0 < k ∧ least ≤ splE ρ n Lf k) ⟨by omega, Int32.not_lt.mp h76⟩]; exact ih (k + 1) best _ _ _ _ _ (by omega) hW hF)
    · refine ev_iload dX12_split_59 rfl ?_
      refine ev_goto (tgt := 66) dX12_split_61 (by decide) ?_
      first | rw [show endsP ρ Lf k (n - k) = splE ρ n Lf k by rw [splE, if_pos h56]] | rw [show endsP ρ Lf 0 k = splE ρ n Lf k by rw [splE, if_neg h56]]
      refine ev_istore dX12_split_66 (by decide) ?_
      dsimp only [List.set]
      refine ev_iload dX12_split_68 rfl ?_
      refine ev_if_le (tgt := 82) dX12_split_70 (by decide) (fun h70 => ?_) (fun h70 => ?_)
      · refine ev_iload dX12_split_82 rfl ?_
        refine ev_istore_n dX12_split_84 (by decide) ?_
        dsimp only [List.set]
        refine ev_iload dX12_split_85 rfl ?_
        refine ev_istore_n dX12_split_87 (by decide) ?_
        dsimp only [List.set]
        refine ev_iinc dX12_split_88 rfl (by decide) ?_
        dsimp only [List.set]
        refine ev_goto (tgt := 19) dX12_split_91 (by decide) ?_
        rw [nI_inc]
        first
          | (rw [nI_le0 (by omega)] at h70; rw [if_neg (c := 0 < k ∧ least ≤ splE ρ n Lf k) (fun q => by omega)]; exact ih (k + 1) k _ _ _ _ _ (by omega) hW hF)
          | (rw [nI_le0 (by omega)] at h70; rw [if_neg (c := 0 < k ∧ least ≤ splE ρ n Lf k) (fun q => Int32.not_le.mpr h76 q.2)]; exact ih (k + 1) k _ _ _ _ _ (by omega) hW hF)
          | (rw [nI_le0 (by omega)] at h70; rw [if_pos (c := 0 < k ∧ least ≤ splE ρ n Lf k) ⟨by omega, Int32.not_lt.mp h76⟩]; exact ih (k + 1) best _ _ _ _ _ (by omega) hW hF)
      · refine ev_iload dX12_split_73 rfl ?_
        refine ev_iload_n dX12_split_75 rfl ?_
        refine ev_icmp_lt (tgt := 82) dX12_split_76 (by decide) (fun h76 => ?_) (fun h76 => ?_)
        · refine ev_iload dX12_split_82 rfl ?_
          refine ev_istore_n dX12_split_84 (by decide) ?_
          dsimp only [List.set]
          refine ev_iload dX12_split_85 rfl ?_
          refine ev_istore_n dX12_split_87 (by decide) ?_
          dsimp only [List.set]
          refine ev_iinc dX12_split_88 rfl (by decide) ?_
          dsimp only [List.set]
          refine ev_goto (tgt := 19) dX12_split_91 (by decide) ?_
          rw [nI_inc]
          first
            | (rw [nI_le0 (by omega)] at h70; rw [if_neg (c := 0 < k ∧ least ≤ splE ρ n Lf k) (fun q => by omega)]; exact ih (k + 1) k _ _ _ _ _ (by omega) hW hF)
            | (rw [nI_le0 (by omega)] at h70; rw [if_neg (c := 0 < k ∧ least ≤ splE ρ n Lf k) (fun q => Int32.not_le.mpr h76 q.2)]; exact ih (k + 1) k _ _ _ _ _ (by omega) hW hF)
            | (rw [nI_le0 (by omega)] at h70; rw [if_pos (c := 0 < k ∧ least ≤ splE ρ n Lf k) ⟨by omega, Int32.not_lt.mp h76⟩]; exact ih (k + 1) best _ _ _ _ _ (by omega) hW hF)
        · refine ev_goto (tgt := 88) dX12_split_79 (by decide) ?_
          refine ev_iinc dX12_split_88 rfl (by decide) ?_
          dsimp only [List.set]
          refine ev_goto (tgt := 19) dX12_split_91 (by decide) ?_
          rw [nI_inc]
          first
            | (rw [nI_le0 (by omega)] at h70; rw [if_neg (c := 0 < k ∧ least ≤ splE ρ n Lf k) (fun q => by omega)]; exact ih (k + 1) k _ _ _ _ _ (by omega) hW hF)
            | (rw [nI_le0 (by omega)] at h70; rw [if_neg (c := 0 < k ∧ least ≤ splE ρ n Lf k) (fun q => Int32.not_le.mpr h76 q.2)]; exact ih (k + 1) k _ _ _ _ _ (by omega) hW hF)
            | (rw [nI_le0 (by omega)] at h70; rw [if_pos (c := 0 < k ∧ least ≤ splE ρ n Lf k) ⟨by omega, Int32.not_lt.mp h76⟩]; exact ih (k + 1) best _ _ _ _ _ (by omega) hW hF)
theorem c_split {μ : Mm} (hW : MW b ρ μ) {n t tx : Nat} {cd : Nat → List Int32} {Lf : Nat → Nat} (hI : IM ρ n t tx cd Lf) (w : Int32) : Mt g 5 mX12_split [.ref b, .int w] μ (fun v μ' => v = some (.int (ansSplit ρ n Lf w)) ∧ MW b ρ μ' ∧ FM b μ μ') := by
  refine Mt.of0 (ls0 := [some (.ref b), some (.int w), none, none, none, none, none, none]) (by decide) (by simp [Value.category]) (Nat.le_of_ble_eq_true rfl) rfl ?_
  have hF : FM b μ μ := FM.rf
  rw [ansSplit]
  refine ev_iload_n dX12_split_0 rfl ?_
  refine ev_iconst (v := 0) dX12_split_1 (by decide) ?_
  refine ev_iconst (v := 1) dX12_split_2 (by decide) ?_
  refine k_s (c_isIn w 0 1) (by decide) dX12_split_3 cbX12_isIn (mt5 123 rfl rfl) (mt5 124 rfl rfl) rfl rfl (Nat.le_of_ble_eq_true rfl) (fun v μ1 hq => ?_)
  obtain ⟨rfl, hμ⟩ := hq
  have hμ := hμ.symm
  subst hμ
  simp only [Option.toList, List.cons_append, List.nil_append]
  refine ev_if_ne (tgt := 12) dX12_split_6 (by decide) (fun h6 => ?_) (fun h6 => ?_)
  · refine ev_iconst (v := 0) dX12_split_12 (by decide) ?_
    refine ev_istore_n dX12_split_13 (by decide) ?_
    dsimp only [List.set]
    refine ev_iconst (v := 0) dX12_split_14 (by decide) ?_
    refine ev_istore_n dX12_split_15 (by decide) ?_
    dsimp only [List.set]
    refine ev_iconst (v := 0) dX12_split_16 (by decide) ?_
    refine ev_istore dX12_split_17 (by decide) ?_
    dsimp only [List.set]
    rw [if_pos (b2i_ne h6)]
    exact l_split hI (n + 1) 0 0 0 _ _ _ μ (by omega) hW hF
  · refine ev_bipush (v := (-2)) dX12_split_9 (by decide) ?_
    refine ev_iret dX12_split_11 rfl ?_
    rw [if_neg (b2i_eq h6)]
    exact ⟨rfl, hW, hF⟩
end MENDS
