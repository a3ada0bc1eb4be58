/-! ===== the reference: how a round is walked ===== -/
theorem nI_inc (n : Nat) : nI n + Int32.ofInt 1 = nI (n + 1) := by
  rw [nI_succ]; rfl
theorem nI_dec (n : Nat) : nI (n + 1) + Int32.ofInt (-1) = nI n := by
  have := nI_pred n
  rw [← this, Int32.sub_eq_add_neg]; rfl
theorem nI_i {n : Nat} (h : n < 2 ^ 31) : (nI n).toInt = n := nI_toInt h
theorem nI_le0 {n : Nat} (h : n < 2 ^ 31) : nI n ≤ 0 ↔ n = 0 := by
  rw [Int32.le_iff_toInt_le, nI_i h, Int32.toInt_zero]; omega
/-- how many papers are taken for the houses of a list -/
def tpk (F : Nat → Nat → Int32) (S : Nat → Int32) : List Nat → Int32 → Nat → Nat
  | [], _, n => n
  | h :: r, t, n => if 0 < n ∧ S 0 < t + thk F S h then n else tpk F S r (t + thk F S h) (n + 1)
/-- the order that is walked -/
def OM (ρ : MS) (os : List Nat) : Prop := ρ.2 26 = nI os.length ∧ os.length ≤ 7 ∧ ∀ (i h : Nat), os[i]? = some h → (ρ.1 24)[i]? = some (nI h) ∧ h < 7
section MWALK
variable {g : Gl} {μ : Mm} {b : Nat} {ρ : MS}
theorem drop_at {os r : List Nat} {k h : Nat} (hr : os.drop k = h :: r) : os[k]? = some h ∧ os.drop (k + 1) = r ∧ k < os.length := by
  have h1 : (os.drop k)[0]? = some h := by rw [hr]; rfl
  rw [List.getElem?_drop] at h1
  refine ⟨h1, ?_, (List.getElem?_eq_some_iff.mp h1).1⟩
  have : (os.drop k).drop 1 = r := by rw [hr]; rfl
  rw [List.drop_drop] at this
  exact this
theorem l_takesPapers (hM : RM b ρ μ) (hL : ML ρ) (hV : VF (Fc ρ)) {os : List Nat} (hO : OM ρ os) (f : Nat) : ∀ (r : List Nat) (t : Int32) (n : Nat), os.drop (f + n) = r → f + n ≤ os.length → Ev g 1 mX12_takesPapers 4 [some (.ref b), some (.int (nI f)), some (.int t), some (.int (nI n))] [] μ (fun v μ' => v = some (.int (nI (tpk (Fc ρ) (Se ρ) r t n))) ∧ μ' = μ) := by
  have h7 := hO.2.1
  intro r
  induction r with
  | nil =>
    intro t n hr hn
    have hlen : os.length ≤ f + n := by simpa using hr
    refine ev_iload_n dX12_takesPapers_4 rfl ?_
    refine ev_iload_n dX12_takesPapers_5 rfl ?_
    refine ev_iadd dX12_takesPapers_6 ?_
    refine ev_aload_n dX12_takesPapers_7 rfl ?_
    refine ev_get dX12_takesPapers_8 flX12_208_12 hM.1 rfl ?_
    refine ev_icmp_ge (tgt := 51) dX12_takesPapers_11 (by decide) (fun _ => ?_) (fun h11 => absurd ((show ρ.2 26 ≤ nI f + nI n by rw [hO.1, nI_add]; exact nI_le hlen (by omega))) h11)
    refine ev_iload_n dX12_takesPapers_51 rfl ?_
    refine ev_iret dX12_takesPapers_52 rfl ?_
    exact ⟨rfl, rfl⟩
  | cons h r ih =>
    intro t n hr hn
    obtain ⟨hh, hr', hlt⟩ := drop_at hr
    obtain ⟨ho, hh7⟩ := hO.2.2 _ _ hh
    refine ev_iload_n dX12_takesPapers_4 rfl ?_
    refine ev_iload_n dX12_takesPapers_5 rfl ?_
    refine ev_iadd dX12_takesPapers_6 ?_
    refine ev_aload_n dX12_takesPapers_7 rfl ?_
    refine ev_get dX12_takesPapers_8 flX12_208_12 hM.1 rfl ?_
    refine ev_icmp_ge (tgt := 51) dX12_takesPapers_11 (by decide) (fun h11 => absurd h11 ((show ¬ ρ.2 26 ≤ nI f + nI n by rw [hO.1, nI_add]; exact nI_ge hlt (by omega)))) (fun _ => ?_)
    refine ev_iload_n dX12_takesPapers_14 rfl ?_
    refine ev_aload_n dX12_takesPapers_15 rfl ?_
    refine ev_aload_n dX12_takesPapers_16 rfl ?_
    refine ev_get dX12_takesPapers_17 flX12_55_12 hM.1 rfl ?_
    refine ev_iload_n dX12_takesPapers_20 rfl ?_
    refine ev_iload_n dX12_takesPapers_21 rfl ?_
    refine ev_iadd dX12_takesPapers_22 ?_
    refine ev_iald dX12_takesPapers_23 (hM.a 24 26 (by decide)) (by rw [nI_add]; exact ix_n (by omega)) ho ?_
    refine k_v (c_thickOf hM hL hV hh7) (by decide) dX12_takesPapers_24 cbX12_thickOf (mt5 223 rfl rfl) (mt5 225 rfl rfl) (ms0 60 rfl rfl) (ci := 12) rfl hM.1 rfl rfl (Nat.le_of_ble_eq_true rfl) (fun v μ1 hq => ?_)
    obtain ⟨rfl, hμ⟩ := hq
    have hμ := hμ.symm
    subst hμ
    simp only [Option.toList, List.cons_append, List.nil_append]
    refine ev_iadd dX12_takesPapers_27 ?_
    refine ev_istore_n dX12_takesPapers_28 (by decide) ?_
    dsimp only [List.set]
    refine ev_iload_n dX12_takesPapers_29 rfl ?_
    refine ev_if_le (tgt := 45) dX12_takesPapers_30 (by decide) (fun h30 => ?_) (fun h30 => ?_)
    · rw [show tpk (Fc ρ) (Se ρ) (h :: r) t n = tpk (Fc ρ) (Se ρ) r (t + thk (Fc ρ) (Se ρ) h) (n + 1) by
        rw [tpk, if_neg]
        rintro ⟨q1, q2⟩
        first | (rw [nI_le0 (by omega)] at h30; omega) | exact Int32.not_le.mpr q2 h40]
      refine ev_iinc dX12_takesPapers_45 rfl (by decide) ?_
      dsimp only [List.set]
      refine ev_goto (tgt := 4) dX12_takesPapers_48 (by decide) ?_
      rw [nI_inc]
      exact ih _ (n + 1) hr' (by omega)
    · refine ev_iload_n dX12_takesPapers_33 rfl ?_
      refine ev_aload_n dX12_takesPapers_34 rfl ?_
      refine ev_get dX12_takesPapers_35 flX12_28_12 hM.1 rfl ?_
      refine ev_iconst (v := 0) dX12_takesPapers_38 (by decide) ?_
      refine ev_iald dX12_takesPapers_39 (hM.a 6 7 (by decide)) ixl0 (rd hL (n := 10) (by decide) (by decide)) ?_
      refine ev_icmp_le (tgt := 45) dX12_takesPapers_40 (by decide) (fun h40 => ?_) (fun h40 => ?_)
      · rw [show tpk (Fc ρ) (Se ρ) (h :: r) t n = tpk (Fc ρ) (Se ρ) r (t + thk (Fc ρ) (Se ρ) h) (n + 1) by
          rw [tpk, if_neg]
          rintro ⟨q1, q2⟩
          first | (rw [nI_le0 (by omega)] at h30; omega) | exact Int32.not_le.mpr q2 h40]
        refine ev_iinc dX12_takesPapers_45 rfl (by decide) ?_
        dsimp only [List.set]
        refine ev_goto (tgt := 4) dX12_takesPapers_48 (by decide) ?_
        rw [nI_inc]
        exact ih _ (n + 1) hr' (by omega)
      · refine ev_iload_n dX12_takesPapers_43 rfl ?_
        refine ev_iret dX12_takesPapers_44 rfl ?_
        refine ⟨?_, rfl⟩
        rw [nI_le0 (by omega)] at h30
        rw [tpk, if_pos ⟨by omega, Int32.not_le.mp h40⟩]
theorem c_takesPapers (hM : RM b ρ μ) (hL : ML ρ) (hV : VF (Fc ρ)) {os : List Nat} (hO : OM ρ os) {f : Nat} (hf : f ≤ os.length) : Pu g 1 mX12_takesPapers [.ref b, .int (nI f)] μ (nI (tpk (Fc ρ) (Se ρ) (os.drop f) 0 0)) := by
  refine Mt.of0 (ls0 := [some (.ref b), some (.int (nI f)), none, none]) (by decide) (by simp [Value.category]) (Nat.le_of_ble_eq_true rfl) rfl ?_
  refine ev_iconst (v := 0) dX12_takesPapers_0 (by decide) ?_
  refine ev_istore_n dX12_takesPapers_1 (by decide) ?_
  dsimp only [List.set]
  refine ev_iconst (v := 0) dX12_takesPapers_2 (by decide) ?_
  refine ev_istore_n dX12_takesPapers_3 (by decide) ?_
  dsimp only [List.set]
  exact l_takesPapers hM hL hV hO f _ 0 0 rfl hf
/-- when one is at house h, from another place -/
def wmi (F : Nat → Nat → Int32) (S : Nat → Int32) (h : Nat) (mi at' on : Int32) : Int32 := mi + (far32 at' (F 2 h) (S 3) + if on = F 3 h then 0 else S 4)
/-- the round: when it ends, how often one went back, who got a paper when -/
def wlk (F : Nat → Nat → Int32) (S : Nat → Int32) : List Nat → Int32 → Int32 → Int32 → Nat → Int32 → List Int32 → Int32 × Int32 × List Int32
  | [], mi, _, _, _, bk, th => (mi, bk, th)
  | h :: r, mi, at', on, 0, bk, th => wlk F S r (wmi F S h (mi + far32 at' (S 1) (S 3)) (S 1) on + tks F S h) (F 2 h) (F 3 h) (tpk F S (h :: r) 0 0 - 1) (bk + 1) (th.set h (wmi F S h (mi + far32 at' (S 1) (S 3)) (S 1) on))
  | h :: r, mi, at', on, pp + 1, bk, th => wlk F S r (wmi F S h mi at' on + tks F S h) (F 2 h) (F 3 h) pp bk (th.set h (wmi F S h mi at' on))
def wst (ρ : MS) (bk : Int32) (th : List Int32) : MS := setA (setI ρ 27 bk) 25 th
theorem wst_th {ρ : MS} {bk x : Int32} {th : List Int32} {j : Nat} : setA (wst ρ bk th) 25 (((wst ρ bk th).1 25).set j x) = wst ρ bk (th.set j x) := by
  simp only [wst, setA, setI, if_pos]
  congr 1
  funext q
  split <;> rfl
theorem wst_bk {ρ : MS} {bk v : Int32} {th : List Int32} : setI (wst ρ bk th) 27 v = wst ρ v th := by
  simp only [wst, setA, setI]
  congr 1
  funext q
  split <;> rfl
theorem tpk_congr {F F' : Nat → Nat → Int32} {S S' : Nat → Int32} (h1 : ∀ h, thk F S h = thk F' S' h) (h2 : S 0 = S' 0) : ∀ (r : List Nat) (t : Int32) (n : Nat), tpk F S r t n = tpk F' S' r t n := by
  intro r
  induction r with
  | nil => intro t n; rfl
  | cons h r ih => intro t n; rw [tpk, tpk, h1, h2, ih]
theorem tpk_b {F : Nat → Nat → Int32} {S : Nat → Int32} : ∀ (r : List Nat) (t : Int32) (n : Nat), n ≤ tpk F S r t n ∧ tpk F S r t n ≤ n + r.length := by
  intro r
  induction r with
  | nil => intro t n; simp [tpk]
  | cons h r ih =>
    intro t n
    rw [tpk]
    split
    · simp
    · have := ih (t + thk F S h) (n + 1)
      simp only [List.length_cons]
      omega
theorem tpk_pos {F : Nat → Nat → Int32} {S : Nat → Int32} {h : Nat} {r : List Nat} : ∃ m, tpk F S (h :: r) 0 0 = m + 1 ∧ m ≤ r.length := by
  have h1 : tpk F S (h :: r) 0 0 = tpk F S r (0 + thk F S h) 1 := by rw [tpk, if_neg (by omega)]
  have := tpk_b (F := F) (S := S) r (0 + thk F S h) 1
  rw [h1]
  exact ⟨tpk F S r (0 + thk F S h) 1 - 1, by omega, by omega⟩
theorem wst_L {ρ : MS} (hL : ML ρ) {bk : Int32} {th : List Int32} (ht : th.length = 7) : ML (wst ρ bk th) := ML.setA (ML.setI hL) (by rw [ht]; exact (hL.at (k := 25) (n := 7) (by decide)).symm)
theorem tpk_wst {ρ : MS} {x : Int32} {th : List Int32} {r : List Nat} {t : Int32} {n : Nat} : tpk (Fc (wst ρ x th)) (Se (wst ρ x th)) r t n = tpk (Fc ρ) (Se ρ) r t n := tpk_congr (F := Fc (wst ρ x th)) (F' := Fc ρ) (S := Se (wst ρ x th)) (S' := Se ρ) (fun _ => rfl) rfl r t n
theorem l_walks (hL : ML ρ) (hV : VF (Fc ρ)) (hS : ¬ Se ρ 3 = 0) {os : List Nat} (hO : OM ρ os) {μ0 : Mm} : ∀ (r : List Nat) (k pp : Nat) (mi at' on bk : Int32) (th : List Int32) (o6 : Option Value) (μ : Mm), RM b (wst ρ bk th) μ → FM b μ0 μ → th.length = 7 → os.drop k = r → k ≤ os.length → pp ≤ 8 →
    Ev g 3 mX12_walks 31 [some (.ref b), some (.int mi), some (.int at'), some (.int on), some (.int (nI pp)), some (.int (nI k)), o6] [] μ (fun v μ' => v = some (.int (wlk (Fc ρ) (Se ρ) r mi at' on pp bk th).1) ∧ RM b (wst ρ (wlk (Fc ρ) (Se ρ) r mi at' on pp bk th).2.1 (wlk (Fc ρ) (Se ρ) r mi at' on pp bk th).2.2) μ' ∧ FM b μ0 μ') := by
  have h7 := hO.2.1
  intro r
  induction r with
  | nil =>
    intro k pp mi at' on bk th o6 μ hM hF ht hr hk hp
    have hlen : os.length ≤ k := by simpa using hr
    refine ev_iload dX12_walks_31 rfl ?_
    refine ev_aload_n dX12_walks_33 rfl ?_
    refine ev_get dX12_walks_34 flX12_208_12 hM.1 rfl ?_
    refine ev_icmp_ge (tgt := 172) dX12_walks_37 (by decide) (fun _ => ?_) (fun h37 => absurd ((show ρ.2 26 ≤ nI k by rw [hO.1]; exact nI_le hlen (by omega))) h37)
    refine ev_iload_n dX12_walks_172 rfl ?_
    refine ev_iret dX12_walks_173 rfl ?_
    exact ⟨rfl, hM, hF⟩
  | cons h r ih =>
    intro k pp mi at' on bk th o6 μ hM hF ht hr hk hp
    obtain ⟨hh, hr', hlt⟩ := drop_at hr
    obtain ⟨ho, hh7⟩ := hO.2.2 _ _ hh
    have tail : ∀ (m : Nat) (mi at' bk : Int32) (μ : Mm), RM b (wst ρ bk th) μ → FM b μ0 μ → m ≤ 7 → Ev g 3 mX12_walks 93 [some (.ref b), some (.int mi), some (.int at'), some (.int on), some (.int (nI (m + 1))), some (.int (nI k)), some (.int (nI h))] [] μ (fun v μ' => v = some (.int (wlk (Fc ρ) (Se ρ) (h :: r) mi at' on (m + 1) bk th).1) ∧ RM b (wst ρ (wlk (Fc ρ) (Se ρ) (h :: r) mi at' on (m + 1) bk th).2.1 (wlk (Fc ρ) (Se ρ) (h :: r) mi at' on (m + 1) bk th).2.2) μ' ∧ FM b μ0 μ') := by
      intro m mi at' bk μ hM hF hm
      have hL' := wst_L hL (bk := bk) ht
      refine ev_iload_n dX12_walks_93 rfl ?_
      refine ev_aload_n dX12_walks_94 rfl ?_
      refine ev_iload_n dX12_walks_95 rfl ?_
      refine ev_aload_n dX12_walks_96 rfl ?_
      refine ev_get dX12_walks_97 flX12_16_12 hM.1 rfl ?_
      refine ev_iload dX12_walks_100 rfl ?_
      refine ev_iald dX12_walks_102 (hM.a 2 3 (by decide)) (ix_n (by omega)) (rd hL (n := 7) (by decide) hh7) ?_
      refine k_v (show Pu g 0 mX12_far [.ref b, .int at', .int (Fc ρ 2 h)] μ (far32 at' (Fc ρ 2 h) (Se ρ 3)) from c_far hM hL' hS _ _) (by decide) dX12_walks_103 cbX12_far (mt6 32 rfl rfl) (mt6 34 rfl rfl) (ms0 67 rfl rfl) (ci := 12) rfl hM.1 rfl rfl (Nat.le_of_ble_eq_true rfl) (fun v μ1 hq => ?_)
      obtain ⟨rfl, hμ⟩ := hq
      have hμ := hμ.symm
      subst hμ
      simp only [Option.toList, List.cons_append, List.nil_append]
      refine ev_iload_n dX12_walks_106 rfl ?_
      refine ev_aload_n dX12_walks_107 rfl ?_
      refine ev_get dX12_walks_108 flX12_19_12 hM.1 rfl ?_
      refine ev_iload dX12_walks_111 rfl ?_
      refine ev_iald dX12_walks_113 (hM.a 3 4 (by decide)) (ix_n (by omega)) (rd hL (n := 7) (by decide) hh7) ?_
      refine ev_icmp_ne (tgt := 121) dX12_walks_114 (by decide) (fun h114 => ?_) (fun h114 => ?_)
      · refine ev_aload_n dX12_walks_121 rfl ?_
        refine ev_get dX12_walks_122 flX12_28_12 hM.1 rfl ?_
        refine ev_iconst (v := 4) dX12_walks_125 (by decide) ?_
        refine ev_iald dX12_walks_126 (hM.a 6 7 (by decide)) ixl4 (rd hL (n := 10) (by decide) (by decide)) ?_
        refine ev_iadd dX12_walks_127 ?_
        refine ev_iadd dX12_walks_128 ?_
        first | rw [show mi + (far32 at' (Fc ρ 2 h) (Se ρ 3) + 0) = wmi (Fc ρ) (Se ρ) h mi at' on by rw [wmi, if_pos (show on = Fc ρ 3 h from h114)]] | rw [show mi + (far32 at' (Fc ρ 2 h) (Se ρ 3) + Se ρ 4) = wmi (Fc ρ) (Se ρ) h mi at' on by rw [wmi, if_neg (show ¬ on = Fc ρ 3 h from h114)]]
        refine ev_istore_n dX12_walks_129 (by decide) ?_
        dsimp only [List.set]
        refine ev_aload_n dX12_walks_130 rfl ?_
        refine ev_get dX12_walks_131 flX12_58_12 hM.1 rfl ?_
        refine ev_iload dX12_walks_134 rfl ?_
        refine ev_iload_n dX12_walks_136 rfl ?_
        refine evM_iast hM hF (k := 25) (o := 27) (by decide) dX12_walks_137 (ix_n (by omega)) (by show _ < th.length; omega) (fun μ hM hF => ?_)
        rw [wst_th] at hM
        refine ev_iload_n dX12_walks_138 rfl ?_
        refine ev_aload_n dX12_walks_139 rfl ?_
        refine ev_iload dX12_walks_140 rfl ?_
        refine k_v (show Pu g 1 mX12_takesOf [.ref b, .int (nI h)] μ (tks (Fc ρ) (Se ρ) h) from c_takesOf hM (wst_L hL (by rw [List.length_set]; exact ht)) hV hh7) (by decide) dX12_walks_142 cbX12_takesOf (mt5 219 rfl rfl) (mt5 221 rfl rfl) (ms0 59 rfl rfl) (ci := 12) rfl hM.1 rfl rfl (Nat.le_of_ble_eq_true rfl) (fun v μ1 hq => ?_)
        obtain ⟨rfl, hμ⟩ := hq
        have hμ := hμ.symm
        subst hμ
        simp only [Option.toList, List.cons_append, List.nil_append]
        refine ev_iadd dX12_walks_145 ?_
        refine ev_istore_n dX12_walks_146 (by decide) ?_
        dsimp only [List.set]
        refine ev_aload_n dX12_walks_147 rfl ?_
        refine ev_get dX12_walks_148 flX12_16_12 hM.1 rfl ?_
        refine ev_iload dX12_walks_151 rfl ?_
        refine ev_iald dX12_walks_153 (hM.a 2 3 (by decide)) (ix_n (by omega)) (rd hL (n := 7) (by decide) hh7) ?_
        refine ev_istore_n dX12_walks_154 (by decide) ?_
        dsimp only [List.set]
        refine ev_aload_n dX12_walks_155 rfl ?_
        refine ev_get dX12_walks_156 flX12_19_12 hM.1 rfl ?_
        refine ev_iload dX12_walks_159 rfl ?_
        refine ev_iald dX12_walks_161 (hM.a 3 4 (by decide)) (ix_n (by omega)) (rd hL (n := 7) (by decide) hh7) ?_
        refine ev_istore_n dX12_walks_162 (by decide) ?_
        dsimp only [List.set]
        refine ev_iinc dX12_walks_163 rfl (by decide) ?_
        dsimp only [List.set]
        refine ev_iinc dX12_walks_166 rfl (by decide) ?_
        dsimp only [List.set]
        refine ev_goto (tgt := 31) dX12_walks_169 (by decide) ?_
        rw [nI_inc, nI_dec]
        have hz := ih (k + 1) m (wmi (Fc ρ) (Se ρ) h mi at' on + tks (Fc ρ) (Se ρ) h) (Fc ρ 2 h) (Fc ρ 3 h) bk (th.set h (wmi (Fc ρ) (Se ρ) h mi at' on)) (some (.int (nI h))) μ hM hF (by rw [List.length_set]; exact ht) hr' (by omega) (by omega)
        rw [wlk]
        exact hz
      · refine ev_iconst (v := 0) dX12_walks_117 (by decide) ?_
        refine ev_goto (tgt := 127) dX12_walks_118 (by decide) ?_
        refine ev_iadd dX12_walks_127 ?_
        refine ev_iadd dX12_walks_128 ?_
        first | rw [show mi + (far32 at' (Fc ρ 2 h) (Se ρ 3) + 0) = wmi (Fc ρ) (Se ρ) h mi at' on by rw [wmi, if_pos (show on = Fc ρ 3 h from h114)]] | rw [show mi + (far32 at' (Fc ρ 2 h) (Se ρ 3) + Se ρ 4) = wmi (Fc ρ) (Se ρ) h mi at' on by rw [wmi, if_neg (show ¬ on = Fc ρ 3 h from h114)]]
        refine ev_istore_n dX12_walks_129 (by decide) ?_
        dsimp only [List.set]
        refine ev_aload_n dX12_walks_130 rfl ?_
        refine ev_get dX12_walks_131 flX12_58_12 hM.1 rfl ?_
        refine ev_iload dX12_walks_134 rfl ?_
        refine ev_iload_n dX12_walks_136 rfl ?_
        refine evM_iast hM hF (k := 25) (o := 27) (by decide) dX12_walks_137 (ix_n (by omega)) (by show _ < th.length; omega) (fun μ hM hF => ?_)
        rw [wst_th] at hM
        refine ev_iload_n dX12_walks_138 rfl ?_
        refine ev_aload_n dX12_walks_139 rfl ?_
        refine ev_iload dX12_walks_140 rfl ?_
        refine k_v (show Pu g 1 mX12_takesOf [.ref b, .int (nI h)] μ (tks (Fc ρ) (Se ρ) h) from c_takesOf hM (wst_L hL (by rw [List.length_set]; exact ht)) hV hh7) (by decide) dX12_walks_142 cbX12_takesOf (mt5 219 rfl rfl) (mt5 221 rfl rfl) (ms0 59 rfl rfl) (ci := 12) rfl hM.1 rfl rfl (Nat.le_of_ble_eq_true rfl) (fun v μ1 hq => ?_)
        obtain ⟨rfl, hμ⟩ := hq
        have hμ := hμ.symm
        subst hμ
        simp only [Option.toList, List.cons_append, List.nil_append]
        refine ev_iadd dX12_walks_145 ?_
        refine ev_istore_n dX12_walks_146 (by decide) ?_
        dsimp only [List.set]
        refine ev_aload_n dX12_walks_147 rfl ?_
        refine ev_get dX12_walks_148 flX12_16_12 hM.1 rfl ?_
        refine ev_iload dX12_walks_151 rfl ?_
        refine ev_iald dX12_walks_153 (hM.a 2 3 (by decide)) (ix_n (by omega)) (rd hL (n := 7) (by decide) hh7) ?_
        refine ev_istore_n dX12_walks_154 (by decide) ?_
        dsimp only [List.set]
        refine ev_aload_n dX12_walks_155 rfl ?_
        refine ev_get dX12_walks_156 flX12_19_12 hM.1 rfl ?_
        refine ev_iload dX12_walks_159 rfl ?_
        refine ev_iald dX12_walks_161 (hM.a 3 4 (by decide)) (ix_n (by omega)) (rd hL (n := 7) (by decide) hh7) ?_
        refine ev_istore_n dX12_walks_162 (by decide) ?_
        dsimp only [List.set]
        refine ev_iinc dX12_walks_163 rfl (by decide) ?_
        dsimp only [List.set]
        refine ev_iinc dX12_walks_166 rfl (by decide) ?_
        dsimp only [List.set]
        refine ev_goto (tgt := 31) dX12_walks_169 (by decide) ?_
        rw [nI_inc, nI_dec]
        have hz := ih (k + 1) m (wmi (Fc ρ) (Se ρ) h mi at' on + tks (Fc ρ) (Se ρ) h) (Fc ρ 2 h) (Fc ρ 3 h) bk (th.set h (wmi (Fc ρ) (Se ρ) h mi at' on)) (some (.int (nI h))) μ hM hF (by rw [List.length_set]; exact ht) hr' (by omega) (by omega)
        rw [wlk]
        exact hz
    cases pp with
    | zero =>
      refine ev_iload dX12_walks_31 rfl ?_
      refine ev_aload_n dX12_walks_33 rfl ?_
      refine ev_get dX12_walks_34 flX12_208_12 hM.1 rfl ?_
      refine ev_icmp_ge (tgt := 172) dX12_walks_37 (by decide) (fun h37 => absurd h37 ((show ¬ ρ.2 26 ≤ nI k by rw [hO.1]; exact nI_ge hlt (by omega)))) (fun _ => ?_)
      refine ev_aload_n dX12_walks_40 rfl ?_
      refine ev_get dX12_walks_41 flX12_55_12 hM.1 rfl ?_
      refine ev_iload dX12_walks_44 rfl ?_
      refine ev_iald dX12_walks_46 (hM.a 24 26 (by decide)) (ix_n (by omega)) ho ?_
      refine ev_istore dX12_walks_47 (by decide) ?_
      dsimp only [List.set]
      refine ev_iload dX12_walks_49 rfl ?_
      refine ev_if_ne (tgt := 93) dX12_walks_51 (by decide) (fun h51 => absurd (rfl) h51) (fun _ => ?_)
      refine ev_iload_n dX12_walks_54 rfl ?_
      refine ev_aload_n dX12_walks_55 rfl ?_
      refine ev_iload_n dX12_walks_56 rfl ?_
      refine ev_aload_n dX12_walks_57 rfl ?_
      refine ev_get dX12_walks_58 flX12_28_12 hM.1 rfl ?_
      refine ev_iconst (v := 1) dX12_walks_61 (by decide) ?_
      refine ev_iald dX12_walks_62 (hM.a 6 7 (by decide)) ixl1 (rd hL (n := 10) (by decide) (by decide)) ?_
      refine k_v (show Pu g 0 mX12_far [.ref b, .int at', .int (Se ρ 1)] μ (far32 at' (Se ρ 1) (Se ρ 3)) from c_far hM (wst_L hL ht) hS _ _) (by decide) dX12_walks_63 cbX12_far (mt6 32 rfl rfl) (mt6 34 rfl rfl) (ms0 67 rfl rfl) (ci := 12) rfl hM.1 rfl rfl (Nat.le_of_ble_eq_true rfl) (fun v μ1 hq => ?_)
      obtain ⟨rfl, hμ⟩ := hq
      have hμ := hμ.symm
      subst hμ
      simp only [Option.toList, List.cons_append, List.nil_append]
      refine ev_iadd dX12_walks_66 ?_
      refine ev_istore_n dX12_walks_67 (by decide) ?_
      dsimp only [List.set]
      refine ev_aload_n dX12_walks_68 rfl ?_
      refine ev_get dX12_walks_69 flX12_28_12 hM.1 rfl ?_
      refine ev_iconst (v := 1) dX12_walks_72 (by decide) ?_
      refine ev_iald dX12_walks_73 (hM.a 6 7 (by decide)) ixl1 (rd hL (n := 10) (by decide) (by decide)) ?_
      refine ev_istore_n dX12_walks_74 (by decide) ?_
      dsimp only [List.set]
      refine ev_aload_n dX12_walks_75 rfl ?_
      refine ev_dup dX12_walks_76 rfl ?_
      refine ev_get dX12_walks_77 flX12_211_12 hM.1 rfl ?_
      refine ev_iconst (v := 1) dX12_walks_80 (by decide) ?_
      refine ev_iadd dX12_walks_81 ?_
      refine evM_put hM hF (k := 27) (by decide) dX12_walks_82 fpX12_211_12 rfl rfl (fun μ hM hF => ?_)
      rw [wst_bk] at hM
      refine ev_aload_n dX12_walks_85 rfl ?_
      refine ev_iload dX12_walks_86 rfl ?_
      refine k_v (show Pu g 1 mX12_takesPapers [.ref b, .int (nI k)] μ (nI (tpk (Fc ρ) (Se ρ) (os.drop k) 0 0)) from by have hz := c_takesPapers (g := g) hM (wst_L hL ht) hV hO hk; rw [tpk_wst] at hz; exact hz) (by decide) dX12_walks_88 cbX12_takesPapers (mt6 28 rfl rfl) (mt6 30 rfl rfl) (ms0 66 rfl rfl) (ci := 12) rfl hM.1 rfl rfl (Nat.le_of_ble_eq_true rfl) (fun v μ1 hq => ?_)
      obtain ⟨rfl, hμ⟩ := hq
      have hμ := hμ.symm
      subst hμ
      simp only [Option.toList, List.cons_append, List.nil_append]
      refine ev_istore dX12_walks_91 (by decide) ?_
      dsimp only [List.set]
      obtain ⟨m, e1, e2⟩ := tpk_pos (F := Fc ρ) (S := Se ρ) (h := h) (r := r)
      have hz := tail m (mi + far32 at' (Se ρ 1) (Se ρ 3)) (Se ρ 1) (bk + 1) μ hM hF (by have := congrArg List.length hr; simp at this; omega)
      rw [wlk] at hz
      rw [hr, e1, wlk, e1]
      exact hz
    | succ m =>
      refine ev_iload dX12_walks_31 rfl ?_
      refine ev_aload_n dX12_walks_33 rfl ?_
      refine ev_get dX12_walks_34 flX12_208_12 hM.1 rfl ?_
      refine ev_icmp_ge (tgt := 172) dX12_walks_37 (by decide) (fun h37 => absurd h37 ((show ¬ ρ.2 26 ≤ nI k by rw [hO.1]; exact nI_ge hlt (by omega)))) (fun _ => ?_)
      refine ev_aload_n dX12_walks_40 rfl ?_
      refine ev_get dX12_walks_41 flX12_55_12 hM.1 rfl ?_
      refine ev_iload dX12_walks_44 rfl ?_
      refine ev_iald dX12_walks_46 (hM.a 24 26 (by decide)) (ix_n (by omega)) ho ?_
      refine ev_istore dX12_walks_47 (by decide) ?_
      dsimp only [List.set]
      refine ev_iload dX12_walks_49 rfl ?_
      refine ev_if_ne (tgt := 93) dX12_walks_51 (by decide) (fun _ => ?_) (fun h51 => absurd h51 ((show ¬ nI (m + 1) = 0 from fun q => by have := nI_i (n := m + 1) (by omega); rw [q] at this; simp at this; omega)))
      exact tail m mi at' bk μ hM hF (by omega)
/-- the whole round by an order -/
def wlk0 (F : Nat → Nat → Int32) (S : Nat → Int32) (os : List Nat) (th : List Int32) : Int32 × Int32 × List Int32 := wlk F S os (S 2) (S 1) 0 (tpk F S os 0 0) 0 th
theorem wst_self {ρ : MS} {v : Int32} : setI ρ 27 v = wst ρ v (ρ.1 25) := by
  simp only [wst, setA, setI]
  congr 1
  funext q
  split
  · rename_i h; rw [h]
  · rfl
/-- walks(): when the round ends; there and backs are written -/
theorem c_walks (hM : RM b ρ μ) (hL : ML ρ) (hV : VF (Fc ρ)) (hS : ¬ Se ρ 3 = 0) {os : List Nat} (hO : OM ρ os) : Mt g 3 mX12_walks [.ref b] μ (fun v μ' => v = some (.int (wlk0 (Fc ρ) (Se ρ) os (ρ.1 25)).1) ∧ RM b (wst ρ (wlk0 (Fc ρ) (Se ρ) os (ρ.1 25)).2.1 (wlk0 (Fc ρ) (Se ρ) os (ρ.1 25)).2.2) μ' ∧ FM b μ μ') := by
  refine Mt.of0 (ls0 := [some (.ref b), none, none, none, none, none, none]) (by decide) (by simp [Value.category]) (Nat.le_of_ble_eq_true rfl) rfl ?_
  have h25 := hL.at (k := 25) (n := 7) (by decide)
  have hF : FM b μ μ := FM.rf
  refine ev_aload_n dX12_walks_0 rfl ?_
  refine ev_get dX12_walks_1 flX12_28_12 hM.1 rfl ?_
  refine ev_iconst (v := 2) dX12_walks_4 (by decide) ?_
  refine ev_iald dX12_walks_5 (hM.a 6 7 (by decide)) ixl2 (rd hL (n := 10) (by decide) (by decide)) ?_
  refine ev_istore_n dX12_walks_6 (by decide) ?_
  dsimp only [List.set]
  refine ev_aload_n dX12_walks_7 rfl ?_
  refine ev_get dX12_walks_8 flX12_28_12 hM.1 rfl ?_
  refine ev_iconst (v := 1) dX12_walks_11 (by decide) ?_
  refine ev_iald dX12_walks_12 (hM.a 6 7 (by decide)) ixl1 (rd hL (n := 10) (by decide) (by decide)) ?_
  refine ev_istore_n dX12_walks_13 (by decide) ?_
  dsimp only [List.set]
  refine ev_iconst (v := 0) dX12_walks_14 (by decide) ?_
  refine ev_istore_n dX12_walks_15 (by decide) ?_
  dsimp only [List.set]
  refine ev_aload_n dX12_walks_16 rfl ?_
  refine ev_iconst (v := 0) dX12_walks_17 (by decide) ?_
  refine evM_put hM hF (k := 27) (by decide) dX12_walks_18 fpX12_211_12 rfl rfl (fun μ hM hF => ?_)
  rw [wst_self] at hM
  refine ev_aload_n dX12_walks_21 rfl ?_
  refine ev_iconst (v := 0) dX12_walks_22 (by decide) ?_
  refine k_v (show Pu g 1 mX12_takesPapers [.ref b, .int (nI 0)] _ (nI (tpk (Fc ρ) (Se ρ) (os.drop 0) 0 0)) from by have hz := c_takesPapers (g := g) (f := 0) hM (wst_L hL h25) hV hO (Nat.zero_le _); rw [tpk_wst] at hz; exact hz) (by decide) dX12_walks_23 cbX12_takesPapers (mt6 28 rfl rfl) (mt6 30 rfl rfl) (ms0 66 rfl rfl) (ci := 12) rfl hM.1 rfl rfl (Nat.le_of_ble_eq_true rfl) (fun v μ1 hq => ?_)
  obtain ⟨rfl, hμ⟩ := hq
  have hμ := hμ.symm
  subst hμ
  simp only [Option.toList, List.cons_append, List.nil_append]
  refine ev_istore dX12_walks_26 (by decide) ?_
  dsimp only [List.set]
  refine ev_iconst (v := 0) dX12_walks_28 (by decide) ?_
  refine ev_istore dX12_walks_29 (by decide) ?_
  dsimp only [List.set]
  exact l_walks hL hV hS hO os 0 _ _ _ _ _ _ _ _ hM hF h25 rfl (Nat.zero_le _) (by have := tpk_b (F := Fc ρ) (S := Se ρ) os 0 0; have := hO.2.1; show tpk (Fc ρ) (Se ρ) os 0 0 ≤ 8; omega)
end MWALK
