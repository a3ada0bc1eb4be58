/-! ===== the class's search: worth ===== -/
section KSO
variable {g : Gl} {a m tx o : Nat} {σ : KS} {μ : Mm}
def SO (o : Nat) : Prop := o = 12 ∨ o = 29
theorem SO.k (h : SO o) : (o, 6) ∈ kO := by rcases h with rfl | rfl <;> decide
theorem SO.r (h : SO o) {d : Nat} (hd : d = 1 ∨ d = 3 ∨ d = 4 ∨ d = 15 ∨ d = 16) : o + d ∈ kRo := by
  rcases h with rfl | rfl <;> rcases hd with rfl | rfl | rfl | rfl | rfl <;> decide
theorem c_kWorth (hM : KM a m tx σ μ) (ho : SO o) {h : Nat} (hh : h < 7) {by' t : Int32} {rw' : Nat} {L : List Int32} (hw : (σ.1 (o + 4))[h]? = some by') (hL : μ.1 rw' = some (iar L)) (hl : L.length = 756) : Pu g 1 mX6_worth [.ref (a + o), .ref rw', .int (nI h), .int t] μ (wrt (fun l => L.getD (108 * h + l) 0) by' t) := by
  refine Mt.of0 (ls0 := [some (.ref (a + o)), some (.ref rw'), some (.int (nI h)), some (.int t), none, none]) (by decide) (by simp [Value.category]) (Nat.le_of_ble_eq_true rfl) rfl ?_
  have hobj := hM.o o 6 ho.k
  have hwr := hM.r (o + 4) (ho.r (by omega))
  have c : (108 : Int32).toInt = 108 := by decide
  have hge : 0 ≤ (lte by' t).toInt := by
    unfold lte
    split
    · exact Int.le_refl _
    · rename_i q; rw [Int32.lt_iff_toInt_lt, Int32.toInt_zero] at q; omega
  refine ev_iconst (v := 0) dX6_worth_0 (by decide) ?_
  refine ev_iload_n dX6_worth_1 rfl ?_
  refine ev_aload_n dX6_worth_2 rfl ?_
  refine ev_get dX6_worth_3 flX6_32_6 hobj rfl ?_
  refine ev_iload_n dX6_worth_6 rfl ?_
  refine ev_iald dX6_worth_7 hwr (ix_n (by omega)) hw ?_
  refine ev_isub dX6_worth_8 ?_
  refine ev_mmax dX6_worth_9 (mt4 92 rfl rfl) (Nat.le_of_ble_eq_true rfl) ?_
  rw [max0, show (if t - by' < 0 then 0 else t - by') = lte by' t from rfl]
  unfold wrt
  generalize lte by' t = l at hge ⊢
  have el : l = nI l.toInt.toNat := by
    have := l.toInt_lt
    apply Int32.toInt_inj.mp
    rw [nI_i (by omega)]; omega
  refine ev_istore dX6_worth_12 (by decide) ?_
  dsimp only [List.set]
  refine ev_iload_n dX6_worth_14 rfl ?_
  refine ev_bipush (v := 108) dX6_worth_15 (by decide) ?_
  refine ev_imul dX6_worth_17 ?_
  rw [show nI h * (108 : Int32) = nI (h * 108) from (Int32.ofNat_mul h 108).symm]
  refine ev_iload dX6_worth_18 rfl ?_
  refine ev_iadd dX6_worth_20 ?_
  refine ev_istore dX6_worth_21 (by decide) ?_
  dsimp only [List.set]
  refine ev_iload dX6_worth_23 rfl ?_
  refine ev_bipush (v := 108) dX6_worth_25 (by decide) ?_
  refine ev_icmp_ge (tgt := 37) dX6_worth_27 (by decide) (fun h27 => ?_) (fun h27 => ?_)
  · refine ev_iconst (v := 0) dX6_worth_37 (by decide) ?_
    refine ev_goto (tgt := 45) dX6_worth_38 (by decide) ?_
    refine ev_iret dX6_worth_45 rfl ?_
    first
      | (rw [if_pos h27]; exact ⟨rfl, rfl⟩)
      | (rw [if_neg h27, show 108 * h + l.toInt.toNat = h * 108 + l.toInt.toNat by omega]; exact ⟨rfl, rfl⟩)
  · refine ev_iload dX6_worth_30 rfl ?_
    refine ev_aload_n dX6_worth_32 rfl ?_
    refine ev_alen dX6_worth_33 hL ?_
    refine ev_icmp_lt (tgt := 41) dX6_worth_34 (by decide) (fun _ => ?_) (fun h34 => absurd ((show nI (h * 108) + l < nI L.length by rw [el, nI_add, hl]; exact nI_lt (by rw [Int32.le_iff_toInt_le, c] at h27; omega) (by decide))) h34)
    refine ev_aload_n dX6_worth_41 rfl ?_
    refine ev_iload dX6_worth_42 rfl ?_
    refine ev_iald dX6_worth_44 hL (by rw [el, nI_add]; exact ix_n (by rw [Int32.le_iff_toInt_le, c] at h27; omega)) (gd (by rw [Int32.le_iff_toInt_le, c] at h27; omega)) ?_
    refine ev_iret dX6_worth_45 rfl ?_
    first
      | (rw [if_pos h27]; exact ⟨rfl, rfl⟩)
      | (rw [if_neg h27, show 108 * h + l.toInt.toNat = h * 108 + l.toInt.toNat by omega]; exact ⟨rfl, rfl⟩)
/-- for ENDS no gifts are kept -/
theorem c_kWorth0 (hM : KM a m tx σ μ) (ho : SO o) {h : Nat} (hh : h < 7) {by' t : Int32} {rw' : Nat} (hw : (σ.1 (o + 4))[h]? = some by') (hL : μ.1 rw' = some (iar [])) : Pu g 1 mX6_worth [.ref (a + o), .ref rw', .int (nI h), .int t] μ 0 := by
  refine Mt.of0 (ls0 := [some (.ref (a + o)), some (.ref rw'), some (.int (nI h)), some (.int t), none, none]) (by decide) (by simp [Value.category]) (Nat.le_of_ble_eq_true rfl) rfl ?_
  have hobj := hM.o o 6 ho.k
  have hwr := hM.r (o + 4) (ho.r (by omega))
  have c : (108 : Int32).toInt = 108 := by decide
  have hge : 0 ≤ (lte by' t).toInt := by
    unfold lte
    split
    · exact Int.le_refl _
    · rename_i q; rw [Int32.lt_iff_toInt_lt, Int32.toInt_zero] at q; omega
  refine ev_iconst (v := 0) dX6_worth_0 (by decide) ?_
  refine ev_iload_n dX6_worth_1 rfl ?_
  refine ev_aload_n dX6_worth_2 rfl ?_
  refine ev_get dX6_worth_3 flX6_32_6 hobj rfl ?_
  refine ev_iload_n dX6_worth_6 rfl ?_
  refine ev_iald dX6_worth_7 hwr (ix_n (by omega)) hw ?_
  refine ev_isub dX6_worth_8 ?_
  refine ev_mmax dX6_worth_9 (mt4 92 rfl rfl) (Nat.le_of_ble_eq_true rfl) ?_
  rw [max0, show (if t - by' < 0 then 0 else t - by') = lte by' t from rfl]
  generalize lte by' t = l at hge ⊢
  have el : l = nI l.toInt.toNat := by
    have := l.toInt_lt
    apply Int32.toInt_inj.mp
    rw [nI_i (by omega)]; omega
  refine ev_istore dX6_worth_12 (by decide) ?_
  dsimp only [List.set]
  refine ev_iload_n dX6_worth_14 rfl ?_
  refine ev_bipush (v := 108) dX6_worth_15 (by decide) ?_
  refine ev_imul dX6_worth_17 ?_
  rw [show nI h * (108 : Int32) = nI (h * 108) from (Int32.ofNat_mul h 108).symm]
  refine ev_iload dX6_worth_18 rfl ?_
  refine ev_iadd dX6_worth_20 ?_
  refine ev_istore dX6_worth_21 (by decide) ?_
  dsimp only [List.set]
  refine ev_iload dX6_worth_23 rfl ?_
  refine ev_bipush (v := 108) dX6_worth_25 (by decide) ?_
  refine ev_icmp_ge (tgt := 37) dX6_worth_27 (by decide) (fun h27 => ?_) (fun h27 => ?_)
  · refine ev_iconst (v := 0) dX6_worth_37 (by decide) ?_
    refine ev_goto (tgt := 45) dX6_worth_38 (by decide) ?_
    refine ev_iret dX6_worth_45 rfl ?_
    exact ⟨rfl, rfl⟩
  · refine ev_iload dX6_worth_30 rfl ?_
    refine ev_aload_n dX6_worth_32 rfl ?_
    refine ev_alen dX6_worth_33 hL ?_
    refine ev_icmp_lt (tgt := 41) dX6_worth_34 (by decide) (fun h34 => absurd h34 ((show ¬ nI (h * 108) + l < nI 0 by rw [el, nI_add]; exact nI_nlt (by omega) (by rw [Int32.le_iff_toInt_le, c] at h27; omega)))) (fun _ => ?_)
    refine ev_iconst (v := 0) dX6_worth_37 (by decide) ?_
    refine ev_goto (tgt := 45) dX6_worth_38 (by decide) ?_
    refine ev_iret dX6_worth_45 rfl ?_
    exact ⟨rfl, rfl⟩
end KSO
/-! ===== which houses are used ===== -/
def bt (u j : Nat) : Int32 := (nI u >>> (nI j &&& 31)) &&& 1
def usd (u : Nat) : Nat → Nat → List Nat
  | 0, _ => []
  | m + 1, k => if bt u k = 0 then k :: usd u m (k + 1) else usd u m (k + 1)
theorem bt_or : ∀ u : Fin 128, ∀ h : Fin 7, ∃ u' : Fin 128, nI u.1 ||| ((1 : Int32) <<< (nI h.1 &&& 31)) = nI u'.1 ∧ ∀ j : Fin 7, bt u'.1 j.1 = if j = h then 1 else bt u.1 j.1 := by decide +kernel
theorem bt_0 : ∀ j : Fin 7, bt 0 j.1 = 0 := by decide +kernel
theorem usd_mem {u : Nat} : ∀ (m k x : Nat), x ∈ usd u m k ↔ k ≤ x ∧ x < k + m ∧ bt u x = 0 := by
  intro m
  induction m with
  | zero => intro k x; simp [usd]; omega
  | succ m ih =>
    intro k x
    rw [usd]
    split
    · rename_i q
      rw [List.mem_cons, ih]
      constructor
      · rintro (rfl | ⟨h1, h2, h3⟩)
        · exact ⟨Nat.le_refl _, by omega, q⟩
        · exact ⟨by omega, by omega, h3⟩
      · rintro ⟨h1, h2, h3⟩
        by_cases e : x = k
        · exact Or.inl e
        · exact Or.inr ⟨by omega, by omega, h3⟩
    · rename_i q
      rw [ih]
      constructor
      · rintro ⟨h1, h2, h3⟩; exact ⟨by omega, by omega, h3⟩
      · rintro ⟨h1, h2, h3⟩
        have : x ≠ k := fun e => q (e ▸ h3)
        exact ⟨by omega, by omega, h3⟩
theorem usd_congr {u u' : Nat} : ∀ (m k : Nat), (∀ j, k ≤ j → j < k + m → bt u' j = bt u j) → usd u' m k = usd u m k := by
  intro m
  induction m with
  | zero => intro k _; rfl
  | succ m ih =>
    intro k h
    rw [usd, usd, h k (Nat.le_refl _) (by omega), ih (k + 1) (fun j h1 h2 => h j (by omega) (by omega))]
theorem usd_erase {u u' h : Nat} : ∀ (m k : Nat), k ≤ h → h < k + m → bt u h = 0 → (∀ j, j < k + m → bt u' j = if j = h then 1 else bt u j) → usd u' m k = (usd u m k).erase h := by
  intro m
  induction m with
  | zero => intro k h1 h2; omega
  | succ m ih =>
    intro k h1 h2 h0 hb
    rw [usd, usd]
    have hk := hb k (by omega)
    by_cases e : k = h
    · subst e
      rw [if_pos rfl] at hk
      rw [hk, if_neg (by decide), if_pos h0, List.erase_cons_head]
      exact usd_congr m (k + 1) (fun j h1 h2 => by rw [hb j (by omega), if_neg (by omega)])
    · rw [if_neg e] at hk
      rw [hk]
      have := ih (k + 1) (by omega) (by omega) h0 (fun j hj => hb j (by omega))
      by_cases q : bt u k = 0
      · rw [if_pos q, if_pos q, List.erase_cons_tail (by simpa using e), this]
      · rw [if_neg q, if_neg q, this]
theorem usd_all : ∀ (m k : Nat), k + m ≤ 7 → usd 0 m k = List.range' k m := by
  intro m
  induction m with
  | zero => intro k _; rfl
  | succ m ih =>
    intro k h
    rw [usd, if_pos (bt_0 ⟨k, by omega⟩), ih (k + 1) (by omega), List.range'_succ]
theorem usd_nd {u : Nat} : ∀ (m k : Nat), (usd u m k).Nodup := by
  intro m
  induction m with
  | zero => intro k; exact List.nodup_nil
  | succ m ih =>
    intro k
    rw [usd]
    split
    · refine List.nodup_cons.mpr ⟨fun q => ?_, ih (k + 1)⟩
      have := (usd_mem m (k + 1) k).mp q
      omega
    · exact ih (k + 1)
