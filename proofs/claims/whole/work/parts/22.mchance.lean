/-! ===== the reference: chance ===== -/
def mnyK (n : Nat) (seed odds : Int32) : Nat → Nat → Nat → Nat
  | 0, _, s => s
  | m + 1, k, s => mnyK n seed odds m (k + 1) (if rgtK odds n (seed + nI k) 0 = nI n then s + 1 else s)
theorem mnyK_le {n : Nat} {seed odds : Int32} : ∀ (m k s : Nat), mnyK n seed odds m k s ≤ s + m := by
  intro m
  induction m with
  | zero => intro k s; simp [mnyK]
  | succ m ih =>
    intro k s
    rw [mnyK]
    split
    · have := ih (k + 1) (s + 1); omega
    · have := ih (k + 1) s; omega
theorem rem20 : ∀ x, x < 21 → ∀ y, y < 21 → ¬ y = 0 → nI x - nI x / nI y * nI y = nI (x % y) := by decide +kernel
theorem nI_eq0 {n : Nat} (h : n < 2 ^ 31) : nI n = 0 ↔ n = 0 := by
  constructor
  · intro q; have := nI_i h; rw [q] at this; simp at this; omega
  · intro q; rw [q]; rfl
theorem nI_inj {a b : Nat} (ha : a < 2 ^ 31) (hb : b < 2 ^ 31) : nI a = nI b ↔ a = b := by
  constructor
  · intro q; have := congrArg Int32.toInt q; rw [nI_i ha, nI_i hb] at this; omega
  · intro q; rw [q]
def ansChance (n : Nat) (seed c odds part : Int32) : Int64 :=
  if (1 ≤ c ∧ c ≤ 20) ∧ (0 ≤ odds ∧ odds ≤ 10) ∧ 0 ≤ part ∧ part ≤ 1 then
    ((if part = 0 then nI (mnyK n seed odds c.toInt.toNat 0 0) else c) / nI (Nat.gcd (mnyK n seed odds c.toInt.toNat 0 0) c.toInt.toNat)).toInt64
  else -4611686018427387904
section MCHANCE
variable {g : Gl} {μ : Mm} {b : Nat} {ρ : MS}
theorem l_divisor {a0 b0 : Int32} : ∀ (f x y : Nat) (o : Option Value), y ≤ f → x < 21 → y < 21 → Ev g 0 mX12_divisor 4 [some (.int a0), some (.int b0), some (.int (nI x)), some (.int (nI y)), o] [] μ (fun v μ' => v = some (.int (nI (Nat.gcd x y))) ∧ μ' = μ) := by
  intro f
  induction f with
  | zero =>
    intro x y o hf hx hy
    have hy0 : y = 0 := by omega
    subst hy0
    refine ev_iload_n dX12_divisor_4 rfl ?_
    refine ev_if_eq (tgt := 21) dX12_divisor_5 (by decide) (fun _ => ?_) (fun h5 => absurd (rfl) h5)
    refine ev_iload_n dX12_divisor_21 rfl ?_
    refine ev_iret dX12_divisor_22 rfl ?_
    rw [Nat.gcd_zero_right]
    exact ⟨rfl, rfl⟩
  | succ f ih =>
    intro x y o hf hx hy
    by_cases hy0 : y = 0
    · subst hy0
      refine ev_iload_n dX12_divisor_4 rfl ?_
      refine ev_if_eq (tgt := 21) dX12_divisor_5 (by decide) (fun _ => ?_) (fun h5 => absurd (rfl) h5)
      refine ev_iload_n dX12_divisor_21 rfl ?_
      refine ev_iret dX12_divisor_22 rfl ?_
      rw [Nat.gcd_zero_right]
      exact ⟨rfl, rfl⟩
    · have hlt := Nat.mod_lt x (Nat.pos_of_ne_zero hy0)
      refine ev_iload_n dX12_divisor_4 rfl ?_
      refine ev_if_eq (tgt := 21) dX12_divisor_5 (by decide) (fun h5 => absurd h5 ((fun q => hy0 ((nI_eq0 (by omega)).mp q)))) (fun _ => ?_)
      refine ev_iload_n dX12_divisor_8 rfl ?_
      refine ev_iload_n dX12_divisor_9 rfl ?_
      refine ev_irem dX12_divisor_10 (fun q => hy0 ((nI_eq0 (by omega)).mp q)) ?_
      rw [rem20 x hx y hy hy0]
      refine ev_istore dX12_divisor_11 (by decide) ?_
      dsimp only [List.set]
      refine ev_iload_n dX12_divisor_13 rfl ?_
      refine ev_istore_n dX12_divisor_14 (by decide) ?_
      dsimp only [List.set]
      refine ev_iload dX12_divisor_15 rfl ?_
      refine ev_istore_n dX12_divisor_17 (by decide) ?_
      dsimp only [List.set]
      refine ev_goto (tgt := 4) dX12_divisor_18 (by decide) ?_
      rw [Nat.gcd_comm, Nat.gcd_rec]
      rw [show Nat.gcd (x % y) y = Nat.gcd y (x % y) from Nat.gcd_comm _ _]
      exact ih y (x % y) _ (by omega) hy (by omega)
theorem c_divisor {x y : Nat} (hx : x < 21) (hy : y < 21) : Pu g 0 mX12_divisor [.int (nI x), .int (nI y)] μ (nI (Nat.gcd x y)) := by
  refine Mt.of0 (ls0 := [some (.int (nI x)), some (.int (nI y)), none, none, none]) (by decide) (by simp [Value.category]) (Nat.le_of_ble_eq_true rfl) rfl ?_
  refine ev_iload_n dX12_divisor_0 rfl ?_
  refine ev_istore_n dX12_divisor_1 (by decide) ?_
  dsimp only [List.set]
  refine ev_iload_n dX12_divisor_2 rfl ?_
  refine ev_istore_n dX12_divisor_3 (by decide) ?_
  dsimp only [List.set]
  exact l_divisor y x y _ (Nat.le_refl _) hx hy
theorem l_chance (hW : MW b ρ μ) {n : Nat} (hN : ρ.2 7 = nI n) (hn : n ≤ 7) {seed odds part : Int32} {c : Nat} (hc : c < 21) (hc0 : ¬ c = 0) : ∀ (m k s : Nat), k + m = c → s ≤ k → Ev g 1 mX12_chance 40 [some (.ref b), some (.int seed), some (.int (nI c)), some (.int odds), some (.int part), some (.int (nI s)), some (.int (nI k))] [] μ (fun v μ' => v = some (.long ((if part = 0 then nI (mnyK n seed odds m k s) else nI c) / nI (Nat.gcd (mnyK n seed odds m k s) c)).toInt64) ∧ MW b ρ μ' ∧ FM b μ μ') := by
  obtain ⟨ρ0, hM, hL, hE⟩ := id hW
  have hF : FM b μ μ := FM.rf
  have hN0 : ρ0.2 7 = nI n := (hE.2 7 (by decide)).trans hN
  intro m
  induction m with
  | zero =>
    intro k s hk hs
    rw [mnyK]
    have hg : ¬ nI (Nat.gcd s c) = 0 := fun q => by
      have hle : Nat.gcd s c ≤ c := Nat.gcd_le_right s (Nat.pos_of_ne_zero hc0)
      have := (nI_eq0 (by omega)).mp q
      exact hc0 (Nat.eq_zero_of_gcd_eq_zero_right this)
    refine ev_iload dX12_chance_40 rfl ?_
    refine ev_iload_n dX12_chance_42 rfl ?_
    refine ev_icmp_ge (tgt := 78) dX12_chance_43 (by decide) (fun _ => ?_) (fun h43 => absurd ((nI_le (by omega) (by omega))) h43)
    refine ev_iload dX12_chance_78 rfl ?_
    refine ev_if_ne (tgt := 88) dX12_chance_80 (by decide) (fun h80 => ?_) (fun h80 => ?_)
    · refine ev_iload_n dX12_chance_88 rfl ?_
      refine ev_iload dX12_chance_89 rfl ?_
      refine ev_iload_n dX12_chance_91 rfl ?_
      refine k_s (c_divisor (by omega) hc) (by decide) dX12_chance_92 cbX12_divisor (mt6 153 rfl rfl) (mt6 154 rfl rfl) rfl rfl (Nat.le_of_ble_eq_true rfl) (fun v μ1 hq => ?_)
      obtain ⟨rfl, hμ⟩ := hq
      have hμ := hμ.symm
      subst hμ
      simp only [Option.toList, List.cons_append, List.nil_append]
      refine ev_idiv dX12_chance_95 hg ?_
      refine ev_i2l dX12_chance_96 ?_
      refine ev_lret dX12_chance_97 rfl ?_
      first
        | (rw [if_pos h80]; exact ⟨rfl, hW, hF⟩)
        | (rw [if_neg h80]; exact ⟨rfl, hW, hF⟩)
    · refine ev_iload dX12_chance_83 rfl ?_
      refine ev_goto (tgt := 89) dX12_chance_85 (by decide) ?_
      refine ev_iload dX12_chance_89 rfl ?_
      refine ev_iload_n dX12_chance_91 rfl ?_
      refine k_s (c_divisor (by omega) hc) (by decide) dX12_chance_92 cbX12_divisor (mt6 153 rfl rfl) (mt6 154 rfl rfl) rfl rfl (Nat.le_of_ble_eq_true rfl) (fun v μ1 hq => ?_)
      obtain ⟨rfl, hμ⟩ := hq
      have hμ := hμ.symm
      subst hμ
      simp only [Option.toList, List.cons_append, List.nil_append]
      refine ev_idiv dX12_chance_95 hg ?_
      refine ev_i2l dX12_chance_96 ?_
      refine ev_lret dX12_chance_97 rfl ?_
      first
        | (rw [if_pos h80]; exact ⟨rfl, hW, hF⟩)
        | (rw [if_neg h80]; exact ⟨rfl, hW, hF⟩)
  | succ m ih =>
    intro k s hk hs
    rw [mnyK]
    refine ev_iload dX12_chance_40 rfl ?_
    refine ev_iload_n dX12_chance_42 rfl ?_
    refine ev_icmp_ge (tgt := 78) dX12_chance_43 (by decide) (fun h43 => absurd h43 ((nI_ge (by omega) (by omega)))) (fun _ => ?_)
    refine ev_iload dX12_chance_46 rfl ?_
    refine ev_aload_n dX12_chance_48 rfl ?_
    refine ev_iload_n dX12_chance_49 rfl ?_
    refine ev_iload dX12_chance_50 rfl ?_
    refine ev_iadd dX12_chance_52 ?_
    refine ev_iload_n dX12_chance_53 rfl ?_
    refine k_v (c_rightBy hM hN0 hn _ odds) (by decide) dX12_chance_54 cbX12_rightBy (mt6 143 rfl rfl) (mt6 145 rfl rfl) (ms0 81 rfl rfl) (ci := 12) rfl hM.1 rfl rfl (Nat.le_of_ble_eq_true rfl) (fun v μ1 hq => ?_)
    obtain ⟨rfl, hμ⟩ := hq
    have hμ := hμ.symm
    subst hμ
    simp only [Option.toList, List.cons_append, List.nil_append]
    refine ev_aload_n dX12_chance_57 rfl ?_
    refine ev_get dX12_chance_58 flX12_82_12 hM.1 rfl ?_
    refine ev_icmp_ne (tgt := 68) dX12_chance_61 (by decide) (fun h61 => ?_) (fun h61 => ?_)
    · refine ev_iconst (v := 0) dX12_chance_68 (by decide) ?_
      refine ev_iadd dX12_chance_69 ?_
      refine ev_istore dX12_chance_70 (by decide) ?_
      dsimp only [List.set]
      refine ev_iinc dX12_chance_72 rfl (by decide) ?_
      dsimp only [List.set]
      refine ev_goto (tgt := 40) dX12_chance_75 (by decide) ?_
      rw [nI_inc]
      rw [hN0] at h61
      first
        | (rw [if_pos h61, show nI s + 1 = nI (s + 1) from (nI_succ s).symm]; exact ih (k + 1) (s + 1) (by omega) (by omega))
        | (rw [if_neg h61, show nI s + 0 = nI s from Int32.add_zero _]; exact ih (k + 1) s (by omega) (by omega))
    · refine ev_iconst (v := 1) dX12_chance_64 (by decide) ?_
      refine ev_goto (tgt := 69) dX12_chance_65 (by decide) ?_
      refine ev_iadd dX12_chance_69 ?_
      refine ev_istore dX12_chance_70 (by decide) ?_
      dsimp only [List.set]
      refine ev_iinc dX12_chance_72 rfl (by decide) ?_
      dsimp only [List.set]
      refine ev_goto (tgt := 40) dX12_chance_75 (by decide) ?_
      rw [nI_inc]
      rw [hN0] at h61
      first
        | (rw [if_pos h61, show nI s + 1 = nI (s + 1) from (nI_succ s).symm]; exact ih (k + 1) (s + 1) (by omega) (by omega))
        | (rw [if_neg h61, show nI s + 0 = nI s from Int32.add_zero _]; exact ih (k + 1) s (by omega) (by omega))
theorem c_chance (hW : MW b ρ μ) {n : Nat} (hN : ρ.2 7 = nI n) (hn : n ≤ 7) (seed c odds part : Int32) : Mt g 1 mX12_chance [.ref b, .int seed, .int c, .int odds, .int part] μ (fun v μ' => v = some (.long (ansChance n seed c odds part)) ∧ MW b ρ μ' ∧ FM b μ μ') := by
  refine Mt.of0 (ls0 := [some (.ref b), some (.int seed), some (.int c), some (.int odds), some (.int part), none, none]) (by decide) (by simp [Value.category]) (Nat.le_of_ble_eq_true rfl) rfl ?_
  obtain ⟨ρ0, hM, hL, hE⟩ := id hW
  have hF : FM b μ μ := FM.rf
  rw [ansChance]
  refine ev_iload_n dX12_chance_0 rfl ?_
  refine ev_iconst (v := 1) dX12_chance_1 (by decide) ?_
  refine ev_bipush (v := 20) dX12_chance_2 (by decide) ?_
  refine k_s (c_isIn c 1 20) (by decide) dX12_chance_4 cbX12_isIn (mt5 123 rfl rfl) (mt5 124 rfl rfl) rfl rfl (Nat.le_of_ble_eq_true rfl) (fun v μ1 hq => ?_)
  obtain ⟨rfl, hμ⟩ := hq
  have hμ := hμ.symm
  subst hμ
  simp only [Option.toList, List.cons_append, List.nil_append]
  refine ev_if_eq (tgt := 30) dX12_chance_7 (by decide) (fun h7 => ?_) (fun h7 => ?_)
  · refine ev_ldc2 dX12_chance_30 (mt6 152 rfl rfl) ?_
    refine ev_lret dX12_chance_33 rfl ?_
    first
      | (rw [if_neg (fun q => b2i_eq h7 q.1)]; exact ⟨rfl, hW, hF⟩)
      | (rw [if_neg (fun q => b2i_eq h17 q.2.1)]; exact ⟨rfl, hW, hF⟩)
      | (rw [if_neg (fun q => b2i_eq h27 q.2.2)]; exact ⟨rfl, hW, hF⟩)
  · refine ev_iload_n dX12_chance_10 rfl ?_
    refine ev_iconst (v := 0) dX12_chance_11 (by decide) ?_
    refine ev_bipush (v := 10) dX12_chance_12 (by decide) ?_
    refine k_s (c_isIn odds 0 10) (by decide) dX12_chance_14 cbX12_isIn (mt5 123 rfl rfl) (mt5 124 rfl rfl) rfl rfl (Nat.le_of_ble_eq_true rfl) (fun v μ1 hq => ?_)
    obtain ⟨rfl, hμ⟩ := hq
    have hμ := hμ.symm
    subst hμ
    simp only [Option.toList, List.cons_append, List.nil_append]
    refine ev_if_eq (tgt := 30) dX12_chance_17 (by decide) (fun h17 => ?_) (fun h17 => ?_)
    · refine ev_ldc2 dX12_chance_30 (mt6 152 rfl rfl) ?_
      refine ev_lret dX12_chance_33 rfl ?_
      first
        | (rw [if_neg (fun q => b2i_eq h7 q.1)]; exact ⟨rfl, hW, hF⟩)
        | (rw [if_neg (fun q => b2i_eq h17 q.2.1)]; exact ⟨rfl, hW, hF⟩)
        | (rw [if_neg (fun q => b2i_eq h27 q.2.2)]; exact ⟨rfl, hW, hF⟩)
    · refine ev_iload dX12_chance_20 rfl ?_
      refine ev_iconst (v := 0) dX12_chance_22 (by decide) ?_
      refine ev_iconst (v := 1) dX12_chance_23 (by decide) ?_
      refine k_s (c_isIn part 0 1) (by decide) dX12_chance_24 cbX12_isIn (mt5 123 rfl rfl) (mt5 124 rfl rfl) rfl rfl (Nat.le_of_ble_eq_true rfl) (fun v μ1 hq => ?_)
      obtain ⟨rfl, hμ⟩ := hq
      have hμ := hμ.symm
      subst hμ
      simp only [Option.toList, List.cons_append, List.nil_append]
      refine ev_if_ne (tgt := 34) dX12_chance_27 (by decide) (fun h27 => ?_) (fun h27 => ?_)
      · refine ev_iconst (v := 0) dX12_chance_34 (by decide) ?_
        refine ev_istore dX12_chance_35 (by decide) ?_
        dsimp only [List.set]
        refine ev_iconst (v := 0) dX12_chance_37 (by decide) ?_
        refine ev_istore dX12_chance_38 (by decide) ?_
        dsimp only [List.set]
        have h7 := b2i_ne h7
        rw [if_pos ⟨h7, b2i_ne h17, b2i_ne h27⟩]
        have hc : 1 ≤ c.toInt ∧ c.toInt ≤ 20 := by
          simp only [Int32.le_iff_toInt_le, Int32.reduceToInt] at h7; exact h7
        have ec : c = nI c.toInt.toNat := by
          apply Int32.toInt_inj.mp
          rw [nI_i (by omega)]; omega
        generalize hcc : c.toInt.toNat = c' at ec ⊢
        subst ec
        exact l_chance hW hN hn (by omega) (by omega) c' 0 0 (by omega) (Nat.le_refl _)
      · refine ev_ldc2 dX12_chance_30 (mt6 152 rfl rfl) ?_
        refine ev_lret dX12_chance_33 rfl ?_
        first
          | (rw [if_neg (fun q => b2i_eq h7 q.1)]; exact ⟨rfl, hW, hF⟩)
          | (rw [if_neg (fun q => b2i_eq h17 q.2.1)]; exact ⟨rfl, hW, hF⟩)
          | (rw [if_neg (fun q => b2i_eq h27 q.2.2)]; exact ⟨rfl, hW, hF⟩)
end MCHANCE
