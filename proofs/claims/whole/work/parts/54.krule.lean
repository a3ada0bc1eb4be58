/-! ===== the class: a rule's rows of steps ===== -/
def bops : List Int32 := [30001, 30002, 30003, 30004, 30005, 30006, 30007]
/-- a deed as the class has it -/
def en (c : Int32) : Int32 := if c < 20000 then (2 : Int32) + (c <<< (6 : Int32)) else if c < 30000 then c - 20000 + 10 else if c = 30001 then 43 else if c = 30002 then 45 else if c = 30003 then 42 else if c = 30004 then 60 else if c = 30005 then 61 else if c = 30006 then 7 else if c = 30007 then 6 else if c = 30008 then 8 else 9
def vc (c : Int32) : Prop := (∃ v, v < 10000 ∧ c = nI v) ∨ (∃ k, k < 6 ∧ c = nI (20000 + k)) ∨ c ∈ bops ∨ c = 30008 ∨ c = 30009
/-- how high the stack stands behind a row, if it never goes above L -/
def hLt (L : Nat) : List Int32 → Nat → Option Nat
  | [], n => some n
  | c :: cs, n => if c < 30000 then (if n < L then hLt L cs (n + 1) else none) else if c = 30008 ∨ c = 30009 then (if 1 ≤ n then hLt L cs n else none) else (if 2 ≤ n then hLt L cs (n - 1) else none)
def HB (c : List Int32) : Prop := hLt 32 c 0 = some 1 ∧ ∀ x ∈ c, vc x
theorem en_num0 : ∀ i, i < 100 → ∀ j, j < 100 → ((nI (100 * i + j) < 20000 ∧ ((2 : Int32) + (nI (100 * i + j) <<< (6 : Int32))) &&& (63 : Int32) = (2 : Int32)) ∧ ((2 : Int32) + (nI (100 * i + j) <<< (6 : Int32))) >>> ((6 : Int32) &&& (31 : Int32)) = nI (100 * i + j)) := by decide +kernel
theorem en_num {v : Nat} (h : v < 10000) : nI v < 20000 ∧ en (nI v) &&& 63 = 2 ∧ en (nI v) >>> (6 &&& 31) = nI v := by
  have := en_num0 (v / 100) (by omega) (v % 100) (by omega)
  rw [show 100 * (v / 100) + v % 100 = v by omega] at this
  obtain ⟨⟨h1, h2⟩, h3⟩ := this
  refine ⟨h1, ?_, ?_⟩
  · rw [en, if_pos h1]; exact h2
  · rw [en, if_pos h1]; exact h3
theorem en_name : ∀ k, k < 6 → ¬ nI (20000 + k) < 20000 ∧ nI (20000 + k) < 30000 ∧ en (nI (20000 + k)) &&& 63 = nI (10 + k) ∧ nI (20000 + k) - 20000 = nI k := by decide
theorem en_bop : ∀ c ∈ bops, ¬ c < 20000 ∧ ¬ c < 30000 ∧ ¬ c = 30008 ∧ ¬ c = 30009 ∧ en c &&& 63 = en c ∧ ¬ en c = 8 ∧ ¬ en c = 9 ∧ (en c = 6 ∨ en c = 7 ∨ en c = 60 ∨ en c = 61 ∨ en c = 43 ∨ en c = 45 ∨ en c = 42) := by decide
theorem within32 {v : Int32} {k : Nat} (hk : k < 1000) : (if (0 : Int32) < (if v < nI k then v else nI k) then (if v < nI k then v else nI k) else 0) = bnd v 0 (nI k) := by
  have e := nI_i (n := k) (by omega)
  unfold bnd
  split <;> split <;> rename_i q1 q2 <;> simp only [Int32.lt_iff_toInt_lt, Int32.toInt_zero, e] at q1 q2
  · rw [if_neg (by rw [Int32.lt_iff_toInt_lt, Int32.toInt_zero]; omega), if_neg (by rw [Int32.lt_iff_toInt_lt, e]; omega)]
  · by_cases q : v < 0
    · rw [if_pos q]
    · rw [if_neg q, if_neg (by rw [Int32.lt_iff_toInt_lt, e]; omega)]
      rw [Int32.lt_iff_toInt_lt, Int32.toInt_zero] at q
      apply Int32.toInt_inj.mp
      rw [Int32.toInt_zero]; omega
  · rw [if_neg (by rw [Int32.lt_iff_toInt_lt, Int32.toInt_zero]; omega)]
    split
    · rfl
    · rename_i q; rw [Int32.lt_iff_toInt_lt, e] at q
      apply Int32.toInt_inj.mp; rw [e]; omega
  · have hk0 : k = 0 := by omega
    subst hk0
    split
    · rfl
    · split
      · rfl
      · rename_i q3 q4
        simp only [Int32.lt_iff_toInt_lt, Int32.toInt_zero, e] at q3 q4
        apply Int32.toInt_inj.mp
        rw [Int32.toInt_zero]; omega
section KRULE
variable {g : Gl} {μ : Mm}
theorem c_isJoint (x : Int32) : Pu g 0 mX4_isJoint [.int x] μ (b2i (x = 6 ∨ x = 7 ∨ x = 60 ∨ x = 61 ∨ x = 43 ∨ x = 45 ∨ x = 42)) := by
  refine Mt.of0 (ls0 := [some (.int x)]) (by decide) (by simp [Value.category]) (Nat.le_of_ble_eq_true rfl) rfl ?_
  refine ev_iload_n dX4_isJoint_0 rfl ?_
  refine ev_bipush (v := 6) dX4_isJoint_1 (by decide) ?_
  refine ev_icmp_eq (tgt := 42) dX4_isJoint_3 (by decide) (fun h3 => ?_) (fun h3 => ?_)
  · refine ev_iconst (v := 1) dX4_isJoint_42 (by decide) ?_
    refine ev_goto (tgt := 47) dX4_isJoint_43 (by decide) ?_
    refine ev_zret dX4_isJoint_47 rfl (by decide) ?_
    refine ⟨?_, rfl⟩
    first | (rw [b2i_t (by (simp only [Fc, Se, Nat.reduceLT, ↓reduceIte, ← Int32.toInt_inj, Int32.le_iff_toInt_le, Int32.lt_iff_toInt_lt, Int32.reduceToInt] at *; omega))]; done) | (rw [b2i_f (by (simp only [Fc, Se, Nat.reduceLT, ↓reduceIte, ← Int32.toInt_inj, Int32.le_iff_toInt_le, Int32.lt_iff_toInt_lt, Int32.reduceToInt] at *; omega))]; done) | (exfalso; (simp only [Fc, Se, Nat.reduceLT, ↓reduceIte, ← Int32.toInt_inj, Int32.le_iff_toInt_le, Int32.lt_iff_toInt_lt, Int32.reduceToInt] at *; omega))
  · refine ev_iload_n dX4_isJoint_6 rfl ?_
    refine ev_bipush (v := 7) dX4_isJoint_7 (by decide) ?_
    refine ev_icmp_eq (tgt := 42) dX4_isJoint_9 (by decide) (fun h9 => ?_) (fun h9 => ?_)
    · refine ev_iconst (v := 1) dX4_isJoint_42 (by decide) ?_
      refine ev_goto (tgt := 47) dX4_isJoint_43 (by decide) ?_
      refine ev_zret dX4_isJoint_47 rfl (by decide) ?_
      refine ⟨?_, rfl⟩
      first | (rw [b2i_t (by (simp only [Fc, Se, Nat.reduceLT, ↓reduceIte, ← Int32.toInt_inj, Int32.le_iff_toInt_le, Int32.lt_iff_toInt_lt, Int32.reduceToInt] at *; omega))]; done) | (rw [b2i_f (by (simp only [Fc, Se, Nat.reduceLT, ↓reduceIte, ← Int32.toInt_inj, Int32.le_iff_toInt_le, Int32.lt_iff_toInt_lt, Int32.reduceToInt] at *; omega))]; done) | (exfalso; (simp only [Fc, Se, Nat.reduceLT, ↓reduceIte, ← Int32.toInt_inj, Int32.le_iff_toInt_le, Int32.lt_iff_toInt_lt, Int32.reduceToInt] at *; omega))
    · refine ev_iload_n dX4_isJoint_12 rfl ?_
      refine ev_bipush (v := 60) dX4_isJoint_13 (by decide) ?_
      refine ev_icmp_eq (tgt := 42) dX4_isJoint_15 (by decide) (fun h15 => ?_) (fun h15 => ?_)
      · refine ev_iconst (v := 1) dX4_isJoint_42 (by decide) ?_
        refine ev_goto (tgt := 47) dX4_isJoint_43 (by decide) ?_
        refine ev_zret dX4_isJoint_47 rfl (by decide) ?_
        refine ⟨?_, rfl⟩
        first | (rw [b2i_t (by (simp only [Fc, Se, Nat.reduceLT, ↓reduceIte, ← Int32.toInt_inj, Int32.le_iff_toInt_le, Int32.lt_iff_toInt_lt, Int32.reduceToInt] at *; omega))]; done) | (rw [b2i_f (by (simp only [Fc, Se, Nat.reduceLT, ↓reduceIte, ← Int32.toInt_inj, Int32.le_iff_toInt_le, Int32.lt_iff_toInt_lt, Int32.reduceToInt] at *; omega))]; done) | (exfalso; (simp only [Fc, Se, Nat.reduceLT, ↓reduceIte, ← Int32.toInt_inj, Int32.le_iff_toInt_le, Int32.lt_iff_toInt_lt, Int32.reduceToInt] at *; omega))
      · refine ev_iload_n dX4_isJoint_18 rfl ?_
        refine ev_bipush (v := 61) dX4_isJoint_19 (by decide) ?_
        refine ev_icmp_eq (tgt := 42) dX4_isJoint_21 (by decide) (fun h21 => ?_) (fun h21 => ?_)
        · refine ev_iconst (v := 1) dX4_isJoint_42 (by decide) ?_
          refine ev_goto (tgt := 47) dX4_isJoint_43 (by decide) ?_
          refine ev_zret dX4_isJoint_47 rfl (by decide) ?_
          refine ⟨?_, rfl⟩
          first | (rw [b2i_t (by (simp only [Fc, Se, Nat.reduceLT, ↓reduceIte, ← Int32.toInt_inj, Int32.le_iff_toInt_le, Int32.lt_iff_toInt_lt, Int32.reduceToInt] at *; omega))]; done) | (rw [b2i_f (by (simp only [Fc, Se, Nat.reduceLT, ↓reduceIte, ← Int32.toInt_inj, Int32.le_iff_toInt_le, Int32.lt_iff_toInt_lt, Int32.reduceToInt] at *; omega))]; done) | (exfalso; (simp only [Fc, Se, Nat.reduceLT, ↓reduceIte, ← Int32.toInt_inj, Int32.le_iff_toInt_le, Int32.lt_iff_toInt_lt, Int32.reduceToInt] at *; omega))
        · refine ev_iload_n dX4_isJoint_24 rfl ?_
          refine ev_bipush (v := 43) dX4_isJoint_25 (by decide) ?_
          refine ev_icmp_eq (tgt := 42) dX4_isJoint_27 (by decide) (fun h27 => ?_) (fun h27 => ?_)
          · refine ev_iconst (v := 1) dX4_isJoint_42 (by decide) ?_
            refine ev_goto (tgt := 47) dX4_isJoint_43 (by decide) ?_
            refine ev_zret dX4_isJoint_47 rfl (by decide) ?_
            refine ⟨?_, rfl⟩
            first | (rw [b2i_t (by (simp only [Fc, Se, Nat.reduceLT, ↓reduceIte, ← Int32.toInt_inj, Int32.le_iff_toInt_le, Int32.lt_iff_toInt_lt, Int32.reduceToInt] at *; omega))]; done) | (rw [b2i_f (by (simp only [Fc, Se, Nat.reduceLT, ↓reduceIte, ← Int32.toInt_inj, Int32.le_iff_toInt_le, Int32.lt_iff_toInt_lt, Int32.reduceToInt] at *; omega))]; done) | (exfalso; (simp only [Fc, Se, Nat.reduceLT, ↓reduceIte, ← Int32.toInt_inj, Int32.le_iff_toInt_le, Int32.lt_iff_toInt_lt, Int32.reduceToInt] at *; omega))
          · refine ev_iload_n dX4_isJoint_30 rfl ?_
            refine ev_bipush (v := 45) dX4_isJoint_31 (by decide) ?_
            refine ev_icmp_eq (tgt := 42) dX4_isJoint_33 (by decide) (fun h33 => ?_) (fun h33 => ?_)
            · refine ev_iconst (v := 1) dX4_isJoint_42 (by decide) ?_
              refine ev_goto (tgt := 47) dX4_isJoint_43 (by decide) ?_
              refine ev_zret dX4_isJoint_47 rfl (by decide) ?_
              refine ⟨?_, rfl⟩
              first | (rw [b2i_t (by (simp only [Fc, Se, Nat.reduceLT, ↓reduceIte, ← Int32.toInt_inj, Int32.le_iff_toInt_le, Int32.lt_iff_toInt_lt, Int32.reduceToInt] at *; omega))]; done) | (rw [b2i_f (by (simp only [Fc, Se, Nat.reduceLT, ↓reduceIte, ← Int32.toInt_inj, Int32.le_iff_toInt_le, Int32.lt_iff_toInt_lt, Int32.reduceToInt] at *; omega))]; done) | (exfalso; (simp only [Fc, Se, Nat.reduceLT, ↓reduceIte, ← Int32.toInt_inj, Int32.le_iff_toInt_le, Int32.lt_iff_toInt_lt, Int32.reduceToInt] at *; omega))
            · refine ev_iload_n dX4_isJoint_36 rfl ?_
              refine ev_bipush (v := 42) dX4_isJoint_37 (by decide) ?_
              refine ev_icmp_ne (tgt := 46) dX4_isJoint_39 (by decide) (fun h39 => ?_) (fun h39 => ?_)
              · refine ev_iconst (v := 0) dX4_isJoint_46 (by decide) ?_
                refine ev_zret dX4_isJoint_47 rfl (by decide) ?_
                refine ⟨?_, rfl⟩
                first | (rw [b2i_t (by (simp only [Fc, Se, Nat.reduceLT, ↓reduceIte, ← Int32.toInt_inj, Int32.le_iff_toInt_le, Int32.lt_iff_toInt_lt, Int32.reduceToInt] at *; omega))]; done) | (rw [b2i_f (by (simp only [Fc, Se, Nat.reduceLT, ↓reduceIte, ← Int32.toInt_inj, Int32.le_iff_toInt_le, Int32.lt_iff_toInt_lt, Int32.reduceToInt] at *; omega))]; done) | (exfalso; (simp only [Fc, Se, Nat.reduceLT, ↓reduceIte, ← Int32.toInt_inj, Int32.le_iff_toInt_le, Int32.lt_iff_toInt_lt, Int32.reduceToInt] at *; omega))
              · refine ev_iconst (v := 1) dX4_isJoint_42 (by decide) ?_
                refine ev_goto (tgt := 47) dX4_isJoint_43 (by decide) ?_
                refine ev_zret dX4_isJoint_47 rfl (by decide) ?_
                refine ⟨?_, rfl⟩
                first | (rw [b2i_t (by (simp only [Fc, Se, Nat.reduceLT, ↓reduceIte, ← Int32.toInt_inj, Int32.le_iff_toInt_le, Int32.lt_iff_toInt_lt, Int32.reduceToInt] at *; omega))]; done) | (rw [b2i_f (by (simp only [Fc, Se, Nat.reduceLT, ↓reduceIte, ← Int32.toInt_inj, Int32.le_iff_toInt_le, Int32.lt_iff_toInt_lt, Int32.reduceToInt] at *; omega))]; done) | (exfalso; (simp only [Fc, Se, Nat.reduceLT, ↓reduceIte, ← Int32.toInt_inj, Int32.le_iff_toInt_le, Int32.lt_iff_toInt_lt, Int32.reduceToInt] at *; omega))
theorem c_bit (x : Int32) : Pu g 0 mX5_bit [.int x] μ (if x = 0 then 0 else 1) := by
  refine Mt.of0 (ls0 := [some (.int x)]) (by decide) (by simp [Value.category]) (Nat.le_of_ble_eq_true rfl) rfl ?_
  refine ev_iload_n dX5_bit_0 rfl ?_
  refine ev_if_eq (tgt := 8) dX5_bit_1 (by decide) (fun h1 => ?_) (fun h1 => ?_)
  · refine ev_iconst (v := 0) dX5_bit_8 (by decide) ?_
    refine ev_iret dX5_bit_9 rfl ?_
    refine ⟨?_, rfl⟩
    first | (exfalso; (simp only [Fc, Se, Nat.reduceLT, ↓reduceIte, ← Int32.toInt_inj, Int32.le_iff_toInt_le, Int32.lt_iff_toInt_lt, Int32.reduceToInt] at *; omega)) | (repeat (first | rw [if_pos (by (simp only [Fc, Se, Nat.reduceLT, ↓reduceIte, ← Int32.toInt_inj, Int32.le_iff_toInt_le, Int32.lt_iff_toInt_lt, Int32.reduceToInt] at *; omega))] | rw [if_neg (by (simp only [Fc, Se, Nat.reduceLT, ↓reduceIte, ← Int32.toInt_inj, Int32.le_iff_toInt_le, Int32.lt_iff_toInt_lt, Int32.reduceToInt] at *; omega))] | rw [b2i_t (by (simp only [Fc, Se, Nat.reduceLT, ↓reduceIte, ← Int32.toInt_inj, Int32.le_iff_toInt_le, Int32.lt_iff_toInt_lt, Int32.reduceToInt] at *; omega))] | rw [b2i_f (by (simp only [Fc, Se, Nat.reduceLT, ↓reduceIte, ← Int32.toInt_inj, Int32.le_iff_toInt_le, Int32.lt_iff_toInt_lt, Int32.reduceToInt] at *; omega))])); try rfl
  · refine ev_iconst (v := 1) dX5_bit_4 (by decide) ?_
    refine ev_goto (tgt := 9) dX5_bit_5 (by decide) ?_
    refine ev_iret dX5_bit_9 rfl ?_
    refine ⟨?_, rfl⟩
    first | (exfalso; (simp only [Fc, Se, Nat.reduceLT, ↓reduceIte, ← Int32.toInt_inj, Int32.le_iff_toInt_le, Int32.lt_iff_toInt_lt, Int32.reduceToInt] at *; omega)) | (repeat (first | rw [if_pos (by (simp only [Fc, Se, Nat.reduceLT, ↓reduceIte, ← Int32.toInt_inj, Int32.le_iff_toInt_le, Int32.lt_iff_toInt_lt, Int32.reduceToInt] at *; omega))] | rw [if_neg (by (simp only [Fc, Se, Nat.reduceLT, ↓reduceIte, ← Int32.toInt_inj, Int32.le_iff_toInt_le, Int32.lt_iff_toInt_lt, Int32.reduceToInt] at *; omega))] | rw [b2i_t (by (simp only [Fc, Se, Nat.reduceLT, ↓reduceIte, ← Int32.toInt_inj, Int32.le_iff_toInt_le, Int32.lt_iff_toInt_lt, Int32.reduceToInt] at *; omega))] | rw [b2i_f (by (simp only [Fc, Se, Nat.reduceLT, ↓reduceIte, ← Int32.toInt_inj, Int32.le_iff_toInt_le, Int32.lt_iff_toInt_lt, Int32.reduceToInt] at *; omega))])); try rfl
theorem c_jn1 (a b : Int32) : Pu g 1 mX5_joined [.int 43, .int a, .int b] μ (a + b) := by
  refine Mt.of0 (ls0 := [some (.int 43), some (.int a), some (.int b)]) (by decide) (by simp [Value.category]) (Nat.le_of_ble_eq_true rfl) rfl ?_
  refine ev_iload_n dX5_joined_0 rfl ?_
  refine ev_lookup (off := 121) (tgt := 122) dX5_joined_1 (by decide) (by rfl) (by decide) ?_
  refine ev_iload_n dX5_joined_122 rfl ?_
  refine ev_iload_n dX5_joined_123 rfl ?_
  refine ev_iadd dX5_joined_124 ?_
  refine ev_iret dX5_joined_125 rfl ?_
  refine ⟨?_, rfl⟩
  first
    | rfl
    | (rw [b2i_t (by first | assumption | exact Int32.not_le.mp (by assumption) | exact Or.inl (by assumption) | exact Or.inr (by assumption) | exact ⟨by assumption, by assumption⟩)]; rfl)
    | (rw [b2i_f (by first | assumption | exact Int32.not_lt.mpr (by assumption) | exact fun q => q.elim (fun q => q (by assumption)) (fun q => q (by assumption)) | exact fun q => q.1 (by assumption) | exact fun q => q.2 (by assumption))]; rfl)
theorem c_jn2 (a b : Int32) : Pu g 1 mX5_joined [.int 45, .int a, .int b] μ (a - b) := by
  refine Mt.of0 (ls0 := [some (.int 45), some (.int a), some (.int b)]) (by decide) (by simp [Value.category]) (Nat.le_of_ble_eq_true rfl) rfl ?_
  refine ev_iload_n dX5_joined_0 rfl ?_
  refine ev_lookup (off := 125) (tgt := 126) dX5_joined_1 (by decide) (by rfl) (by decide) ?_
  refine ev_iload_n dX5_joined_126 rfl ?_
  refine ev_iload_n dX5_joined_127 rfl ?_
  refine ev_isub dX5_joined_128 ?_
  refine ev_iret dX5_joined_129 rfl ?_
  refine ⟨?_, rfl⟩
  first
    | rfl
    | (rw [b2i_t (by first | assumption | exact Int32.not_le.mp (by assumption) | exact Or.inl (by assumption) | exact Or.inr (by assumption) | exact ⟨by assumption, by assumption⟩)]; rfl)
    | (rw [b2i_f (by first | assumption | exact Int32.not_lt.mpr (by assumption) | exact fun q => q.elim (fun q => q (by assumption)) (fun q => q (by assumption)) | exact fun q => q.1 (by assumption) | exact fun q => q.2 (by assumption))]; rfl)
theorem c_jn3 (a b : Int32) : Pu g 1 mX5_joined [.int 42, .int a, .int b] μ (a * b) := by
  refine Mt.of0 (ls0 := [some (.int 42), some (.int a), some (.int b)]) (by decide) (by simp [Value.category]) (Nat.le_of_ble_eq_true rfl) rfl ?_
  refine ev_iload_n dX5_joined_0 rfl ?_
  refine ev_lookup (off := 129) (tgt := 130) dX5_joined_1 (by decide) (by rfl) (by decide) ?_
  refine ev_iload_n dX5_joined_130 rfl ?_
  refine ev_iload_n dX5_joined_131 rfl ?_
  refine ev_imul dX5_joined_132 ?_
  refine ev_iret dX5_joined_133 rfl ?_
  refine ⟨?_, rfl⟩
  first
    | rfl
    | (rw [b2i_t (by first | assumption | exact Int32.not_le.mp (by assumption) | exact Or.inl (by assumption) | exact Or.inr (by assumption) | exact ⟨by assumption, by assumption⟩)]; rfl)
    | (rw [b2i_f (by first | assumption | exact Int32.not_lt.mpr (by assumption) | exact fun q => q.elim (fun q => q (by assumption)) (fun q => q (by assumption)) | exact fun q => q.1 (by assumption) | exact fun q => q.2 (by assumption))]; rfl)
theorem c_jn4 (a b : Int32) : Pu g 1 mX5_joined [.int 60, .int a, .int b] μ (b2i (a < b)) := by
  refine Mt.of0 (ls0 := [some (.int 60), some (.int a), some (.int b)]) (by decide) (by simp [Value.category]) (Nat.le_of_ble_eq_true rfl) rfl ?_
  refine ev_iload_n dX5_joined_0 rfl ?_
  refine ev_lookup (off := 93) (tgt := 94) dX5_joined_1 (by decide) (by rfl) (by decide) ?_
  refine ev_iload_n dX5_joined_94 rfl ?_
  refine ev_iload_n dX5_joined_95 rfl ?_
  refine ev_icmp_ge (tgt := 103) dX5_joined_96 (by decide) (fun h96 => ?_) (fun h96 => ?_)
  · refine ev_iconst (v := 0) dX5_joined_103 (by decide) ?_
    refine k_s (c_bit _) (by decide) dX5_joined_104 cbX5_bit (mt3 151 rfl rfl) (mt3 152 rfl rfl) rfl rfl (Nat.le_of_ble_eq_true rfl) (fun v μ1 hq => ?_)
    obtain ⟨rfl, hμ⟩ := hq
    have hμ := hμ.symm
    subst hμ
    simp only [Option.toList, List.cons_append, List.nil_append]
    refine ev_iret dX5_joined_107 rfl ?_
    refine ⟨?_, rfl⟩
    first
      | rfl
      | (rw [b2i_t (by first | assumption | exact Int32.not_le.mp (by assumption) | exact Or.inl (by assumption) | exact Or.inr (by assumption) | exact ⟨by assumption, by assumption⟩)]; rfl)
      | (rw [b2i_f (by first | assumption | exact Int32.not_lt.mpr (by assumption) | exact fun q => q.elim (fun q => q (by assumption)) (fun q => q (by assumption)) | exact fun q => q.1 (by assumption) | exact fun q => q.2 (by assumption))]; rfl)
  · refine ev_iconst (v := 1) dX5_joined_99 (by decide) ?_
    refine ev_goto (tgt := 104) dX5_joined_100 (by decide) ?_
    refine k_s (c_bit _) (by decide) dX5_joined_104 cbX5_bit (mt3 151 rfl rfl) (mt3 152 rfl rfl) rfl rfl (Nat.le_of_ble_eq_true rfl) (fun v μ1 hq => ?_)
    obtain ⟨rfl, hμ⟩ := hq
    have hμ := hμ.symm
    subst hμ
    simp only [Option.toList, List.cons_append, List.nil_append]
    refine ev_iret dX5_joined_107 rfl ?_
    refine ⟨?_, rfl⟩
    first
      | rfl
      | (rw [b2i_t (by first | assumption | exact Int32.not_le.mp (by assumption) | exact Or.inl (by assumption) | exact Or.inr (by assumption) | exact ⟨by assumption, by assumption⟩)]; rfl)
      | (rw [b2i_f (by first | assumption | exact Int32.not_lt.mpr (by assumption) | exact fun q => q.elim (fun q => q (by assumption)) (fun q => q (by assumption)) | exact fun q => q.1 (by assumption) | exact fun q => q.2 (by assumption))]; rfl)
theorem c_jn5 (a b : Int32) : Pu g 1 mX5_joined [.int 61, .int a, .int b] μ (b2i (a = b)) := by
  refine Mt.of0 (ls0 := [some (.int 61), some (.int a), some (.int b)]) (by decide) (by simp [Value.category]) (Nat.le_of_ble_eq_true rfl) rfl ?_
  refine ev_iload_n dX5_joined_0 rfl ?_
  refine ev_lookup (off := 107) (tgt := 108) dX5_joined_1 (by decide) (by rfl) (by decide) ?_
  refine ev_iload_n dX5_joined_108 rfl ?_
  refine ev_iload_n dX5_joined_109 rfl ?_
  refine ev_icmp_ne (tgt := 117) dX5_joined_110 (by decide) (fun h110 => ?_) (fun h110 => ?_)
  · refine ev_iconst (v := 0) dX5_joined_117 (by decide) ?_
    refine k_s (c_bit _) (by decide) dX5_joined_118 cbX5_bit (mt3 151 rfl rfl) (mt3 152 rfl rfl) rfl rfl (Nat.le_of_ble_eq_true rfl) (fun v μ1 hq => ?_)
    obtain ⟨rfl, hμ⟩ := hq
    have hμ := hμ.symm
    subst hμ
    simp only [Option.toList, List.cons_append, List.nil_append]
    refine ev_iret dX5_joined_121 rfl ?_
    refine ⟨?_, rfl⟩
    first
      | rfl
      | (rw [b2i_t (by first | assumption | exact Int32.not_le.mp (by assumption) | exact Or.inl (by assumption) | exact Or.inr (by assumption) | exact ⟨by assumption, by assumption⟩)]; rfl)
      | (rw [b2i_f (by first | assumption | exact Int32.not_lt.mpr (by assumption) | exact fun q => q.elim (fun q => q (by assumption)) (fun q => q (by assumption)) | exact fun q => q.1 (by assumption) | exact fun q => q.2 (by assumption))]; rfl)
  · refine ev_iconst (v := 1) dX5_joined_113 (by decide) ?_
    refine ev_goto (tgt := 118) dX5_joined_114 (by decide) ?_
    refine k_s (c_bit _) (by decide) dX5_joined_118 cbX5_bit (mt3 151 rfl rfl) (mt3 152 rfl rfl) rfl rfl (Nat.le_of_ble_eq_true rfl) (fun v μ1 hq => ?_)
    obtain ⟨rfl, hμ⟩ := hq
    have hμ := hμ.symm
    subst hμ
    simp only [Option.toList, List.cons_append, List.nil_append]
    refine ev_iret dX5_joined_121 rfl ?_
    refine ⟨?_, rfl⟩
    first
      | rfl
      | (rw [b2i_t (by first | assumption | exact Int32.not_le.mp (by assumption) | exact Or.inl (by assumption) | exact Or.inr (by assumption) | exact ⟨by assumption, by assumption⟩)]; rfl)
      | (rw [b2i_f (by first | assumption | exact Int32.not_lt.mpr (by assumption) | exact fun q => q.elim (fun q => q (by assumption)) (fun q => q (by assumption)) | exact fun q => q.1 (by assumption) | exact fun q => q.2 (by assumption))]; rfl)
theorem c_jn6 (a b : Int32) : Pu g 1 mX5_joined [.int 7, .int a, .int b] μ (b2i (¬ a = 0 ∧ ¬ b = 0)) := by
  refine Mt.of0 (ls0 := [some (.int 7), some (.int a), some (.int b)]) (by decide) (by simp [Value.category]) (Nat.le_of_ble_eq_true rfl) rfl ?_
  refine ev_iload_n dX5_joined_0 rfl ?_
  refine ev_lookup (off := 76) (tgt := 77) dX5_joined_1 (by decide) (by rfl) (by decide) ?_
  refine ev_iload_n dX5_joined_77 rfl ?_
  refine ev_if_eq (tgt := 89) dX5_joined_78 (by decide) (fun h78 => ?_) (fun h78 => ?_)
  · refine ev_iconst (v := 0) dX5_joined_89 (by decide) ?_
    refine k_s (c_bit _) (by decide) dX5_joined_90 cbX5_bit (mt3 151 rfl rfl) (mt3 152 rfl rfl) rfl rfl (Nat.le_of_ble_eq_true rfl) (fun v μ1 hq => ?_)
    obtain ⟨rfl, hμ⟩ := hq
    have hμ := hμ.symm
    subst hμ
    simp only [Option.toList, List.cons_append, List.nil_append]
    refine ev_iret dX5_joined_93 rfl ?_
    refine ⟨?_, rfl⟩
    first
      | rfl
      | (rw [b2i_t (by first | assumption | exact Int32.not_le.mp (by assumption) | exact Or.inl (by assumption) | exact Or.inr (by assumption) | exact ⟨by assumption, by assumption⟩)]; rfl)
      | (rw [b2i_f (by first | assumption | exact Int32.not_lt.mpr (by assumption) | exact fun q => q.elim (fun q => q (by assumption)) (fun q => q (by assumption)) | exact fun q => q.1 (by assumption) | exact fun q => q.2 (by assumption))]; rfl)
  · refine ev_iload_n dX5_joined_81 rfl ?_
    refine ev_if_eq (tgt := 89) dX5_joined_82 (by decide) (fun h82 => ?_) (fun h82 => ?_)
    · refine ev_iconst (v := 0) dX5_joined_89 (by decide) ?_
      refine k_s (c_bit _) (by decide) dX5_joined_90 cbX5_bit (mt3 151 rfl rfl) (mt3 152 rfl rfl) rfl rfl (Nat.le_of_ble_eq_true rfl) (fun v μ1 hq => ?_)
      obtain ⟨rfl, hμ⟩ := hq
      have hμ := hμ.symm
      subst hμ
      simp only [Option.toList, List.cons_append, List.nil_append]
      refine ev_iret dX5_joined_93 rfl ?_
      refine ⟨?_, rfl⟩
      first
        | rfl
        | (rw [b2i_t (by first | assumption | exact Int32.not_le.mp (by assumption) | exact Or.inl (by assumption) | exact Or.inr (by assumption) | exact ⟨by assumption, by assumption⟩)]; rfl)
        | (rw [b2i_f (by first | assumption | exact Int32.not_lt.mpr (by assumption) | exact fun q => q.elim (fun q => q (by assumption)) (fun q => q (by assumption)) | exact fun q => q.1 (by assumption) | exact fun q => q.2 (by assumption))]; rfl)
    · refine ev_iconst (v := 1) dX5_joined_85 (by decide) ?_
      refine ev_goto (tgt := 90) dX5_joined_86 (by decide) ?_
      refine k_s (c_bit _) (by decide) dX5_joined_90 cbX5_bit (mt3 151 rfl rfl) (mt3 152 rfl rfl) rfl rfl (Nat.le_of_ble_eq_true rfl) (fun v μ1 hq => ?_)
      obtain ⟨rfl, hμ⟩ := hq
      have hμ := hμ.symm
      subst hμ
      simp only [Option.toList, List.cons_append, List.nil_append]
      refine ev_iret dX5_joined_93 rfl ?_
      refine ⟨?_, rfl⟩
      first
        | rfl
        | (rw [b2i_t (by first | assumption | exact Int32.not_le.mp (by assumption) | exact Or.inl (by assumption) | exact Or.inr (by assumption) | exact ⟨by assumption, by assumption⟩)]; rfl)
        | (rw [b2i_f (by first | assumption | exact Int32.not_lt.mpr (by assumption) | exact fun q => q.elim (fun q => q (by assumption)) (fun q => q (by assumption)) | exact fun q => q.1 (by assumption) | exact fun q => q.2 (by assumption))]; rfl)
theorem c_jn7 (a b : Int32) : Pu g 1 mX5_joined [.int 6, .int a, .int b] μ (b2i (¬ a = 0 ∨ ¬ b = 0)) := by
  refine Mt.of0 (ls0 := [some (.int 6), some (.int a), some (.int b)]) (by decide) (by simp [Value.category]) (Nat.le_of_ble_eq_true rfl) rfl ?_
  refine ev_iload_n dX5_joined_0 rfl ?_
  refine ev_lookup (off := 59) (tgt := 60) dX5_joined_1 (by decide) (by rfl) (by decide) ?_
  refine ev_iload_n dX5_joined_60 rfl ?_
  refine ev_if_ne (tgt := 68) dX5_joined_61 (by decide) (fun h61 => ?_) (fun h61 => ?_)
  · refine ev_iconst (v := 1) dX5_joined_68 (by decide) ?_
    refine ev_goto (tgt := 73) dX5_joined_69 (by decide) ?_
    refine k_s (c_bit _) (by decide) dX5_joined_73 cbX5_bit (mt3 151 rfl rfl) (mt3 152 rfl rfl) rfl rfl (Nat.le_of_ble_eq_true rfl) (fun v μ1 hq => ?_)
    obtain ⟨rfl, hμ⟩ := hq
    have hμ := hμ.symm
    subst hμ
    simp only [Option.toList, List.cons_append, List.nil_append]
    refine ev_iret dX5_joined_76 rfl ?_
    refine ⟨?_, rfl⟩
    first
      | rfl
      | (rw [b2i_t (by first | assumption | exact Int32.not_le.mp (by assumption) | exact Or.inl (by assumption) | exact Or.inr (by assumption) | exact ⟨by assumption, by assumption⟩)]; rfl)
      | (rw [b2i_f (by first | assumption | exact Int32.not_lt.mpr (by assumption) | exact fun q => q.elim (fun q => q (by assumption)) (fun q => q (by assumption)) | exact fun q => q.1 (by assumption) | exact fun q => q.2 (by assumption))]; rfl)
  · refine ev_iload_n dX5_joined_64 rfl ?_
    refine ev_if_eq (tgt := 72) dX5_joined_65 (by decide) (fun h65 => ?_) (fun h65 => ?_)
    · refine ev_iconst (v := 0) dX5_joined_72 (by decide) ?_
      refine k_s (c_bit _) (by decide) dX5_joined_73 cbX5_bit (mt3 151 rfl rfl) (mt3 152 rfl rfl) rfl rfl (Nat.le_of_ble_eq_true rfl) (fun v μ1 hq => ?_)
      obtain ⟨rfl, hμ⟩ := hq
      have hμ := hμ.symm
      subst hμ
      simp only [Option.toList, List.cons_append, List.nil_append]
      refine ev_iret dX5_joined_76 rfl ?_
      refine ⟨?_, rfl⟩
      first
        | rfl
        | (rw [b2i_t (by first | assumption | exact Int32.not_le.mp (by assumption) | exact Or.inl (by assumption) | exact Or.inr (by assumption) | exact ⟨by assumption, by assumption⟩)]; rfl)
        | (rw [b2i_f (by first | assumption | exact Int32.not_lt.mpr (by assumption) | exact fun q => q.elim (fun q => q (by assumption)) (fun q => q (by assumption)) | exact fun q => q.1 (by assumption) | exact fun q => q.2 (by assumption))]; rfl)
    · refine ev_iconst (v := 1) dX5_joined_68 (by decide) ?_
      refine ev_goto (tgt := 73) dX5_joined_69 (by decide) ?_
      refine k_s (c_bit _) (by decide) dX5_joined_73 cbX5_bit (mt3 151 rfl rfl) (mt3 152 rfl rfl) rfl rfl (Nat.le_of_ble_eq_true rfl) (fun v μ1 hq => ?_)
      obtain ⟨rfl, hμ⟩ := hq
      have hμ := hμ.symm
      subst hμ
      simp only [Option.toList, List.cons_append, List.nil_append]
      refine ev_iret dX5_joined_76 rfl ?_
      refine ⟨?_, rfl⟩
      first
        | rfl
        | (rw [b2i_t (by first | assumption | exact Int32.not_le.mp (by assumption) | exact Or.inl (by assumption) | exact Or.inr (by assumption) | exact ⟨by assumption, by assumption⟩)]; rfl)
        | (rw [b2i_f (by first | assumption | exact Int32.not_lt.mpr (by assumption) | exact fun q => q.elim (fun q => q (by assumption)) (fun q => q (by assumption)) | exact fun q => q.1 (by assumption) | exact fun q => q.2 (by assumption))]; rfl)
theorem c_joined {c : Int32} (hc : c ∈ bops) (a b : Int32) : Pu g 1 mX5_joined [.int (en c), .int a, .int b] μ (don (c - 30000) a b) := by
  simp only [bops, List.mem_cons, List.not_mem_nil, or_false] at hc
  rcases hc with rfl | rfl | rfl | rfl | rfl | rfl | rfl
  · exact c_jn1 a b
  · exact c_jn2 a b
  · exact c_jn3 a b
  · exact c_jn4 a b
  · exact c_jn5 a b
  · exact c_jn6 a b
  · exact c_jn7 a b
theorem c_kNamed {ci dd : Nat} {i n p s so : Int32} (hci : ci ∈ dks) (hd : μ.1 dd = some (obj ci (dfs i n p s so))) (late ra : Int32) {k : Nat} (hk : k < 6) : Pu g 0 mX5_named [.int (nI (10 + k)), .ref dd, .int late, .int ra] μ (if k = 0 then p else if k = 1 then s else if k = 2 then so else if k = 3 then late else if k = 4 then ra else i) := by
  refine Mt.of0 (ls0 := [some (.int (nI (10 + k))), some (.ref dd), some (.int late), some (.int ra)]) (by decide) (by simp [Value.category]) (Nat.le_of_ble_eq_true rfl) rfl ?_
  have h6 : k = 0 ∨ k = 1 ∨ k = 2 ∨ k = 3 ∨ k = 4 ∨ k = 5 := by omega
  rcases h6 with rfl | rfl | rfl | rfl | rfl | rfl
  · refine ev_iload_n dX5_named_0 rfl ?_
    refine ev_tin (off := 35) (tgt := 36) dX5_named_1 (by decide) (by decide) (by rfl) (by decide) ?_
    refine ev_aload_n dX5_named_36 rfl ?_
    refine ev_get dX5_named_37 (glX5_64 hci) hd rfl ?_
    refine ev_iret dX5_named_40 rfl ?_
    exact ⟨rfl, rfl⟩
  · refine ev_iload_n dX5_named_0 rfl ?_
    refine ev_tin (off := 40) (tgt := 41) dX5_named_1 (by decide) (by decide) (by rfl) (by decide) ?_
    refine ev_aload_n dX5_named_41 rfl ?_
    refine ev_get dX5_named_42 (glX5_67 hci) hd rfl ?_
    refine ev_iret dX5_named_45 rfl ?_
    exact ⟨rfl, rfl⟩
  · refine ev_iload_n dX5_named_0 rfl ?_
    refine ev_tin (off := 45) (tgt := 46) dX5_named_1 (by decide) (by decide) (by rfl) (by decide) ?_
    refine ev_aload_n dX5_named_46 rfl ?_
    refine ev_get dX5_named_47 (glX5_70 hci) hd rfl ?_
    refine ev_iret dX5_named_50 rfl ?_
    exact ⟨rfl, rfl⟩
  · refine ev_iload_n dX5_named_0 rfl ?_
    refine ev_tin (off := 50) (tgt := 51) dX5_named_1 (by decide) (by decide) (by rfl) (by decide) ?_
    refine ev_iload_n dX5_named_51 rfl ?_
    refine ev_iret dX5_named_52 rfl ?_
    exact ⟨rfl, rfl⟩
  · refine ev_iload_n dX5_named_0 rfl ?_
    refine ev_tin (off := 52) (tgt := 53) dX5_named_1 (by decide) (by decide) (by rfl) (by decide) ?_
    refine ev_iload_n dX5_named_53 rfl ?_
    refine ev_iret dX5_named_54 rfl ?_
    exact ⟨rfl, rfl⟩
  · refine ev_iload_n dX5_named_0 rfl ?_
    refine ev_tout (tgt := 55) dX5_named_1 (by decide) (by decide) ?_
    refine ev_aload_n dX5_named_55 rfl ?_
    refine ev_get dX5_named_56 (glX5_73 hci) hd rfl ?_
    refine ev_iret dX5_named_59 rfl ?_
    exact ⟨rfl, rfl⟩
theorem c_within {k : Nat} (hk : k < 1000) (v : Int32) : Pu g 1 mX5_within [.int v, .int (nI k)] μ (bnd v 0 (nI k)) := by
  refine Mt.of0 (ls0 := [some (.int v), some (.int (nI k))]) (by decide) (by simp [Value.category]) (Nat.le_of_ble_eq_true rfl) rfl ?_
  refine ev_iconst (v := 0) dX5_within_0 (by decide) ?_
  refine ev_iload_n dX5_within_1 rfl ?_
  refine ev_iload_n dX5_within_2 rfl ?_
  refine ev_mmin dX5_within_3 (mt3 166 rfl rfl) (Nat.le_of_ble_eq_true rfl) ?_
  refine ev_mmax dX5_within_6 (mt3 167 rfl rfl) (Nat.le_of_ble_eq_true rfl) ?_
  refine ev_iret dX5_within_9 rfl ?_
  exact ⟨by rw [within32 hk], rfl⟩
end KRULE
