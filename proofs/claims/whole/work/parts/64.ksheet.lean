/-! ===== the class: a sheet; where, judge ===== -/
section KSHEET
variable {g : Gl} {μ : Mm} {w it : Nat} {so sz : Int32} {L : List Int32}
abbrev hasP (sz i n : Int32) : Prop := 0 ≤ i ∧ 0 ≤ n ∧ n ≤ sz ∧ i ≤ sz - n
theorem c_kMissing (hm : μ.1 w = some (obj 7 [.int so, .int sz, .ref it])) : Pu g 0 mX7_isMissing [.ref w] μ (b2i (so = -1)) := by
  refine Mt.of0 (ls0 := [some (.ref w)]) (by decide) (by simp [Value.category]) (Nat.le_of_ble_eq_true rfl) rfl ?_
  refine ev_aload_n dX7_isMissing_0 rfl ?_
  refine ev_get dX7_isMissing_1 flX7_11_7 hm rfl ?_
  refine ev_iconst (v := (-1)) dX7_isMissing_4 (by decide) ?_
  refine ev_icmp_ne (tgt := 12) dX7_isMissing_5 (by decide) (fun h5 => ?_) (fun h5 => ?_)
  · refine ev_iconst (v := 0) dX7_isMissing_12 (by decide) ?_
    refine ev_zret dX7_isMissing_13 rfl (by decide) ?_
    refine ⟨?_, rfl⟩
    first | (rw [b2i_t (by (simp only [Fc, Se, Nat.reduceLT, ↓reduceIte, ← Int32.toInt_inj, Int32.le_iff_toInt_le, Int32.lt_iff_toInt_lt, Int32.reduceToInt] at *; omega))]; done) | (rw [b2i_f (by (simp only [Fc, Se, Nat.reduceLT, ↓reduceIte, ← Int32.toInt_inj, Int32.le_iff_toInt_le, Int32.lt_iff_toInt_lt, Int32.reduceToInt] at *; omega))]; done) | (exfalso; (simp only [Fc, Se, Nat.reduceLT, ↓reduceIte, ← Int32.toInt_inj, Int32.le_iff_toInt_le, Int32.lt_iff_toInt_lt, Int32.reduceToInt] at *; omega))
  · refine ev_iconst (v := 1) dX7_isMissing_8 (by decide) ?_
    refine ev_goto (tgt := 13) dX7_isMissing_9 (by decide) ?_
    refine ev_zret dX7_isMissing_13 rfl (by decide) ?_
    refine ⟨?_, rfl⟩
    first | (rw [b2i_t (by (simp only [Fc, Se, Nat.reduceLT, ↓reduceIte, ← Int32.toInt_inj, Int32.le_iff_toInt_le, Int32.lt_iff_toInt_lt, Int32.reduceToInt] at *; omega))]; done) | (rw [b2i_f (by (simp only [Fc, Se, Nat.reduceLT, ↓reduceIte, ← Int32.toInt_inj, Int32.le_iff_toInt_le, Int32.lt_iff_toInt_lt, Int32.reduceToInt] at *; omega))]; done) | (exfalso; (simp only [Fc, Se, Nat.reduceLT, ↓reduceIte, ← Int32.toInt_inj, Int32.le_iff_toInt_le, Int32.lt_iff_toInt_lt, Int32.reduceToInt] at *; omega))
theorem c_kHas (hm : μ.1 w = some (obj 7 [.int so, .int sz, .ref it])) (i n : Int32) : Pu g 0 mX7_has [.ref w, .int i, .int n] μ (b2i (hasP sz i n)) := by
  refine Mt.of0 (ls0 := [some (.ref w), some (.int i), some (.int n)]) (by decide) (by simp [Value.category]) (Nat.le_of_ble_eq_true rfl) rfl ?_
  refine ev_iload_n dX7_has_0 rfl ?_
  refine ev_if_lt (tgt := 30) dX7_has_1 (by decide) (fun h1 => ?_) (fun h1 => ?_)
  · refine ev_iconst (v := 0) dX7_has_30 (by decide) ?_
    refine ev_zret dX7_has_31 rfl (by decide) ?_
    refine ⟨?_, rfl⟩
    first
      | (rw [b2i_t ⟨Int32.not_lt.mp h1, Int32.not_lt.mp h5, Int32.not_lt.mp h13, Int32.not_lt.mp h23⟩]; done)
      | (rw [b2i_f (fun q => by first | exact Int32.not_lt.mpr q.1 h1 | exact Int32.not_lt.mpr q.2.1 h5 | exact Int32.not_lt.mpr q.2.2.1 h13 | exact Int32.not_lt.mpr q.2.2.2 h23)]; done)
  · refine ev_iload_n dX7_has_4 rfl ?_
    refine ev_if_lt (tgt := 30) dX7_has_5 (by decide) (fun h5 => ?_) (fun h5 => ?_)
    · refine ev_iconst (v := 0) dX7_has_30 (by decide) ?_
      refine ev_zret dX7_has_31 rfl (by decide) ?_
      refine ⟨?_, rfl⟩
      first
        | (rw [b2i_t ⟨Int32.not_lt.mp h1, Int32.not_lt.mp h5, Int32.not_lt.mp h13, Int32.not_lt.mp h23⟩]; done)
        | (rw [b2i_f (fun q => by first | exact Int32.not_lt.mpr q.1 h1 | exact Int32.not_lt.mpr q.2.1 h5 | exact Int32.not_lt.mpr q.2.2.1 h13 | exact Int32.not_lt.mpr q.2.2.2 h23)]; done)
    · refine ev_iload_n dX7_has_8 rfl ?_
      refine ev_aload_n dX7_has_9 rfl ?_
      refine ev_get dX7_has_10 flX7_15_7 hm rfl ?_
      refine ev_icmp_gt (tgt := 30) dX7_has_13 (by decide) (fun h13 => ?_) (fun h13 => ?_)
      · refine ev_iconst (v := 0) dX7_has_30 (by decide) ?_
        refine ev_zret dX7_has_31 rfl (by decide) ?_
        refine ⟨?_, rfl⟩
        first
          | (rw [b2i_t ⟨Int32.not_lt.mp h1, Int32.not_lt.mp h5, Int32.not_lt.mp h13, Int32.not_lt.mp h23⟩]; done)
          | (rw [b2i_f (fun q => by first | exact Int32.not_lt.mpr q.1 h1 | exact Int32.not_lt.mpr q.2.1 h5 | exact Int32.not_lt.mpr q.2.2.1 h13 | exact Int32.not_lt.mpr q.2.2.2 h23)]; done)
      · refine ev_iload_n dX7_has_16 rfl ?_
        refine ev_aload_n dX7_has_17 rfl ?_
        refine ev_get dX7_has_18 flX7_15_7 hm rfl ?_
        refine ev_iload_n dX7_has_21 rfl ?_
        refine ev_isub dX7_has_22 ?_
        refine ev_icmp_gt (tgt := 30) dX7_has_23 (by decide) (fun h23 => ?_) (fun h23 => ?_)
        · refine ev_iconst (v := 0) dX7_has_30 (by decide) ?_
          refine ev_zret dX7_has_31 rfl (by decide) ?_
          refine ⟨?_, rfl⟩
          first
            | (rw [b2i_t ⟨Int32.not_lt.mp h1, Int32.not_lt.mp h5, Int32.not_lt.mp h13, Int32.not_lt.mp h23⟩]; done)
            | (rw [b2i_f (fun q => by first | exact Int32.not_lt.mpr q.1 h1 | exact Int32.not_lt.mpr q.2.1 h5 | exact Int32.not_lt.mpr q.2.2.1 h13 | exact Int32.not_lt.mpr q.2.2.2 h23)]; done)
        · refine ev_iconst (v := 1) dX7_has_26 (by decide) ?_
          refine ev_goto (tgt := 31) dX7_has_27 (by decide) ?_
          refine ev_zret dX7_has_31 rfl (by decide) ?_
          refine ⟨?_, rfl⟩
          first
            | (rw [b2i_t ⟨Int32.not_lt.mp h1, Int32.not_lt.mp h5, Int32.not_lt.mp h13, Int32.not_lt.mp h23⟩]; done)
            | (rw [b2i_f (fun q => by first | exact Int32.not_lt.mpr q.1 h1 | exact Int32.not_lt.mpr q.2.1 h5 | exact Int32.not_lt.mpr q.2.2.1 h13 | exact Int32.not_lt.mpr q.2.2.2 h23)]; done)
theorem has1 {z i : Nat} (hz : z ≤ 40) (hi : i < z) : hasP (nI z) (nI i) 1 := by
  refine ⟨nI_pos' (by omega), by decide, ?_, ?_⟩
  · exact nI_le (a := 1) (by omega) (by omega)
  · rw [show nI z - 1 = nI (z - 1) from nI_sub (a := z) (c := 1) (by omega)]
    exact nI_le (by omega) (by omega)
theorem c_kItem (hm : μ.1 w = some (obj 7 [.int so, .int sz, .ref it])) (hL : μ.1 it = some (iar L)) (hl : L.length = 40) {z i : Nat} (hz : z ≤ 40) (ez : sz = nI z) (hi : i < z) : Pu g 1 mX7_item [.ref w, .int (nI i)] μ (L.getD i 0) := by
  refine Mt.of0 (ls0 := [some (.ref w), some (.int (nI i))]) (by decide) (by simp [Value.category]) (Nat.le_of_ble_eq_true rfl) rfl ?_
  refine ev_aload_n dX7_item_0 rfl ?_
  refine ev_iload_n dX7_item_1 rfl ?_
  refine ev_iconst (v := 1) dX7_item_2 (by decide) ?_
  refine k_v (c_kHas hm (nI i) 1) (by decide) dX7_item_3 cbX7_has (mt4 68 rfl rfl) (mt4 69 rfl rfl) (mt4 70 rfl rfl) (ci := 7) rfl hm rfl rfl (Nat.le_of_ble_eq_true rfl) (fun v μ1 hq => ?_)
  obtain ⟨rfl, hμ⟩ := hq
  have hμ := hμ.symm
  subst hμ
  simp only [Option.toList, List.cons_append, List.nil_append]
  rw [b2i_t (by rw [ez]; exact has1 hz hi)]
  refine ev_if_eq (tgt := 18) dX7_item_6 (by decide) (fun h6 => absurd h6 ((show ¬ (1 : Int32) = 0 by decide))) (fun _ => ?_)
  refine ev_aload_n dX7_item_9 rfl ?_
  refine ev_get dX7_item_10 flX7_18_7 hm rfl ?_
  refine ev_iload_n dX7_item_13 rfl ?_
  refine ev_iald dX7_item_14 hL (ix_n (by omega)) (gd (by omega)) ?_
  refine ev_goto (tgt := 19) dX7_item_15 (by decide) ?_
  refine ev_iret dX7_item_19 rfl ?_
  exact ⟨rfl, rfl⟩
end KSHEET
theorem kSl_at {a s : Nat} (hs : s < 4) : (kSl a)[s]? = some (some (a + (49 + 2 * s))) := by
  have h4 : s = 0 ∨ s = 1 ∨ s = 2 ∨ s = 3 := by omega
  rcases h4 with rfl | rfl | rfl | rfl <;> rfl
/-- counted upward: how many, the first -/
def upK (P : Nat → Bool) : Nat → Nat × Int32
  | 0 => (0, -1)
  | i + 1 => if P i then ((upK P i).1 + 1, if (upK P i).2 = -1 then nI i else (upK P i).2) else upK P i
theorem whK_up {P : Nat → Bool} : ∀ (m many : Nat) (least : Int32), m ≤ 1000 → whK P m many least = ((upK P m).1 + many, if (upK P m).2 = -1 then least else (upK P m).2) := by
  intro m
  induction m with
  | zero => intro many least _; rw [whK, upK, if_pos rfl, Nat.zero_add]
  | succ m ih =>
    intro many least hm
    rw [whK, upK]
    by_cases h : P m = true
    · rw [if_pos h, if_pos h, ih _ _ (by omega)]
      have hne : ¬ nI m = -1 := by
        intro q
        have h1 := nI_i (n := m) (by omega)
        rw [q] at h1
        have : (-1 : Int32).toInt = -1 := by decide
        omega
      refine Prod.ext (by show _ + (many + 1) = _ + 1 + many; omega) ?_
      show (if (upK P m).2 = -1 then nI m else (upK P m).2) = if (if (upK P m).2 = -1 then nI m else (upK P m).2) = -1 then least else (if (upK P m).2 = -1 then nI m else (upK P m).2)
      by_cases q : (upK P m).2 = -1
      · rw [if_pos q, if_neg hne]
      · rw [if_neg q, if_neg q]
    · rw [if_neg h, if_neg h, ih _ _ (by omega)]
theorem upK_le {P : Nat → Bool} : ∀ m, (upK P m).1 ≤ m := by
  intro m
  induction m with
  | zero => exact Nat.le_refl _
  | succ m ih =>
    rw [upK]
    split
    · show _ + 1 ≤ _; omega
    · omega
section KWHERE
variable {g : Gl} {a m tx n t : Nat} {ρ : MS} {cd : Nat → List Int32} {Lf : Nat → Nat} {σ : KS} {μ : Mm}
theorem KM.sh (hM : KM a m tx σ μ) {s : Nat} (hs : s < 4) : μ.1 (a + (49 + 2 * s)) = some (obj 7 [.int (kI σ (49 + 2 * s) 0), .int (kI σ (49 + 2 * s) 1), .ref (a + (50 + 2 * s))]) ∧ μ.1 (a + (50 + 2 * s)) = some (iar (σ.1 (50 + 2 * s))) := by
  have h4 : s = 0 ∨ s = 1 ∨ s = 2 ∨ s = 3 := by omega
  rcases h4 with rfl | rfl | rfl | rfl
  · exact ⟨hM.o 49 7 (by decide), hM.r 50 (by decide)⟩
  · exact ⟨hM.o 51 7 (by decide), hM.r 52 (by decide)⟩
  · exact ⟨hM.o 53 7 (by decide), hM.r 54 (by decide)⟩
  · exact ⟨hM.o 55 7 (by decide), hM.r 56 (by decide)⟩
theorem KTie.l50 (hT : KTie ρ n t tx cd Lf m σ) {s : Nat} (hs : s < 4) : (σ.1 (50 + 2 * s)).length = 40 := by
  have h4 : s = 0 ∨ s = 1 ∨ s = 2 ∨ s = 3 := by omega
  rcases h4 with rfl | rfl | rfl | rfl <;> exact hT.ln (by decide)
theorem KTie.shh (hT : KTie ρ n t tx cd Lf m σ) : KSh ρ σ := hT.2.2.2.2.2.2.1
theorem c_kIsSheet (s : Int32) : Pu g 0 mX11_isSheet [.int s] μ (b2i (0 ≤ s ∧ s < 4)) := by
  refine Mt.of0 (ls0 := [some (.int s)]) (by decide) (by simp [Value.category]) (Nat.le_of_ble_eq_true rfl) rfl ?_
  refine ev_iload_n dX11_isSheet_0 rfl ?_
  refine ev_if_lt (tgt := 13) dX11_isSheet_1 (by decide) (fun h1 => ?_) (fun h1 => ?_)
  · refine ev_iconst (v := 0) dX11_isSheet_13 (by decide) ?_
    refine ev_zret dX11_isSheet_14 rfl (by decide) ?_
    refine ⟨?_, rfl⟩
    first | (rw [b2i_t (by (simp only [Fc, Se, Nat.reduceLT, ↓reduceIte, ← Int32.toInt_inj, Int32.le_iff_toInt_le, Int32.lt_iff_toInt_lt, Int32.reduceToInt] at *; omega))]; done) | (rw [b2i_f (by (simp only [Fc, Se, Nat.reduceLT, ↓reduceIte, ← Int32.toInt_inj, Int32.le_iff_toInt_le, Int32.lt_iff_toInt_lt, Int32.reduceToInt] at *; omega))]; done) | (exfalso; (simp only [Fc, Se, Nat.reduceLT, ↓reduceIte, ← Int32.toInt_inj, Int32.le_iff_toInt_le, Int32.lt_iff_toInt_lt, Int32.reduceToInt] at *; omega))
  · refine ev_iload_n dX11_isSheet_4 rfl ?_
    refine ev_iconst (v := 4) dX11_isSheet_5 (by decide) ?_
    refine ev_icmp_ge (tgt := 13) dX11_isSheet_6 (by decide) (fun h6 => ?_) (fun h6 => ?_)
    · refine ev_iconst (v := 0) dX11_isSheet_13 (by decide) ?_
      refine ev_zret dX11_isSheet_14 rfl (by decide) ?_
      refine ⟨?_, rfl⟩
      first | (rw [b2i_t (by (simp only [Fc, Se, Nat.reduceLT, ↓reduceIte, ← Int32.toInt_inj, Int32.le_iff_toInt_le, Int32.lt_iff_toInt_lt, Int32.reduceToInt] at *; omega))]; done) | (rw [b2i_f (by (simp only [Fc, Se, Nat.reduceLT, ↓reduceIte, ← Int32.toInt_inj, Int32.le_iff_toInt_le, Int32.lt_iff_toInt_lt, Int32.reduceToInt] at *; omega))]; done) | (exfalso; (simp only [Fc, Se, Nat.reduceLT, ↓reduceIte, ← Int32.toInt_inj, Int32.le_iff_toInt_le, Int32.lt_iff_toInt_lt, Int32.reduceToInt] at *; omega))
    · refine ev_iconst (v := 1) dX11_isSheet_9 (by decide) ?_
      refine ev_goto (tgt := 14) dX11_isSheet_10 (by decide) ?_
      refine ev_zret dX11_isSheet_14 rfl (by decide) ?_
      refine ⟨?_, rfl⟩
      first | (rw [b2i_t (by (simp only [Fc, Se, Nat.reduceLT, ↓reduceIte, ← Int32.toInt_inj, Int32.le_iff_toInt_le, Int32.lt_iff_toInt_lt, Int32.reduceToInt] at *; omega))]; done) | (rw [b2i_f (by (simp only [Fc, Se, Nat.reduceLT, ↓reduceIte, ← Int32.toInt_inj, Int32.le_iff_toInt_le, Int32.lt_iff_toInt_lt, Int32.reduceToInt] at *; omega))]; done) | (exfalso; (simp only [Fc, Se, Nat.reduceLT, ↓reduceIte, ← Int32.toInt_inj, Int32.le_iff_toInt_le, Int32.lt_iff_toInt_lt, Int32.reduceToInt] at *; omega))
/-- why a sheet can't tell -/
def rfsl (ρ : MS) (n : Nat) (s : Int32) : Int32 := if 0 ≤ s ∧ s < 4 then (if (ρ.1 33).getD s.toInt.toNat 0 < 0 then -11 else if ¬ (ρ.1 34).getD s.toInt.toNat 0 = nI n then -2 else 0) else -2
theorem so_neg {x : Int32} (h : rg x (-1) 2) : x = -1 ↔ x < 0 := by
  have h1 := h.1; have h2 := h.2
  have e1 : (-1 : Int32).toInt = -1 := by decide
  constructor
  · rintro rfl; decide
  · intro q
    rw [Int32.lt_iff_toInt_lt, Int32.toInt_zero] at q
    apply Int32.toInt_inj.mp
    rw [e1]; omega
theorem c_kRefusal (hSH : SH ρ) (hM : KM a m tx σ μ) (hT : KTie ρ n t tx cd Lf m σ) (s : Int32) : Pu g 1 mX11_refusalOfTelling [.ref a, .int s] μ (rfsl ρ n s) := by
  refine Mt.of0 (ls0 := [some (.ref a), some (.int s)]) (by decide) (by simp [Value.category]) (Nat.le_of_ble_eq_true rfl) rfl ?_
  rw [rfsl]
  by_cases hs : 0 ≤ s ∧ s < 4
  · obtain ⟨hi, ei⟩ := sheet_n hs.1 hs.2
    rw [if_pos hs]
    generalize s.toInt.toNat = s' at hi ei ⊢
    subst ei
    obtain ⟨x1, x2⟩ := hM.sh hi
    obtain ⟨y1, y2, y3⟩ := hT.shh s' hi
    have hneg := so_neg (hSH s' hi).1
    refine ev_iload_n dX11_refusalOfTelling_0 rfl ?_
    refine k_s (c_kIsSheet _) (by decide) dX11_refusalOfTelling_1 cbX11_isSheet (mt4 53 rfl rfl) (mt4 54 rfl rfl) rfl rfl (Nat.le_of_ble_eq_true rfl) (fun v μ1 hq => ?_)
    obtain ⟨rfl, hμ⟩ := hq
    have hμ := hμ.symm
    subst hμ
    simp only [Option.toList, List.cons_append, List.nil_append]
    rw [b2i_t hs]
    refine ev_if_ne (tgt := 10) dX11_refusalOfTelling_4 (by decide) (fun _ => ?_) (fun h4 => absurd h4 ((show ¬ (1 : Int32) = 0 by decide)))
    refine ev_aload_n dX11_refusalOfTelling_10 rfl ?_
    refine ev_get dX11_refusalOfTelling_11 flX11_55_11 (hM.o 0 11 (by decide)) rfl ?_
    refine ev_iload_n dX11_refusalOfTelling_14 rfl ?_
    refine ev_aald dX11_refusalOfTelling_15 hM.sl (by decide) (by decide) (ix_n (by omega)) (kSl_at hi) ?_
    refine k_v (c_kMissing x1) (by decide) dX11_refusalOfTelling_16 cbX7_isMissing (mt4 56 rfl rfl) (mt4 57 rfl rfl) (mt4 58 rfl rfl) (ci := 7) rfl x1 rfl rfl (Nat.le_of_ble_eq_true rfl) (fun v μ1 hq => ?_)
    obtain ⟨rfl, hμ⟩ := hq
    have hμ := hμ.symm
    subst hμ
    simp only [Option.toList, List.cons_append, List.nil_append]
    rw [y1]
    refine ev_if_eq (tgt := 25) dX11_refusalOfTelling_19 (by decide) (fun h19 => ?_) (fun h19 => ?_)
    · refine ev_aload_n dX11_refusalOfTelling_25 rfl ?_
      refine ev_get dX11_refusalOfTelling_26 flX11_55_11 (hM.o 0 11 (by decide)) rfl ?_
      refine ev_iload_n dX11_refusalOfTelling_29 rfl ?_
      refine ev_aald dX11_refusalOfTelling_30 hM.sl (by decide) (by decide) (ix_n (by omega)) (kSl_at hi) ?_
      refine ev_get dX11_refusalOfTelling_31 flX11_349_7 x1 rfl ?_
      rw [y2]
      refine ev_aload_n dX11_refusalOfTelling_34 rfl ?_
      refine ev_get dX11_refusalOfTelling_35 flX11_15_11 (hM.o 0 11 (by decide)) rfl ?_
      rw [hT.hc]
      refine ev_icmp_eq (tgt := 46) dX11_refusalOfTelling_38 (by decide) (fun h38 => ?_) (fun h38 => ?_)
      · refine ev_iconst (v := 0) dX11_refusalOfTelling_46 (by decide) ?_
        refine ev_iret dX11_refusalOfTelling_47 rfl ?_
        first
          | (rw [if_neg (fun q => b2i_eq h19 (hneg.mpr q)), if_pos h38]; exact ⟨rfl, rfl⟩)
          | (rw [if_neg (fun q => b2i_eq h19 (hneg.mpr q)), if_neg (fun q => q h38)]; exact ⟨rfl, rfl⟩)
      · refine ev_bipush (v := (-2)) dX11_refusalOfTelling_41 (by decide) ?_
        refine ev_goto (tgt := 47) dX11_refusalOfTelling_43 (by decide) ?_
        refine ev_iret dX11_refusalOfTelling_47 rfl ?_
        first
          | (rw [if_neg (fun q => b2i_eq h19 (hneg.mpr q)), if_pos h38]; exact ⟨rfl, rfl⟩)
          | (rw [if_neg (fun q => b2i_eq h19 (hneg.mpr q)), if_neg (fun q => q h38)]; exact ⟨rfl, rfl⟩)
    · refine ev_bipush (v := (-11)) dX11_refusalOfTelling_22 (by decide) ?_
      refine ev_iret dX11_refusalOfTelling_24 rfl ?_
      rw [if_pos (hneg.mp (b2i_ne h19))]
      exact ⟨rfl, rfl⟩
  · rw [if_neg hs]
    refine ev_iload_n dX11_refusalOfTelling_0 rfl ?_
    refine k_s (c_kIsSheet _) (by decide) dX11_refusalOfTelling_1 cbX11_isSheet (mt4 53 rfl rfl) (mt4 54 rfl rfl) rfl rfl (Nat.le_of_ble_eq_true rfl) (fun v μ1 hq => ?_)
    obtain ⟨rfl, hμ⟩ := hq
    have hμ := hμ.symm
    subst hμ
    simp only [Option.toList, List.cons_append, List.nil_append]
    rw [b2i_f hs]
    refine ev_if_ne (tgt := 10) dX11_refusalOfTelling_4 (by decide) (fun h4 => absurd (rfl) h4) (fun _ => ?_)
    refine ev_bipush (v := (-2)) dX11_refusalOfTelling_7 (by decide) ?_
    refine ev_iret dX11_refusalOfTelling_9 rfl ?_
    exact ⟨rfl, rfl⟩
theorem l_kTells (hM : KM a m tx σ μ) (hT : KTie ρ n t tx cd Lf m σ) (hn7 : n ≤ 7) {s : Nat} (hs : s < 4) (hz : (ρ.1 34).getD s 0 = nI n) {set : Int32} : ∀ (k i : Nat), i + k = n → Ev g 2 mX11_tellsBits 2 [some (.ref a), some (.ref (a + (49 + 2 * s))), some (.int set), some (.int (nI i))] [] μ (fun v μ' => v = some (.int (b2i (irK (ρ.1 35) (40 * s) set k i = true))) ∧ μ' = μ) := by
  obtain ⟨x1, x2⟩ := hM.sh hs
  obtain ⟨y1, y2, y3⟩ := hT.shh s hs
  have hl := hT.l50 hs
  intro k
  induction k with
  | zero =>
    intro i hi
    refine ev_iload_n dX11_tellsBits_2 rfl ?_
    refine ev_aload_n dX11_tellsBits_3 rfl ?_
    refine ev_get dX11_tellsBits_4 flX11_15_11 (hM.o 0 11 (by decide)) rfl ?_
    rw [hT.hc]
    refine ev_icmp_ge (tgt := 31) dX11_tellsBits_7 (by decide) (fun _ => ?_) (fun h7 => absurd ((nI_le (by omega) (by omega))) h7)
    refine ev_iconst (v := 1) dX11_tellsBits_31 (by decide) ?_
    refine ev_zret dX11_tellsBits_32 rfl (by decide) ?_
    exact ⟨rfl, rfl⟩
  | succ k ih =>
    intro i hi
    have e3 : (σ.1 (50 + 2 * s)).getD i 0 = (ρ.1 35).getD (40 * s + i) 0 := y3 i (by rw [hz, nI_i (by omega)]; omega)
    refine ev_iload_n dX11_tellsBits_2 rfl ?_
    refine ev_aload_n dX11_tellsBits_3 rfl ?_
    refine ev_get dX11_tellsBits_4 flX11_15_11 (hM.o 0 11 (by decide)) rfl ?_
    rw [hT.hc]
    refine ev_icmp_ge (tgt := 31) dX11_tellsBits_7 (by decide) (fun h7 => absurd h7 ((nI_ge (by omega) (by omega)))) (fun _ => ?_)
    refine ev_aload_n dX11_tellsBits_10 rfl ?_
    refine ev_iload_n dX11_tellsBits_11 rfl ?_
    refine k_v (c_kItem x1 x2 hl (z := n) (by omega) (y2.trans hz) (by omega)) (by decide) dX11_tellsBits_12 cbX7_item (mt4 64 rfl rfl) (mt4 65 rfl rfl) (mt4 66 rfl rfl) (ci := 7) rfl x1 rfl rfl (Nat.le_of_ble_eq_true rfl) (fun v μ1 hq => ?_)
    obtain ⟨rfl, hμ⟩ := hq
    have hμ := hμ.symm
    subst hμ
    simp only [Option.toList, List.cons_append, List.nil_append]
    rw [e3]
    refine ev_iload_n dX11_tellsBits_15 rfl ?_
    refine ev_iload_n dX11_tellsBits_16 rfl ?_
    refine ev_ishr dX11_tellsBits_17 ?_
    refine ev_iconst (v := 1) dX11_tellsBits_18 (by decide) ?_
    refine ev_iand dX11_tellsBits_19 ?_
    refine ev_icmp_eq (tgt := 25) dX11_tellsBits_20 (by decide) (fun h20 => ?_) (fun h20 => ?_)
    · refine ev_iinc dX11_tellsBits_25 rfl (by decide) ?_
      dsimp only [List.set]
      refine ev_goto (tgt := 2) dX11_tellsBits_28 (by decide) ?_
      rw [nI_inc, irK, if_pos h20]
      exact ih (i + 1) (by omega)
    · refine ev_iconst (v := 0) dX11_tellsBits_23 (by decide) ?_
      refine ev_zret dX11_tellsBits_24 rfl (by decide) ?_
      rw [irK, if_neg h20]
      exact ⟨rfl, rfl⟩
theorem c_kTells (hM : KM a m tx σ μ) (hT : KTie ρ n t tx cd Lf m σ) (hn7 : n ≤ 7) {s : Nat} (hs : s < 4) (hz : (ρ.1 34).getD s 0 = nI n) (set : Int32) : Pu g 2 mX11_tellsBits [.ref a, .ref (a + (49 + 2 * s)), .int set] μ (b2i (irK (ρ.1 35) (40 * s) set n 0 = true)) := by
  refine Mt.of0 (ls0 := [some (.ref a), some (.ref (a + (49 + 2 * s))), some (.int set), none]) (by decide) (by simp [Value.category]) (Nat.le_of_ble_eq_true rfl) rfl ?_
  refine ev_iconst (v := 0) dX11_tellsBits_0 (by decide) ?_
  refine ev_istore_n dX11_tellsBits_1 (by decide) ?_
  dsimp only [List.set]
  exact l_kTells hM hT hn7 hs hz n 0 (by omega)
theorem l_kWhere (hI : IM ρ n t tx cd Lf) (hM : KM a m tx σ μ) (hT : KTie ρ n t tx cd Lf m σ) {s : Nat} (hs : s < 4) (hz : (ρ.1 34).getD s 0 = nI n) {w rng o3 : Int32} {P : Nat → Bool} (hP : ∀ k, P k = irK (ρ.1 35) (40 * s) (rng ||| wrg (Fc ρ) Lf n k) n 0) : ∀ (k i : Nat), i + k = n + 1 → Ev g 7 mX11_where 52 [some (.ref a), some (.int (nI s)), some (.int w), some (.int o3), some (.ref (a + (49 + 2 * s))), some (.int rng), some (.int (nI (upK P i).1)), some (.int (upK P i).2), some (.int (nI i))] [] μ (fun v μ' => v = some (.int (if w = 0 then nI (upK P (n + 1)).1 else (upK P (n + 1)).2)) ∧ μ' = μ) := by
  have hn7 := hI.2.2.1.2
  intro k
  induction k with
  | zero =>
    intro i hi
    have hi : i = n + 1 := by omega
    subst hi
    refine ev_iload dX11_where_52 rfl ?_
    refine ev_aload_n dX11_where_54 rfl ?_
    refine ev_get dX11_where_55 flX11_15_11 (hM.o 0 11 (by decide)) rfl ?_
    rw [hT.hc]
    refine ev_icmp_gt (tgt := 103) dX11_where_58 (by decide) (fun _ => ?_) (fun h58 => absurd ((show nI n < nI (n + 1) from nI_lt (by omega) (by omega))) h58)
    refine ev_iload_n dX11_where_103 rfl ?_
    refine ev_if_ne (tgt := 112) dX11_where_104 (by decide) (fun h104 => ?_) (fun h104 => ?_)
    · refine ev_iload dX11_where_112 rfl ?_
      refine ev_iret dX11_where_114 rfl ?_
      first
        | (rw [if_pos h104]; exact ⟨rfl, rfl⟩)
        | (rw [if_neg h104]; exact ⟨rfl, rfl⟩)
    · refine ev_iload dX11_where_107 rfl ?_
      refine ev_goto (tgt := 114) dX11_where_109 (by decide) ?_
      refine ev_iret dX11_where_114 rfl ?_
      first
        | (rw [if_pos h104]; exact ⟨rfl, rfl⟩)
        | (rw [if_neg h104]; exact ⟨rfl, rfl⟩)
  | succ k ih =>
    intro i hi
    have hz1 := ih (i + 1) (by omega)
    rw [upK] at hz1
    refine ev_iload dX11_where_52 rfl ?_
    refine ev_aload_n dX11_where_54 rfl ?_
    refine ev_get dX11_where_55 flX11_15_11 (hM.o 0 11 (by decide)) rfl ?_
    rw [hT.hc]
    refine ev_icmp_gt (tgt := 103) dX11_where_58 (by decide) (fun h58 => absurd h58 ((show ¬ nI n < nI i from nI_nlt (by omega) (by omega)))) (fun _ => ?_)
    refine ev_aload_n dX11_where_61 rfl ?_
    refine ev_aload dX11_where_62 rfl ?_
    refine ev_iload dX11_where_64 rfl ?_
    refine ev_aload_n dX11_where_66 rfl ?_
    refine ev_iload dX11_where_67 rfl ?_
    refine k_v (c_kWrong hI hM hT (by omega)) (by decide) dX11_where_69 cbX11_wrongSorts (mt4 41 rfl rfl) (mt4 43 rfl rfl) (ms0 30 rfl rfl) (ci := 11) rfl (hM.o 0 11 (by decide)) rfl rfl (Nat.le_of_ble_eq_true rfl) (fun v μ1 hq => ?_)
    obtain ⟨rfl, hμ⟩ := hq
    have hμ := hμ.symm
    subst hμ
    simp only [Option.toList, List.cons_append, List.nil_append]
    refine ev_ior dX11_where_72 ?_
    refine k_v (c_kTells hM hT hn7 hs hz _) (by decide) dX11_where_73 cbX11_tellsBits (mt4 60 rfl rfl) (mt4 62 rfl rfl) (ms0 32 rfl rfl) (ci := 11) rfl (hM.o 0 11 (by decide)) rfl rfl (Nat.le_of_ble_eq_true rfl) (fun v μ1 hq => ?_)
    obtain ⟨rfl, hμ⟩ := hq
    have hμ := hμ.symm
    subst hμ
    simp only [Option.toList, List.cons_append, List.nil_append]
    rw [← hP i]
    refine ev_if_eq (tgt := 97) dX11_where_76 (by decide) (fun h76 => ?_) (fun h76 => ?_)
    · refine ev_iinc dX11_where_97 rfl (by decide) ?_
      dsimp only [List.set]
      refine ev_goto (tgt := 52) dX11_where_100 (by decide) ?_
      rw [nI_inc]
      first
        | (rw [if_pos (b2i_ne h76)] at hz1
           first
             | (rw [if_pos h85] at hz1; rw [nI_inc]; exact hz1)
             | (rw [if_neg h85] at hz1; rw [nI_inc]; exact hz1))
        | (rw [if_neg (b2i_eq h76)] at hz1; exact hz1)
    · refine ev_iinc dX11_where_79 rfl (by decide) ?_
      dsimp only [List.set]
      refine ev_iload dX11_where_82 rfl ?_
      refine ev_iconst (v := (-1)) dX11_where_84 (by decide) ?_
      refine ev_icmp_ne (tgt := 93) dX11_where_85 (by decide) (fun h85 => ?_) (fun h85 => ?_)
      · refine ev_iload dX11_where_93 rfl ?_
        refine ev_istore dX11_where_95 (by decide) ?_
        dsimp only [List.set]
        refine ev_iinc dX11_where_97 rfl (by decide) ?_
        dsimp only [List.set]
        refine ev_goto (tgt := 52) dX11_where_100 (by decide) ?_
        rw [nI_inc]
        first
          | (rw [if_pos (b2i_ne h76)] at hz1
             first
               | (rw [if_pos h85] at hz1; rw [nI_inc]; exact hz1)
               | (rw [if_neg h85] at hz1; rw [nI_inc]; exact hz1))
          | (rw [if_neg (b2i_eq h76)] at hz1; exact hz1)
      · refine ev_iload dX11_where_88 rfl ?_
        refine ev_goto (tgt := 95) dX11_where_90 (by decide) ?_
        refine ev_istore dX11_where_95 (by decide) ?_
        dsimp only [List.set]
        refine ev_iinc dX11_where_97 rfl (by decide) ?_
        dsimp only [List.set]
        refine ev_goto (tgt := 52) dX11_where_100 (by decide) ?_
        rw [nI_inc]
        first
          | (rw [if_pos (b2i_ne h76)] at hz1
             first
               | (rw [if_pos h85] at hz1; rw [nI_inc]; exact hz1)
               | (rw [if_neg h85] at hz1; rw [nI_inc]; exact hz1))
          | (rw [if_neg (b2i_eq h76)] at hz1; exact hz1)
theorem c_kWhere (hSH : SH ρ) (hI : IM ρ n t tx cd Lf) (hM : KM a m tx σ μ) (hT : KTie ρ n t tx cd Lf m σ) (s w : Int32) : Mt g 7 mX11_where [.ref a, .int s, .int w] μ (fun v μ' => v = some (.int (ansWhere ρ n t cd Lf s w)) ∧ KV a ρ n t tx cd Lf m μ' ∧ FC a μ μ') := by
  refine Mt.of0 (ls0 := [some (.ref a), some (.int s), some (.int w), none, none, none, none, none, none]) (by decide) (by simp [Value.category]) (Nat.le_of_ble_eq_true rfl) rfl ?_
  have hn7 := hI.2.2.1.2
  have ht := hI.2.2.2.1.2
  by_cases hr : rfsl ρ n s = 0
  · have hr2 := hr
    rw [rfsl] at hr2
    by_cases hs : 0 ≤ s ∧ s < 4
    · rw [if_pos hs] at hr2
      obtain ⟨hi, ei⟩ := sheet_n hs.1 hs.2
      rw [ansWhere]
      generalize s.toInt.toNat = s' at hi ei hr2 ⊢
      subst ei
      by_cases h33 : (ρ.1 33).getD s' 0 < 0
      · rw [if_pos h33] at hr2; exact absurd hr2 (by decide)
      · rw [if_neg h33] at hr2
        by_cases h34 : (ρ.1 34).getD s' 0 = nI n
        · skip
          refine ev_iload_n dX11_where_0 rfl ?_
          refine ev_if_lt (tgt := 9) dX11_where_1 (by decide) (fun h1 => ?_) (fun h1 => ?_)
          · refine ev_bipush (v := (-2)) dX11_where_9 (by decide) ?_
            refine ev_iret dX11_where_11 rfl ?_
            rw [if_neg (fun q => by first | exact Int32.not_lt.mpr q.2.1 h1 | exact h6 q.2.2)]
            exact ⟨rfl, ⟨σ, hM, hT⟩, FC.rf⟩
          · refine ev_iload_n dX11_where_4 rfl ?_
            refine ev_iconst (v := 1) dX11_where_5 (by decide) ?_
            refine ev_icmp_le (tgt := 12) dX11_where_6 (by decide) (fun h6 => ?_) (fun h6 => ?_)
            · rw [if_pos ⟨hs, Int32.not_lt.mp h1, h6⟩, if_neg h33, if_neg (fun q => q h34)]
              refine ev_aload_n dX11_where_12 rfl ?_
              refine ev_iload_n dX11_where_13 rfl ?_
              refine k_v (c_kRefusal hSH hM hT _) (by decide) dX11_where_14 cbX11_refusalOfTelling (mt4 49 rfl rfl) (mt4 51 rfl rfl) (ms0 31 rfl rfl) (ci := 11) rfl (hM.o 0 11 (by decide)) rfl rfl (Nat.le_of_ble_eq_true rfl) (fun v μ1 hq => ?_)
              obtain ⟨rfl, hμ⟩ := hq
              have hμ := hμ.symm
              subst hμ
              simp only [Option.toList, List.cons_append, List.nil_append]
              rw [hr]
              refine ev_istore_n dX11_where_17 (by decide) ?_
              dsimp only [List.set]
              refine ev_iload_n dX11_where_18 rfl ?_
              refine ev_if_eq (tgt := 24) dX11_where_19 (by decide) (fun _ => ?_) (fun h19 => absurd (rfl) h19)
              refine ev_aload_n dX11_where_24 rfl ?_
              refine ev_get dX11_where_25 flX11_55_11 (hM.o 0 11 (by decide)) rfl ?_
              refine ev_iload_n dX11_where_28 rfl ?_
              refine ev_aald dX11_where_29 hM.sl (by decide) (by decide) (ix_n (by omega)) (kSl_at hi) ?_
              refine ev_astore dX11_where_30 (by decide) ?_
              dsimp only [List.set]
              refine ev_aload_n dX11_where_32 rfl ?_
              refine k_v (c_kGoList hI hM hT) (by decide) dX11_where_33 cbX11_goList (mt3 190 rfl rfl) (mt3 192 rfl rfl) (ms0 21 rfl rfl) (ci := 11) rfl (hM.o 0 11 (by decide)) rfl rfl (Nat.le_of_ble_eq_true rfl) (fun v μ1 hq => ?_)
              obtain ⟨rfl, ⟨σ1, hM1, hE1, hb1, ha1⟩, hF1⟩ := hq
              have hT1 := hT.sc hE1
              have hth : ∀ h, h < 0 + n → (σ1.1 10).getD h 0 = (thr ρ n Lf).getD h 0 := fun h q => ha1 h (by omega)
              have hM := hM1
              simp only [Option.toList, List.cons_append, List.nil_append]
              refine ev_pop dX11_where_36 rfl ?_
              refine ev_aload_n dX11_where_37 rfl ?_
              refine k_v (c_kRinging hM1 hT1 ht hn7) (by decide) dX11_where_38 cbX11_ringing (mt4 25 rfl rfl) (mt4 27 rfl rfl) (ms0 28 rfl rfl) (ci := 11) rfl (hM.o 0 11 (by decide)) rfl rfl (Nat.le_of_ble_eq_true rfl) (fun v μ1 hq => ?_)
              obtain ⟨rfl, ⟨σ2, hM2, hE2⟩, hF2⟩ := hq
              rw [rngK_th n 0 0 hth]
              have hM := hM2
              have hT2 := hT1.sc hE2.sc
              simp only [Option.toList, List.cons_append, List.nil_append]
              refine ev_istore dX11_where_41 (by decide) ?_
              dsimp only [List.set]
              refine ev_iconst (v := 0) dX11_where_43 (by decide) ?_
              refine ev_istore dX11_where_44 (by decide) ?_
              dsimp only [List.set]
              refine ev_iconst (v := (-1)) dX11_where_46 (by decide) ?_
              refine ev_istore dX11_where_47 (by decide) ?_
              dsimp only [List.set]
              refine ev_iconst (v := 0) dX11_where_49 (by decide) ?_
              refine ev_istore dX11_where_50 (by decide) ?_
              dsimp only [List.set]
              have hz := l_kWhere (g := g) (w := w) (o3 := 0) (rng := rngK (Fc ρ) (Se ρ) (cdt t cd) (thr ρ n Lf) n 0 0) hI hM2 hT2 hi h34 (P := fun k => irK (ρ.1 35) (40 * s') (rngK (Fc ρ) (Se ρ) (cdt t cd) (thr ρ n Lf) n 0 (wrg (Fc ρ) Lf n k)) n 0) (fun k => by rw [Int32.or_comm, ← rngK_or n 0 0, Int32.or_zero]) (n + 1) 0 (by omega)
              rw [show upK (fun k => irK (ρ.1 35) (40 * s') (rngK (Fc ρ) (Se ρ) (cdt t cd) (thr ρ n Lf) n 0 (wrg (Fc ρ) Lf n k)) n 0) 0 = (0, -1) from rfl, nI_0] at hz
              refine Ev.imp hz ?_
              rintro v μ' ⟨rfl, rfl⟩
              refine ⟨?_, ⟨σ2, hM2, hT2⟩, hF1.tr hF2⟩
              rw [whK_up (n + 1) 0 (-1) (by omega), Nat.add_zero]
              congr 2
              by_cases q : w = 0
              · rw [if_pos q, if_pos q]
                rfl
              · rw [if_neg q, if_neg q]
                show _ = (if _ then (-1 : Int32) else _)
                split
                · rename_i q2; exact q2
                · rfl
            · refine ev_bipush (v := (-2)) dX11_where_9 (by decide) ?_
              refine ev_iret dX11_where_11 rfl ?_
              rw [if_neg (fun q => by first | exact Int32.not_lt.mpr q.2.1 h1 | exact h6 q.2.2)]
              exact ⟨rfl, ⟨σ, hM, hT⟩, FC.rf⟩
        · rw [if_pos h34] at hr2; exact absurd hr2 (by decide)
    · rw [if_neg hs] at hr2; exact absurd hr2 (by decide)
  · have ea : (0 ≤ w ∧ w ≤ 1) → ansWhere ρ n t cd Lf s w = rfsl ρ n s := by
      intro hw
      rw [ansWhere, rfsl] at *
      by_cases hs : 0 ≤ s ∧ s < 4
      · rw [if_pos hs] at hr ⊢
        rw [if_pos ⟨hs, hw⟩]
        by_cases h33 : (ρ.1 33).getD s.toInt.toNat 0 < 0
        · rw [if_pos h33, if_pos h33]
        · rw [if_neg h33] at hr ⊢
          rw [if_neg h33]
          by_cases h34 : (ρ.1 34).getD s.toInt.toNat 0 = nI n
          · rw [if_neg (fun q => q h34)] at hr; exact absurd rfl hr
          · rw [if_pos h34, if_pos h34]
      · rw [if_neg hs, if_neg (fun q => hs q.1)]
    refine ev_iload_n dX11_where_0 rfl ?_
    refine ev_if_lt (tgt := 9) dX11_where_1 (by decide) (fun h1 => ?_) (fun h1 => ?_)
    · refine ev_bipush (v := (-2)) dX11_where_9 (by decide) ?_
      refine ev_iret dX11_where_11 rfl ?_
      rw [ansWhere, if_neg (fun q => by first | exact Int32.not_lt.mpr q.2.1 h1 | exact h6 q.2.2)]
      exact ⟨rfl, ⟨σ, hM, hT⟩, FC.rf⟩
    · refine ev_iload_n dX11_where_4 rfl ?_
      refine ev_iconst (v := 1) dX11_where_5 (by decide) ?_
      refine ev_icmp_le (tgt := 12) dX11_where_6 (by decide) (fun h6 => ?_) (fun h6 => ?_)
      · refine ev_aload_n dX11_where_12 rfl ?_
        refine ev_iload_n dX11_where_13 rfl ?_
        refine k_v (c_kRefusal hSH hM hT _) (by decide) dX11_where_14 cbX11_refusalOfTelling (mt4 49 rfl rfl) (mt4 51 rfl rfl) (ms0 31 rfl rfl) (ci := 11) rfl (hM.o 0 11 (by decide)) rfl rfl (Nat.le_of_ble_eq_true rfl) (fun v μ1 hq => ?_)
        obtain ⟨rfl, hμ⟩ := hq
        have hμ := hμ.symm
        subst hμ
        simp only [Option.toList, List.cons_append, List.nil_append]
        refine ev_istore_n dX11_where_17 (by decide) ?_
        dsimp only [List.set]
        refine ev_iload_n dX11_where_18 rfl ?_
        refine ev_if_eq (tgt := 24) dX11_where_19 (by decide) (fun h19 => absurd h19 (hr)) (fun _ => ?_)
        refine ev_iload_n dX11_where_22 rfl ?_
        refine ev_iret dX11_where_23 rfl ?_
        rw [ea ⟨Int32.not_lt.mp h1, h6⟩]
        exact ⟨rfl, ⟨σ, hM, hT⟩, FC.rf⟩
      · refine ev_bipush (v := (-2)) dX11_where_9 (by decide) ?_
        refine ev_iret dX11_where_11 rfl ?_
        rw [ansWhere, if_neg (fun q => by first | exact Int32.not_lt.mpr q.2.1 h1 | exact h6 q.2.2)]
        exact ⟨rfl, ⟨σ, hM, hT⟩, FC.rf⟩
theorem l_kJudge (hI : IM ρ n t tx cd Lf) (hM : KM a m tx σ μ) (hT : KTie ρ n t tx cd Lf m σ) {s : Nat} (hs : s < 4) (hz : (ρ.1 34).getD s 0 = nI n) {x o2 : Int32} : ∀ (k i : Nat), i + k = n → Ev g 7 mX11_judge 27 [some (.ref a), some (.int x), some (.int o2), some (.ref (a + (49 + 2 * s))), some (.int (nI i))] [] μ (fun v μ' => v = some (.int (jdK (ρ.1 35) (40 * s) (σ.1 10) Lf k i)) ∧ μ' = μ) := by
  have hn7 := hI.2.2.1.2
  obtain ⟨x1, x2⟩ := hM.sh hs
  obtain ⟨y1, y2, y3⟩ := hT.shh s hs
  have hl := hT.l50 hs
  have hl10 := hT.ln (k := 10) (z := 7) (by decide)
  intro k
  induction k with
  | zero =>
    intro i hi
    refine ev_iload dX11_judge_27 rfl ?_
    refine ev_aload_n dX11_judge_29 rfl ?_
    refine ev_get dX11_judge_30 flX11_15_11 (hM.o 0 11 (by decide)) rfl ?_
    rw [hT.hc]
    refine ev_icmp_ge (tgt := 66) dX11_judge_33 (by decide) (fun _ => ?_) (fun h33 => absurd ((nI_le (by omega) (by omega))) h33)
    refine ev_iconst (v := (-1)) dX11_judge_66 (by decide) ?_
    refine ev_iret dX11_judge_67 rfl ?_
    exact ⟨rfl, rfl⟩
  | succ k ih =>
    intro i hi
    have e3 : (σ.1 (50 + 2 * s)).getD i 0 = (ρ.1 35).getD (40 * s + i) 0 := y3 i (by rw [hz, nI_i (by omega)]; omega)
    have hLi := (hI.2.2.2.2.2.2.1 i (by omega)).2
    rw [jdK]
    refine ev_iload dX11_judge_27 rfl ?_
    refine ev_aload_n dX11_judge_29 rfl ?_
    refine ev_get dX11_judge_30 flX11_15_11 (hM.o 0 11 (by decide)) rfl ?_
    rw [hT.hc]
    refine ev_icmp_ge (tgt := 66) dX11_judge_33 (by decide) (fun h33 => absurd h33 ((nI_ge (by omega) (by omega)))) (fun _ => ?_)
    refine ev_aload_n dX11_judge_36 rfl ?_
    refine ev_iload dX11_judge_37 rfl ?_
    refine k_v (c_kItem x1 x2 hl (z := n) (by omega) (y2.trans hz) (by omega)) (by decide) dX11_judge_39 cbX7_item (mt4 64 rfl rfl) (mt4 65 rfl rfl) (mt4 66 rfl rfl) (ci := 7) rfl x1 rfl rfl (Nat.le_of_ble_eq_true rfl) (fun v μ1 hq => ?_)
    obtain ⟨rfl, hμ⟩ := hq
    have hμ := hμ.symm
    subst hμ
    simp only [Option.toList, List.cons_append, List.nil_append]
    rw [e3]
    refine ev_aload_n dX11_judge_42 rfl ?_
    refine ev_get dX11_judge_43 flX11_66_11 (hM.o 0 11 (by decide)) rfl ?_
    refine ev_aload_n dX11_judge_46 rfl ?_
    refine ev_get dX11_judge_47 flX11_19_11 (hM.o 0 11 (by decide)) rfl ?_
    refine ev_iload dX11_judge_50 rfl ?_
    refine ev_iald dX11_judge_52 (hM.r 2 (by decide)) (ix_n (by omega)) (hT.ls i (by omega)) ?_
    refine ev_iald dX11_judge_53 (hM.r 10 (by decide)) (ix_n (by omega)) (gd (show Lf i < (σ.1 10).length by omega)) ?_
    refine ev_icmp_eq (tgt := 60) dX11_judge_54 (by decide) (fun h54 => ?_) (fun h54 => ?_)
    · refine ev_iinc dX11_judge_60 rfl (by decide) ?_
      dsimp only [List.set]
      refine ev_goto (tgt := 27) dX11_judge_63 (by decide) ?_
      rw [nI_inc, if_pos h54]
      exact ih (i + 1) (by omega)
    · refine ev_iload dX11_judge_57 rfl ?_
      refine ev_iret dX11_judge_59 rfl ?_
      rw [if_neg h54]
      exact ⟨rfl, rfl⟩
theorem c_kJudge (hSH : SH ρ) (hI : IM ρ n t tx cd Lf) (hM : KM a m tx σ μ) (hT : KTie ρ n t tx cd Lf m σ) (s : Int32) : Mt g 7 mX11_judge [.ref a, .int s] μ (fun v μ' => v = some (.int (ansJudge ρ n Lf s)) ∧ KV a ρ n t tx cd Lf m μ' ∧ FC a μ μ') := by
  refine Mt.of0 (ls0 := [some (.ref a), some (.int s), none, none, none]) (by decide) (by simp [Value.category]) (Nat.le_of_ble_eq_true rfl) rfl ?_
  have hn7 := hI.2.2.1.2
  have e : ansJudge ρ n Lf s = if rfsl ρ n s = 0 then jdK (ρ.1 35) (40 * s.toInt.toNat) (thr ρ n Lf) Lf n 0 else rfsl ρ n s := by
    rw [ansJudge, rfsl]
    by_cases hs : 0 ≤ s ∧ s < 4
    · rw [if_pos hs, if_pos hs]
      by_cases h33 : (ρ.1 33).getD s.toInt.toNat 0 < 0
      · rw [if_pos h33, if_pos h33, if_neg (by decide)]
      · rw [if_neg h33, if_neg h33]
        by_cases h34 : (ρ.1 34).getD s.toInt.toNat 0 = nI n
        · have h34' : ¬ ¬ (ρ.1 34).getD s.toInt.toNat 0 = nI n := fun q => q h34
          rw [if_neg h34', if_neg h34', if_pos rfl]
        · rw [if_pos h34, if_pos h34, if_neg (by decide)]
    · rw [if_neg hs, if_neg hs, if_neg (by decide)]
  rw [e]
  by_cases hr : rfsl ρ n s = 0
  · have hr2 := hr
    rw [rfsl] at hr2
    by_cases hs : 0 ≤ s ∧ s < 4
    · rw [if_pos hs] at hr2
      obtain ⟨hi, ei⟩ := sheet_n hs.1 hs.2
      rw [if_pos hr]
      generalize s.toInt.toNat = s' at hi ei hr2 ⊢
      subst ei
      by_cases h33 : (ρ.1 33).getD s' 0 < 0
      · rw [if_pos h33] at hr2; exact absurd hr2 (by decide)
      · rw [if_neg h33] at hr2
        by_cases h34 : (ρ.1 34).getD s' 0 = nI n
        · skip
          refine ev_aload_n dX11_judge_0 rfl ?_
          refine ev_iload_n dX11_judge_1 rfl ?_
          refine k_v (c_kRefusal hSH hM hT _) (by decide) dX11_judge_2 cbX11_refusalOfTelling (mt4 49 rfl rfl) (mt4 51 rfl rfl) (ms0 31 rfl rfl) (ci := 11) rfl (hM.o 0 11 (by decide)) rfl rfl (Nat.le_of_ble_eq_true rfl) (fun v μ1 hq => ?_)
          obtain ⟨rfl, hμ⟩ := hq
          have hμ := hμ.symm
          subst hμ
          simp only [Option.toList, List.cons_append, List.nil_append]
          rw [hr]
          refine ev_istore_n dX11_judge_5 (by decide) ?_
          dsimp only [List.set]
          refine ev_iload_n dX11_judge_6 rfl ?_
          refine ev_if_eq (tgt := 12) dX11_judge_7 (by decide) (fun _ => ?_) (fun h7 => absurd (rfl) h7)
          refine ev_aload_n dX11_judge_12 rfl ?_
          refine ev_get dX11_judge_13 flX11_55_11 (hM.o 0 11 (by decide)) rfl ?_
          refine ev_iload_n dX11_judge_16 rfl ?_
          refine ev_aald dX11_judge_17 hM.sl (by decide) (by decide) (ix_n (by omega)) (kSl_at hi) ?_
          refine ev_astore_n dX11_judge_18 (by decide) ?_
          dsimp only [List.set]
          refine ev_aload_n dX11_judge_19 rfl ?_
          refine k_v (c_kGoList hI hM hT) (by decide) dX11_judge_20 cbX11_goList (mt3 190 rfl rfl) (mt3 192 rfl rfl) (ms0 21 rfl rfl) (ci := 11) rfl (hM.o 0 11 (by decide)) rfl rfl (Nat.le_of_ble_eq_true rfl) (fun v μ1 hq => ?_)
          obtain ⟨rfl, ⟨σ1, hM1, hE1, hb1, ha1⟩, hF1⟩ := hq
          have hT1 := hT.sc hE1
          simp only [Option.toList, List.cons_append, List.nil_append]
          refine ev_pop dX11_judge_23 rfl ?_
          refine ev_iconst (v := 0) dX11_judge_24 (by decide) ?_
          refine ev_istore dX11_judge_25 (by decide) ?_
          dsimp only [List.set]
          refine Ev.imp (l_kJudge hI hM1 hT1 hi h34 n 0 (by omega)) ?_
          rintro v μ' ⟨rfl, rfl⟩
          refine ⟨?_, ⟨σ1, hM1, hT1⟩, hF1⟩
          rw [jdK_th n 0 (fun i q => ha1 (Lf i) (hI.2.2.2.2.2.2.1 i (by omega)).2)]
        · rw [if_pos h34] at hr2; exact absurd hr2 (by decide)
    · rw [if_neg hs] at hr2; exact absurd hr2 (by decide)
  · rw [if_neg hr]
    refine ev_aload_n dX11_judge_0 rfl ?_
    refine ev_iload_n dX11_judge_1 rfl ?_
    refine k_v (c_kRefusal hSH hM hT _) (by decide) dX11_judge_2 cbX11_refusalOfTelling (mt4 49 rfl rfl) (mt4 51 rfl rfl) (ms0 31 rfl rfl) (ci := 11) rfl (hM.o 0 11 (by decide)) rfl rfl (Nat.le_of_ble_eq_true rfl) (fun v μ1 hq => ?_)
    obtain ⟨rfl, hμ⟩ := hq
    have hμ := hμ.symm
    subst hμ
    simp only [Option.toList, List.cons_append, List.nil_append]
    refine ev_istore_n dX11_judge_5 (by decide) ?_
    dsimp only [List.set]
    refine ev_iload_n dX11_judge_6 rfl ?_
    refine ev_if_eq (tgt := 12) dX11_judge_7 (by decide) (fun h7 => absurd h7 (hr)) (fun _ => ?_)
    refine ev_iload_n dX11_judge_10 rfl ?_
    refine ev_iret dX11_judge_11 rfl ?_
    exact ⟨rfl, ⟨σ, hM, hT⟩, FC.rf⟩
end KWHERE
