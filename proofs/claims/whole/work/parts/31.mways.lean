/-! ===== the reference: ways ===== -/
/-- whether i is walked to ahead of j -/
def ahI (F : Nat → Nat → Int32) (ac : Int32) (i j : Nat) : Int32 := if ac = 0 ∧ ¬ F 3 i = F 3 j then (if F 3 i = 0 then 1 else 0) else if F 2 i = F 2 j then (if nI i < nI j then 1 else 0) else if (F 2 i < F 2 j ∧ (¬ ac = 0 ∨ F 3 i = 0)) ∨ (¬ F 2 i < F 2 j ∧ ¬ (¬ ac = 0 ∨ F 3 i = 0)) then 1 else 0
/-- h is put into an order, from behind -/
def ins (F : Nat → Nat → Int32) (ac : Int32) (h : Nat) : List Nat → List Nat → List Nat
  | [], post => h :: post
  | x :: rp, post => if ahI F ac h x = 0 then (x :: rp).reverse ++ h :: post else ins F ac h rp (x :: post)
def wayO (F : Nat → Nat → Int32) (ac : Int32) : Nat → Nat → List Nat → List Nat
  | 0, _, os => os
  | m + 1, h, os => wayO F ac m (h + 1) (ins F ac h os.reverse [])
def ansWays (ρ : MS) (n : Nat) (w : Int32) : Int32 := if 0 ≤ w ∧ w ≤ 1 then (rd0 (Fc ρ) (Se ρ) (wayO (Fc ρ) (if w = 1 then 1 else 0) n 0 [])).1 else -2
section MWAYS
variable {g : Gl} {b : Nat} {ρ : MS}
theorem c_isAhead {μ : Mm} (hM : RM b ρ μ) (hL : ML ρ) {i j : Nat} (hi : i < 7) (hj : j < 7) (ac : Int32) : Pu g 0 mX12_isAhead [.ref b, .int (nI i), .int (nI j), .int ac] μ (ahI (Fc ρ) ac i j) := by
  refine Mt.of0 (ls0 := [some (.ref b), some (.int (nI i)), some (.int (nI j)), some (.int ac)]) (by decide) (by simp [Value.category]) (Nat.le_of_ble_eq_true rfl) rfl ?_
  rw [ahI]
  refine ev_iload_n dX12_isAhead_0 rfl ?_
  refine ev_if_ne (tgt := 34) dX12_isAhead_1 (by decide) (fun h1 => ?_) (fun h1 => ?_)
  · refine ev_aload_n dX12_isAhead_34 rfl ?_
    refine ev_get dX12_isAhead_35 flX12_16_12 hM.1 rfl ?_
    refine ev_iload_n dX12_isAhead_38 rfl ?_
    refine ev_iald dX12_isAhead_39 (hM.a 2 3 (by decide)) (ix_n (by omega)) (rd hL (n := 7) (by decide) hi) ?_
    refine ev_aload_n dX12_isAhead_40 rfl ?_
    refine ev_get dX12_isAhead_41 flX12_16_12 hM.1 rfl ?_
    refine ev_iload_n dX12_isAhead_44 rfl ?_
    refine ev_iald dX12_isAhead_45 (hM.a 2 3 (by decide)) (ix_n (by omega)) (rd hL (n := 7) (by decide) hj) ?_
    refine ev_icmp_ne (tgt := 60) dX12_isAhead_46 (by decide) (fun h46 => ?_) (fun h46 => ?_)
    · refine ev_aload_n dX12_isAhead_60 rfl ?_
      refine ev_get dX12_isAhead_61 flX12_16_12 hM.1 rfl ?_
      refine ev_iload_n dX12_isAhead_64 rfl ?_
      refine ev_iald dX12_isAhead_65 (hM.a 2 3 (by decide)) (ix_n (by omega)) (rd hL (n := 7) (by decide) hi) ?_
      refine ev_aload_n dX12_isAhead_66 rfl ?_
      refine ev_get dX12_isAhead_67 flX12_16_12 hM.1 rfl ?_
      refine ev_iload_n dX12_isAhead_70 rfl ?_
      refine ev_iald dX12_isAhead_71 (hM.a 2 3 (by decide)) (ix_n (by omega)) (rd hL (n := 7) (by decide) hj) ?_
      refine ev_icmp_ge (tgt := 79) dX12_isAhead_72 (by decide) (fun h72 => ?_) (fun h72 => ?_)
      · refine ev_iconst (v := 0) dX12_isAhead_79 (by decide) ?_
        refine ev_iload_n dX12_isAhead_80 rfl ?_
        refine ev_if_ne (tgt := 93) dX12_isAhead_81 (by decide) (fun h81 => ?_) (fun h81 => ?_)
        · refine ev_iconst (v := 1) dX12_isAhead_93 (by decide) ?_
          refine ev_goto (tgt := 98) dX12_isAhead_94 (by decide) ?_
          refine ev_icmp_ne (tgt := 105) dX12_isAhead_98 (by decide) (fun h98 => ?_) (fun h98 => ?_)
          · refine ev_iconst (v := 0) dX12_isAhead_105 (by decide) ?_
            refine ev_zret dX12_isAhead_106 rfl (by decide) ?_
            refine ⟨?_, rfl⟩
            first | exact absurd rfl h98 | (first | (exfalso; (simp only [Fc, Se, Nat.reduceLT, ↓reduceIte, ← Int32.toInt_inj, Int32.le_iff_toInt_le, Int32.lt_iff_toInt_lt, Int32.reduceToInt] at *; omega)) | (repeat (first | rw [if_pos (by (simp only [Fc, Se, Nat.reduceLT, ↓reduceIte, ← Int32.toInt_inj, Int32.le_iff_toInt_le, Int32.lt_iff_toInt_lt, Int32.reduceToInt] at *; omega))] | rw [if_neg (by (simp only [Fc, Se, Nat.reduceLT, ↓reduceIte, ← Int32.toInt_inj, Int32.le_iff_toInt_le, Int32.lt_iff_toInt_lt, Int32.reduceToInt] at *; omega))] | rw [b2i_t (by (simp only [Fc, Se, Nat.reduceLT, ↓reduceIte, ← Int32.toInt_inj, Int32.le_iff_toInt_le, Int32.lt_iff_toInt_lt, Int32.reduceToInt] at *; omega))] | rw [b2i_f (by (simp only [Fc, Se, Nat.reduceLT, ↓reduceIte, ← Int32.toInt_inj, Int32.le_iff_toInt_le, Int32.lt_iff_toInt_lt, Int32.reduceToInt] at *; omega))])); try rfl)
          · refine ev_iconst (v := 1) dX12_isAhead_101 (by decide) ?_
            refine ev_goto (tgt := 106) dX12_isAhead_102 (by decide) ?_
            refine ev_zret dX12_isAhead_106 rfl (by decide) ?_
            refine ⟨?_, rfl⟩
            first | exact absurd rfl h98 | (first | (exfalso; (simp only [Fc, Se, Nat.reduceLT, ↓reduceIte, ← Int32.toInt_inj, Int32.le_iff_toInt_le, Int32.lt_iff_toInt_lt, Int32.reduceToInt] at *; omega)) | (repeat (first | rw [if_pos (by (simp only [Fc, Se, Nat.reduceLT, ↓reduceIte, ← Int32.toInt_inj, Int32.le_iff_toInt_le, Int32.lt_iff_toInt_lt, Int32.reduceToInt] at *; omega))] | rw [if_neg (by (simp only [Fc, Se, Nat.reduceLT, ↓reduceIte, ← Int32.toInt_inj, Int32.le_iff_toInt_le, Int32.lt_iff_toInt_lt, Int32.reduceToInt] at *; omega))] | rw [b2i_t (by (simp only [Fc, Se, Nat.reduceLT, ↓reduceIte, ← Int32.toInt_inj, Int32.le_iff_toInt_le, Int32.lt_iff_toInt_lt, Int32.reduceToInt] at *; omega))] | rw [b2i_f (by (simp only [Fc, Se, Nat.reduceLT, ↓reduceIte, ← Int32.toInt_inj, Int32.le_iff_toInt_le, Int32.lt_iff_toInt_lt, Int32.reduceToInt] at *; omega))])); try rfl)
        · refine ev_aload_n dX12_isAhead_84 rfl ?_
          refine ev_get dX12_isAhead_85 flX12_19_12 hM.1 rfl ?_
          refine ev_iload_n dX12_isAhead_88 rfl ?_
          refine ev_iald dX12_isAhead_89 (hM.a 3 4 (by decide)) (ix_n (by omega)) (rd hL (n := 7) (by decide) hi) ?_
          refine ev_if_ne (tgt := 97) dX12_isAhead_90 (by decide) (fun h90 => ?_) (fun h90 => ?_)
          · refine ev_iconst (v := 0) dX12_isAhead_97 (by decide) ?_
            refine ev_icmp_ne (tgt := 105) dX12_isAhead_98 (by decide) (fun h98 => ?_) (fun h98 => ?_)
            · refine ev_iconst (v := 0) dX12_isAhead_105 (by decide) ?_
              refine ev_zret dX12_isAhead_106 rfl (by decide) ?_
              refine ⟨?_, rfl⟩
              first | exact absurd rfl h98 | (first | (exfalso; (simp only [Fc, Se, Nat.reduceLT, ↓reduceIte, ← Int32.toInt_inj, Int32.le_iff_toInt_le, Int32.lt_iff_toInt_lt, Int32.reduceToInt] at *; omega)) | (repeat (first | rw [if_pos (by (simp only [Fc, Se, Nat.reduceLT, ↓reduceIte, ← Int32.toInt_inj, Int32.le_iff_toInt_le, Int32.lt_iff_toInt_lt, Int32.reduceToInt] at *; omega))] | rw [if_neg (by (simp only [Fc, Se, Nat.reduceLT, ↓reduceIte, ← Int32.toInt_inj, Int32.le_iff_toInt_le, Int32.lt_iff_toInt_lt, Int32.reduceToInt] at *; omega))] | rw [b2i_t (by (simp only [Fc, Se, Nat.reduceLT, ↓reduceIte, ← Int32.toInt_inj, Int32.le_iff_toInt_le, Int32.lt_iff_toInt_lt, Int32.reduceToInt] at *; omega))] | rw [b2i_f (by (simp only [Fc, Se, Nat.reduceLT, ↓reduceIte, ← Int32.toInt_inj, Int32.le_iff_toInt_le, Int32.lt_iff_toInt_lt, Int32.reduceToInt] at *; omega))])); try rfl)
            · refine ev_iconst (v := 1) dX12_isAhead_101 (by decide) ?_
              refine ev_goto (tgt := 106) dX12_isAhead_102 (by decide) ?_
              refine ev_zret dX12_isAhead_106 rfl (by decide) ?_
              refine ⟨?_, rfl⟩
              first | exact absurd rfl h98 | (first | (exfalso; (simp only [Fc, Se, Nat.reduceLT, ↓reduceIte, ← Int32.toInt_inj, Int32.le_iff_toInt_le, Int32.lt_iff_toInt_lt, Int32.reduceToInt] at *; omega)) | (repeat (first | rw [if_pos (by (simp only [Fc, Se, Nat.reduceLT, ↓reduceIte, ← Int32.toInt_inj, Int32.le_iff_toInt_le, Int32.lt_iff_toInt_lt, Int32.reduceToInt] at *; omega))] | rw [if_neg (by (simp only [Fc, Se, Nat.reduceLT, ↓reduceIte, ← Int32.toInt_inj, Int32.le_iff_toInt_le, Int32.lt_iff_toInt_lt, Int32.reduceToInt] at *; omega))] | rw [b2i_t (by (simp only [Fc, Se, Nat.reduceLT, ↓reduceIte, ← Int32.toInt_inj, Int32.le_iff_toInt_le, Int32.lt_iff_toInt_lt, Int32.reduceToInt] at *; omega))] | rw [b2i_f (by (simp only [Fc, Se, Nat.reduceLT, ↓reduceIte, ← Int32.toInt_inj, Int32.le_iff_toInt_le, Int32.lt_iff_toInt_lt, Int32.reduceToInt] at *; omega))])); try rfl)
          · refine ev_iconst (v := 1) dX12_isAhead_93 (by decide) ?_
            refine ev_goto (tgt := 98) dX12_isAhead_94 (by decide) ?_
            refine ev_icmp_ne (tgt := 105) dX12_isAhead_98 (by decide) (fun h98 => ?_) (fun h98 => ?_)
            · refine ev_iconst (v := 0) dX12_isAhead_105 (by decide) ?_
              refine ev_zret dX12_isAhead_106 rfl (by decide) ?_
              refine ⟨?_, rfl⟩
              first | exact absurd rfl h98 | (first | (exfalso; (simp only [Fc, Se, Nat.reduceLT, ↓reduceIte, ← Int32.toInt_inj, Int32.le_iff_toInt_le, Int32.lt_iff_toInt_lt, Int32.reduceToInt] at *; omega)) | (repeat (first | rw [if_pos (by (simp only [Fc, Se, Nat.reduceLT, ↓reduceIte, ← Int32.toInt_inj, Int32.le_iff_toInt_le, Int32.lt_iff_toInt_lt, Int32.reduceToInt] at *; omega))] | rw [if_neg (by (simp only [Fc, Se, Nat.reduceLT, ↓reduceIte, ← Int32.toInt_inj, Int32.le_iff_toInt_le, Int32.lt_iff_toInt_lt, Int32.reduceToInt] at *; omega))] | rw [b2i_t (by (simp only [Fc, Se, Nat.reduceLT, ↓reduceIte, ← Int32.toInt_inj, Int32.le_iff_toInt_le, Int32.lt_iff_toInt_lt, Int32.reduceToInt] at *; omega))] | rw [b2i_f (by (simp only [Fc, Se, Nat.reduceLT, ↓reduceIte, ← Int32.toInt_inj, Int32.le_iff_toInt_le, Int32.lt_iff_toInt_lt, Int32.reduceToInt] at *; omega))])); try rfl)
            · refine ev_iconst (v := 1) dX12_isAhead_101 (by decide) ?_
              refine ev_goto (tgt := 106) dX12_isAhead_102 (by decide) ?_
              refine ev_zret dX12_isAhead_106 rfl (by decide) ?_
              refine ⟨?_, rfl⟩
              first | exact absurd rfl h98 | (first | (exfalso; (simp only [Fc, Se, Nat.reduceLT, ↓reduceIte, ← Int32.toInt_inj, Int32.le_iff_toInt_le, Int32.lt_iff_toInt_lt, Int32.reduceToInt] at *; omega)) | (repeat (first | rw [if_pos (by (simp only [Fc, Se, Nat.reduceLT, ↓reduceIte, ← Int32.toInt_inj, Int32.le_iff_toInt_le, Int32.lt_iff_toInt_lt, Int32.reduceToInt] at *; omega))] | rw [if_neg (by (simp only [Fc, Se, Nat.reduceLT, ↓reduceIte, ← Int32.toInt_inj, Int32.le_iff_toInt_le, Int32.lt_iff_toInt_lt, Int32.reduceToInt] at *; omega))] | rw [b2i_t (by (simp only [Fc, Se, Nat.reduceLT, ↓reduceIte, ← Int32.toInt_inj, Int32.le_iff_toInt_le, Int32.lt_iff_toInt_lt, Int32.reduceToInt] at *; omega))] | rw [b2i_f (by (simp only [Fc, Se, Nat.reduceLT, ↓reduceIte, ← Int32.toInt_inj, Int32.le_iff_toInt_le, Int32.lt_iff_toInt_lt, Int32.reduceToInt] at *; omega))])); try rfl)
      · refine ev_iconst (v := 1) dX12_isAhead_75 (by decide) ?_
        refine ev_goto (tgt := 80) dX12_isAhead_76 (by decide) ?_
        refine ev_iload_n dX12_isAhead_80 rfl ?_
        refine ev_if_ne (tgt := 93) dX12_isAhead_81 (by decide) (fun h81 => ?_) (fun h81 => ?_)
        · refine ev_iconst (v := 1) dX12_isAhead_93 (by decide) ?_
          refine ev_goto (tgt := 98) dX12_isAhead_94 (by decide) ?_
          refine ev_icmp_ne (tgt := 105) dX12_isAhead_98 (by decide) (fun h98 => ?_) (fun h98 => ?_)
          · refine ev_iconst (v := 0) dX12_isAhead_105 (by decide) ?_
            refine ev_zret dX12_isAhead_106 rfl (by decide) ?_
            refine ⟨?_, rfl⟩
            first | exact absurd rfl h98 | (first | (exfalso; (simp only [Fc, Se, Nat.reduceLT, ↓reduceIte, ← Int32.toInt_inj, Int32.le_iff_toInt_le, Int32.lt_iff_toInt_lt, Int32.reduceToInt] at *; omega)) | (repeat (first | rw [if_pos (by (simp only [Fc, Se, Nat.reduceLT, ↓reduceIte, ← Int32.toInt_inj, Int32.le_iff_toInt_le, Int32.lt_iff_toInt_lt, Int32.reduceToInt] at *; omega))] | rw [if_neg (by (simp only [Fc, Se, Nat.reduceLT, ↓reduceIte, ← Int32.toInt_inj, Int32.le_iff_toInt_le, Int32.lt_iff_toInt_lt, Int32.reduceToInt] at *; omega))] | rw [b2i_t (by (simp only [Fc, Se, Nat.reduceLT, ↓reduceIte, ← Int32.toInt_inj, Int32.le_iff_toInt_le, Int32.lt_iff_toInt_lt, Int32.reduceToInt] at *; omega))] | rw [b2i_f (by (simp only [Fc, Se, Nat.reduceLT, ↓reduceIte, ← Int32.toInt_inj, Int32.le_iff_toInt_le, Int32.lt_iff_toInt_lt, Int32.reduceToInt] at *; omega))])); try rfl)
          · refine ev_iconst (v := 1) dX12_isAhead_101 (by decide) ?_
            refine ev_goto (tgt := 106) dX12_isAhead_102 (by decide) ?_
            refine ev_zret dX12_isAhead_106 rfl (by decide) ?_
            refine ⟨?_, rfl⟩
            first | exact absurd rfl h98 | (first | (exfalso; (simp only [Fc, Se, Nat.reduceLT, ↓reduceIte, ← Int32.toInt_inj, Int32.le_iff_toInt_le, Int32.lt_iff_toInt_lt, Int32.reduceToInt] at *; omega)) | (repeat (first | rw [if_pos (by (simp only [Fc, Se, Nat.reduceLT, ↓reduceIte, ← Int32.toInt_inj, Int32.le_iff_toInt_le, Int32.lt_iff_toInt_lt, Int32.reduceToInt] at *; omega))] | rw [if_neg (by (simp only [Fc, Se, Nat.reduceLT, ↓reduceIte, ← Int32.toInt_inj, Int32.le_iff_toInt_le, Int32.lt_iff_toInt_lt, Int32.reduceToInt] at *; omega))] | rw [b2i_t (by (simp only [Fc, Se, Nat.reduceLT, ↓reduceIte, ← Int32.toInt_inj, Int32.le_iff_toInt_le, Int32.lt_iff_toInt_lt, Int32.reduceToInt] at *; omega))] | rw [b2i_f (by (simp only [Fc, Se, Nat.reduceLT, ↓reduceIte, ← Int32.toInt_inj, Int32.le_iff_toInt_le, Int32.lt_iff_toInt_lt, Int32.reduceToInt] at *; omega))])); try rfl)
        · refine ev_aload_n dX12_isAhead_84 rfl ?_
          refine ev_get dX12_isAhead_85 flX12_19_12 hM.1 rfl ?_
          refine ev_iload_n dX12_isAhead_88 rfl ?_
          refine ev_iald dX12_isAhead_89 (hM.a 3 4 (by decide)) (ix_n (by omega)) (rd hL (n := 7) (by decide) hi) ?_
          refine ev_if_ne (tgt := 97) dX12_isAhead_90 (by decide) (fun h90 => ?_) (fun h90 => ?_)
          · refine ev_iconst (v := 0) dX12_isAhead_97 (by decide) ?_
            refine ev_icmp_ne (tgt := 105) dX12_isAhead_98 (by decide) (fun h98 => ?_) (fun h98 => ?_)
            · refine ev_iconst (v := 0) dX12_isAhead_105 (by decide) ?_
              refine ev_zret dX12_isAhead_106 rfl (by decide) ?_
              refine ⟨?_, rfl⟩
              first | exact absurd rfl h98 | (first | (exfalso; (simp only [Fc, Se, Nat.reduceLT, ↓reduceIte, ← Int32.toInt_inj, Int32.le_iff_toInt_le, Int32.lt_iff_toInt_lt, Int32.reduceToInt] at *; omega)) | (repeat (first | rw [if_pos (by (simp only [Fc, Se, Nat.reduceLT, ↓reduceIte, ← Int32.toInt_inj, Int32.le_iff_toInt_le, Int32.lt_iff_toInt_lt, Int32.reduceToInt] at *; omega))] | rw [if_neg (by (simp only [Fc, Se, Nat.reduceLT, ↓reduceIte, ← Int32.toInt_inj, Int32.le_iff_toInt_le, Int32.lt_iff_toInt_lt, Int32.reduceToInt] at *; omega))] | rw [b2i_t (by (simp only [Fc, Se, Nat.reduceLT, ↓reduceIte, ← Int32.toInt_inj, Int32.le_iff_toInt_le, Int32.lt_iff_toInt_lt, Int32.reduceToInt] at *; omega))] | rw [b2i_f (by (simp only [Fc, Se, Nat.reduceLT, ↓reduceIte, ← Int32.toInt_inj, Int32.le_iff_toInt_le, Int32.lt_iff_toInt_lt, Int32.reduceToInt] at *; omega))])); try rfl)
            · refine ev_iconst (v := 1) dX12_isAhead_101 (by decide) ?_
              refine ev_goto (tgt := 106) dX12_isAhead_102 (by decide) ?_
              refine ev_zret dX12_isAhead_106 rfl (by decide) ?_
              refine ⟨?_, rfl⟩
              first | exact absurd rfl h98 | (first | (exfalso; (simp only [Fc, Se, Nat.reduceLT, ↓reduceIte, ← Int32.toInt_inj, Int32.le_iff_toInt_le, Int32.lt_iff_toInt_lt, Int32.reduceToInt] at *; omega)) | (repeat (first | rw [if_pos (by (simp only [Fc, Se, Nat.reduceLT, ↓reduceIte, ← Int32.toInt_inj, Int32.le_iff_toInt_le, Int32.lt_iff_toInt_lt, Int32.reduceToInt] at *; omega))] | rw [if_neg (by (simp only [Fc, Se, Nat.reduceLT, ↓reduceIte, ← Int32.toInt_inj, Int32.le_iff_toInt_le, Int32.lt_iff_toInt_lt, Int32.reduceToInt] at *; omega))] | rw [b2i_t (by (simp only [Fc, Se, Nat.reduceLT, ↓reduceIte, ← Int32.toInt_inj, Int32.le_iff_toInt_le, Int32.lt_iff_toInt_lt, Int32.reduceToInt] at *; omega))] | rw [b2i_f (by (simp only [Fc, Se, Nat.reduceLT, ↓reduceIte, ← Int32.toInt_inj, Int32.le_iff_toInt_le, Int32.lt_iff_toInt_lt, Int32.reduceToInt] at *; omega))])); try rfl)
          · refine ev_iconst (v := 1) dX12_isAhead_93 (by decide) ?_
            refine ev_goto (tgt := 98) dX12_isAhead_94 (by decide) ?_
            refine ev_icmp_ne (tgt := 105) dX12_isAhead_98 (by decide) (fun h98 => ?_) (fun h98 => ?_)
            · refine ev_iconst (v := 0) dX12_isAhead_105 (by decide) ?_
              refine ev_zret dX12_isAhead_106 rfl (by decide) ?_
              refine ⟨?_, rfl⟩
              first | exact absurd rfl h98 | (first | (exfalso; (simp only [Fc, Se, Nat.reduceLT, ↓reduceIte, ← Int32.toInt_inj, Int32.le_iff_toInt_le, Int32.lt_iff_toInt_lt, Int32.reduceToInt] at *; omega)) | (repeat (first | rw [if_pos (by (simp only [Fc, Se, Nat.reduceLT, ↓reduceIte, ← Int32.toInt_inj, Int32.le_iff_toInt_le, Int32.lt_iff_toInt_lt, Int32.reduceToInt] at *; omega))] | rw [if_neg (by (simp only [Fc, Se, Nat.reduceLT, ↓reduceIte, ← Int32.toInt_inj, Int32.le_iff_toInt_le, Int32.lt_iff_toInt_lt, Int32.reduceToInt] at *; omega))] | rw [b2i_t (by (simp only [Fc, Se, Nat.reduceLT, ↓reduceIte, ← Int32.toInt_inj, Int32.le_iff_toInt_le, Int32.lt_iff_toInt_lt, Int32.reduceToInt] at *; omega))] | rw [b2i_f (by (simp only [Fc, Se, Nat.reduceLT, ↓reduceIte, ← Int32.toInt_inj, Int32.le_iff_toInt_le, Int32.lt_iff_toInt_lt, Int32.reduceToInt] at *; omega))])); try rfl)
            · refine ev_iconst (v := 1) dX12_isAhead_101 (by decide) ?_
              refine ev_goto (tgt := 106) dX12_isAhead_102 (by decide) ?_
              refine ev_zret dX12_isAhead_106 rfl (by decide) ?_
              refine ⟨?_, rfl⟩
              first | exact absurd rfl h98 | (first | (exfalso; (simp only [Fc, Se, Nat.reduceLT, ↓reduceIte, ← Int32.toInt_inj, Int32.le_iff_toInt_le, Int32.lt_iff_toInt_lt, Int32.reduceToInt] at *; omega)) | (repeat (first | rw [if_pos (by (simp only [Fc, Se, Nat.reduceLT, ↓reduceIte, ← Int32.toInt_inj, Int32.le_iff_toInt_le, Int32.lt_iff_toInt_lt, Int32.reduceToInt] at *; omega))] | rw [if_neg (by (simp only [Fc, Se, Nat.reduceLT, ↓reduceIte, ← Int32.toInt_inj, Int32.le_iff_toInt_le, Int32.lt_iff_toInt_lt, Int32.reduceToInt] at *; omega))] | rw [b2i_t (by (simp only [Fc, Se, Nat.reduceLT, ↓reduceIte, ← Int32.toInt_inj, Int32.le_iff_toInt_le, Int32.lt_iff_toInt_lt, Int32.reduceToInt] at *; omega))] | rw [b2i_f (by (simp only [Fc, Se, Nat.reduceLT, ↓reduceIte, ← Int32.toInt_inj, Int32.le_iff_toInt_le, Int32.lt_iff_toInt_lt, Int32.reduceToInt] at *; omega))])); try rfl)
    · refine ev_iload_n dX12_isAhead_49 rfl ?_
      refine ev_iload_n dX12_isAhead_50 rfl ?_
      refine ev_icmp_ge (tgt := 58) dX12_isAhead_51 (by decide) (fun h51 => ?_) (fun h51 => ?_)
      · refine ev_iconst (v := 0) dX12_isAhead_58 (by decide) ?_
        refine ev_zret dX12_isAhead_59 rfl (by decide) ?_
        refine ⟨?_, rfl⟩
        first | exact absurd rfl h98 | (first | (exfalso; (simp only [Fc, Se, Nat.reduceLT, ↓reduceIte, ← Int32.toInt_inj, Int32.le_iff_toInt_le, Int32.lt_iff_toInt_lt, Int32.reduceToInt] at *; omega)) | (repeat (first | rw [if_pos (by (simp only [Fc, Se, Nat.reduceLT, ↓reduceIte, ← Int32.toInt_inj, Int32.le_iff_toInt_le, Int32.lt_iff_toInt_lt, Int32.reduceToInt] at *; omega))] | rw [if_neg (by (simp only [Fc, Se, Nat.reduceLT, ↓reduceIte, ← Int32.toInt_inj, Int32.le_iff_toInt_le, Int32.lt_iff_toInt_lt, Int32.reduceToInt] at *; omega))] | rw [b2i_t (by (simp only [Fc, Se, Nat.reduceLT, ↓reduceIte, ← Int32.toInt_inj, Int32.le_iff_toInt_le, Int32.lt_iff_toInt_lt, Int32.reduceToInt] at *; omega))] | rw [b2i_f (by (simp only [Fc, Se, Nat.reduceLT, ↓reduceIte, ← Int32.toInt_inj, Int32.le_iff_toInt_le, Int32.lt_iff_toInt_lt, Int32.reduceToInt] at *; omega))])); try rfl)
      · refine ev_iconst (v := 1) dX12_isAhead_54 (by decide) ?_
        refine ev_goto (tgt := 59) dX12_isAhead_55 (by decide) ?_
        refine ev_zret dX12_isAhead_59 rfl (by decide) ?_
        refine ⟨?_, rfl⟩
        first | exact absurd rfl h98 | (first | (exfalso; (simp only [Fc, Se, Nat.reduceLT, ↓reduceIte, ← Int32.toInt_inj, Int32.le_iff_toInt_le, Int32.lt_iff_toInt_lt, Int32.reduceToInt] at *; omega)) | (repeat (first | rw [if_pos (by (simp only [Fc, Se, Nat.reduceLT, ↓reduceIte, ← Int32.toInt_inj, Int32.le_iff_toInt_le, Int32.lt_iff_toInt_lt, Int32.reduceToInt] at *; omega))] | rw [if_neg (by (simp only [Fc, Se, Nat.reduceLT, ↓reduceIte, ← Int32.toInt_inj, Int32.le_iff_toInt_le, Int32.lt_iff_toInt_lt, Int32.reduceToInt] at *; omega))] | rw [b2i_t (by (simp only [Fc, Se, Nat.reduceLT, ↓reduceIte, ← Int32.toInt_inj, Int32.le_iff_toInt_le, Int32.lt_iff_toInt_lt, Int32.reduceToInt] at *; omega))] | rw [b2i_f (by (simp only [Fc, Se, Nat.reduceLT, ↓reduceIte, ← Int32.toInt_inj, Int32.le_iff_toInt_le, Int32.lt_iff_toInt_lt, Int32.reduceToInt] at *; omega))])); try rfl)
  · refine ev_aload_n dX12_isAhead_4 rfl ?_
    refine ev_get dX12_isAhead_5 flX12_19_12 hM.1 rfl ?_
    refine ev_iload_n dX12_isAhead_8 rfl ?_
    refine ev_iald dX12_isAhead_9 (hM.a 3 4 (by decide)) (ix_n (by omega)) (rd hL (n := 7) (by decide) hi) ?_
    refine ev_aload_n dX12_isAhead_10 rfl ?_
    refine ev_get dX12_isAhead_11 flX12_19_12 hM.1 rfl ?_
    refine ev_iload_n dX12_isAhead_14 rfl ?_
    refine ev_iald dX12_isAhead_15 (hM.a 3 4 (by decide)) (ix_n (by omega)) (rd hL (n := 7) (by decide) hj) ?_
    refine ev_icmp_eq (tgt := 34) dX12_isAhead_16 (by decide) (fun h16 => ?_) (fun h16 => ?_)
    · refine ev_aload_n dX12_isAhead_34 rfl ?_
      refine ev_get dX12_isAhead_35 flX12_16_12 hM.1 rfl ?_
      refine ev_iload_n dX12_isAhead_38 rfl ?_
      refine ev_iald dX12_isAhead_39 (hM.a 2 3 (by decide)) (ix_n (by omega)) (rd hL (n := 7) (by decide) hi) ?_
      refine ev_aload_n dX12_isAhead_40 rfl ?_
      refine ev_get dX12_isAhead_41 flX12_16_12 hM.1 rfl ?_
      refine ev_iload_n dX12_isAhead_44 rfl ?_
      refine ev_iald dX12_isAhead_45 (hM.a 2 3 (by decide)) (ix_n (by omega)) (rd hL (n := 7) (by decide) hj) ?_
      refine ev_icmp_ne (tgt := 60) dX12_isAhead_46 (by decide) (fun h46 => ?_) (fun h46 => ?_)
      · refine ev_aload_n dX12_isAhead_60 rfl ?_
        refine ev_get dX12_isAhead_61 flX12_16_12 hM.1 rfl ?_
        refine ev_iload_n dX12_isAhead_64 rfl ?_
        refine ev_iald dX12_isAhead_65 (hM.a 2 3 (by decide)) (ix_n (by omega)) (rd hL (n := 7) (by decide) hi) ?_
        refine ev_aload_n dX12_isAhead_66 rfl ?_
        refine ev_get dX12_isAhead_67 flX12_16_12 hM.1 rfl ?_
        refine ev_iload_n dX12_isAhead_70 rfl ?_
        refine ev_iald dX12_isAhead_71 (hM.a 2 3 (by decide)) (ix_n (by omega)) (rd hL (n := 7) (by decide) hj) ?_
        refine ev_icmp_ge (tgt := 79) dX12_isAhead_72 (by decide) (fun h72 => ?_) (fun h72 => ?_)
        · refine ev_iconst (v := 0) dX12_isAhead_79 (by decide) ?_
          refine ev_iload_n dX12_isAhead_80 rfl ?_
          refine ev_if_ne (tgt := 93) dX12_isAhead_81 (by decide) (fun h81 => ?_) (fun h81 => ?_)
          · refine ev_iconst (v := 1) dX12_isAhead_93 (by decide) ?_
            refine ev_goto (tgt := 98) dX12_isAhead_94 (by decide) ?_
            refine ev_icmp_ne (tgt := 105) dX12_isAhead_98 (by decide) (fun h98 => ?_) (fun h98 => ?_)
            · refine ev_iconst (v := 0) dX12_isAhead_105 (by decide) ?_
              refine ev_zret dX12_isAhead_106 rfl (by decide) ?_
              refine ⟨?_, rfl⟩
              first | exact absurd rfl h98 | (first | (exfalso; (simp only [Fc, Se, Nat.reduceLT, ↓reduceIte, ← Int32.toInt_inj, Int32.le_iff_toInt_le, Int32.lt_iff_toInt_lt, Int32.reduceToInt] at *; omega)) | (repeat (first | rw [if_pos (by (simp only [Fc, Se, Nat.reduceLT, ↓reduceIte, ← Int32.toInt_inj, Int32.le_iff_toInt_le, Int32.lt_iff_toInt_lt, Int32.reduceToInt] at *; omega))] | rw [if_neg (by (simp only [Fc, Se, Nat.reduceLT, ↓reduceIte, ← Int32.toInt_inj, Int32.le_iff_toInt_le, Int32.lt_iff_toInt_lt, Int32.reduceToInt] at *; omega))] | rw [b2i_t (by (simp only [Fc, Se, Nat.reduceLT, ↓reduceIte, ← Int32.toInt_inj, Int32.le_iff_toInt_le, Int32.lt_iff_toInt_lt, Int32.reduceToInt] at *; omega))] | rw [b2i_f (by (simp only [Fc, Se, Nat.reduceLT, ↓reduceIte, ← Int32.toInt_inj, Int32.le_iff_toInt_le, Int32.lt_iff_toInt_lt, Int32.reduceToInt] at *; omega))])); try rfl)
            · refine ev_iconst (v := 1) dX12_isAhead_101 (by decide) ?_
              refine ev_goto (tgt := 106) dX12_isAhead_102 (by decide) ?_
              refine ev_zret dX12_isAhead_106 rfl (by decide) ?_
              refine ⟨?_, rfl⟩
              first | exact absurd rfl h98 | (first | (exfalso; (simp only [Fc, Se, Nat.reduceLT, ↓reduceIte, ← Int32.toInt_inj, Int32.le_iff_toInt_le, Int32.lt_iff_toInt_lt, Int32.reduceToInt] at *; omega)) | (repeat (first | rw [if_pos (by (simp only [Fc, Se, Nat.reduceLT, ↓reduceIte, ← Int32.toInt_inj, Int32.le_iff_toInt_le, Int32.lt_iff_toInt_lt, Int32.reduceToInt] at *; omega))] | rw [if_neg (by (simp only [Fc, Se, Nat.reduceLT, ↓reduceIte, ← Int32.toInt_inj, Int32.le_iff_toInt_le, Int32.lt_iff_toInt_lt, Int32.reduceToInt] at *; omega))] | rw [b2i_t (by (simp only [Fc, Se, Nat.reduceLT, ↓reduceIte, ← Int32.toInt_inj, Int32.le_iff_toInt_le, Int32.lt_iff_toInt_lt, Int32.reduceToInt] at *; omega))] | rw [b2i_f (by (simp only [Fc, Se, Nat.reduceLT, ↓reduceIte, ← Int32.toInt_inj, Int32.le_iff_toInt_le, Int32.lt_iff_toInt_lt, Int32.reduceToInt] at *; omega))])); try rfl)
          · refine ev_aload_n dX12_isAhead_84 rfl ?_
            refine ev_get dX12_isAhead_85 flX12_19_12 hM.1 rfl ?_
            refine ev_iload_n dX12_isAhead_88 rfl ?_
            refine ev_iald dX12_isAhead_89 (hM.a 3 4 (by decide)) (ix_n (by omega)) (rd hL (n := 7) (by decide) hi) ?_
            refine ev_if_ne (tgt := 97) dX12_isAhead_90 (by decide) (fun h90 => ?_) (fun h90 => ?_)
            · refine ev_iconst (v := 0) dX12_isAhead_97 (by decide) ?_
              refine ev_icmp_ne (tgt := 105) dX12_isAhead_98 (by decide) (fun h98 => ?_) (fun h98 => ?_)
              · refine ev_iconst (v := 0) dX12_isAhead_105 (by decide) ?_
                refine ev_zret dX12_isAhead_106 rfl (by decide) ?_
                refine ⟨?_, rfl⟩
                first | exact absurd rfl h98 | (first | (exfalso; (simp only [Fc, Se, Nat.reduceLT, ↓reduceIte, ← Int32.toInt_inj, Int32.le_iff_toInt_le, Int32.lt_iff_toInt_lt, Int32.reduceToInt] at *; omega)) | (repeat (first | rw [if_pos (by (simp only [Fc, Se, Nat.reduceLT, ↓reduceIte, ← Int32.toInt_inj, Int32.le_iff_toInt_le, Int32.lt_iff_toInt_lt, Int32.reduceToInt] at *; omega))] | rw [if_neg (by (simp only [Fc, Se, Nat.reduceLT, ↓reduceIte, ← Int32.toInt_inj, Int32.le_iff_toInt_le, Int32.lt_iff_toInt_lt, Int32.reduceToInt] at *; omega))] | rw [b2i_t (by (simp only [Fc, Se, Nat.reduceLT, ↓reduceIte, ← Int32.toInt_inj, Int32.le_iff_toInt_le, Int32.lt_iff_toInt_lt, Int32.reduceToInt] at *; omega))] | rw [b2i_f (by (simp only [Fc, Se, Nat.reduceLT, ↓reduceIte, ← Int32.toInt_inj, Int32.le_iff_toInt_le, Int32.lt_iff_toInt_lt, Int32.reduceToInt] at *; omega))])); try rfl)
              · refine ev_iconst (v := 1) dX12_isAhead_101 (by decide) ?_
                refine ev_goto (tgt := 106) dX12_isAhead_102 (by decide) ?_
                refine ev_zret dX12_isAhead_106 rfl (by decide) ?_
                refine ⟨?_, rfl⟩
                first | exact absurd rfl h98 | (first | (exfalso; (simp only [Fc, Se, Nat.reduceLT, ↓reduceIte, ← Int32.toInt_inj, Int32.le_iff_toInt_le, Int32.lt_iff_toInt_lt, Int32.reduceToInt] at *; omega)) | (repeat (first | rw [if_pos (by (simp only [Fc, Se, Nat.reduceLT, ↓reduceIte, ← Int32.toInt_inj, Int32.le_iff_toInt_le, Int32.lt_iff_toInt_lt, Int32.reduceToInt] at *; omega))] | rw [if_neg (by (simp only [Fc, Se, Nat.reduceLT, ↓reduceIte, ← Int32.toInt_inj, Int32.le_iff_toInt_le, Int32.lt_iff_toInt_lt, Int32.reduceToInt] at *; omega))] | rw [b2i_t (by (simp only [Fc, Se, Nat.reduceLT, ↓reduceIte, ← Int32.toInt_inj, Int32.le_iff_toInt_le, Int32.lt_iff_toInt_lt, Int32.reduceToInt] at *; omega))] | rw [b2i_f (by (simp only [Fc, Se, Nat.reduceLT, ↓reduceIte, ← Int32.toInt_inj, Int32.le_iff_toInt_le, Int32.lt_iff_toInt_lt, Int32.reduceToInt] at *; omega))])); try rfl)
            · refine ev_iconst (v := 1) dX12_isAhead_93 (by decide) ?_
              refine ev_goto (tgt := 98) dX12_isAhead_94 (by decide) ?_
              refine ev_icmp_ne (tgt := 105) dX12_isAhead_98 (by decide) (fun h98 => ?_) (fun h98 => ?_)
              · refine ev_iconst (v := 0) dX12_isAhead_105 (by decide) ?_
                refine ev_zret dX12_isAhead_106 rfl (by decide) ?_
                refine ⟨?_, rfl⟩
                first | exact absurd rfl h98 | (first | (exfalso; (simp only [Fc, Se, Nat.reduceLT, ↓reduceIte, ← Int32.toInt_inj, Int32.le_iff_toInt_le, Int32.lt_iff_toInt_lt, Int32.reduceToInt] at *; omega)) | (repeat (first | rw [if_pos (by (simp only [Fc, Se, Nat.reduceLT, ↓reduceIte, ← Int32.toInt_inj, Int32.le_iff_toInt_le, Int32.lt_iff_toInt_lt, Int32.reduceToInt] at *; omega))] | rw [if_neg (by (simp only [Fc, Se, Nat.reduceLT, ↓reduceIte, ← Int32.toInt_inj, Int32.le_iff_toInt_le, Int32.lt_iff_toInt_lt, Int32.reduceToInt] at *; omega))] | rw [b2i_t (by (simp only [Fc, Se, Nat.reduceLT, ↓reduceIte, ← Int32.toInt_inj, Int32.le_iff_toInt_le, Int32.lt_iff_toInt_lt, Int32.reduceToInt] at *; omega))] | rw [b2i_f (by (simp only [Fc, Se, Nat.reduceLT, ↓reduceIte, ← Int32.toInt_inj, Int32.le_iff_toInt_le, Int32.lt_iff_toInt_lt, Int32.reduceToInt] at *; omega))])); try rfl)
              · refine ev_iconst (v := 1) dX12_isAhead_101 (by decide) ?_
                refine ev_goto (tgt := 106) dX12_isAhead_102 (by decide) ?_
                refine ev_zret dX12_isAhead_106 rfl (by decide) ?_
                refine ⟨?_, rfl⟩
                first | exact absurd rfl h98 | (first | (exfalso; (simp only [Fc, Se, Nat.reduceLT, ↓reduceIte, ← Int32.toInt_inj, Int32.le_iff_toInt_le, Int32.lt_iff_toInt_lt, Int32.reduceToInt] at *; omega)) | (repeat (first | rw [if_pos (by (simp only [Fc, Se, Nat.reduceLT, ↓reduceIte, ← Int32.toInt_inj, Int32.le_iff_toInt_le, Int32.lt_iff_toInt_lt, Int32.reduceToInt] at *; omega))] | rw [if_neg (by (simp only [Fc, Se, Nat.reduceLT, ↓reduceIte, ← Int32.toInt_inj, Int32.le_iff_toInt_le, Int32.lt_iff_toInt_lt, Int32.reduceToInt] at *; omega))] | rw [b2i_t (by (simp only [Fc, Se, Nat.reduceLT, ↓reduceIte, ← Int32.toInt_inj, Int32.le_iff_toInt_le, Int32.lt_iff_toInt_lt, Int32.reduceToInt] at *; omega))] | rw [b2i_f (by (simp only [Fc, Se, Nat.reduceLT, ↓reduceIte, ← Int32.toInt_inj, Int32.le_iff_toInt_le, Int32.lt_iff_toInt_lt, Int32.reduceToInt] at *; omega))])); try rfl)
        · refine ev_iconst (v := 1) dX12_isAhead_75 (by decide) ?_
          refine ev_goto (tgt := 80) dX12_isAhead_76 (by decide) ?_
          refine ev_iload_n dX12_isAhead_80 rfl ?_
          refine ev_if_ne (tgt := 93) dX12_isAhead_81 (by decide) (fun h81 => ?_) (fun h81 => ?_)
          · refine ev_iconst (v := 1) dX12_isAhead_93 (by decide) ?_
            refine ev_goto (tgt := 98) dX12_isAhead_94 (by decide) ?_
            refine ev_icmp_ne (tgt := 105) dX12_isAhead_98 (by decide) (fun h98 => ?_) (fun h98 => ?_)
            · refine ev_iconst (v := 0) dX12_isAhead_105 (by decide) ?_
              refine ev_zret dX12_isAhead_106 rfl (by decide) ?_
              refine ⟨?_, rfl⟩
              first | exact absurd rfl h98 | (first | (exfalso; (simp only [Fc, Se, Nat.reduceLT, ↓reduceIte, ← Int32.toInt_inj, Int32.le_iff_toInt_le, Int32.lt_iff_toInt_lt, Int32.reduceToInt] at *; omega)) | (repeat (first | rw [if_pos (by (simp only [Fc, Se, Nat.reduceLT, ↓reduceIte, ← Int32.toInt_inj, Int32.le_iff_toInt_le, Int32.lt_iff_toInt_lt, Int32.reduceToInt] at *; omega))] | rw [if_neg (by (simp only [Fc, Se, Nat.reduceLT, ↓reduceIte, ← Int32.toInt_inj, Int32.le_iff_toInt_le, Int32.lt_iff_toInt_lt, Int32.reduceToInt] at *; omega))] | rw [b2i_t (by (simp only [Fc, Se, Nat.reduceLT, ↓reduceIte, ← Int32.toInt_inj, Int32.le_iff_toInt_le, Int32.lt_iff_toInt_lt, Int32.reduceToInt] at *; omega))] | rw [b2i_f (by (simp only [Fc, Se, Nat.reduceLT, ↓reduceIte, ← Int32.toInt_inj, Int32.le_iff_toInt_le, Int32.lt_iff_toInt_lt, Int32.reduceToInt] at *; omega))])); try rfl)
            · refine ev_iconst (v := 1) dX12_isAhead_101 (by decide) ?_
              refine ev_goto (tgt := 106) dX12_isAhead_102 (by decide) ?_
              refine ev_zret dX12_isAhead_106 rfl (by decide) ?_
              refine ⟨?_, rfl⟩
              first | exact absurd rfl h98 | (first | (exfalso; (simp only [Fc, Se, Nat.reduceLT, ↓reduceIte, ← Int32.toInt_inj, Int32.le_iff_toInt_le, Int32.lt_iff_toInt_lt, Int32.reduceToInt] at *; omega)) | (repeat (first | rw [if_pos (by (simp only [Fc, Se, Nat.reduceLT, ↓reduceIte, ← Int32.toInt_inj, Int32.le_iff_toInt_le, Int32.lt_iff_toInt_lt, Int32.reduceToInt] at *; omega))] | rw [if_neg (by (simp only [Fc, Se, Nat.reduceLT, ↓reduceIte, ← Int32.toInt_inj, Int32.le_iff_toInt_le, Int32.lt_iff_toInt_lt, Int32.reduceToInt] at *; omega))] | rw [b2i_t (by (simp only [Fc, Se, Nat.reduceLT, ↓reduceIte, ← Int32.toInt_inj, Int32.le_iff_toInt_le, Int32.lt_iff_toInt_lt, Int32.reduceToInt] at *; omega))] | rw [b2i_f (by (simp only [Fc, Se, Nat.reduceLT, ↓reduceIte, ← Int32.toInt_inj, Int32.le_iff_toInt_le, Int32.lt_iff_toInt_lt, Int32.reduceToInt] at *; omega))])); try rfl)
          · refine ev_aload_n dX12_isAhead_84 rfl ?_
            refine ev_get dX12_isAhead_85 flX12_19_12 hM.1 rfl ?_
            refine ev_iload_n dX12_isAhead_88 rfl ?_
            refine ev_iald dX12_isAhead_89 (hM.a 3 4 (by decide)) (ix_n (by omega)) (rd hL (n := 7) (by decide) hi) ?_
            refine ev_if_ne (tgt := 97) dX12_isAhead_90 (by decide) (fun h90 => ?_) (fun h90 => ?_)
            · refine ev_iconst (v := 0) dX12_isAhead_97 (by decide) ?_
              refine ev_icmp_ne (tgt := 105) dX12_isAhead_98 (by decide) (fun h98 => ?_) (fun h98 => ?_)
              · refine ev_iconst (v := 0) dX12_isAhead_105 (by decide) ?_
                refine ev_zret dX12_isAhead_106 rfl (by decide) ?_
                refine ⟨?_, rfl⟩
                first | exact absurd rfl h98 | (first | (exfalso; (simp only [Fc, Se, Nat.reduceLT, ↓reduceIte, ← Int32.toInt_inj, Int32.le_iff_toInt_le, Int32.lt_iff_toInt_lt, Int32.reduceToInt] at *; omega)) | (repeat (first | rw [if_pos (by (simp only [Fc, Se, Nat.reduceLT, ↓reduceIte, ← Int32.toInt_inj, Int32.le_iff_toInt_le, Int32.lt_iff_toInt_lt, Int32.reduceToInt] at *; omega))] | rw [if_neg (by (simp only [Fc, Se, Nat.reduceLT, ↓reduceIte, ← Int32.toInt_inj, Int32.le_iff_toInt_le, Int32.lt_iff_toInt_lt, Int32.reduceToInt] at *; omega))] | rw [b2i_t (by (simp only [Fc, Se, Nat.reduceLT, ↓reduceIte, ← Int32.toInt_inj, Int32.le_iff_toInt_le, Int32.lt_iff_toInt_lt, Int32.reduceToInt] at *; omega))] | rw [b2i_f (by (simp only [Fc, Se, Nat.reduceLT, ↓reduceIte, ← Int32.toInt_inj, Int32.le_iff_toInt_le, Int32.lt_iff_toInt_lt, Int32.reduceToInt] at *; omega))])); try rfl)
              · refine ev_iconst (v := 1) dX12_isAhead_101 (by decide) ?_
                refine ev_goto (tgt := 106) dX12_isAhead_102 (by decide) ?_
                refine ev_zret dX12_isAhead_106 rfl (by decide) ?_
                refine ⟨?_, rfl⟩
                first | exact absurd rfl h98 | (first | (exfalso; (simp only [Fc, Se, Nat.reduceLT, ↓reduceIte, ← Int32.toInt_inj, Int32.le_iff_toInt_le, Int32.lt_iff_toInt_lt, Int32.reduceToInt] at *; omega)) | (repeat (first | rw [if_pos (by (simp only [Fc, Se, Nat.reduceLT, ↓reduceIte, ← Int32.toInt_inj, Int32.le_iff_toInt_le, Int32.lt_iff_toInt_lt, Int32.reduceToInt] at *; omega))] | rw [if_neg (by (simp only [Fc, Se, Nat.reduceLT, ↓reduceIte, ← Int32.toInt_inj, Int32.le_iff_toInt_le, Int32.lt_iff_toInt_lt, Int32.reduceToInt] at *; omega))] | rw [b2i_t (by (simp only [Fc, Se, Nat.reduceLT, ↓reduceIte, ← Int32.toInt_inj, Int32.le_iff_toInt_le, Int32.lt_iff_toInt_lt, Int32.reduceToInt] at *; omega))] | rw [b2i_f (by (simp only [Fc, Se, Nat.reduceLT, ↓reduceIte, ← Int32.toInt_inj, Int32.le_iff_toInt_le, Int32.lt_iff_toInt_lt, Int32.reduceToInt] at *; omega))])); try rfl)
            · refine ev_iconst (v := 1) dX12_isAhead_93 (by decide) ?_
              refine ev_goto (tgt := 98) dX12_isAhead_94 (by decide) ?_
              refine ev_icmp_ne (tgt := 105) dX12_isAhead_98 (by decide) (fun h98 => ?_) (fun h98 => ?_)
              · refine ev_iconst (v := 0) dX12_isAhead_105 (by decide) ?_
                refine ev_zret dX12_isAhead_106 rfl (by decide) ?_
                refine ⟨?_, rfl⟩
                first | exact absurd rfl h98 | (first | (exfalso; (simp only [Fc, Se, Nat.reduceLT, ↓reduceIte, ← Int32.toInt_inj, Int32.le_iff_toInt_le, Int32.lt_iff_toInt_lt, Int32.reduceToInt] at *; omega)) | (repeat (first | rw [if_pos (by (simp only [Fc, Se, Nat.reduceLT, ↓reduceIte, ← Int32.toInt_inj, Int32.le_iff_toInt_le, Int32.lt_iff_toInt_lt, Int32.reduceToInt] at *; omega))] | rw [if_neg (by (simp only [Fc, Se, Nat.reduceLT, ↓reduceIte, ← Int32.toInt_inj, Int32.le_iff_toInt_le, Int32.lt_iff_toInt_lt, Int32.reduceToInt] at *; omega))] | rw [b2i_t (by (simp only [Fc, Se, Nat.reduceLT, ↓reduceIte, ← Int32.toInt_inj, Int32.le_iff_toInt_le, Int32.lt_iff_toInt_lt, Int32.reduceToInt] at *; omega))] | rw [b2i_f (by (simp only [Fc, Se, Nat.reduceLT, ↓reduceIte, ← Int32.toInt_inj, Int32.le_iff_toInt_le, Int32.lt_iff_toInt_lt, Int32.reduceToInt] at *; omega))])); try rfl)
              · refine ev_iconst (v := 1) dX12_isAhead_101 (by decide) ?_
                refine ev_goto (tgt := 106) dX12_isAhead_102 (by decide) ?_
                refine ev_zret dX12_isAhead_106 rfl (by decide) ?_
                refine ⟨?_, rfl⟩
                first | exact absurd rfl h98 | (first | (exfalso; (simp only [Fc, Se, Nat.reduceLT, ↓reduceIte, ← Int32.toInt_inj, Int32.le_iff_toInt_le, Int32.lt_iff_toInt_lt, Int32.reduceToInt] at *; omega)) | (repeat (first | rw [if_pos (by (simp only [Fc, Se, Nat.reduceLT, ↓reduceIte, ← Int32.toInt_inj, Int32.le_iff_toInt_le, Int32.lt_iff_toInt_lt, Int32.reduceToInt] at *; omega))] | rw [if_neg (by (simp only [Fc, Se, Nat.reduceLT, ↓reduceIte, ← Int32.toInt_inj, Int32.le_iff_toInt_le, Int32.lt_iff_toInt_lt, Int32.reduceToInt] at *; omega))] | rw [b2i_t (by (simp only [Fc, Se, Nat.reduceLT, ↓reduceIte, ← Int32.toInt_inj, Int32.le_iff_toInt_le, Int32.lt_iff_toInt_lt, Int32.reduceToInt] at *; omega))] | rw [b2i_f (by (simp only [Fc, Se, Nat.reduceLT, ↓reduceIte, ← Int32.toInt_inj, Int32.le_iff_toInt_le, Int32.lt_iff_toInt_lt, Int32.reduceToInt] at *; omega))])); try rfl)
      · refine ev_iload_n dX12_isAhead_49 rfl ?_
        refine ev_iload_n dX12_isAhead_50 rfl ?_
        refine ev_icmp_ge (tgt := 58) dX12_isAhead_51 (by decide) (fun h51 => ?_) (fun h51 => ?_)
        · refine ev_iconst (v := 0) dX12_isAhead_58 (by decide) ?_
          refine ev_zret dX12_isAhead_59 rfl (by decide) ?_
          refine ⟨?_, rfl⟩
          first | exact absurd rfl h98 | (first | (exfalso; (simp only [Fc, Se, Nat.reduceLT, ↓reduceIte, ← Int32.toInt_inj, Int32.le_iff_toInt_le, Int32.lt_iff_toInt_lt, Int32.reduceToInt] at *; omega)) | (repeat (first | rw [if_pos (by (simp only [Fc, Se, Nat.reduceLT, ↓reduceIte, ← Int32.toInt_inj, Int32.le_iff_toInt_le, Int32.lt_iff_toInt_lt, Int32.reduceToInt] at *; omega))] | rw [if_neg (by (simp only [Fc, Se, Nat.reduceLT, ↓reduceIte, ← Int32.toInt_inj, Int32.le_iff_toInt_le, Int32.lt_iff_toInt_lt, Int32.reduceToInt] at *; omega))] | rw [b2i_t (by (simp only [Fc, Se, Nat.reduceLT, ↓reduceIte, ← Int32.toInt_inj, Int32.le_iff_toInt_le, Int32.lt_iff_toInt_lt, Int32.reduceToInt] at *; omega))] | rw [b2i_f (by (simp only [Fc, Se, Nat.reduceLT, ↓reduceIte, ← Int32.toInt_inj, Int32.le_iff_toInt_le, Int32.lt_iff_toInt_lt, Int32.reduceToInt] at *; omega))])); try rfl)
        · refine ev_iconst (v := 1) dX12_isAhead_54 (by decide) ?_
          refine ev_goto (tgt := 59) dX12_isAhead_55 (by decide) ?_
          refine ev_zret dX12_isAhead_59 rfl (by decide) ?_
          refine ⟨?_, rfl⟩
          first | exact absurd rfl h98 | (first | (exfalso; (simp only [Fc, Se, Nat.reduceLT, ↓reduceIte, ← Int32.toInt_inj, Int32.le_iff_toInt_le, Int32.lt_iff_toInt_lt, Int32.reduceToInt] at *; omega)) | (repeat (first | rw [if_pos (by (simp only [Fc, Se, Nat.reduceLT, ↓reduceIte, ← Int32.toInt_inj, Int32.le_iff_toInt_le, Int32.lt_iff_toInt_lt, Int32.reduceToInt] at *; omega))] | rw [if_neg (by (simp only [Fc, Se, Nat.reduceLT, ↓reduceIte, ← Int32.toInt_inj, Int32.le_iff_toInt_le, Int32.lt_iff_toInt_lt, Int32.reduceToInt] at *; omega))] | rw [b2i_t (by (simp only [Fc, Se, Nat.reduceLT, ↓reduceIte, ← Int32.toInt_inj, Int32.le_iff_toInt_le, Int32.lt_iff_toInt_lt, Int32.reduceToInt] at *; omega))] | rw [b2i_f (by (simp only [Fc, Se, Nat.reduceLT, ↓reduceIte, ← Int32.toInt_inj, Int32.le_iff_toInt_le, Int32.lt_iff_toInt_lt, Int32.reduceToInt] at *; omega))])); try rfl)
    · refine ev_aload_n dX12_isAhead_19 rfl ?_
      refine ev_get dX12_isAhead_20 flX12_19_12 hM.1 rfl ?_
      refine ev_iload_n dX12_isAhead_23 rfl ?_
      refine ev_iald dX12_isAhead_24 (hM.a 3 4 (by decide)) (ix_n (by omega)) (rd hL (n := 7) (by decide) hi) ?_
      refine ev_if_ne (tgt := 32) dX12_isAhead_25 (by decide) (fun h25 => ?_) (fun h25 => ?_)
      · refine ev_iconst (v := 0) dX12_isAhead_32 (by decide) ?_
        refine ev_zret dX12_isAhead_33 rfl (by decide) ?_
        refine ⟨?_, rfl⟩
        first | exact absurd rfl h98 | (first | (exfalso; (simp only [Fc, Se, Nat.reduceLT, ↓reduceIte, ← Int32.toInt_inj, Int32.le_iff_toInt_le, Int32.lt_iff_toInt_lt, Int32.reduceToInt] at *; omega)) | (repeat (first | rw [if_pos (by (simp only [Fc, Se, Nat.reduceLT, ↓reduceIte, ← Int32.toInt_inj, Int32.le_iff_toInt_le, Int32.lt_iff_toInt_lt, Int32.reduceToInt] at *; omega))] | rw [if_neg (by (simp only [Fc, Se, Nat.reduceLT, ↓reduceIte, ← Int32.toInt_inj, Int32.le_iff_toInt_le, Int32.lt_iff_toInt_lt, Int32.reduceToInt] at *; omega))] | rw [b2i_t (by (simp only [Fc, Se, Nat.reduceLT, ↓reduceIte, ← Int32.toInt_inj, Int32.le_iff_toInt_le, Int32.lt_iff_toInt_lt, Int32.reduceToInt] at *; omega))] | rw [b2i_f (by (simp only [Fc, Se, Nat.reduceLT, ↓reduceIte, ← Int32.toInt_inj, Int32.le_iff_toInt_le, Int32.lt_iff_toInt_lt, Int32.reduceToInt] at *; omega))])); try rfl)
      · refine ev_iconst (v := 1) dX12_isAhead_28 (by decide) ?_
        refine ev_goto (tgt := 33) dX12_isAhead_29 (by decide) ?_
        refine ev_zret dX12_isAhead_33 rfl (by decide) ?_
        refine ⟨?_, rfl⟩
        first | exact absurd rfl h98 | (first | (exfalso; (simp only [Fc, Se, Nat.reduceLT, ↓reduceIte, ← Int32.toInt_inj, Int32.le_iff_toInt_le, Int32.lt_iff_toInt_lt, Int32.reduceToInt] at *; omega)) | (repeat (first | rw [if_pos (by (simp only [Fc, Se, Nat.reduceLT, ↓reduceIte, ← Int32.toInt_inj, Int32.le_iff_toInt_le, Int32.lt_iff_toInt_lt, Int32.reduceToInt] at *; omega))] | rw [if_neg (by (simp only [Fc, Se, Nat.reduceLT, ↓reduceIte, ← Int32.toInt_inj, Int32.le_iff_toInt_le, Int32.lt_iff_toInt_lt, Int32.reduceToInt] at *; omega))] | rw [b2i_t (by (simp only [Fc, Se, Nat.reduceLT, ↓reduceIte, ← Int32.toInt_inj, Int32.le_iff_toInt_le, Int32.lt_iff_toInt_lt, Int32.reduceToInt] at *; omega))] | rw [b2i_f (by (simp only [Fc, Se, Nat.reduceLT, ↓reduceIte, ← Int32.toInt_inj, Int32.le_iff_toInt_le, Int32.lt_iff_toInt_lt, Int32.reduceToInt] at *; omega))])); try rfl)
/-- the row while h is being put in: pre, a gap, post -/
def GapL (l : List Int32) (pre post : List Nat) : Prop := PreL l pre ∧ ∀ (i h : Nat), post[i]? = some h → l[pre.length + 1 + i]? = some (nI h) ∧ h < 7
theorem GapL.fill {l : List Int32} {pre post : List Nat} (h : GapL l pre post) {x : Nat} (hx : x < 7) (hl : pre.length < l.length) : PreL (l.set pre.length (nI x)) (pre ++ x :: post) := by
  intro i y hy
  rw [List.getElem?_append] at hy
  rw [List.getElem?_set]
  split at hy
  · rename_i hi
    rw [if_neg (by omega)]
    exact h.1 i y hy
  · rename_i hi
    by_cases e : pre.length = i
    · subst e
      rw [Nat.sub_self] at hy
      simp at hy
      subst hy
      rw [if_pos rfl, if_pos hl]
      exact ⟨rfl, hx⟩
    · rw [if_neg e]
      obtain ⟨q, hq⟩ : ∃ q, i - pre.length = q + 1 := ⟨i - pre.length - 1, by omega⟩
      rw [hq] at hy
      have := h.2 q y (by simpa using hy)
      rwa [show pre.length + 1 + q = i by omega] at this
theorem GapL.move {l : List Int32} {rp post : List Nat} {x : Nat} (h : GapL l (x :: rp).reverse post) (hl : rp.length + 1 < l.length) : GapL (l.set (rp.length + 1) (nI x)) rp.reverse (x :: post) := by
  have hx := h.1 rp.length x (by simp)
  refine ⟨fun i y hy => ?_, fun i y hy => ?_⟩
  · have hi := (List.getElem?_eq_some_iff.mp hy).1
    simp at hi
    rw [List.getElem?_set, if_neg (by omega)]
    exact h.1 i y (by rw [List.reverse_cons, List.getElem?_append_left (by simpa using hi)]; exact hy)
  · simp only [List.length_reverse]
    cases i with
    | zero =>
      simp at hy
      subst hy
      rw [List.getElem?_set, if_pos (by omega), if_pos (by omega)]
      exact ⟨rfl, hx.2⟩
    | succ i =>
      rw [List.getElem?_set, if_neg (by omega)]
      have := h.2 i y (by simpa using hy)
      simp only [List.length_reverse, List.length_cons] at this
      rwa [show rp.length + 1 + 1 + i = rp.length + 1 + (i + 1) by omega] at this
theorem l_waysIn {ρ0 : MS} (hL : ML ρ0) {w ac : Int32} (hac : ac = if w = 1 then 1 else 0) {n h : Nat} (hh : h < 7) {μ0 : Mm} {Q : Option Value → Mm → Prop} (target : List Nat) (go : ∀ (l : List Int32) (o3 : Option Value) (μ : Mm), l.length = 7 → PreL l target → RM b (ost ρ0 n l) μ → FM b μ0 μ → Ev g 4 mX12_ways 22 [some (.ref b), some (.int w), some (.int (nI (h + 1))), o3] [] μ Q) :
    ∀ (rp post : List Nat) (l : List Int32) (μ : Mm), ins (Fc ρ0) ac h rp post = target → rp.length + post.length = h → l.length = 7 → GapL l rp.reverse post → RM b (ost ρ0 n l) μ → FM b μ0 μ → Ev g 4 mX12_ways 32 [some (.ref b), some (.int w), some (.int (nI h)), some (.int (nI rp.length))] [] μ Q := by
  have fin : ∀ (rp post : List Nat) (l : List Int32) (μ : Mm), rp.reverse ++ h :: post = target → rp.length + post.length = h → l.length = 7 → GapL l rp.reverse post → RM b (ost ρ0 n l) μ → FM b μ0 μ → Ev g 4 mX12_ways 82 [some (.ref b), some (.int w), some (.int (nI h)), some (.int (nI rp.length))] [] μ Q := by
    intro rp post l μ ht hlen hl hG hM hF
    have hf := hG.fill hh (by rw [List.length_reverse, hl]; omega)
    rw [ht, List.length_reverse] at hf
    refine ev_aload_n dX12_ways_82 rfl ?_
    refine ev_get dX12_ways_83 flX12_55_12 hM.1 rfl ?_
    refine ev_iload_n dX12_ways_86 rfl ?_
    refine ev_iload_n dX12_ways_87 rfl ?_
    refine evM_iast hM hF (k := 24) (o := 26) (by decide) dX12_ways_88 (ix_n (by omega)) (show rp.length < ((ost ρ0 n l).1 24).length by rw [ost_at, hl]; omega) (fun μ hM hF => ?_)
    rw [ost_at, ost_l] at hM
    refine ev_iinc dX12_ways_89 rfl (by decide) ?_
    dsimp only [List.set]
    refine ev_goto (tgt := 22) dX12_ways_92 (by decide) ?_
    rw [nI_inc]
    exact go _ _ μ (by rw [List.length_set]; exact hl) hf hM hF
  intro rp
  induction rp with
  | nil =>
    intro post l μ ht hlen hl hG hM hF
    refine ev_iload_n dX12_ways_32 rfl ?_
    refine ev_if_le (tgt := 82) dX12_ways_33 (by decide) (fun _ => ?_) (fun h33 => absurd ((show nI 0 ≤ 0 by decide)) h33)
    exact fin [] post l μ ht hlen hl hG hM hF
  | cons x rp ih =>
    intro post l μ ht hlen hl hG hM hF
    have hx := hG.1 rp.length x (by simp)
    have ixp : ix (nI (rp.length + 1) - 1) rp.length := by simp only [List.length_cons] at hlen; rw [nI_pred]; exact ix_n (by omega)
    have hmv := hG.move (by simp only [List.length_cons] at hlen; omega)
    simp only [List.length_cons] at hlen ⊢
    rw [ins] at ht
    have hah : Pu g 0 mX12_isAhead [.ref b, .int (nI h), .int (nI x), .int ac] μ (ahI (Fc ρ0) ac h x) := c_isAhead hM (ost_L hL hl) hh hx.2 ac
    refine ev_iload_n dX12_ways_32 rfl ?_
    refine ev_if_le (tgt := 82) dX12_ways_33 (by decide) (fun h33 => absurd h33 ((show ¬ nI (rp.length + 1) ≤ 0 by rw [nI_le0 (by omega)]; omega))) (fun _ => ?_)
    refine ev_aload_n dX12_ways_36 rfl ?_
    refine ev_iload_n dX12_ways_37 rfl ?_
    refine ev_aload_n dX12_ways_38 rfl ?_
    refine ev_get dX12_ways_39 flX12_55_12 hM.1 rfl ?_
    refine ev_iload_n dX12_ways_42 rfl ?_
    refine ev_iconst (v := 1) dX12_ways_43 (by decide) ?_
    refine ev_isub dX12_ways_44 ?_
    refine ev_iald dX12_ways_45 (hM.a 24 26 (by decide)) ixp (show ((ost ρ0 n l).1 24)[rp.length]? = some (nI x) by rw [ost_at]; exact hx.1) ?_
    refine ev_iload_n dX12_ways_46 rfl ?_
    refine ev_iconst (v := 1) dX12_ways_47 (by decide) ?_
    refine ev_icmp_ne (tgt := 55) dX12_ways_48 (by decide) (fun h48 => ?_) (fun h48 => ?_)
    · refine ev_iconst (v := 0) dX12_ways_55 (by decide) ?_
      first | rw [show (1 : Int32) = ac by rw [hac, if_pos h48]] | rw [show (Value.int 0) = Value.int ac by rw [hac, if_neg h48]]
      refine k_v hah (by decide) dX12_ways_56 cbX12_isAhead (mt6 103 rfl rfl) (mt6 105 rfl rfl) (ms0 78 rfl rfl) (ci := 12) rfl hM.1 rfl rfl (Nat.le_of_ble_eq_true rfl) (fun v μ1 hq => ?_)
      obtain ⟨rfl, hμ⟩ := hq
      have hμ := hμ.symm
      subst hμ
      simp only [Option.toList, List.cons_append, List.nil_append]
      refine ev_if_eq (tgt := 82) dX12_ways_59 (by decide) (fun h59 => ?_) (fun h59 => ?_)
      · rw [if_pos h59] at ht
        exact fin (x :: rp) post l μ ht hlen hl hG hM hF
      · refine ev_aload_n dX12_ways_62 rfl ?_
        refine ev_get dX12_ways_63 flX12_55_12 hM.1 rfl ?_
        refine ev_iload_n dX12_ways_66 rfl ?_
        refine ev_aload_n dX12_ways_67 rfl ?_
        refine ev_get dX12_ways_68 flX12_55_12 hM.1 rfl ?_
        refine ev_iload_n dX12_ways_71 rfl ?_
        refine ev_iconst (v := 1) dX12_ways_72 (by decide) ?_
        refine ev_isub dX12_ways_73 ?_
        refine ev_iald dX12_ways_74 (hM.a 24 26 (by decide)) ixp (show ((ost ρ0 n l).1 24)[rp.length]? = some (nI x) by rw [ost_at]; exact hx.1) ?_
        refine evM_iast hM hF (k := 24) (o := 26) (by decide) dX12_ways_75 (ix_n (by omega)) (show rp.length + 1 < ((ost ρ0 n l).1 24).length by rw [ost_at, hl]; omega) (fun μ hM hF => ?_)
        rw [ost_at, ost_l] at hM
        refine ev_iinc dX12_ways_76 rfl (by decide) ?_
        dsimp only [List.set]
        refine ev_goto (tgt := 32) dX12_ways_79 (by decide) ?_
        rw [nI_dec]
        rw [if_neg h59] at ht
        exact ih (x :: post) _ μ ht (by simp only [List.length_cons]; omega) (by rw [List.length_set]; exact hl) hmv hM hF
    · refine ev_iconst (v := 1) dX12_ways_51 (by decide) ?_
      refine ev_goto (tgt := 56) dX12_ways_52 (by decide) ?_
      first | rw [show (1 : Int32) = ac by rw [hac, if_pos h48]] | rw [show (Value.int 0) = Value.int ac by rw [hac, if_neg h48]]
      refine k_v hah (by decide) dX12_ways_56 cbX12_isAhead (mt6 103 rfl rfl) (mt6 105 rfl rfl) (ms0 78 rfl rfl) (ci := 12) rfl hM.1 rfl rfl (Nat.le_of_ble_eq_true rfl) (fun v μ1 hq => ?_)
      obtain ⟨rfl, hμ⟩ := hq
      have hμ := hμ.symm
      subst hμ
      simp only [Option.toList, List.cons_append, List.nil_append]
      refine ev_if_eq (tgt := 82) dX12_ways_59 (by decide) (fun h59 => ?_) (fun h59 => ?_)
      · rw [if_pos h59] at ht
        exact fin (x :: rp) post l μ ht hlen hl hG hM hF
      · refine ev_aload_n dX12_ways_62 rfl ?_
        refine ev_get dX12_ways_63 flX12_55_12 hM.1 rfl ?_
        refine ev_iload_n dX12_ways_66 rfl ?_
        refine ev_aload_n dX12_ways_67 rfl ?_
        refine ev_get dX12_ways_68 flX12_55_12 hM.1 rfl ?_
        refine ev_iload_n dX12_ways_71 rfl ?_
        refine ev_iconst (v := 1) dX12_ways_72 (by decide) ?_
        refine ev_isub dX12_ways_73 ?_
        refine ev_iald dX12_ways_74 (hM.a 24 26 (by decide)) ixp (show ((ost ρ0 n l).1 24)[rp.length]? = some (nI x) by rw [ost_at]; exact hx.1) ?_
        refine evM_iast hM hF (k := 24) (o := 26) (by decide) dX12_ways_75 (ix_n (by omega)) (show rp.length + 1 < ((ost ρ0 n l).1 24).length by rw [ost_at, hl]; omega) (fun μ hM hF => ?_)
        rw [ost_at, ost_l] at hM
        refine ev_iinc dX12_ways_76 rfl (by decide) ?_
        dsimp only [List.set]
        refine ev_goto (tgt := 32) dX12_ways_79 (by decide) ?_
        rw [nI_dec]
        rw [if_neg h59] at ht
        exact ih (x :: post) _ μ ht (by simp only [List.length_cons]; omega) (by rw [List.length_set]; exact hl) hmv hM hF
theorem ins_len {F : Nat → Nat → Int32} {ac : Int32} {h : Nat} : ∀ (rp post : List Nat), (ins F ac h rp post).length = rp.length + post.length + 1 := by
  intro rp
  induction rp with
  | nil => intro post; simp [ins]
  | cons x rp ih =>
    intro post
    rw [ins]
    split
    · simp; omega
    · rw [ih]; simp; omega
theorem l_waysOut {ρ0 : MS} (hL : ML ρ0) (hE : EqC ρ0 ρ) {w ac : Int32} (hac : ac = if w = 1 then 1 else 0) {n t tx : Nat} {cd : Nat → List Int32} {Lf : Nat → Nat} (hI : IM ρ n t tx cd Lf) {μ0 : Mm} : ∀ (m h : Nat) (os : List Nat) (l : List Int32) (o3 : Option Value) (μ : Mm), h + m = n → os.length = h → l.length = 7 → PreL l os → RM b (ost ρ0 n l) μ → FM b μ0 μ → Ev g 4 mX12_ways 22 [some (.ref b), some (.int w), some (.int (nI h)), o3] [] μ (fun v μ' => v = some (.int (rd0 (Fc ρ) (Se ρ) (wayO (Fc ρ) ac m h os)).1) ∧ MW b ρ μ' ∧ FM b μ0 μ') := by
  have hI0 := hI.eqc hE
  have hn7 := hI.2.2.1.2
  intro m
  induction m with
  | zero =>
    intro h os l o3 μ hm hos hl hp hM hF
    have hm : h = n := by omega
    subst hm
    have hO := hp.om (ρ := ρ0) (by omega)
    rw [hos] at hO
    refine ev_iload_n dX12_ways_22 rfl ?_
    refine ev_aload_n dX12_ways_23 rfl ?_
    refine ev_get dX12_ways_24 flX12_82_12 hM.1 rfl ?_
    refine ev_icmp_ge (tgt := 95) dX12_ways_27 (by decide) (fun _ => ?_) (fun h27 => absurd ((show ρ0.2 7 ≤ nI h by rw [hI0.2.2.1.1]; exact nI_le (by omega) (by omega))) h27)
    refine ev_aload_n dX12_ways_95 rfl ?_
    refine k_v (c_walksO hM (ost_L hL hl) (ost_E hE) hI hO) (by decide) dX12_ways_96 cbX12_walks (mt6 24 rfl rfl) (mt6 26 rfl rfl) (ms0 65 rfl rfl) (ci := 12) rfl hM.1 rfl rfl (Nat.le_of_ble_eq_true rfl) (fun v μ1 hq => ?_)
    obtain ⟨rfl, hW1, hF1⟩ := hq; have hF := hF.tr hF1
    simp only [Option.toList, List.cons_append, List.nil_append]
    refine ev_iret dX12_ways_99 rfl ?_
    exact ⟨rfl, hW1, hF⟩
  | succ m ih =>
    intro h os l o3 μ hm hos hl hp hM hF
    rw [wayO]
    refine ev_iload_n dX12_ways_22 rfl ?_
    refine ev_aload_n dX12_ways_23 rfl ?_
    refine ev_get dX12_ways_24 flX12_82_12 hM.1 rfl ?_
    refine ev_icmp_ge (tgt := 95) dX12_ways_27 (by decide) (fun h27 => absurd h27 ((show ¬ ρ0.2 7 ≤ nI h by rw [hI0.2.2.1.1]; exact nI_ge (by omega) (by omega)))) (fun _ => ?_)
    refine ev_iload_n dX12_ways_30 rfl ?_
    refine ev_istore_n dX12_ways_31 (by decide) ?_
    dsimp only [List.set]
    have hz := l_waysIn (μ0 := μ0) hL hac (n := n) (h := h) (by omega) (ins (Fc ρ0) ac h os.reverse []) (Q := (fun v μ' => v = some (.int (rd0 (Fc ρ) (Se ρ) (wayO (Fc ρ) ac m (h + 1) (ins (Fc ρ) ac h os.reverse []))).1) ∧ MW b ρ μ' ∧ FM b μ0 μ')) (fun l o3 μ q1 q2 q3 q4 => by rw [← hE.fc]; rw [← hE.fc] at ih; exact ih (h + 1) _ l o3 μ (by omega) (by rw [ins_len]; simp; omega) q1 q2 q3 q4) os.reverse [] l μ rfl (by simp; omega) hl ⟨by rw [List.reverse_reverse]; exact hp, fun i x hx => by simp at hx⟩ hM hF
    rw [List.length_reverse, hos] at hz
    exact hz
theorem c_ways {μ : Mm} (hW : MW b ρ μ) {n t tx : Nat} {cd : Nat → List Int32} {Lf : Nat → Nat} (hI : IM ρ n t tx cd Lf) (w : Int32) : Mt g 4 mX12_ways [.ref b, .int w] μ (fun v μ' => v = some (.int (ansWays ρ n w)) ∧ MW b ρ μ' ∧ FM b μ μ') := by
  refine Mt.of0 (ls0 := [some (.ref b), some (.int w), none, none]) (by decide) (by simp [Value.category]) (Nat.le_of_ble_eq_true rfl) rfl ?_
  obtain ⟨ρ0, hM, hL, hE⟩ := id hW
  have hF : FM b μ μ := FM.rf
  have hI0 := hI.eqc hE
  rw [ansWays]
  refine ev_iload_n dX12_ways_0 rfl ?_
  refine ev_iconst (v := 0) dX12_ways_1 (by decide) ?_
  refine ev_iconst (v := 1) dX12_ways_2 (by decide) ?_
  refine k_s (c_isIn w 0 1) (by decide) dX12_ways_3 cbX12_isIn (mt5 123 rfl rfl) (mt5 124 rfl rfl) rfl rfl (Nat.le_of_ble_eq_true rfl) (fun v μ1 hq => ?_)
  obtain ⟨rfl, hμ⟩ := hq
  have hμ := hμ.symm
  subst hμ
  simp only [Option.toList, List.cons_append, List.nil_append]
  refine ev_if_ne (tgt := 12) dX12_ways_6 (by decide) (fun h6 => ?_) (fun h6 => ?_)
  · refine ev_aload_n dX12_ways_12 rfl ?_
    refine ev_aload_n dX12_ways_13 rfl ?_
    refine ev_get dX12_ways_14 flX12_82_12 hM.1 rfl ?_
    refine evM_put hM hF (k := 26) (by decide) dX12_ways_17 fpX12_208_12 rfl rfl (fun μ hM hF => ?_)
    refine ev_iconst (v := 0) dX12_ways_20 (by decide) ?_
    refine ev_istore_n dX12_ways_21 (by decide) ?_
    dsimp only [List.set]
    rw [if_pos (b2i_ne h6)]
    exact l_waysOut hL hE rfl hI n 0 [] (ρ0.1 24) _ _ (by omega) rfl (hL.at (by decide)) (fun i h hh => by simp at hh) (by have e : setA ρ0 24 (ρ0.1 24) = ρ0 := setA_self; rw [ost, e, ← hI0.2.2.1.1]; exact hM) hF
  · refine ev_bipush (v := (-2)) dX12_ways_9 (by decide) ?_
    refine ev_iret dX12_ways_11 rfl ?_
    rw [if_neg (b2i_eq h6)]
    exact ⟨rfl, hW, hF⟩
end MWAYS
