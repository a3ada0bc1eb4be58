/-! ===== the class's reader: a rule is made; read ===== -/
theorem cpyL_take {L : List Int32} {n : Nat} (h : n ≤ L.length) : cpyL L (List.replicate n 0) 0 0 n = L.take n := by
  apply List.ext_getElem?
  intro i
  by_cases hi : i < n
  · rw [gd (by rw [cpyL_len, List.length_replicate]; exact hi), cpyL_D (by rw [List.length_replicate]; exact hi), if_pos ⟨Nat.zero_le _, by omega⟩, List.getElem?_take_of_lt hi, gd (by omega)]
    simp
  · rw [List.getElem?_eq_none (by rw [cpyL_len, List.length_replicate]; omega), List.getElem?_eq_none (by rw [List.length_take]; omega)]
theorem ix_z {n : Nat} (h : n < 2 ^ 31) {x : Int32} (e : x = nI n) : ix x n := by rw [e]; exact ix_n h
theorem txK_n1 {m k : Nat} {s : List Int32} (h : ¬ tkK s = nI (3 + k)) : txK (m + 1) k s = (false, s, []) := by rw [txK, if_neg h]
theorem txK_n2 {m k : Nat} {s : List Int32} (h : tkK s = nI (3 + k)) (hg : (rowR true (nxT s) ([], [], 0)).1 = false) : txK (m + 1) k s = (false, (rowR true (nxT s) ([], [], 0)).2.1, []) := by rw [txK, if_pos h, if_neg (by rw [hg]; decide)]
theorem txK_go {m k : Nat} {s : List Int32} (h : tkK s = nI (3 + k)) (hg : (rowR true (nxT s) ([], [], 0)).1 = true) : txK (m + 1) k s = ((txK m (k + 1) (rowR true (nxT s) ([], [], 0)).2.1).1, (txK m (k + 1) (rowR true (nxT s) ([], [], 0)).2.1).2.1, (rowR true (nxT s) ([], [], 0)).2.2.2.1 :: (txK m (k + 1) (rowR true (nxT s) ([], [], 0)).2.1).2.2) := by rw [txK, if_pos h, if_pos hg]
theorem RDo.new {r : Nat} {f : Nat → Int32} {T C : List Int32} {μ : Mm} (h : RDo r f T C μ) (hr : r + 3 ≤ μ.2.1) (e : MC) (k : Nat) : RDo r f T C (mnew μ e k) := ⟨by rw [mnew_ne (by omega)]; exact h.1, by rw [mnew_ne (by omega)]; exact h.2.1, by rw [mnew_ne (by omega)]; exact h.2.2⟩
/-- nothing was read; where that is seen -/
def RdN (r : Nat) (T tp : List Int32) (μ : Mm) : Prop := ∃ (f : Nat → Int32) (C : List Int32), RDo r f T C μ ∧ C.length = 160 ∧ f 0 = nI tp.length ∧ f 1 = nI (psn tp (txK 3 0 (skp tp)).2.1)
/-- a rule was read and made -/
def RdY (r : Nat) (T tp : List Int32) (μ0 μ : Mm) : Prop := ∃ (c0 c1 c2 : List Int32) (f : Nat → Int32) (C : List Int32), (txK 3 0 (skp tp)).2.2 = [c0, c1, c2] ∧ (HB c0 ∧ HB c1 ∧ HB c2) ∧ c0.length + c1.length + c2.length ≤ 160 ∧ RDo r f T C μ ∧ C.length = 160 ∧ f 0 = nI tp.length ∧ μ.1 μ0.2.1 = some (obj 5 [.ref (μ0.2.1 + 1), .int (nI c0.length), .int (nI (c0.length + c1.length)), .ref (μ0.2.1 + 2)]) ∧ μ.1 (μ0.2.1 + 1) = some (iar ((c0 ++ c1 ++ c2).map en)) ∧ μ.1 (μ0.2.1 + 2) = some (iar (List.replicate 32 0)) ∧ μ.2.1 = μ0.2.1 + 3 ∧ (μ0.2.2 ≤ μ.2.2 ∧ μ.2.2 ≤ μ0.2.2 + 200) ∧ ∀ q, (q < r ∨ r + 3 ≤ q) → q < μ0.2.1 → μ.1 q = μ0.1 q
section KREAD
variable {g : Gl} {μ : Mm}
theorem c_iX5 {w c : Nat} {x y : Int32} (hw : w < μ.2.1) (hm : μ.1 w = some (obj 5 [.null, .int 0, .int 0, .null])) : Mt g 1 mX5_init [.ref w, .ref c, .int x, .int y] μ (fun v μ' => v = none ∧ μ' = mupd (mnew μ (iar (List.replicate 32 0)) 32) w (obj 5 [.ref c, .int x, .int y, .ref μ.2.1])) := by
  refine Mt.of0 (ls0 := [some (.ref w), some (.ref c), some (.int x), some (.int y)]) (by decide) (by simp [Value.category]) (Nat.le_of_ble_eq_true rfl) rfl ?_
  have hm2 : (mnew μ (iar (List.replicate 32 0)) 32).1 w = some (obj 5 [.null, .int 0, .int 0, .null]) := by rw [mnew_ne (by omega)]; exact hm
  refine ev_aload_n dX5_init_0 rfl ?_
  refine ev_objInit dX5_init_1 (mt2 94 rfl rfl) (mt1 27 rfl rfl) (mt1 28 rfl rfl) (Nat.le_of_ble_eq_true rfl) ?_
  refine ev_aload_n dX5_init_4 rfl ?_
  refine ev_bipush (v := 32) dX5_init_5 (by decide) ?_
  refine ev_newa (N := 32) dX5_init_7 (ix_z (by decide) rfl) (by decide) ?_
  refine ev_putF dX5_init_9 fpX5_11_5 rfl hm2 (Nat.le_of_ble_eq_true rfl) rfl rfl ?_
  dsimp only [List.set]
  refine ev_aload_n dX5_init_12 rfl ?_
  refine ev_aload_n dX5_init_13 rfl ?_
  refine ev_putFO dX5_init_14 fpX5_15_5 rfl (Nat.le_of_ble_eq_true rfl) rfl rfl ?_
  dsimp only [List.set]
  refine ev_aload_n dX5_init_17 rfl ?_
  refine ev_iload_n dX5_init_18 rfl ?_
  refine ev_putFO dX5_init_19 fpX5_18_5 rfl (Nat.le_of_ble_eq_true rfl) rfl rfl ?_
  dsimp only [List.set]
  refine ev_aload_n dX5_init_22 rfl ?_
  refine ev_iload_n dX5_init_23 rfl ?_
  refine ev_putFO dX5_init_24 fpX5_22_5 rfl (Nat.le_of_ble_eq_true rfl) rfl rfl ?_
  dsimp only [List.set]
  refine ev_vret dX5_init_27 rfl ?_
  exact ⟨rfl, rfl⟩
theorem c_copyOf {c n : Nat} {L : List Int32} (hm : μ.1 c = some (iar L)) (hc : c ≠ μ.2.1) (hn : n < L.length) (hL : L.length ≤ 4000) : Mt g 1 mJ7_copyOf_59c91 [.ref c, .int (nI n)] μ (fun v μ' => v = some (.ref μ.2.1) ∧ μ' = mnew μ (iar (L.take n)) n) := by
  refine Mt.of0 (ls0 := [some (.ref c), some (.int (nI n)), none]) (by decide) (by simp [Value.category]) (Nat.le_of_ble_eq_true rfl) rfl ?_
  have hm2 : (mnew μ (iar (List.replicate n 0)) n).1 c = some (iar L) := by rw [mnew_ne hc]; exact hm
  refine ev_iload_n dJ7_copyOf_59c91_0 rfl ?_
  refine ev_aload_n dJ7_copyOf_59c91_1 rfl ?_
  refine ev_alen dJ7_copyOf_59c91_2 hm ?_
  refine ev_icmp_ne (tgt := 14) dJ7_copyOf_59c91_3 (by decide) (fun _ => ?_) (fun h3 => absurd h3 ((fun q => absurd ((nI_eq (by omega) (by omega)).mp q) (by omega))))
  refine ev_iload_n dJ7_copyOf_59c91_14 rfl ?_
  refine ev_newa (N := n) dJ7_copyOf_59c91_15 (ix_n (by omega)) (by omega) ?_
  refine ev_astore_n dJ7_copyOf_59c91_17 (by decide) ?_
  dsimp only [List.set]
  refine ev_aload_n dJ7_copyOf_59c91_18 rfl ?_
  refine ev_iconst (v := 0) dJ7_copyOf_59c91_19 (by decide) ?_
  refine ev_aload_n dJ7_copyOf_59c91_20 rfl ?_
  refine ev_iconst (v := 0) dJ7_copyOf_59c91_21 (by decide) ?_
  refine ev_aload_n dJ7_copyOf_59c91_22 rfl ?_
  refine ev_alen dJ7_copyOf_59c91_23 hm2 ?_
  refine ev_iload_n dJ7_copyOf_59c91_24 rfl ?_
  refine ev_mmin dJ7_copyOf_59c91_25 (mt2 85 rfl rfl) (Nat.le_of_ble_eq_true rfl) ?_
  rw [if_pos (nI_lt hn (by omega))]
  refine ev_copyi dJ7_copyOf_59c91_28 (mt2 88 rfl rfl) hm2 mnew_at (s' := 0) (d' := 0) (ix_z (by decide) rfl) (ix_z (by decide) rfl) (ix_n (by omega)) (by omega) (by rw [List.length_replicate]; omega) (Nat.le_of_ble_eq_true rfl) ?_
  rw [mupd_mnew, cpyL_take (by omega)]
  refine ev_aload_n dJ7_copyOf_59c91_31 rfl ?_
  refine ev_aret dJ7_copyOf_59c91_32 rfl (by simp) (Or.inr ⟨_, rfl⟩) ?_
  exact ⟨rfl, rfl⟩
variable {r : Nat} {T tp : List Int32}
theorem l_read61 {μ0 : Mm} (hF : FR r μ0 μ) (hr : r + 3 ≤ μ0.2.1) {s c0 c1 c2 : List Int32} (hS : RdS r T tp s (c0 ++ c1 ++ c2) μ) (hl : (c0 ++ c1 ++ c2).length < 160) (hB : HB c0 ∧ HB c1 ∧ HB c2) (hX : (txK 3 0 (skp tp)).2.2 = [c0, c1, c2]) : Ev g 66 mX4_read 61 [some (.ref r), some (.int (nI c0.length)), some (.int (nI (c0.length + c1.length)))] [] μ (fun v μ' => v = some (.ref μ0.2.1) ∧ RdY r T tp μ0 μ') := by
  obtain ⟨f, C, hO0, hC, h0, hK, h4, hc⟩ := hS
  have h2 : μ.2.1 = μ0.2.1 := by rw [hF.1]
  have h22 : μ.2.2 = μ0.2.2 := by rw [hF.1]
  have hO := hO0.new (by omega : r + 3 ≤ μ.2.1) (obj 5 [.null, .int 0, .int 0, .null]) 4
  have htk : C.take (c0 ++ c1 ++ c2).length = (c0 ++ c1 ++ c2).map en := by
    apply List.ext_getElem?
    intro i
    rw [List.getElem?_map]
    by_cases hi : i < (c0 ++ c1 ++ c2).length
    · rw [List.getElem?_take_of_lt hi, List.getElem?_eq_getElem hi]
      exact hc i _ (List.getElem?_eq_getElem hi)
    · rw [List.getElem?_eq_none (by rw [List.length_take]; omega), List.getElem?_eq_none (by omega)]
      rfl
  have n1 : ∀ e : MC, (mnew (mnew μ (obj 5 [.null, .int 0, .int 0, .null]) 4) e (c0 ++ c1 ++ c2).length).1 μ.2.1 = some (obj 5 [.null, .int 0, .int 0, .null]) := fun e => by
    rw [mnew_ne (show μ.2.1 ≠ μ.2.1 + 1 by omega)]; exact mnew_at
  refine ev_new (ci := 5) (N := 4) (fs := [.null, .int 0, .int 0, .null]) dX4_read_61 rfl uwX5 tyX5_ok (mt2 78 rfl rfl) (mt2 79 rfl rfl) (mt1 10 rfl rfl) (fun j hj ↦ by have q : j = 0 ∨ j = 1 ∨ j = 2 ∨ j = 3 := (by omega); rcases q with rfl | rfl | rfl | rfl <;> rfl) ?_
  refine ev_dup dX4_read_64 rfl ?_
  refine ev_aload_n dX4_read_65 rfl ?_
  refine ev_get dX4_read_66 flX4_22_4 hO.1 rfl ?_
  refine ev_aload_n dX4_read_69 rfl ?_
  refine ev_get dX4_read_70 flX4_25_4 hO.1 rfl ?_
  rw [h4]
  refine k_s (c_copyOf hO.2.2 (show r + 2 ≠ μ.2.1 + 1 by omega) (by rw [hC]; exact hl) (by rw [hC]; decide)) (by decide) dX4_read_73 cbJ7_copyOf_59c91 (mt2 80 rfl rfl) (mt2 81 rfl rfl) rfl rfl (Nat.le_of_ble_eq_true rfl) (fun v μ1 hq => ?_)
  obtain ⟨rfl, hq⟩ := hq; subst hq; rw [htk]
  simp only [Option.toList, List.cons_append, List.nil_append]
  refine ev_iload_n dX4_read_76 rfl ?_
  refine ev_iload_n dX4_read_77 rfl ?_
  refine k_i (c_iX5 (show μ.2.1 < μ.2.1 + 1 + 1 by omega) (n1 _)) (by decide) dX4_read_78 cbX5_init rfl (mt2 91 rfl rfl) (mt2 92 rfl rfl) (by decide) rfl rfl (Nat.le_of_ble_eq_true rfl) (fun v μ1 hq => ?_)
  obtain ⟨rfl, hq⟩ := hq; subst hq
  simp only [Option.toList, List.cons_append, List.nil_append]
  refine ev_aret dX4_read_81 rfl (by simp) (Or.inr ⟨_, rfl⟩) ?_
  refine ⟨by rw [h2], c0, c1, c2, f, C, hX, hB, by simp only [List.length_append] at hl; omega, ⟨?_, ?_, ?_⟩, hC, h0, ?_, ?_, ?_, ?_, ?_, fun q hq1 hq2 => ?_⟩
  · rw [mupd_ne (by omega), mnew_ne (show r ≠ μ.2.1 + 1 + 1 by omega), mnew_ne (show r ≠ μ.2.1 + 1 by omega)]; exact hO.1
  · rw [mupd_ne (by omega), mnew_ne (show r + 1 ≠ μ.2.1 + 1 + 1 by omega), mnew_ne (show r + 1 ≠ μ.2.1 + 1 by omega)]; exact hO.2.1
  · rw [mupd_ne (by omega), mnew_ne (show r + 2 ≠ μ.2.1 + 1 + 1 by omega), mnew_ne (show r + 2 ≠ μ.2.1 + 1 by omega)]; exact hO.2.2
  · rw [← h2]; exact mupd_eq
  · rw [← h2, mupd_ne (by omega), mnew_ne (show μ.2.1 + 1 ≠ μ.2.1 + 1 + 1 by omega)]; exact mnew_at
  · rw [← h2, mupd_ne (by omega)]; exact mnew_at
  · show μ.2.1 + 1 + 1 + 1 = _; omega
  · show μ0.2.2 ≤ μ.2.2 + 4 + (c0 ++ c1 ++ c2).length + 32 ∧ μ.2.2 + 4 + (c0 ++ c1 ++ c2).length + 32 ≤ μ0.2.2 + 200
    omega
  · rw [mupd_ne (by omega), mnew_ne (show q ≠ μ.2.1 + 1 + 1 by omega), mnew_ne (show q ≠ μ.2.1 + 1 by omega), mnew_ne (by omega)]
    exact hF.2 q hq1
/-- a part that fails, as the reference has it -/
theorem LvF.tx {s : List Int32} {m k : Nat} (h : (¬ tkK s = nI (3 + k) ∧ LvF r T tp (false, (s, ([], [], 0))) μ) ∨ (tkK s = nI (3 + k) ∧ LvF r T tp (rowR true (nxT s) ([], [], 0)) μ)) : (txK (m + 1) k s).1 = false ∧ ∃ (f : Nat → Int32) (C : List Int32), RDo r f T C μ ∧ C.length = 160 ∧ f 0 = nI tp.length ∧ f 1 = nI (psn tp (txK (m + 1) k s).2.1) := by
  rcases h with ⟨h1, -, h2⟩ | ⟨h1, h3, h2⟩
  · rw [txK_n1 h1]; exact ⟨rfl, h2⟩
  · rw [txK_n2 h1 h3]; exact ⟨rfl, h2⟩
theorem c_read {f : Nat → Int32} {C : List Int32} (hO : RDo r f T C μ) (hC : C.length = 160) (hT : RT T tp) (h0 : f 0 = nI tp.length) (hr : r + 3 ≤ μ.2.1) : Mt g 66 mX4_read [.ref r] μ (fun v μ' => (txB tp = true ∧ v = some (.ref μ.2.1) ∧ RdY r T tp μ μ') ∨ (¬ txB tp = true ∧ v = some .null ∧ RdN r T tp μ' ∧ FR r μ μ')) := by
  refine Mt.of0 (ls0 := [some (.ref r), none, none]) (by decide) (by simp [Value.category]) (Nat.le_of_ble_eq_true rfl) rfl ?_
  have hF : FR r μ μ := FR.rf
  have h160 := hT.1
  have hBt : txB tp = true ↔ ((txK 3 0 (skp tp)).1 = true ∧ tkK (txK 3 0 (skp tp)).2.1 = 0) := decide_eq_true_iff
  refine ev_aload_n dX4_read_0 rfl ?_
  refine ev_iconst (v := 0) dX4_read_1 (by decide) ?_
  refine evR_put hO hF (k := 5) (by decide) dX4_read_2 fpX4_28_4 (fun μ hO hF => ?_)
  refine ev_aload_n dX4_read_5 rfl ?_
  refine ev_iconst (v := 0) dX4_read_6 (by decide) ?_
  refine evR_put hO hF (k := 4) (by decide) dX4_read_7 fpX4_25_4 (fun μ hO hF => ?_)
  refine ev_aload_n dX4_read_10 rfl ?_
  refine k_v (c_advance (x := tp) hO hT (show (rset (rset f 5 0) 4 0) 0 = _ from h0) Sfx.rf (show (rset (rset f 5 0) 4 0) 5 = nI (tp.length - tp.length) by rw [Nat.sub_self]; rfl)) (by decide) dX4_read_11 cbX4_advance (mt1 231 rfl rfl) (mt1 233 rfl rfl) (ms0 0 rfl rfl) (ci := 4) rfl hO.1 rfl rfl (Nat.le_of_ble_eq_true rfl) (fun v μ1 hq => ?_)
  obtain ⟨rfl, ⟨f1, hO1, hE1, hK1⟩, hF2⟩ := hq; have hF := hF.tr hF2; clear hF2
  simp only [Option.toList, List.cons_append, List.nil_append]
  have hS : RdS r T tp (skp tp) [] _ := ⟨f1, C, hO1, hC, (hE1 0 (by decide)).trans h0, hK1, hE1 4 (by decide), fun i c hi => by simp at hi⟩
  have hs0 := hS.sfx
  obtain ⟨f, C1, hO, hC1, h00, hK, h4, hc4⟩ := id hS
  refine ev_aload_n dX4_read_14 rfl ?_
  refine ev_iconst (v := 3) dX4_read_15 (by decide) ?_
  refine k_v (c_part hS hT (Nat.zero_le _) 3 (by decide)) (by decide) dX4_read_16 cbX4_part (mt2 30 rfl rfl) (mt2 32 rfl rfl) (ms0 4 rfl rfl) (ci := 4) rfl hO.1 rfl rfl (Nat.le_of_ble_eq_true rfl) (fun v μ1 hq => ?_)
  obtain ⟨hF2, z3, rfl, hz3⟩ := hq; have hF := hF.tr hF2; clear hF2
  simp only [Option.toList, List.cons_append, List.nil_append]
  refine ev_if_ne (tgt := 24) dX4_read_19 (by decide) (fun h19 => ?_) (fun h19 => ?_)
  · obtain ⟨-, e3, g3, hS, hB3, hD3⟩ := hz3.resolve_right (fun q => q.elim (fun q => h19 q.1) (fun q => h19 q.1))
    have X3 := txK_go (m := 2) (k := 0) e3 g3
    generalize (rowR true (nxT (skp tp)) ([], [], 0)).2.1 = s1 at hS hD3 X3
    generalize (rowR true (nxT (skp tp)) ([], [], 0)).2.2.2.1 = c0 at hS hB3 hD3 X3
    rw [List.nil_append] at hS hD3
    have hs1 := hS.sfx
    obtain ⟨f, C1, hO, hC1, h00, hK, h4, hc4⟩ := id hS
    refine ev_aload_n dX4_read_24 rfl ?_
    refine ev_get dX4_read_25 flX4_25_4 hO.1 rfl ?_
    rw [h4]
    refine ev_istore_n dX4_read_28 (by decide) ?_
    dsimp only [List.set]
    refine ev_aload_n dX4_read_29 rfl ?_
    refine ev_iconst (v := 4) dX4_read_30 (by decide) ?_
    refine k_v (c_part hS hT (Nat.le_of_lt hD3) 4 (by decide)) (by decide) dX4_read_31 cbX4_part (mt2 30 rfl rfl) (mt2 32 rfl rfl) (ms0 4 rfl rfl) (ci := 4) rfl hO.1 rfl rfl (Nat.le_of_ble_eq_true rfl) (fun v μ1 hq => ?_)
    obtain ⟨hF2, z4, rfl, hz4⟩ := hq; have hF := hF.tr hF2; clear hF2
    simp only [Option.toList, List.cons_append, List.nil_append]
    refine ev_if_ne (tgt := 39) dX4_read_34 (by decide) (fun h34 => ?_) (fun h34 => ?_)
    · obtain ⟨-, e4, g4, hS, hB4, hD4⟩ := hz4.resolve_right (fun q => q.elim (fun q => h34 q.1) (fun q => h34 q.1))
      have X4 := txK_go (m := 1) (k := 1) e4 g4
      generalize (rowR true (nxT s1) ([], [], 0)).2.1 = s2 at hS hD4 X4
      generalize (rowR true (nxT s1) ([], [], 0)).2.2.2.1 = c1 at hS hB4 hD4 X4
      have hs2 := hS.sfx
      obtain ⟨f, C1, hO, hC1, h00, hK, h4, hc4⟩ := id hS
      refine ev_aload_n dX4_read_39 rfl ?_
      refine ev_get dX4_read_40 flX4_25_4 hO.1 rfl ?_
      rw [h4, List.length_append]
      refine ev_istore_n dX4_read_43 (by decide) ?_
      dsimp only [List.set]
      refine ev_aload_n dX4_read_44 rfl ?_
      refine ev_iconst (v := 5) dX4_read_45 (by decide) ?_
      refine k_v (c_part hS hT (Nat.le_of_lt hD4) 5 (by decide)) (by decide) dX4_read_46 cbX4_part (mt2 30 rfl rfl) (mt2 32 rfl rfl) (ms0 4 rfl rfl) (ci := 4) rfl hO.1 rfl rfl (Nat.le_of_ble_eq_true rfl) (fun v μ1 hq => ?_)
      obtain ⟨hF2, z5, rfl, hz5⟩ := hq; have hF := hF.tr hF2; clear hF2
      simp only [Option.toList, List.cons_append, List.nil_append]
      refine ev_if_eq (tgt := 59) dX4_read_49 (by decide) (fun h49 => ?_) (fun h49 => ?_)
      · refine ev_null dX4_read_59 ?_
        refine ev_aret dX4_read_60 rfl (by simp) (Or.inl rfl) ?_
        first
          | (have h56' : ¬ tkK s3 = 0 := h56
             exact Or.inr ⟨fun q => by rw [hBt, X] at q; exact h56' q.2, rfl, ⟨f, C1, hO, hC1, h00, by rw [X]; exact hK.2.1⟩, hF⟩)
          | (have q := hz5.resolve_left (fun q => by rw [q.1] at h49; exact absurd h49 (by decide))
             have qf := LvF.tx (m := 0) (k := 2) (q.imp (fun q => q.2) (fun q => q.2))
             exact Or.inr ⟨fun q => by rw [hBt, X3, X4] at q; exact absurd (qf.1.symm.trans q.1) (by decide), rfl, by unfold RdN; rw [X3, X4]; exact qf.2, hF⟩)
      · obtain ⟨-, e5, g5, hS, hB5, hD5⟩ := hz5.resolve_right (fun q => q.elim (fun q => h49 q.1) (fun q => h49 q.1))
        have X5 := txK_go (m := 0) (k := 2) e5 g5
        generalize (rowR true (nxT s2) ([], [], 0)).2.1 = s3 at hS hD5 X5
        generalize (rowR true (nxT s2) ([], [], 0)).2.2.2.1 = c2 at hS hB5 hD5 X5
        have X : txK 3 0 (skp tp) = (true, s3, [c0, c1, c2]) := by rw [X3, X4, X5]; rfl
        obtain ⟨f, C1, hO, hC1, h00, hK, h4, hc4⟩ := id hS
        refine ev_aload_n dX4_read_52 rfl ?_
        refine ev_get dX4_read_53 flX4_31_4 hO.1 rfl ?_
        rw [hK.2.2.1]
        refine ev_if_eq (tgt := 61) dX4_read_56 (by decide) (fun h56 => ?_) (fun h56 => ?_)
        · refine (l_read61 hF hr hS ?_ ⟨hB3, hB4, hB5⟩ (by rw [X])).imp (fun v μ' hq => Or.inl ⟨by rw [hBt, X]; exact ⟨rfl, h56⟩, hq⟩)
          have := psn_le (tp := tp) (s := s3)
          omega
        · refine ev_null dX4_read_59 ?_
          refine ev_aret dX4_read_60 rfl (by simp) (Or.inl rfl) ?_
          first
            | (have h56' : ¬ tkK s3 = 0 := h56
               exact Or.inr ⟨fun q => by rw [hBt, X] at q; exact h56' q.2, rfl, ⟨f, C1, hO, hC1, h00, by rw [X]; exact hK.2.1⟩, hF⟩)
            | (have q := hz5.resolve_left (fun q => by rw [q.1] at h49; exact absurd h49 (by decide))
               have qf := LvF.tx (m := 0) (k := 2) (q.imp (fun q => q.2) (fun q => q.2))
               exact Or.inr ⟨fun q => by rw [hBt, X3, X4] at q; exact absurd (qf.1.symm.trans q.1) (by decide), rfl, by unfold RdN; rw [X3, X4]; exact qf.2, hF⟩)
    · refine ev_null dX4_read_37 ?_
      refine ev_aret dX4_read_38 rfl (by simp) (Or.inl rfl) ?_
      have q := hz4.resolve_left (fun q => by rw [q.1] at h34; exact absurd h34 (by decide))
      have qf := LvF.tx (m := 1) (k := 1) (q.imp (fun q => q.2) (fun q => q.2))
      exact Or.inr ⟨fun q => by rw [hBt, X3] at q; exact absurd (qf.1.symm.trans q.1) (by decide), rfl, by unfold RdN; rw [X3]; exact qf.2, hF⟩
  · refine ev_null dX4_read_22 ?_
    refine ev_aret dX4_read_23 rfl (by simp) (Or.inl rfl) ?_
    have q := hz3.resolve_left (fun q => by rw [q.1] at h19; exact absurd h19 (by decide))
    have qf := LvF.tx (m := 2) (k := 0) (q.imp (fun q => q.2) (fun q => q.2))
    exact Or.inr ⟨fun q => by rw [hBt, qf.1] at q; exact absurd q.1 (by decide), rfl, qf.2, hF⟩
end KREAD
