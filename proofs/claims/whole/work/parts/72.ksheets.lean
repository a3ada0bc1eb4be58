/-! ===== the class: sheets that change ===== -/
def filL (v : Int32) (L : List Int32) : Nat → Nat → List Int32
  | 0, _ => L
  | m + 1, k => filL v (L.set k v) m (k + 1)
theorem filL_len {v : Int32} : ∀ (m k : Nat) (L : List Int32), (filL v L m k).length = L.length := by
  intro m
  induction m with
  | zero => intro k L; rfl
  | succ m ih => intro k L; rw [filL, ih, List.length_set]
theorem filL_D {v : Int32} {j : Nat} : ∀ (m k : Nat) (L : List Int32), k + m = L.length → j < L.length → (filL v L m k).getD j 0 = if k ≤ j then v else L.getD j 0 := by
  intro m
  induction m with
  | zero => intro k L h1 h2; rw [filL, if_neg (by omega)]
  | succ m ih =>
    intro k L h1 h2
    rw [filL, ih _ _ (by rw [List.length_set]; omega) (by rw [List.length_set]; exact h2)]
    by_cases q : k + 1 ≤ j
    · rw [if_pos q, if_pos (by omega)]
    · rw [if_neg q]
      by_cases q2 : k = j
      · subst q2
        rw [if_pos (Nat.le_refl _), List.getD_eq_getElem?_getD, List.getElem?_set_self h2]; rfl
      · rw [if_neg (by omega), List.getD_eq_getElem?_getD, List.getD_eq_getElem?_getD, List.getElem?_set_ne q2]
section KSHEETS
variable {g : Gl} {μ : Mm} {w it : Nat} {L : List Int32} {so sz : Int32}
theorem ev_iastO {d : Nat} {Y : Md} {pc : Nat} {ls : List (Option Value)} {st : List Value} {Q : Option Value → Mm → Prop} {i x : Int32} {j : Nat} (hd : decode (mC Y) pc = .ok (.iastore, 1)) (hx : ix i j) (hj : j < L.length) (kk : Ev g d Y (pc + 1) ls st (mupd μ it (iar (L.set j x))) Q) : Ev g d Y pc ls (.int x :: .int i :: .ref it :: st) (mupd μ it (iar L)) Q :=
  ev_iast hd mupd_eq hx hj (by rw [mupd_mupd]; exact kk)
theorem l_fill {v : Int32} {N : Nat} (hN : N < 1000) : ∀ (m k : Nat) (L : List Int32), k + m = N → L.length = N → Ev g 0 mJ7_fill_53178 5 [some (.ref it), some (.int v), some (.int (nI k)), some (.int (nI N))] [] (mupd μ it (iar L)) (fun r μ' => r = none ∧ μ' = mupd μ it (iar (filL v L m k))) := by
  intro m
  induction m with
  | zero =>
    intro k L hk hL
    refine ev_iload_n dJ7_fill_53178_5 rfl ?_
    refine ev_iload_n dJ7_fill_53178_6 rfl ?_
    refine ev_icmp_ge (tgt := 20) dJ7_fill_53178_7 (by decide) (fun _ => ?_) (fun h7 => absurd ((show nI N ≤ nI k from nI_le (by omega) (by omega))) h7)
    refine ev_vret dJ7_fill_53178_20 rfl ?_
    exact ⟨rfl, rfl⟩
  | succ m ih =>
    intro k L hk hL
    refine ev_iload_n dJ7_fill_53178_5 rfl ?_
    refine ev_iload_n dJ7_fill_53178_6 rfl ?_
    refine ev_icmp_ge (tgt := 20) dJ7_fill_53178_7 (by decide) (fun h7 => absurd h7 ((show ¬ nI N ≤ nI k from nI_ge (by omega) (by omega)))) (fun _ => ?_)
    refine ev_aload_n dJ7_fill_53178_10 rfl ?_
    refine ev_iload_n dJ7_fill_53178_11 rfl ?_
    refine ev_iload_n dJ7_fill_53178_12 rfl ?_
    refine ev_iastO dJ7_fill_53178_13 (ix_n (by omega)) (by omega) ?_
    refine ev_iinc dJ7_fill_53178_14 rfl (by decide) ?_
    dsimp only [List.set]
    refine ev_goto (tgt := 5) dJ7_fill_53178_17 (by decide) ?_
    rw [nI_inc]
    exact ih (k + 1) _ (by omega) (by rw [List.length_set]; exact hL)
theorem c_jfill (hL : μ.1 it = some (iar L)) (hl : L.length < 1000) (v : Int32) : Mt g 0 mJ7_fill_53178 [.ref it, .int v] μ (fun r μ' => r = none ∧ μ' = mupd μ it (iar (filL v L L.length 0))) := by
  refine Mt.of0 (ls0 := [some (.ref it), some (.int v), none, none]) (by decide) (by simp [Value.category]) (Nat.le_of_ble_eq_true rfl) rfl ?_
  refine ev_own hL ?_
  refine ev_iconst (v := 0) dJ7_fill_53178_0 (by decide) ?_
  refine ev_istore_n dJ7_fill_53178_1 (by decide) ?_
  dsimp only [List.set]
  refine ev_aload_n dJ7_fill_53178_2 rfl ?_
  refine ev_alen dJ7_fill_53178_3 mupd_eq ?_
  refine ev_istore_n dJ7_fill_53178_4 (by decide) ?_
  dsimp only [List.set]
  exact l_fill hl L.length 0 L (by omega) rfl
theorem c_kPut (hm : μ.1 w = some (obj 7 [.int so, .int sz, .ref it])) (hL : μ.1 it = some (iar L)) {i : Int32} {i' : Nat} (hi : i' < L.length) (hix : ix i i') (hh : hasP sz i 1) (v : Int32) : Mt g 1 mX7_put [.ref w, .int i, .int v] μ (fun r μ' => r = none ∧ μ' = mupd μ it (iar (L.set i' (cutS so v)))) := by
  refine Mt.of0 (ls0 := [some (.ref w), some (.int i), some (.int v)]) (by decide) (by simp [Value.category]) (Nat.le_of_ble_eq_true rfl) rfl ?_
  rw [cutS]
  refine ev_aload_n dX7_put_0 rfl ?_
  refine ev_iload_n dX7_put_1 rfl ?_
  refine ev_iconst (v := 1) dX7_put_2 (by decide) ?_
  refine k_v (c_kHas hm i 1) (by decide) dX7_put_3 cbX7_has (mt4 68 rfl rfl) (mt4 69 rfl rfl) (mt4 70 rfl rfl) (ci := 7) rfl hm rfl rfl (Nat.le_of_ble_eq_true rfl) (fun v μ1 hq => ?_)
  obtain ⟨rfl, hμ⟩ := hq
  have hμ := hμ.symm
  subst hμ
  simp only [Option.toList, List.cons_append, List.nil_append]
  rw [b2i_t hh]
  refine ev_if_eq (tgt := 41) dX7_put_6 (by decide) (fun h6 => absurd h6 ((show ¬ (1 : Int32) = 0 by decide))) (fun _ => ?_)
  refine ev_aload_n dX7_put_9 rfl ?_
  refine ev_get dX7_put_10 flX7_18_7 hm rfl ?_
  refine ev_iload_n dX7_put_13 rfl ?_
  refine ev_aload_n dX7_put_14 rfl ?_
  refine ev_get dX7_put_15 flX7_11_7 hm rfl ?_
  refine ev_if_ne (tgt := 26) dX7_put_18 (by decide) (fun h18 => ?_) (fun h18 => ?_)
  · refine ev_aload_n dX7_put_26 rfl ?_
    refine ev_get dX7_put_27 flX7_11_7 hm rfl ?_
    refine ev_iconst (v := 1) dX7_put_30 (by decide) ?_
    refine ev_icmp_ne (tgt := 39) dX7_put_31 (by decide) (fun h31 => ?_) (fun h31 => ?_)
    · refine ev_iload_n dX7_put_39 rfl ?_
      refine ev_iast dX7_put_40 hL hix hi ?_
      refine ev_vret dX7_put_41 rfl ?_
      first
      | (refine ⟨rfl, ?_⟩; rw [if_pos (show so = 0 by assumption)]; done)
      | (refine ⟨rfl, ?_⟩; rw [if_neg (show ¬ so = 0 by assumption), if_pos (show so = 1 by assumption)]; done)
      | (refine ⟨rfl, ?_⟩; rw [if_neg (show ¬ so = 0 by assumption), if_neg (show ¬ so = 1 by assumption)]; done)
    · refine ev_iload_n dX7_put_34 rfl ?_
      refine ev_i2s dX7_put_35 ?_
      refine ev_goto (tgt := 40) dX7_put_36 (by decide) ?_
      refine ev_iast dX7_put_40 hL hix hi ?_
      refine ev_vret dX7_put_41 rfl ?_
      first
      | (refine ⟨rfl, ?_⟩; rw [if_pos (show so = 0 by assumption)]; done)
      | (refine ⟨rfl, ?_⟩; rw [if_neg (show ¬ so = 0 by assumption), if_pos (show so = 1 by assumption)]; done)
      | (refine ⟨rfl, ?_⟩; rw [if_neg (show ¬ so = 0 by assumption), if_neg (show ¬ so = 1 by assumption)]; done)
  · refine ev_iload_n dX7_put_21 rfl ?_
    refine ev_i2b dX7_put_22 ?_
    refine ev_goto (tgt := 40) dX7_put_23 (by decide) ?_
    refine ev_iast dX7_put_40 hL hix hi ?_
    refine ev_vret dX7_put_41 rfl ?_
    first
    | (refine ⟨rfl, ?_⟩; rw [if_pos (show so = 0 by assumption)]; done)
    | (refine ⟨rfl, ?_⟩; rw [if_neg (show ¬ so = 0 by assumption), if_pos (show so = 1 by assumption)]; done)
    | (refine ⟨rfl, ?_⟩; rw [if_neg (show ¬ so = 0 by assumption), if_neg (show ¬ so = 1 by assumption)]; done)
theorem c_kBecome (hm : μ.1 w = some (obj 7 [.int so, .int sz, .ref it])) (hL : μ.1 it = some (iar L)) (hl : L.length < 1000) (hw : it ≠ w) (x z : Int32) : Mt g 1 mX7_become [.ref w, .int x, .int z] μ (fun r μ' => r = none ∧ μ' = mupd (mupd μ w (obj 7 [.int x, .int z, .ref it])) it (iar (filL 0 L L.length 0))) := by
  refine Mt.of0 (ls0 := [some (.ref w), some (.int x), some (.int z)]) (by decide) (by simp [Value.category]) (Nat.le_of_ble_eq_true rfl) rfl ?_
  refine ev_own hm ?_
  refine ev_aload_n dX7_become_0 rfl ?_
  refine ev_iload_n dX7_become_1 rfl ?_
  refine ev_putO dX7_become_2 fpX7_11_7 (Nat.le_of_ble_eq_true rfl) rfl rfl ?_
  dsimp only [List.set]
  refine ev_aload_n dX7_become_5 rfl ?_
  refine ev_iload_n dX7_become_6 rfl ?_
  refine ev_putO dX7_become_7 fpX7_15_7 (Nat.le_of_ble_eq_true rfl) rfl rfl ?_
  dsimp only [List.set]
  refine ev_aload_n dX7_become_10 rfl ?_
  refine ev_get dX7_become_11 flX7_18_7 mupd_eq rfl ?_
  refine ev_iconst (v := 0) dX7_become_14 (by decide) ?_
  refine k_s (c_jfill ((mupd_ne hw).trans hL) hl 0) (by decide) dX7_become_15 cbJ7_fill_53178 (mt4 203 rfl rfl) (mt4 204 rfl rfl) rfl rfl (Nat.le_of_ble_eq_true rfl) (fun v μ1 hq => ?_)
  obtain ⟨rfl, hq⟩ := hq; subst hq
  simp only [Option.toList, List.cons_append, List.nil_append]
  refine ev_vret dX7_become_18 rfl ?_
  exact ⟨rfl, rfl⟩
end KSHEETS
