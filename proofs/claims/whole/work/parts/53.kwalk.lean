/-! ===== the class: Math, walks, sheets ===== -/
section KOWN
variable {g : Gl} {d : Nat} {Y : Md} {pc : Nat} {ls : List (Option Value)} {st : List Value} {μ : Mm} {Q : Option Value → Mm → Prop}
theorem ev_own {w : Nat} {e : MC} (hm : μ.1 w = some e) (k : Ev g d Y pc ls st (mupd μ w e) Q) : Ev g d Y pc ls st μ Q := by rw [mupd_self hm] at k; exact k
theorem ev_putO {w idx ci k : Nat} {fs : List Value} {v : Value} {ty : FieldType} (hd : decode (mC Y) pc = .ok (.putfield idx, 3)) (hf : FP (mY Y).cls idx ci k ty false) (hl : k < fs.length) (hn : narrow ty v = v) (hfit : fits ty v = true) (kk : Ev g d Y (pc + 3) ls st (mupd μ w (obj ci (fs.set k v))) Q) : Ev g d Y pc ls (v :: .ref w :: st) (mupd μ w (obj ci fs)) Q :=
  ev_put hd hf mupd_eq hl hn hfit (by rw [mupd_mupd]; exact kk)
end KOWN
section KMATH
variable {g : Gl} {d : Nat} {Y : Md} {pc : Nat} {ls : List (Option Value)} {st : List Value} {μ : Mm} {Q : Option Value → Mm → Prop}
theorem ev_mmax {idx : Nat} {x y : Int32} (hd : decode (mC Y) pc = .ok (.invokestatic idx, 3)) (hl : Cond.methodLink (mY Y).cls idx Lib.Math.max.name ∈ GT) (hc : (st.map fun v => v.category).sum ≤ 8) (kk : Ev g (d + 1) Y (pc + 3) ls (.int (if x < y then y else x) :: st) μ Q) : Ev g (d + 1) Y pc ls (.int y :: .int x :: st) μ Q := by
  obtain ⟨v, μ', hQ, hG, hE⟩ := kk
  refine ⟨v, μ', hQ, hG, fun p e s m args below meth c R H locs k0 la X h1 h2 h3 h4 hR hS hL => ?_⟩
  have hts := X.2.1
  have hG1 := hG.1
  have hG2 := hG.2
  have hf := X.2.2.2.1
  have hlo := X.2.2.2.2
  exact va_mmax X.1.1 X.1.2.1 (X.1.2.2.1.trans hL.2.1.symm) X.1.2.2.2.2.2.2 (hts _ hl) (hts _ (show Cond.static Lib.Math.max.name ∈ GT from (mt3 168 rfl rfl))) (hts _ cbJ9_max_7cf53.2.1) (hts _ cbJ9_max_7cf53.1) (by omega) (by omega) (by omega) (by omega) hd (hE p e s m args below meth c R H locs k0 la X h1 h2 h3 h4 hR hS hL)
theorem ev_mmin {idx : Nat} {x y : Int32} (hd : decode (mC Y) pc = .ok (.invokestatic idx, 3)) (hl : Cond.methodLink (mY Y).cls idx Lib.Math.min.name ∈ GT) (hc : (st.map fun v => v.category).sum ≤ 8) (kk : Ev g (d + 1) Y (pc + 3) ls (.int (if y < x then y else x) :: st) μ Q) : Ev g (d + 1) Y pc ls (.int y :: .int x :: st) μ Q := by
  obtain ⟨v, μ', hQ, hG, hE⟩ := kk
  refine ⟨v, μ', hQ, hG, fun p e s m args below meth c R H locs k0 la X h1 h2 h3 h4 hR hS hL => ?_⟩
  have hts := X.2.1
  have hG1 := hG.1
  have hG2 := hG.2
  have hf := X.2.2.2.1
  have hlo := X.2.2.2.2
  exact va_mmin X.1.1 X.1.2.1 (X.1.2.2.1.trans hL.2.1.symm) X.1.2.2.2.2.2.2 (hts _ hl) (hts _ (show Cond.static Lib.Math.min.name ∈ GT from (mt2 86 rfl rfl))) (hts _ cbJ9_min_7cf53.2.1) (hts _ cbJ9_min_7cf53.1) (by omega) (by omega) (by omega) (by omega) hd (hE p e s m args below meth c R H locs k0 la X h1 h2 h3 h4 hR hS hL)
theorem ev_mabs {idx : Nat} {x : Int32} (hd : decode (mC Y) pc = .ok (.invokestatic idx, 3)) (hl : Cond.methodLink (mY Y).cls idx Lib.Math.abs.name ∈ GT) (hc : (st.map fun v => v.category).sum ≤ 8) (kk : Ev g (d + 1) Y (pc + 3) ls (.int (if 0 ≤ x then x else 0 - x) :: st) μ Q) : Ev g (d + 1) Y pc ls (.int x :: st) μ Q := by
  obtain ⟨v, μ', hQ, hG, hE⟩ := kk
  refine ⟨v, μ', hQ, hG, fun p e s m args below meth c R H locs k0 la X h1 h2 h3 h4 hR hS hL => ?_⟩
  have hts := X.2.1
  have hG1 := hG.1
  have hG2 := hG.2
  have hf := X.2.2.2.1
  have hlo := X.2.2.2.2
  exact va_mabs X.1.1 X.1.2.1 (X.1.2.2.1.trans hL.2.1.symm) X.1.2.2.2.2.2.2 (hts _ hl) (hts _ (show Cond.static Lib.Math.abs.name ∈ GT from (mt3 216 rfl rfl))) (hts _ cbJ9_abs_0f7a4.2.1) (hts _ cbJ9_abs_0f7a4.1) (by omega) (by omega) (by omega) (by omega) hd (hE p e s m args below meth c R H locs k0 la X h1 h2 h3 h4 hR hS hL)
end KMATH
abbrev W6 : Type := Int32 × Int32 × Int32 × Int32 × Int32 × Int32
abbrev wkF (z : W6) : List Value := [.int z.1, .int z.2.1, .int z.2.2.1, .int z.2.2.2.1, .int z.2.2.2.2.1, .int z.2.2.2.2.2]
/-- one goes to a place -/
def goW (S : Nat → Int32) (to : Int32) (z : W6) : W6 := (z.1 + far32 z.2.2.1 to (S 3), z.2.1, to, z.2.2.2)
def fillW (S : Nat → Int32) (z : W6) : W6 := (z.1, z.2.1, S 1, z.2.2.2.1, S 0, 1)
def backW (S : Nat → Int32) (z : W6) : W6 := (z.1 + far32 z.2.2.1 (S 1) (S 3), z.2.1 + 1, S 1, z.2.2.2.1, S 0, 1)
def heapW (S : Nat → Int32) (th : Int32) (z : W6) : W6 := if z.2.2.2.2.2 = 0 ∧ z.2.2.2.2.1 < th then backW S z else z
/-- when one is at the door -/
def visA (S : Nat → Int32) (dp ds : Int32) (z : W6) : Int32 := if z.2.2.2.1 = ds then z.1 + far32 z.2.2.1 dp (S 3) else z.1 + far32 z.2.2.1 dp (S 3) + S 4
def visW (S : Nat → Int32) (dp ds th tv : Int32) (z : W6) : W6 := (visA S dp ds z + tv, z.2.1, dp, ds, z.2.2.2.2.1 - th, 0)
theorem abs32 {x y : Int32} (hx : rg x 0 99) (hy : rg y 0 99) : (if 0 ≤ y - x then y - x else 0 - (y - x)) = if x < y then y - x else x - y := by
  have h1 := hx.1; have h2 := hx.2; have h3 := hy.1; have h4 := hy.2
  have e1 : (y - x).toInt = y.toInt - x.toInt := sub_i (by omega) (by omega)
  have e2 : (x - y).toInt = x.toInt - y.toInt := sub_i (by omega) (by omega)
  by_cases q : x < y
  · rw [if_pos q, if_pos]
    rw [Int32.lt_iff_toInt_lt] at q
    rw [Int32.le_iff_toInt_le, Int32.toInt_zero, e1]; omega
  · rw [if_neg q]
    rw [Int32.lt_iff_toInt_lt] at q
    by_cases q2 : 0 ≤ y - x
    · rw [if_pos q2]
      rw [Int32.le_iff_toInt_le, Int32.toInt_zero, e1] at q2
      apply Int32.toInt_inj.mp
      rw [e1, e2]; omega
    · rw [if_neg q2]
      apply Int32.toInt_inj.mp
      rw [sub_i (by rw [Int32.toInt_zero, e1]; omega) (by rw [Int32.toInt_zero, e1]; omega), Int32.toInt_zero, e1, e2]
      omega
theorem max32 {x : Int32} (hx : 1 ≤ x.toInt) : (if (1 : Int32) < x then x else 1) = x := by
  split
  · rfl
  · rename_i q
    rw [Int32.lt_iff_toInt_lt] at q
    simp only [Int32.reduceToInt] at q
    apply Int32.toInt_inj.mp
    simp only [Int32.reduceToInt]
    omega
section KWALK
variable {g : Gl} {μ : Mm} {w t : Nat} {T : List Int32}
theorem c_kThick (ht : μ.1 t = some (iar T)) (hT : T.length = 10) {so : Int32} (hs : rg so 0 3) : Pu g 0 mX11_thickOf [.ref t, .int so] μ (T.getD (6 + so.toInt.toNat) 0) := by
  refine Mt.of0 (ls0 := [some (.ref t), some (.int so), none]) (by decide) (by simp [Value.category]) (Nat.le_of_ble_eq_true rfl) rfl ?_
  have h1 := hs.1; have h2 := hs.2
  have e1 : (6 + so).toInt = 6 + so.toInt := by rw [add_i (by rw [lit6]; omega) (by rw [lit6]; omega), lit6]
  have e2 : ix (6 + so) (6 + so.toInt.toNat) := by
    have h3 := ix_of (x := 6 + so) (by rw [e1]; omega)
    rw [e1, show (6 + so.toInt).toNat = 6 + so.toInt.toNat by omega] at h3
    exact h3
  refine ev_bipush (v := 6) dX11_thickOf_0 (by decide) ?_
  refine ev_iload_n dX11_thickOf_2 rfl ?_
  refine ev_iadd dX11_thickOf_3 ?_
  refine ev_istore_n dX11_thickOf_4 (by decide) ?_
  dsimp only [List.set]
  refine ev_iload_n dX11_thickOf_5 rfl ?_
  refine ev_bipush (v := 6) dX11_thickOf_6 (by decide) ?_
  refine ev_icmp_lt (tgt := 17) dX11_thickOf_8 (by decide) (fun h8 => absurd h8 ((show ¬ 6 + so < 6 by rw [Int32.lt_iff_toInt_lt, e1, lit6]; omega))) (fun _ => ?_)
  refine ev_iload_n dX11_thickOf_11 rfl ?_
  refine ev_aload_n dX11_thickOf_12 rfl ?_
  refine ev_alen dX11_thickOf_13 ht ?_
  refine ev_icmp_lt (tgt := 21) dX11_thickOf_14 (by decide) (fun _ => ?_) (fun h14 => absurd ((show 6 + so < nI T.length by rw [Int32.lt_iff_toInt_lt, e1, hT, nI_i (by decide)]; omega)) h14)
  refine ev_aload_n dX11_thickOf_21 rfl ?_
  refine ev_iload_n dX11_thickOf_22 rfl ?_
  refine ev_iald dX11_thickOf_23 ht e2 (gd (by omega)) ?_
  refine ev_iret dX11_thickOf_24 rfl ?_
  exact ⟨rfl, rfl⟩
theorem c_fill {z : W6} (hz : μ.1 w = some (obj 10 (wkF z))) (ht : μ.1 t = some (iar T)) (hT : T.length = 10) (htw : t ≠ w) : Mt g 0 mX10_fill [.ref w, .ref t] μ (fun v μ' => v = none ∧ μ' = mupd μ w (obj 10 (wkF (fillW (fun i => T.getD i 0) z)))) := by
  refine Mt.of0 (ls0 := [some (.ref w), some (.ref t)]) (by decide) (by simp [Value.category]) (Nat.le_of_ble_eq_true rfl) rfl ?_
  refine ev_own hz ?_
  refine ev_aload_n dX10_fill_0 rfl ?_
  refine ev_aload_n dX10_fill_1 rfl ?_
  refine ev_iconst (v := 1) dX10_fill_2 (by decide) ?_
  refine ev_iald dX10_fill_3 ((mupd_ne htw).trans ht) ixl1 (gd (by omega)) ?_
  refine ev_putO dX10_fill_4 fpX10_18_10 (Nat.le_of_ble_eq_true rfl) rfl rfl ?_
  dsimp only [List.set]
  refine ev_aload_n dX10_fill_7 rfl ?_
  refine ev_aload_n dX10_fill_8 rfl ?_
  refine ev_iconst (v := 0) dX10_fill_9 (by decide) ?_
  refine ev_iald dX10_fill_10 ((mupd_ne htw).trans ht) ixl0 (gd (by omega)) ?_
  refine ev_putO dX10_fill_11 fpX10_24_10 (Nat.le_of_ble_eq_true rfl) rfl rfl ?_
  dsimp only [List.set]
  refine ev_aload_n dX10_fill_14 rfl ?_
  refine ev_iconst (v := 1) dX10_fill_15 (by decide) ?_
  refine ev_putO dX10_fill_16 fpX10_27_10 (Nat.le_of_ble_eq_true rfl) (by decide) (by decide) ?_
  dsimp only [List.set]
  refine ev_vret dX10_fill_19 rfl ?_
  exact ⟨rfl, rfl⟩
theorem c_start {z : W6} (hz : μ.1 w = some (obj 10 (wkF z))) (ht : μ.1 t = some (iar T)) (hT : T.length = 10) (htw : t ≠ w) : Mt g 1 mX10_start [.ref w, .ref t] μ (fun v μ' => v = none ∧ μ' = mupd μ w (obj 10 (wkF (T.getD 2 0, 0, T.getD 1 0, 0, T.getD 0 0, 1)))) := by
  refine Mt.of0 (ls0 := [some (.ref w), some (.ref t)]) (by decide) (by simp [Value.category]) (Nat.le_of_ble_eq_true rfl) rfl ?_
  refine ev_own hz ?_
  refine ev_aload_n dX10_start_0 rfl ?_
  refine ev_aload_n dX10_start_1 rfl ?_
  refine ev_iconst (v := 2) dX10_start_2 (by decide) ?_
  refine ev_iald dX10_start_3 ((mupd_ne htw).trans ht) ixl2 (gd (by omega)) ?_
  refine ev_putO dX10_start_4 fpX10_9_10 (Nat.le_of_ble_eq_true rfl) rfl rfl ?_
  dsimp only [List.set]
  refine ev_aload_n dX10_start_7 rfl ?_
  refine ev_iconst (v := 0) dX10_start_8 (by decide) ?_
  refine ev_putO dX10_start_9 fpX10_15_10 (Nat.le_of_ble_eq_true rfl) rfl rfl ?_
  dsimp only [List.set]
  refine ev_aload_n dX10_start_12 rfl ?_
  refine ev_iconst (v := 0) dX10_start_13 (by decide) ?_
  refine ev_putO dX10_start_14 fpX10_21_10 (Nat.le_of_ble_eq_true rfl) rfl rfl ?_
  dsimp only [List.set]
  refine ev_aload_n dX10_start_17 rfl ?_
  refine ev_aload_n dX10_start_18 rfl ?_
  refine k_v (c_fill (z := (T.getD 2 0, 0, z.2.2.1, 0, z.2.2.2.2.1, z.2.2.2.2.2)) mupd_eq ((mupd_ne htw).trans ht) hT htw) (by decide) dX10_start_19 cbX10_fill (mt3 202 rfl rfl) (mt3 204 rfl rfl) (ms0 23 rfl rfl) (ci := 10) rfl mupd_eq rfl rfl (Nat.le_of_ble_eq_true rfl) (fun v μ1 hq => ?_)
  obtain ⟨rfl, hμ⟩ := hq; rw [mupd_mupd] at hμ; have hμ := hμ.symm; subst hμ
  simp only [Option.toList, List.cons_append, List.nil_append]
  refine ev_vret dX10_start_22 rfl ?_
  exact ⟨rfl, rfl⟩
theorem c_go {z : W6} (hz : μ.1 w = some (obj 10 (wkF z))) (ht : μ.1 t = some (iar T)) (hT : T.length = 10) (htw : t ≠ w) (h3 : 1 ≤ (T.getD 3 0).toInt) (hp : rg z.2.2.1 0 99) {to : Int32} (hto : rg to 0 99) : Mt g 1 mX10_go [.ref w, .int to, .ref t] μ (fun v μ' => v = none ∧ μ' = mupd μ w (obj 10 (wkF (goW (fun i => T.getD i 0) to z)))) := by
  refine Mt.of0 (ls0 := [some (.ref w), some (.int to), some (.ref t), none, none]) (by decide) (by simp [Value.category]) (Nat.le_of_ble_eq_true rfl) rfl ?_
  refine ev_own hz ?_
  refine ev_iload_n dX10_go_0 rfl ?_
  refine ev_aload_n dX10_go_1 rfl ?_
  refine ev_get dX10_go_2 flX10_18_10 mupd_eq rfl ?_
  refine ev_isub dX10_go_5 ?_
  refine ev_mabs dX10_go_6 (mt3 215 rfl rfl) (Nat.le_of_ble_eq_true rfl) ?_
  rw [abs32 hp hto]
  refine ev_istore_n dX10_go_9 (by decide) ?_
  dsimp only [List.set]
  refine ev_iconst (v := 1) dX10_go_10 (by decide) ?_
  refine ev_aload_n dX10_go_11 rfl ?_
  refine ev_iconst (v := 3) dX10_go_12 (by decide) ?_
  refine ev_iald dX10_go_13 ((mupd_ne htw).trans ht) ixl3 (gd (by omega)) ?_
  refine ev_mmax dX10_go_14 (mt3 218 rfl rfl) (Nat.le_of_ble_eq_true rfl) ?_
  rw [max32 h3]
  refine ev_istore dX10_go_17 (by decide) ?_
  dsimp only [List.set]
  refine ev_aload_n dX10_go_19 rfl ?_
  refine ev_dup dX10_go_20 rfl ?_
  refine ev_get dX10_go_21 flX10_9_10 mupd_eq rfl ?_
  refine ev_iload_n dX10_go_24 rfl ?_
  refine ev_iload dX10_go_25 rfl ?_
  refine ev_iadd dX10_go_27 ?_
  refine ev_iconst (v := 1) dX10_go_28 (by decide) ?_
  refine ev_isub dX10_go_29 ?_
  refine ev_iload dX10_go_30 rfl ?_
  refine ev_idiv dX10_go_32 (fun q => by rw [q] at h3; exact absurd h3 (by decide)) ?_
  refine ev_iadd dX10_go_33 ?_
  refine ev_putO dX10_go_34 fpX10_9_10 (Nat.le_of_ble_eq_true rfl) rfl rfl ?_
  dsimp only [List.set]
  refine ev_aload_n dX10_go_37 rfl ?_
  refine ev_iload_n dX10_go_38 rfl ?_
  refine ev_putO dX10_go_39 fpX10_18_10 (Nat.le_of_ble_eq_true rfl) rfl rfl ?_
  dsimp only [List.set]
  refine ev_vret dX10_go_42 rfl ?_
  exact ⟨rfl, rfl⟩
theorem c_follow {u : Nat} {z z' : W6} (hz : μ.1 w = some (obj 10 (wkF z))) (hu : μ.1 u = some (obj 10 (wkF z'))) (huw : u ≠ w) (hb : z'.2.2.2.2.2 = 0 ∨ z'.2.2.2.2.2 = 1) : Mt g 0 mX10_follow [.ref w, .ref u] μ (fun v μ' => v = none ∧ μ' = mupd μ w (obj 10 (wkF z'))) := by
  refine Mt.of0 (ls0 := [some (.ref w), some (.ref u)]) (by decide) (by simp [Value.category]) (Nat.le_of_ble_eq_true rfl) rfl ?_
  refine ev_own hz ?_
  have hnar : narrow .boolean (.int z'.2.2.2.2.2) = .int z'.2.2.2.2.2 := by rcases hb with h | h <;> rw [h] <;> rfl
  have hfit : fits .boolean (.int z'.2.2.2.2.2) = true := by rcases hb with h | h <;> rw [h] <;> rfl
  refine ev_aload_n dX10_follow_0 rfl ?_
  refine ev_aload_n dX10_follow_1 rfl ?_
  refine ev_get dX10_follow_2 flX10_9_10 ((mupd_ne huw).trans hu) rfl ?_
  refine ev_putO dX10_follow_5 fpX10_9_10 (Nat.le_of_ble_eq_true rfl) rfl rfl ?_
  dsimp only [List.set]
  refine ev_aload_n dX10_follow_8 rfl ?_
  refine ev_aload_n dX10_follow_9 rfl ?_
  refine ev_get dX10_follow_10 flX10_15_10 ((mupd_ne huw).trans hu) rfl ?_
  refine ev_putO dX10_follow_13 fpX10_15_10 (Nat.le_of_ble_eq_true rfl) rfl rfl ?_
  dsimp only [List.set]
  refine ev_aload_n dX10_follow_16 rfl ?_
  refine ev_aload_n dX10_follow_17 rfl ?_
  refine ev_get dX10_follow_18 flX10_18_10 ((mupd_ne huw).trans hu) rfl ?_
  refine ev_putO dX10_follow_21 fpX10_18_10 (Nat.le_of_ble_eq_true rfl) rfl rfl ?_
  dsimp only [List.set]
  refine ev_aload_n dX10_follow_24 rfl ?_
  refine ev_aload_n dX10_follow_25 rfl ?_
  refine ev_get dX10_follow_26 flX10_21_10 ((mupd_ne huw).trans hu) rfl ?_
  refine ev_putO dX10_follow_29 fpX10_21_10 (Nat.le_of_ble_eq_true rfl) rfl rfl ?_
  dsimp only [List.set]
  refine ev_aload_n dX10_follow_32 rfl ?_
  refine ev_aload_n dX10_follow_33 rfl ?_
  refine ev_get dX10_follow_34 flX10_24_10 ((mupd_ne huw).trans hu) rfl ?_
  refine ev_putO dX10_follow_37 fpX10_24_10 (Nat.le_of_ble_eq_true rfl) rfl rfl ?_
  dsimp only [List.set]
  refine ev_aload_n dX10_follow_40 rfl ?_
  refine ev_aload_n dX10_follow_41 rfl ?_
  refine ev_get dX10_follow_42 flX10_27_10 ((mupd_ne huw).trans hu) rfl ?_
  refine ev_putO dX10_follow_45 fpX10_27_10 (Nat.le_of_ble_eq_true rfl) hnar hfit ?_
  dsimp only [List.set]
  refine ev_vret dX10_follow_48 rfl ?_
  exact ⟨rfl, rfl⟩
theorem c_visit {z : W6} (hz : μ.1 w = some (obj 10 (wkF z))) (ht : μ.1 t = some (iar T)) (hT : T.length = 10) (htw : t ≠ w) (h3 : 1 ≤ (T.getD 3 0).toInt) (h1 : rg (T.getD 1 0) 0 99) (hp : rg z.2.2.1 0 99) {dd ci : Nat} {i n p s so : Int32} (hci : ci ∈ dks) (hd : μ.1 dd = some (obj ci (dfs i n p s so))) (hdw : dd ≠ w) (hdp : rg p 0 99) (hso : rg so 0 3) :
    Mt g 3 mX10_visit [.ref w, .ref dd, .ref t] μ (fun v μ' => v = some (.int (visA (fun i => T.getD i 0) p s (heapW (fun i => T.getD i 0) (T.getD (6 + so.toInt.toNat) 0) z))) ∧ μ' = mupd μ w (obj 10 (wkF (visW (fun i => T.getD i 0) p s (T.getD (6 + so.toInt.toNat) 0) (tkC ci n (T.getD (6 + so.toInt.toNat) 0) (T.getD 5 0)) (heapW (fun i => T.getD i 0) (T.getD (6 + so.toInt.toNat) 0) z))))) := by
  refine Mt.of0 (ls0 := [some (.ref w), some (.ref dd), some (.ref t), none, none]) (by decide) (by simp [Value.category]) (Nat.le_of_ble_eq_true rfl) rfl ?_
  refine ev_own hz ?_
  generalize hth : T.getD (6 + so.toInt.toNat) 0 = th
  have tail : ∀ (z' : W6) (o4 : Option Value), z' = heapW (fun i => T.getD i 0) th z → rg z'.2.2.1 0 99 → Ev g 3 mX10_visit 47 [some (.ref w), some (.ref dd), some (.ref t), some (.int th), o4] [] (mupd μ w (obj 10 (wkF z'))) (fun v μ' => v = some (.int (visA (fun i => T.getD i 0) p s (heapW (fun i => T.getD i 0) th z))) ∧ μ' = mupd μ w (obj 10 (wkF (visW (fun i => T.getD i 0) p s th (tkC ci n th (T.getD 5 0)) (heapW (fun i => T.getD i 0) th z))))) := by
    intro z' o4 e hp'
    rw [← e]
    unfold visW visA
    refine ev_aload_n dX10_visit_47 rfl ?_
    refine ev_dup dX10_visit_48 rfl ?_
    refine ev_get dX10_visit_49 flX10_24_10 mupd_eq rfl ?_
    refine ev_iload_n dX10_visit_52 rfl ?_
    refine ev_isub dX10_visit_53 ?_
    refine ev_putO dX10_visit_54 fpX10_24_10 (Nat.le_of_ble_eq_true rfl) rfl rfl ?_
    dsimp only [List.set]
    refine ev_aload_n dX10_visit_57 rfl ?_
    refine ev_iconst (v := 0) dX10_visit_58 (by decide) ?_
    refine ev_putO dX10_visit_59 fpX10_27_10 (Nat.le_of_ble_eq_true rfl) (by decide) (by decide) ?_
    dsimp only [List.set]
    refine ev_aload_n dX10_visit_62 rfl ?_
    refine ev_aload_n dX10_visit_63 rfl ?_
    refine ev_get dX10_visit_64 (glX10_48 hci) ((mupd_ne hdw).trans hd) rfl ?_
    refine ev_aload_n dX10_visit_67 rfl ?_
    refine k_v (c_go (z := (z'.1, z'.2.1, z'.2.2.1, z'.2.2.2.1, z'.2.2.2.2.1 - th, 0)) mupd_eq ((mupd_ne htw).trans ht) hT htw h3 hp' hdp) (by decide) dX10_visit_68 cbX10_go (mt3 211 rfl rfl) (mt3 213 rfl rfl) (ms0 24 rfl rfl) (ci := 10) rfl mupd_eq rfl rfl (Nat.le_of_ble_eq_true rfl) (fun v μ1 hq => ?_)
    obtain ⟨rfl, hμ⟩ := hq; rw [mupd_mupd] at hμ; have hμ := hμ.symm; subst hμ; simp only [goW]
    simp only [Option.toList, List.cons_append, List.nil_append]
    refine ev_aload_n dX10_visit_71 rfl ?_
    refine ev_get dX10_visit_72 flX10_21_10 mupd_eq rfl ?_
    refine ev_aload_n dX10_visit_75 rfl ?_
    refine ev_get dX10_visit_76 (glX10_49 hci) ((mupd_ne hdw).trans hd) rfl ?_
    refine ev_icmp_eq (tgt := 102) dX10_visit_79 (by decide) (fun h79 => ?_) (fun h79 => ?_)
    · refine ev_aload_n dX10_visit_102 rfl ?_
      refine ev_get dX10_visit_103 flX10_9_10 mupd_eq rfl ?_
      refine ev_istore dX10_visit_106 (by decide) ?_
      dsimp only [List.set]
      refine ev_aload_n dX10_visit_108 rfl ?_
      refine ev_dup dX10_visit_109 rfl ?_
      refine ev_get dX10_visit_110 flX10_9_10 mupd_eq rfl ?_
      refine ev_aload_n dX10_visit_113 rfl ?_
      refine ev_iload_n dX10_visit_114 rfl ?_
      refine ev_aload_n dX10_visit_115 rfl ?_
      refine ev_iconst (v := 5) dX10_visit_116 (by decide) ?_
      refine ev_iald dX10_visit_117 ((mupd_ne htw).trans ht) ixl5 (gd (by omega)) ?_
      refine u_takes dX10_visit_118 (mt3 219 rfl rfl) hci ((mupd_ne hdw).trans hd) (Nat.le_of_ble_eq_true rfl) ?_
      refine ev_iadd dX10_visit_121 ?_
      refine ev_putO dX10_visit_122 fpX10_9_10 (Nat.le_of_ble_eq_true rfl) rfl rfl ?_
      dsimp only [List.set]
      refine ev_iload dX10_visit_125 rfl ?_
      refine ev_iret dX10_visit_127 rfl ?_
      first
        | (have q : z'.2.2.2.1 = s := h79
           subst q
           rw [if_pos rfl]; exact ⟨rfl, rfl⟩)
        | (have q : ¬ z'.2.2.2.1 = s := h79
           rw [if_neg q]; exact ⟨rfl, rfl⟩)
    · refine ev_aload_n dX10_visit_82 rfl ?_
      refine ev_dup dX10_visit_83 rfl ?_
      refine ev_get dX10_visit_84 flX10_9_10 mupd_eq rfl ?_
      refine ev_aload_n dX10_visit_87 rfl ?_
      refine ev_iconst (v := 4) dX10_visit_88 (by decide) ?_
      refine ev_iald dX10_visit_89 ((mupd_ne htw).trans ht) ixl4 (gd (by omega)) ?_
      refine ev_iadd dX10_visit_90 ?_
      refine ev_putO dX10_visit_91 fpX10_9_10 (Nat.le_of_ble_eq_true rfl) rfl rfl ?_
      dsimp only [List.set]
      refine ev_aload_n dX10_visit_94 rfl ?_
      refine ev_aload_n dX10_visit_95 rfl ?_
      refine ev_get dX10_visit_96 (glX10_49 hci) ((mupd_ne hdw).trans hd) rfl ?_
      refine ev_putO dX10_visit_99 fpX10_21_10 (Nat.le_of_ble_eq_true rfl) rfl rfl ?_
      dsimp only [List.set]
      refine ev_aload_n dX10_visit_102 rfl ?_
      refine ev_get dX10_visit_103 flX10_9_10 mupd_eq rfl ?_
      refine ev_istore dX10_visit_106 (by decide) ?_
      dsimp only [List.set]
      refine ev_aload_n dX10_visit_108 rfl ?_
      refine ev_dup dX10_visit_109 rfl ?_
      refine ev_get dX10_visit_110 flX10_9_10 mupd_eq rfl ?_
      refine ev_aload_n dX10_visit_113 rfl ?_
      refine ev_iload_n dX10_visit_114 rfl ?_
      refine ev_aload_n dX10_visit_115 rfl ?_
      refine ev_iconst (v := 5) dX10_visit_116 (by decide) ?_
      refine ev_iald dX10_visit_117 ((mupd_ne htw).trans ht) ixl5 (gd (by omega)) ?_
      refine u_takes dX10_visit_118 (mt3 219 rfl rfl) hci ((mupd_ne hdw).trans hd) (Nat.le_of_ble_eq_true rfl) ?_
      refine ev_iadd dX10_visit_121 ?_
      refine ev_putO dX10_visit_122 fpX10_9_10 (Nat.le_of_ble_eq_true rfl) rfl rfl ?_
      dsimp only [List.set]
      refine ev_iload dX10_visit_125 rfl ?_
      refine ev_iret dX10_visit_127 rfl ?_
      first
        | (have q : z'.2.2.2.1 = s := h79
           subst q
           rw [if_pos rfl]; exact ⟨rfl, rfl⟩)
        | (have q : ¬ z'.2.2.2.1 = s := h79
           rw [if_neg q]; exact ⟨rfl, rfl⟩)
  refine ev_aload_n dX10_visit_0 rfl ?_
  refine ev_aload_n dX10_visit_1 rfl ?_
  refine ev_get dX10_visit_2 (glX10_35 hci) ((mupd_ne hdw).trans hd) rfl ?_
  refine k_sN (c_kThick ((mupd_ne htw).trans ht) hT hso) (by decide) dX10_visit_5 cbX11_thickOf (List.mem_of_getElem? (i := 4) rfl) (mt3 116 rfl rfl) rfl rfl (Nat.le_of_ble_eq_true rfl) (fun v μ1 hq => ?_)
  obtain ⟨rfl, hμ⟩ := hq
  have hμ := hμ.symm
  subst hμ
  simp only [Option.toList, List.cons_append, List.nil_append]
  rw [hth]
  refine ev_istore_n dX10_visit_8 (by decide) ?_
  dsimp only [List.set]
  refine ev_aload_n dX10_visit_9 rfl ?_
  refine ev_get dX10_visit_10 flX10_27_10 mupd_eq rfl ?_
  refine ev_if_ne (tgt := 47) dX10_visit_13 (by decide) (fun h13 => ?_) (fun h13 => ?_)
  · first
      | (have e : z = heapW (fun i => T.getD i 0) th z := by rw [heapW, if_neg (fun q => h13 q.1)]
         exact tail z _ e hp)
      | (have e : z = heapW (fun i => T.getD i 0) th z := by rw [heapW, if_neg (fun q => Int32.not_lt.mpr h21 q.2)]
         exact tail z _ e hp)
      | (have e : backW (fun i => T.getD i 0) z = heapW (fun i => T.getD i 0) th z := by
           have h21' := Int32.not_le.mp h21
           rw [heapW, if_pos ⟨h13, h21'⟩]
         exact tail (backW (fun i => T.getD i 0) z) _ e h1)
  · refine ev_iload_n dX10_visit_16 rfl ?_
    refine ev_aload_n dX10_visit_17 rfl ?_
    refine ev_get dX10_visit_18 flX10_24_10 mupd_eq rfl ?_
    refine ev_icmp_le (tgt := 47) dX10_visit_21 (by decide) (fun h21 => ?_) (fun h21 => ?_)
    · first
        | (have e : z = heapW (fun i => T.getD i 0) th z := by rw [heapW, if_neg (fun q => h13 q.1)]
           exact tail z _ e hp)
        | (have e : z = heapW (fun i => T.getD i 0) th z := by rw [heapW, if_neg (fun q => Int32.not_lt.mpr h21 q.2)]
           exact tail z _ e hp)
        | (have e : backW (fun i => T.getD i 0) z = heapW (fun i => T.getD i 0) th z := by
             have h21' := Int32.not_le.mp h21
             rw [heapW, if_pos ⟨h13, h21'⟩]
           exact tail (backW (fun i => T.getD i 0) z) _ e h1)
    · refine ev_aload_n dX10_visit_24 rfl ?_
      refine ev_aload_n dX10_visit_25 rfl ?_
      refine ev_iconst (v := 1) dX10_visit_26 (by decide) ?_
      refine ev_iald dX10_visit_27 ((mupd_ne htw).trans ht) ixl1 (gd (by omega)) ?_
      refine ev_aload_n dX10_visit_28 rfl ?_
      refine k_v (c_go mupd_eq ((mupd_ne htw).trans ht) hT htw h3 hp h1) (by decide) dX10_visit_29 cbX10_go (mt3 211 rfl rfl) (mt3 213 rfl rfl) (ms0 24 rfl rfl) (ci := 10) rfl mupd_eq rfl rfl (Nat.le_of_ble_eq_true rfl) (fun v μ1 hq => ?_)
      obtain ⟨rfl, hμ⟩ := hq; rw [mupd_mupd] at hμ; have hμ := hμ.symm; subst hμ; simp only [goW]
      simp only [Option.toList, List.cons_append, List.nil_append]
      refine ev_aload_n dX10_visit_32 rfl ?_
      refine ev_dup dX10_visit_33 rfl ?_
      refine ev_get dX10_visit_34 flX10_15_10 mupd_eq rfl ?_
      refine ev_iconst (v := 1) dX10_visit_37 (by decide) ?_
      refine ev_iadd dX10_visit_38 ?_
      refine ev_putO dX10_visit_39 fpX10_15_10 (Nat.le_of_ble_eq_true rfl) rfl rfl ?_
      dsimp only [List.set]
      refine ev_aload_n dX10_visit_42 rfl ?_
      refine ev_aload_n dX10_visit_43 rfl ?_
      refine k_v (c_fill (z := (z.1 + far32 z.2.2.1 (T.getD 1 0) (T.getD 3 0), z.2.1 + 1, T.getD 1 0, z.2.2.2)) mupd_eq ((mupd_ne htw).trans ht) hT htw) (by decide) dX10_visit_44 cbX10_fill (mt3 202 rfl rfl) (mt3 204 rfl rfl) (ms0 23 rfl rfl) (ci := 10) rfl mupd_eq rfl rfl (Nat.le_of_ble_eq_true rfl) (fun v μ1 hq => ?_)
      obtain ⟨rfl, hμ⟩ := hq; rw [mupd_mupd] at hμ; have hμ := hμ.symm; subst hμ
      simp only [Option.toList, List.cons_append, List.nil_append]
      first
        | (have e : z = heapW (fun i => T.getD i 0) th z := by rw [heapW, if_neg (fun q => h13 q.1)]
           exact tail z _ e hp)
        | (have e : z = heapW (fun i => T.getD i 0) th z := by rw [heapW, if_neg (fun q => Int32.not_lt.mpr h21 q.2)]
           exact tail z _ e hp)
        | (have e : backW (fun i => T.getD i 0) z = heapW (fun i => T.getD i 0) th z := by
             have h21' := Int32.not_le.mp h21
             rw [heapW, if_pos ⟨h13, h21'⟩]
           exact tail (backW (fun i => T.getD i 0) z) _ e h1)
end KWALK
