/-! ===== cells by their numbers, for constructors ===== -/
def cst (c : Nat → MC) (i : Nat) (e : MC) : Nat → MC := fun j => bif Nat.beq j i then e else c j
theorem cst_eq {c : Nat → MC} {i : Nat} {e : MC} : cst c i e i = e := by
  show (bif Nat.beq i i then e else c i) = e
  rw [Nat.beq_refl]
  rfl
theorem cst_ne {c : Nat → MC} {i j : Nat} {e : MC} (h : j ≠ i) : cst c i e j = c j := by
  have hb : Nat.beq j i = false := by
    cases hq : Nat.beq j i with
    | false => rfl
    | true => exact absurd (Nat.eq_of_beq_eq_true hq) h
  show (bif Nat.beq j i then e else c j) = c j
  rw [hb]
  rfl
def BW (b N : Nat) (c : Nat → MC) (s : Nat) (μ0 μ : Mm) : Prop := (∀ i, i < N → μ.1 (b + i) = some (c i)) ∧ (μ.2.1 = b + N ∧ μ.2.2 = s) ∧ ∀ q, q < b → μ.1 q = μ0.1 q
theorem BW.nw {b N s k : Nat} {c : Nat → MC} {μ0 μ : Mm} (h : BW b N c s μ0 μ) (e : MC) : BW b (N + 1) (cst c N e) (s + k) μ0 (mnew μ e k) := by
  obtain ⟨h1, ⟨h2, h3⟩, h4⟩ := h
  refine ⟨fun i hi => ?_, ⟨by show μ.2.1 + 1 = _; omega, by show μ.2.2 + k = _; omega⟩, fun q hq => ?_⟩
  · by_cases e : i = N
    · subst e; rw [cst_eq, ← h2]; exact mnew_at
    · rw [cst_ne e, mnew_ne (by omega)]; exact h1 i (by omega)
  · rw [mnew_ne (by omega)]; exact h4 q hq
theorem BW.up {b N s i : Nat} {c : Nat → MC} {μ0 μ : Mm} (h : BW b N c s μ0 μ) (hi : i < N) (e : MC) : BW b N (cst c i e) s μ0 (mupd μ (b + i) e) := by
  obtain ⟨h1, h2, h4⟩ := h
  refine ⟨fun j hj => ?_, h2, fun q hq => ?_⟩
  · by_cases e : j = i
    · subst e; rw [cst_eq]; exact mupd_eq
    · rw [cst_ne e, mupd_ne (by omega)]; exact h1 j hj
  · rw [mupd_ne (by omega)]; exact h4 q hq
section BWR
variable {g : Gl} {d : Nat} {Y : Md} {pc : Nat} {ls : List (Option Value)} {st : List Value} {μ μ0 : Mm} {Q : Option Value → Mm → Prop} {b N N1 s : Nat} {c : Nat → MC}
theorem bw_newa {n : Int32} {k : Nat} (hB : BW b N c s μ0 μ) (hd : decode (mC Y) pc = .ok (.newarray .int, 2)) (hn : ix n k) (hk : k ≤ 4000000) (hN : N + 1 = N1) (kk : ∀ μ1, BW b N1 (cst c N (iar (List.replicate k 0))) (s + k) μ0 μ1 → Ev g d Y (pc + 2) ls (.ref (b + N) :: st) μ1 Q) : Ev g d Y pc ls (.int n :: st) μ Q := by
  refine ev_newa hd hn hk ?_
  rw [hB.2.1.1]
  exact kk _ (by rw [← hN]; exact hB.nw _)
theorem bw_anew {n : Int32} {k idx t : Nat} {E : String} (hB : BW b N c s μ0 μ) (hd : decode (mC Y) pc = .ok (.anewarray idx, 3)) (hA : AK (mY Y).cls idx t E) (hn : ix n k) (hk : k ≤ 4000000) (hN : N + 1 = N1) (kk : ∀ μ1, BW b N1 (cst c N (rar t (List.replicate k none))) (s + k) μ0 μ1 → Ev g d Y (pc + 3) ls (.ref (b + N) :: st) μ1 Q) : Ev g d Y pc ls (.int n :: st) μ Q := by
  refine ev_anew hd hA hn hk ?_
  rw [hB.2.1.1]
  exact kk _ (by rw [← hN]; exact hB.nw _)
theorem bw_anewI {n : Int32} {k idx : Nat} (hB : BW b N c s μ0 μ) (hd : decode (mC Y) pc = .ok (.anewarray idx, 3)) (hl : Cond.classLink (mY Y).cls idx "[I" ∈ GT) (hn : ix n k) (hk : k ≤ 4000000) (hN : N + 1 = N1) (kk : ∀ μ1, BW b N1 (cst c N (rar 5 (List.replicate k none))) (s + k) μ0 μ1 → Ev g d Y (pc + 3) ls (.ref (b + N) :: st) μ1 Q) : Ev g d Y pc ls (.int n :: st) μ Q := by
  refine ev_anewI hd hl hn hk ?_
  rw [hB.2.1.1]
  exact kk _ (by rw [← hN]; exact hB.nw _)
theorem bw_new {idx ci k : Nat} {C : String} {T : u_T} {ty : Nat → FieldType} {fs : List Value} (hB : BW b N c s μ0 μ) (hd : decode (mC Y) pc = .ok (.new idx, 3)) (hc : vwCl[ci]? = some (C, T, k)) (hin : ∀ w ∈ u_ws C T k, w ∈ GT) (hty : ∀ j, j < k → parseFieldDescriptor (T j).2.2.1 = some (ty j)) (hcl : Cond.classLink (mY Y).cls idx C ∈ GT) (hinst : Cond.instantiable C k ∈ GT) (hini : Cond.initialized C ∈ GT) (hfs : ∀ j, j < k → defaultValue (ty j) = vp_V fs j) (hN : N + 1 = N1) (kk : ∀ μ1, BW b N1 (cst c N (obj ci fs)) (s + k) μ0 μ1 → Ev g d Y (pc + 3) ls (.ref (b + N) :: st) μ1 Q) : Ev g d Y pc ls st μ Q := by
  refine ev_new hd hc hin hty hcl hinst hini hfs ?_
  rw [hB.2.1.1]
  exact kk _ (by rw [← hN]; exact hB.nw _)
theorem bw_put {idx ci k i : Nat} {fs : List Value} {v : Value} {ty : FieldType} (hB : BW b N c s μ0 μ) (hi : i < N) (hc : c i = obj ci fs) (hd : decode (mC Y) pc = .ok (.putfield idx, 3)) (hf : FP (mY Y).cls idx ci k ty false) (hl : k < fs.length) (hn : narrow ty v = v) (hfit : fits ty v = true) (kk : ∀ μ1, BW b N (cst c i (obj ci (fs.set k v))) s μ0 μ1 → Ev g d Y (pc + 3) ls st μ1 Q) : Ev g d Y pc ls (v :: .ref (b + i) :: st) μ Q :=
  ev_put hd hf (by rw [hB.1 i hi, hc]) hl hn hfit (kk _ (hB.up hi _))
theorem bw_putF {idx ci k i : Nat} {fs : List Value} {v : Value} {ty : FieldType} (hB : BW b N c s μ0 μ) (hi : i < N) (hc : c i = obj ci fs) (hd : decode (mC Y) pc = .ok (.putfield idx, 3)) (hf : FP (mY Y).cls idx ci k ty true) (hin : (mY Y).name = "<init>") (hl : k < fs.length) (hn : narrow ty v = v) (hfit : fits ty v = true) (kk : ∀ μ1, BW b N (cst c i (obj ci (fs.set k v))) s μ0 μ1 → Ev g d Y (pc + 3) ls st μ1 Q) : Ev g d Y pc ls (v :: .ref (b + i) :: st) μ Q :=
  ev_putF hd hf hin (by rw [hB.1 i hi, hc]) hl hn hfit (kk _ (hB.up hi _))
theorem bw_get {idx ci k i : Nat} {fs : List Value} {v : Value} (hB : BW b N c s μ0 μ) (hi : i < N) (hc : c i = obj ci fs) (hd : decode (mC Y) pc = .ok (.getfield idx, 3)) (hf : FL (mY Y).cls idx ci k) (hv : fs[k]? = some v) (kk : Ev g d Y (pc + 3) ls (v :: st) μ Q) : Ev g d Y pc ls (.ref (b + i) :: st) μ Q :=
  ev_get hd hf (by rw [hB.1 i hi, hc]) hv kk
theorem bw_iast {i j : Nat} {l : List Int32} {x v : Int32} (hB : BW b N c s μ0 μ) (hi : i < N) (hc : c i = iar l) (hd : decode (mC Y) pc = .ok (.iastore, 1)) (hx : ix x j) (hj : j < l.length) (kk : ∀ μ1, BW b N (cst c i (iar (l.set j v))) s μ0 μ1 → Ev g d Y (pc + 1) ls st μ1 Q) : Ev g d Y pc ls (.int v :: .int x :: .ref (b + i) :: st) μ Q :=
  ev_iast hd (by rw [hB.1 i hi, hc]) hx hj (kk _ (hB.up hi _))
theorem bw_aast {i j v t ci : Nat} {l : List (Option Nat)} {fs : List Value} {x : Int32} (hB : BW b N c s μ0 μ) (hi : i < N) (hv : v < N) (hc : c i = rar t l) (hcv : c v = obj ci fs) (hok : AOK g t ci) (hd : decode (mC Y) pc = .ok (.aastore, 1)) (hx : ix x j) (hj : j < l.length) (kk : ∀ μ1, BW b N (cst c i (rar t (l.set j (some (b + v))))) s μ0 μ1 → Ev g d Y (pc + 1) ls st μ1 Q) : Ev g d Y pc ls (.ref (b + v) :: .int x :: .ref (b + i) :: st) μ Q :=
  ev_aast hd (by rw [hB.1 i hi, hc]) (by rw [hB.1 v hv, hcv]) hok hx hj (kk _ (hB.up hi _))
theorem bw_aastI {i j v : Nat} {l : List (Option Nat)} {li : List Int32} {x : Int32} (hB : BW b N c s μ0 μ) (hi : i < N) (hv : v < N) (hc : c i = rar 5 l) (hcv : c v = iar li) (hd : decode (mC Y) pc = .ok (.aastore, 1)) (hx : ix x j) (hj : j < l.length) (kk : ∀ μ1, BW b N (cst c i (rar 5 (l.set j (some (b + v))))) s μ0 μ1 → Ev g d Y (pc + 1) ls st μ1 Q) : Ev g d Y pc ls (.ref (b + v) :: .int x :: .ref (b + i) :: st) μ Q :=
  ev_aastI hd (by rw [hB.1 i hi, hc]) (by rw [hB.1 v hv, hcv]) hx hj (kk _ (hB.up hi _))
end BWR
theorem aok_s {g : Gl} : AOK g 3 7 := ⟨RX7, RX7, TX7, 3, 7, TX7, 3, rfl, rfl, rfl, Or.inl rfl⟩
theorem aok_w {g : Gl} : AOK g 4 10 := ⟨RX10, RX10, TX10, 6, 10, TX10, 6, rfl, rfl, rfl, Or.inl rfl⟩
section KINIT
variable {g : Gl} {μ : Mm} {w : Nat}
theorem c_iX10 (hm : μ.1 w = some (obj 10 [.int 0, .int 0, .int 0, .int 0, .int 0, .int 0])) : Mt g 1 mX10_init [.ref w] μ (fun v μ' => v = none ∧ μ' = mupd μ w (obj 10 [.int 0, .int 0, .int 0, .int 0, .int 0, .int 1])) := by
  refine Mt.of0 (ls0 := [some (.ref w)]) (by decide) (by simp [Value.category]) (Nat.le_of_ble_eq_true rfl) rfl ?_
  refine ev_own hm ?_
  refine ev_aload_n dX10_init_0 rfl ?_
  refine ev_objInit dX10_init_1 (mt1 83 rfl rfl) (mt1 27 rfl rfl) (mt1 28 rfl rfl) (Nat.le_of_ble_eq_true rfl) ?_
  refine ev_aload_n dX10_init_4 rfl ?_
  refine ev_iconst (v := 0) dX10_init_5 (by decide) ?_
  refine ev_putO dX10_init_6 fpX10_9_10 (Nat.le_of_ble_eq_true rfl) rfl rfl ?_
  dsimp only [List.set]
  refine ev_aload_n dX10_init_9 rfl ?_
  refine ev_iconst (v := 0) dX10_init_10 (by decide) ?_
  refine ev_putO dX10_init_11 fpX10_15_10 (Nat.le_of_ble_eq_true rfl) rfl rfl ?_
  dsimp only [List.set]
  refine ev_aload_n dX10_init_14 rfl ?_
  refine ev_iconst (v := 0) dX10_init_15 (by decide) ?_
  refine ev_putO dX10_init_16 fpX10_18_10 (Nat.le_of_ble_eq_true rfl) rfl rfl ?_
  dsimp only [List.set]
  refine ev_aload_n dX10_init_19 rfl ?_
  refine ev_iconst (v := 0) dX10_init_20 (by decide) ?_
  refine ev_putO dX10_init_21 fpX10_21_10 (Nat.le_of_ble_eq_true rfl) rfl rfl ?_
  dsimp only [List.set]
  refine ev_aload_n dX10_init_24 rfl ?_
  refine ev_iconst (v := 0) dX10_init_25 (by decide) ?_
  refine ev_putO dX10_init_26 fpX10_24_10 (Nat.le_of_ble_eq_true rfl) rfl rfl ?_
  dsimp only [List.set]
  refine ev_aload_n dX10_init_29 rfl ?_
  refine ev_iconst (v := 1) dX10_init_30 (by decide) ?_
  refine ev_putO dX10_init_31 fpX10_27_10 (Nat.le_of_ble_eq_true rfl) (by decide) (by decide) ?_
  dsimp only [List.set]
  refine ev_vret dX10_init_34 rfl ?_
  exact ⟨rfl, rfl⟩
theorem c_iX7 (hw : w < μ.2.1) (hm : μ.1 w = some (obj 7 [.int 0, .int 0, .null])) : Mt g 1 mX7_init [.ref w] μ (fun v μ' => v = none ∧ μ' = mupd (mnew (mupd μ w (obj 7 [.int (-1), .int 0, .null])) (iar (List.replicate 40 0)) 40) w (obj 7 [.int (-1), .int 0, .ref μ.2.1])) := by
  refine Mt.of0 (ls0 := [some (.ref w)]) (by decide) (by simp [Value.category]) (Nat.le_of_ble_eq_true rfl) rfl ?_
  refine ev_own hm ?_
  have hm2 : (mnew (mupd μ w (obj 7 [.int (-1), .int 0, .null])) (iar (List.replicate 40 0)) 40).1 w = some (obj 7 [.int (-1), .int 0, .null]) := (mnew_ne (show w ≠ (mupd μ w (obj 7 [.int (-1), .int 0, .null])).2.1 from Nat.ne_of_lt hw)).trans mupd_eq
  refine ev_aload_n dX7_init_0 rfl ?_
  refine ev_objInit dX7_init_1 (mt1 160 rfl rfl) (mt1 27 rfl rfl) (mt1 28 rfl rfl) (Nat.le_of_ble_eq_true rfl) ?_
  refine ev_aload_n dX7_init_4 rfl ?_
  refine ev_iconst (v := (-1)) dX7_init_5 (by decide) ?_
  refine ev_putO dX7_init_6 fpX7_11_7 (Nat.le_of_ble_eq_true rfl) rfl rfl ?_
  dsimp only [List.set]
  refine ev_aload_n dX7_init_9 rfl ?_
  refine ev_iconst (v := 0) dX7_init_10 (by decide) ?_
  refine ev_putO dX7_init_11 fpX7_15_7 (Nat.le_of_ble_eq_true rfl) rfl rfl ?_
  dsimp only [List.set]
  refine ev_aload_n dX7_init_14 rfl ?_
  refine ev_bipush (v := 40) dX7_init_15 (by decide) ?_
  refine ev_newa (N := 40) dX7_init_17 (ix_z (by decide) rfl) (by decide) ?_
  refine ev_putF dX7_init_19 fpX7_18_7 rfl hm2 (Nat.le_of_ble_eq_true rfl) rfl rfl ?_
  dsimp only [List.set]
  refine ev_vret dX7_init_22 rfl ?_
  exact ⟨rfl, rfl⟩
theorem c_iX4 (hw : w < μ.2.1) (hm : μ.1 w = some (obj 4 [.int 0, .int 0, .null, .null, .int 0, .int 0, .int 0, .int 0])) : Mt g 1 mX4_init [.ref w] μ (fun v μ' => v = none ∧ μ' = mupd (mnew (mupd (mnew μ (iar (List.replicate 160 0)) 160) w (obj 4 [.int 0, .int 0, .ref μ.2.1, .null, .int 0, .int 0, .int 0, .int 0])) (iar (List.replicate 160 0)) 160) w (obj 4 [.int 0, .int 0, .ref μ.2.1, .ref (μ.2.1 + 1), .int 0, .int 0, .int 0, .int 0])) := by
  refine Mt.of0 (ls0 := [some (.ref w)]) (by decide) (by simp [Value.category]) (Nat.le_of_ble_eq_true rfl) rfl ?_
  have hm1 : (mnew μ (iar (List.replicate 160 0)) 160).1 w = some (obj 4 [.int 0, .int 0, .null, .null, .int 0, .int 0, .int 0, .int 0]) := by rw [mnew_ne (by omega)]; exact hm
  have hm2 : (mnew (mupd (mnew μ (iar (List.replicate 160 0)) 160) w (obj 4 [.int 0, .int 0, .ref μ.2.1, .null, .int 0, .int 0, .int 0, .int 0])) (iar (List.replicate 160 0)) 160).1 w = some (obj 4 [.int 0, .int 0, .ref μ.2.1, .null, .int 0, .int 0, .int 0, .int 0]) := by rw [mnew_ne (show w ≠ μ.2.1 + 1 by omega)]; exact mupd_eq
  refine ev_aload_n dX4_init_0 rfl ?_
  refine ev_objInit dX4_init_1 (mt1 45 rfl rfl) (mt1 27 rfl rfl) (mt1 28 rfl rfl) (Nat.le_of_ble_eq_true rfl) ?_
  refine ev_own hm ?_
  have e0 : mupd μ w (obj 4 [.int 0, .int 0, .null, .null, .int 0, .int 0, .int 0, .int 0]) = μ := mupd_self hm
  refine ev_aload_n dX4_init_4 rfl ?_
  refine ev_iconst (v := 0) dX4_init_5 (by decide) ?_
  refine ev_putO dX4_init_6 fpX4_9_4 (Nat.le_of_ble_eq_true rfl) rfl rfl ?_
  dsimp only [List.set]
  refine ev_aload_n dX4_init_9 rfl ?_
  refine ev_iconst (v := 0) dX4_init_10 (by decide) ?_
  refine ev_putO dX4_init_11 fpX4_15_4 (Nat.le_of_ble_eq_true rfl) rfl rfl ?_
  dsimp only [List.set]
  rw [e0]
  refine ev_aload_n dX4_init_14 rfl ?_
  refine ev_sipush (v := 160) dX4_init_15 (by decide) ?_
  refine ev_newa (N := 160) dX4_init_18 (ix_z (by decide) rfl) (by decide) ?_
  refine ev_putF dX4_init_20 fpX4_18_4 rfl hm1 (Nat.le_of_ble_eq_true rfl) rfl rfl ?_
  dsimp only [List.set]
  refine ev_aload_n dX4_init_23 rfl ?_
  refine ev_sipush (v := 160) dX4_init_24 (by decide) ?_
  refine ev_newa (N := 160) dX4_init_27 (ix_z (by decide) rfl) (by decide) ?_
  refine ev_putF dX4_init_29 fpX4_22_4 rfl hm2 (Nat.le_of_ble_eq_true rfl) rfl rfl ?_
  dsimp only [List.set]
  refine ev_aload_n dX4_init_32 rfl ?_
  refine ev_iconst (v := 0) dX4_init_33 (by decide) ?_
  refine ev_putO dX4_init_34 fpX4_25_4 (Nat.le_of_ble_eq_true rfl) rfl rfl ?_
  dsimp only [List.set]
  refine ev_aload_n dX4_init_37 rfl ?_
  refine ev_iconst (v := 0) dX4_init_38 (by decide) ?_
  refine ev_putO dX4_init_39 fpX4_28_4 (Nat.le_of_ble_eq_true rfl) rfl rfl ?_
  dsimp only [List.set]
  refine ev_aload_n dX4_init_42 rfl ?_
  refine ev_iconst (v := 0) dX4_init_43 (by decide) ?_
  refine ev_putO dX4_init_44 fpX4_31_4 (Nat.le_of_ble_eq_true rfl) rfl rfl ?_
  dsimp only [List.set]
  refine ev_aload_n dX4_init_47 rfl ?_
  refine ev_iconst (v := 0) dX4_init_48 (by decide) ?_
  refine ev_putO dX4_init_49 fpX4_34_4 (Nat.le_of_ble_eq_true rfl) rfl rfl ?_
  dsimp only [List.set]
  refine ev_vret dX4_init_52 rfl ?_
  exact ⟨rfl, rfl⟩
end KINIT
