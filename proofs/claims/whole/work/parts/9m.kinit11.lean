/-! ===== the class: its constructor, up to the first text ===== -/
theorem BW.eq {b N s : Nat} {c c' : Nat → MC} {μ0 μ : Mm} (h : BW b N c s μ0 μ) (e : ∀ j, j < N → c j = c' j) : BW b N c' s μ0 μ := ⟨fun i hi => (h.1 i hi).trans (by rw [e i hi]), h.2⟩
theorem bw_clone {g : Gl} {d : Nat} {Y : Md} {pc : Nat} {ls : List (Option Value)} {st : List Value} {μ μ0 : Mm} {Q : Option Value → Mm → Prop} {b N N1 s : Nat} {c : Nat → MC} {idx k : Nat} {q : String × String × List Int32} (hB : BW b N c s μ0 μ) (hd : decode (mC Y) pc = .ok (.invokevirtual idx, 3)) (hq : saT[k]? = some q) (hl : Cond.methodLink (mY Y).cls idx ⟨"[I", "clone", "()Ljava/lang/Object;"⟩ ∈ GT) (hc : (st.map fun v => v.category).sum ≤ 8) (hN : N + 1 = N1) (kk : ∀ μ1, BW b N1 (cst c N (iar q.2.2)) (s + q.2.2.length) μ0 μ1 → Ev g (d + 1) Y (pc + 3) ls (.ref (b + N) :: st) μ1 Q) : Ev g (d + 1) Y pc ls (.ref (gS g k) :: st) μ Q := by
  refine ev_clone hd hq hl hc ?_
  rw [hB.2.1.1]
  exact kk _ (by rw [← hN]; exact hB.nw _)
/-- the class's cells ahead of the first text -/
def c11 (a : Nat) : Nat → MC
  | 0 => obj 11 [.ref (a + 1), .int 0, .ref (a + 2), .ref (a + 3), .ref (a + 4), .ref (a + 7), .int 0, .int 0, .ref (a + 8), .ref (a + 9), .ref (a + 10), .ref (a + 11), .ref (a + 12), .ref (a + 29), .int (-1), .int 0, .ref (a + 46), .ref (a + 47), .ref (a + 48)]
  | 1 => rar 1 (List.replicate 7 none)
  | 2 => iar (List.replicate 7 0)
  | 3 => iar [12, 0, 0, 4, 1, 0, 1, 2, 3, 4]
  | 4 => obj 4 [.int 0, .int 0, .ref (a + 5), .ref (a + 6), .int 0, .int 0, .int 0, .int 0]
  | 5 => iar (List.replicate 160 0)
  | 6 => iar (List.replicate 160 0)
  | 7 => rar 2 (List.replicate 6 none)
  | 8 => rar 3 (kSl a)
  | 9 => obj 10 [.int 0, .int 0, .int 0, .int 0, .int 0, .int 1]
  | 10 => iar (List.replicate 7 0)
  | 11 => iar (List.replicate 7 0)
  | 12 => obj 6 [.ref (a + 13), .int 0, .int 0, .int 0, .ref (a + 14), .ref (a + 15), .ref (a + 16), .ref (a + 27), .ref (a + 28), .ref (a + 17), .int 0, .ref (a + 18)]
  | 13 => iar (List.replicate 7 0)
  | 14 => rar 4 (kWl a 19)
  | 15 => iar (List.replicate 7 0)
  | 16 => iar (List.replicate 7 0)
  | 17 => rar 1 []
  | 18 => iar (List.replicate 10 0)
  | 19 => obj 10 [.int 0, .int 0, .int 0, .int 0, .int 0, .int 1]
  | 20 => obj 10 [.int 0, .int 0, .int 0, .int 0, .int 0, .int 1]
  | 21 => obj 10 [.int 0, .int 0, .int 0, .int 0, .int 0, .int 1]
  | 22 => obj 10 [.int 0, .int 0, .int 0, .int 0, .int 0, .int 1]
  | 23 => obj 10 [.int 0, .int 0, .int 0, .int 0, .int 0, .int 1]
  | 24 => obj 10 [.int 0, .int 0, .int 0, .int 0, .int 0, .int 1]
  | 25 => obj 10 [.int 0, .int 0, .int 0, .int 0, .int 0, .int 1]
  | 26 => obj 10 [.int 0, .int 0, .int 0, .int 0, .int 0, .int 1]
  | 27 => iar (List.replicate 0 0)
  | 28 => iar (List.replicate 0 0)
  | 29 => obj 6 [.ref (a + 30), .int 0, .int 0, .int 1, .ref (a + 31), .ref (a + 32), .ref (a + 33), .ref (a + 44), .ref (a + 45), .ref (a + 34), .int 0, .ref (a + 35)]
  | 30 => iar (List.replicate 7 0)
  | 31 => rar 4 (kWl a 36)
  | 32 => iar (List.replicate 7 0)
  | 33 => iar (List.replicate 7 0)
  | 34 => rar 1 []
  | 35 => iar (List.replicate 10 0)
  | 36 => obj 10 [.int 0, .int 0, .int 0, .int 0, .int 0, .int 1]
  | 37 => obj 10 [.int 0, .int 0, .int 0, .int 0, .int 0, .int 1]
  | 38 => obj 10 [.int 0, .int 0, .int 0, .int 0, .int 0, .int 1]
  | 39 => obj 10 [.int 0, .int 0, .int 0, .int 0, .int 0, .int 1]
  | 40 => obj 10 [.int 0, .int 0, .int 0, .int 0, .int 0, .int 1]
  | 41 => obj 10 [.int 0, .int 0, .int 0, .int 0, .int 0, .int 1]
  | 42 => obj 10 [.int 0, .int 0, .int 0, .int 0, .int 0, .int 1]
  | 43 => obj 10 [.int 0, .int 0, .int 0, .int 0, .int 0, .int 1]
  | 44 => iar (List.replicate 756 0)
  | 45 => iar (List.replicate 756 0)
  | 46 => iar (List.replicate 7 0)
  | 47 => iar (List.replicate 10 0)
  | 48 => iar (List.replicate 28 0)
  | 49 => obj 7 [.int (-1), .int 0, .ref (a + 50)]
  | 50 => iar (List.replicate 40 0)
  | 51 => obj 7 [.int (-1), .int 0, .ref (a + 52)]
  | 52 => iar (List.replicate 40 0)
  | 53 => obj 7 [.int (-1), .int 0, .ref (a + 54)]
  | 54 => iar (List.replicate 40 0)
  | 55 => obj 7 [.int (-1), .int 0, .ref (a + 56)]
  | 56 => iar (List.replicate 40 0)
  | _ => iar []
/-- .. ahead of what is kept and the sheets -/
def c11a (a : Nat) : Nat → MC := cst (cst (c11 a) 0 (obj 11 [.ref (a + 1), .int 0, .ref (a + 2), .ref (a + 3), .ref (a + 4), .ref (a + 7), .int 0, .int 0, .ref (a + 8), .ref (a + 9), .ref (a + 10), .ref (a + 11), .ref (a + 12), .ref (a + 29), .int 0, .int 0, .null, .null, .null])) 8 (rar 3 (List.replicate 4 none))
section KINIT11
variable {g : Gl} {μ μ0 : Mm} {a s : Nat} {z : Nat → MC}
theorem l_init0b {Q : Option Value → Mm → Prop} (hB : BW a 46 (c11a a) s μ0 μ) (go : ∀ (μ : Mm) (s' : Nat), BW a 57 (c11 a) s' μ0 μ → s' ≤ s + 300 → Ev g 68 mX11_init 190 [some (.ref a), some (.int 0)] [] μ Q) : Ev g 68 mX11_init 128 [some (.ref a), none] [] μ Q := by
  refine ev_aload_n dX11_init_128 rfl ?_
  refine ev_iconst (v := (-1)) dX11_init_129 (by decide) ?_
  refine bw_put (i := 0) (k := 14) hB (by decide) rfl dX11_init_130 fpX11_84_11 (Nat.le_of_ble_eq_true rfl) rfl rfl (fun μ hB => ?_)
  refine ev_aload_n dX11_init_133 rfl ?_
  refine ev_iconst (v := 0) dX11_init_134 (by decide) ?_
  refine bw_put (i := 0) (k := 15) hB (by decide) rfl dX11_init_135 fpX11_87_11 (Nat.le_of_ble_eq_true rfl) rfl rfl (fun μ hB => ?_)
  refine ev_aload_n dX11_init_138 rfl ?_
  refine ev_bipush (v := 7) dX11_init_139 (by decide) ?_
  refine bw_newa (k := 7) (N := 46) hB dX11_init_141 (ix_z (by decide) rfl) (by decide) (N1 := 47) rfl (fun μ hB => ?_)
  refine bw_putF (i := 0) (k := 16) hB (by decide) rfl dX11_init_143 fpX11_90_11 rfl (Nat.le_of_ble_eq_true rfl) rfl rfl (fun μ hB => ?_)
  refine ev_aload_n dX11_init_146 rfl ?_
  refine ev_bipush (v := 10) dX11_init_147 (by decide) ?_
  refine bw_newa (k := 10) (N := 47) hB dX11_init_149 (ix_z (by decide) rfl) (by decide) (N1 := 48) rfl (fun μ hB => ?_)
  refine bw_putF (i := 0) (k := 17) hB (by decide) rfl dX11_init_151 fpX11_93_11 rfl (Nat.le_of_ble_eq_true rfl) rfl rfl (fun μ hB => ?_)
  refine ev_aload_n dX11_init_154 rfl ?_
  refine ev_bipush (v := 28) dX11_init_155 (by decide) ?_
  refine bw_newa (k := 28) (N := 48) hB dX11_init_157 (ix_z (by decide) rfl) (by decide) (N1 := 49) rfl (fun μ hB => ?_)
  refine bw_putF (i := 0) (k := 18) hB (by decide) rfl dX11_init_159 fpX11_96_11 rfl (Nat.le_of_ble_eq_true rfl) rfl rfl (fun μ hB => ?_)
  refine ev_iconst (v := 0) dX11_init_162 (by decide) ?_
  refine ev_istore_n dX11_init_163 (by decide) ?_
  dsimp only [List.set]
  refine ev_iload_n dX11_init_164 rfl ?_
  refine ev_iconst (v := 4) dX11_init_165 (by decide) ?_
  refine ev_icmp_ge (tgt := 188) dX11_init_166 (by decide) (fun h => absurd h (by decide)) (fun _ => ?_)
  refine ev_aload_n dX11_init_169 rfl ?_
  refine bw_get (i := 0) (k := 8) hB (by decide) rfl dX11_init_170 flX11_55_11 rfl ?_
  refine ev_iload_n dX11_init_173 rfl ?_
  refine bw_new (ci := 7) (k := 3) (N := 49) (fs := [.int 0, .int 0, .null]) hB dX11_init_174 rfl uwX7 tyX7_ok (mt1 76 rfl rfl) (mt1 156 rfl rfl) (mt1 5 rfl rfl) (fun j hj => by have q : j = 0 ∨ j = 1 ∨ j = 2 := (by omega); rcases q with rfl | rfl | rfl <;> rfl) (N1 := 50) rfl (fun μ hB => ?_)
  refine ev_dup dX11_init_177 rfl ?_
  refine k_iN (c_iX7 (w := a + 49) (by rw [hB.2.1.1]; omega) ((hB.1 49 (by decide)).trans rfl)) (by decide) dX11_init_178 cbX7_init rfl (List.mem_of_getElem? (i := 3) rfl) (mt1 158 rfl rfl) (by decide) rfl rfl (Nat.le_of_ble_eq_true rfl) (fun v μ1 hq ↦ ?_) 
  obtain ⟨rfl, hq⟩ := hq
  rw [hB.2.1.1] at hq
  have hB := ((hB.up (i := 49) (by decide) (obj 7 [.int (-1), .int 0, .null])).nw (k := 40) (iar (List.replicate 40 0))).up (i := 49) (by decide) (obj 7 [.int (-1), .int 0, .ref (a + (49 + 1))])
  rw [show a + (49 + 1) = a + 49 + 1 from rfl, ← hq] at hB
  clear hq
  simp only [Option.toList, List.cons_append, List.nil_append]
  refine bw_aast (i := 8) (j := 0) (v := 49) hB (by decide) (by decide) rfl rfl aok_s dX11_init_181 (ix_z (by decide) rfl) (Nat.le_of_ble_eq_true rfl) (fun μ hB => ?_)
  refine ev_iinc dX11_init_182 rfl (by decide) ?_
  dsimp only [List.set]
  rw [show (0 : Int32) + Int32.ofInt 1 = 1 by decide]
  refine ev_goto (tgt := 164) dX11_init_185 (by decide) ?_
  refine ev_iload_n dX11_init_164 rfl ?_
  refine ev_iconst (v := 4) dX11_init_165 (by decide) ?_
  refine ev_icmp_ge (tgt := 188) dX11_init_166 (by decide) (fun h => absurd h (by decide)) (fun _ => ?_)
  refine ev_aload_n dX11_init_169 rfl ?_
  refine bw_get (i := 0) (k := 8) hB (by decide) rfl dX11_init_170 flX11_55_11 rfl ?_
  refine ev_iload_n dX11_init_173 rfl ?_
  refine bw_new (ci := 7) (k := 3) (N := 51) (fs := [.int 0, .int 0, .null]) hB dX11_init_174 rfl uwX7 tyX7_ok (mt1 76 rfl rfl) (mt1 156 rfl rfl) (mt1 5 rfl rfl) (fun j hj => by have q : j = 0 ∨ j = 1 ∨ j = 2 := (by omega); rcases q with rfl | rfl | rfl <;> rfl) (N1 := 52) rfl (fun μ hB => ?_)
  refine ev_dup dX11_init_177 rfl ?_
  refine k_iN (c_iX7 (w := a + 51) (by rw [hB.2.1.1]; omega) ((hB.1 51 (by decide)).trans rfl)) (by decide) dX11_init_178 cbX7_init rfl (List.mem_of_getElem? (i := 3) rfl) (mt1 158 rfl rfl) (by decide) rfl rfl (Nat.le_of_ble_eq_true rfl) (fun v μ1 hq ↦ ?_) 
  obtain ⟨rfl, hq⟩ := hq
  rw [hB.2.1.1] at hq
  have hB := ((hB.up (i := 51) (by decide) (obj 7 [.int (-1), .int 0, .null])).nw (k := 40) (iar (List.replicate 40 0))).up (i := 51) (by decide) (obj 7 [.int (-1), .int 0, .ref (a + (51 + 1))])
  rw [show a + (51 + 1) = a + 51 + 1 from rfl, ← hq] at hB
  clear hq
  simp only [Option.toList, List.cons_append, List.nil_append]
  refine bw_aast (i := 8) (j := 1) (v := 51) hB (by decide) (by decide) rfl rfl aok_s dX11_init_181 (ix_z (by decide) rfl) (Nat.le_of_ble_eq_true rfl) (fun μ hB => ?_)
  refine ev_iinc dX11_init_182 rfl (by decide) ?_
  dsimp only [List.set]
  rw [show (1 : Int32) + Int32.ofInt 1 = 2 by decide]
  refine ev_goto (tgt := 164) dX11_init_185 (by decide) ?_
  refine ev_iload_n dX11_init_164 rfl ?_
  refine ev_iconst (v := 4) dX11_init_165 (by decide) ?_
  refine ev_icmp_ge (tgt := 188) dX11_init_166 (by decide) (fun h => absurd h (by decide)) (fun _ => ?_)
  refine ev_aload_n dX11_init_169 rfl ?_
  refine bw_get (i := 0) (k := 8) hB (by decide) rfl dX11_init_170 flX11_55_11 rfl ?_
  refine ev_iload_n dX11_init_173 rfl ?_
  refine bw_new (ci := 7) (k := 3) (N := 53) (fs := [.int 0, .int 0, .null]) hB dX11_init_174 rfl uwX7 tyX7_ok (mt1 76 rfl rfl) (mt1 156 rfl rfl) (mt1 5 rfl rfl) (fun j hj => by have q : j = 0 ∨ j = 1 ∨ j = 2 := (by omega); rcases q with rfl | rfl | rfl <;> rfl) (N1 := 54) rfl (fun μ hB => ?_)
  refine ev_dup dX11_init_177 rfl ?_
  refine k_iN (c_iX7 (w := a + 53) (by rw [hB.2.1.1]; omega) ((hB.1 53 (by decide)).trans rfl)) (by decide) dX11_init_178 cbX7_init rfl (List.mem_of_getElem? (i := 3) rfl) (mt1 158 rfl rfl) (by decide) rfl rfl (Nat.le_of_ble_eq_true rfl) (fun v μ1 hq ↦ ?_) 
  obtain ⟨rfl, hq⟩ := hq
  rw [hB.2.1.1] at hq
  have hB := ((hB.up (i := 53) (by decide) (obj 7 [.int (-1), .int 0, .null])).nw (k := 40) (iar (List.replicate 40 0))).up (i := 53) (by decide) (obj 7 [.int (-1), .int 0, .ref (a + (53 + 1))])
  rw [show a + (53 + 1) = a + 53 + 1 from rfl, ← hq] at hB
  clear hq
  simp only [Option.toList, List.cons_append, List.nil_append]
  refine bw_aast (i := 8) (j := 2) (v := 53) hB (by decide) (by decide) rfl rfl aok_s dX11_init_181 (ix_z (by decide) rfl) (Nat.le_of_ble_eq_true rfl) (fun μ hB => ?_)
  refine ev_iinc dX11_init_182 rfl (by decide) ?_
  dsimp only [List.set]
  rw [show (2 : Int32) + Int32.ofInt 1 = 3 by decide]
  refine ev_goto (tgt := 164) dX11_init_185 (by decide) ?_
  refine ev_iload_n dX11_init_164 rfl ?_
  refine ev_iconst (v := 4) dX11_init_165 (by decide) ?_
  refine ev_icmp_ge (tgt := 188) dX11_init_166 (by decide) (fun h => absurd h (by decide)) (fun _ => ?_)
  refine ev_aload_n dX11_init_169 rfl ?_
  refine bw_get (i := 0) (k := 8) hB (by decide) rfl dX11_init_170 flX11_55_11 rfl ?_
  refine ev_iload_n dX11_init_173 rfl ?_
  refine bw_new (ci := 7) (k := 3) (N := 55) (fs := [.int 0, .int 0, .null]) hB dX11_init_174 rfl uwX7 tyX7_ok (mt1 76 rfl rfl) (mt1 156 rfl rfl) (mt1 5 rfl rfl) (fun j hj => by have q : j = 0 ∨ j = 1 ∨ j = 2 := (by omega); rcases q with rfl | rfl | rfl <;> rfl) (N1 := 56) rfl (fun μ hB => ?_)
  refine ev_dup dX11_init_177 rfl ?_
  refine k_iN (c_iX7 (w := a + 55) (by rw [hB.2.1.1]; omega) ((hB.1 55 (by decide)).trans rfl)) (by decide) dX11_init_178 cbX7_init rfl (List.mem_of_getElem? (i := 3) rfl) (mt1 158 rfl rfl) (by decide) rfl rfl (Nat.le_of_ble_eq_true rfl) (fun v μ1 hq ↦ ?_) 
  obtain ⟨rfl, hq⟩ := hq
  rw [hB.2.1.1] at hq
  have hB := ((hB.up (i := 55) (by decide) (obj 7 [.int (-1), .int 0, .null])).nw (k := 40) (iar (List.replicate 40 0))).up (i := 55) (by decide) (obj 7 [.int (-1), .int 0, .ref (a + (55 + 1))])
  rw [show a + (55 + 1) = a + 55 + 1 from rfl, ← hq] at hB
  clear hq
  simp only [Option.toList, List.cons_append, List.nil_append]
  refine bw_aast (i := 8) (j := 3) (v := 55) hB (by decide) (by decide) rfl rfl aok_s dX11_init_181 (ix_z (by decide) rfl) (Nat.le_of_ble_eq_true rfl) (fun μ hB => ?_)
  refine ev_iinc dX11_init_182 rfl (by decide) ?_
  dsimp only [List.set]
  rw [show (3 : Int32) + Int32.ofInt 1 = 4 by decide]
  refine ev_goto (tgt := 164) dX11_init_185 (by decide) ?_
  refine ev_iload_n dX11_init_164 rfl ?_
  refine ev_iconst (v := 4) dX11_init_165 (by decide) ?_
  refine ev_icmp_ge (tgt := 188) dX11_init_166 (by decide) (fun _ => ?_) (fun h => absurd (by decide) h)
  refine ev_iconst (v := 0) dX11_init_188 (by decide) ?_
  refine ev_istore_n dX11_init_189 (by decide) ?_
  dsimp only [List.set]
  refine go _ _ (hB.eq (fun j hj => ?_)) (by omega)
  match j, hj with
    | 0, _ => rfl
    | 1, _ => rfl
    | 2, _ => rfl
    | 3, _ => rfl
    | 4, _ => rfl
    | 5, _ => rfl
    | 6, _ => rfl
    | 7, _ => rfl
    | 8, _ => rfl
    | 9, _ => rfl
    | 10, _ => rfl
    | 11, _ => rfl
    | 12, _ => rfl
    | 13, _ => rfl
    | 14, _ => rfl
    | 15, _ => rfl
    | 16, _ => rfl
    | 17, _ => rfl
    | 18, _ => rfl
    | 19, _ => rfl
    | 20, _ => rfl
    | 21, _ => rfl
    | 22, _ => rfl
    | 23, _ => rfl
    | 24, _ => rfl
    | 25, _ => rfl
    | 26, _ => rfl
    | 27, _ => rfl
    | 28, _ => rfl
    | 29, _ => rfl
    | 30, _ => rfl
    | 31, _ => rfl
    | 32, _ => rfl
    | 33, _ => rfl
    | 34, _ => rfl
    | 35, _ => rfl
    | 36, _ => rfl
    | 37, _ => rfl
    | 38, _ => rfl
    | 39, _ => rfl
    | 40, _ => rfl
    | 41, _ => rfl
    | 42, _ => rfl
    | 43, _ => rfl
    | 44, _ => rfl
    | 45, _ => rfl
    | 46, _ => rfl
    | 47, _ => rfl
    | 48, _ => rfl
    | 49, _ => rfl
    | 50, _ => rfl
    | 51, _ => rfl
    | 52, _ => rfl
    | 53, _ => rfl
    | 54, _ => rfl
    | 55, _ => rfl
    | 56, _ => rfl
    | k + 57, h => exact absurd h (by omega)
theorem l_init0 {Q : Option Value → Mm → Prop} (hB : BW a 1 (cst z 0 (obj 11 [.null, .int 0, .null, .null, .null, .null, .int 0, .int 0, .null, .null, .null, .null, .null, .null, .int 0, .int 0, .null, .null, .null])) s μ0 μ) (go : ∀ (μ : Mm) (s' : Nat), BW a 57 (c11 a) s' μ0 μ → s' ≤ s + 4000 → Ev g 68 mX11_init 190 [some (.ref a), some (.int 0)] [] μ Q) : Ev g 68 mX11_init 0 [some (.ref a), none] [] μ Q := by
  refine ev_aload_n dX11_init_0 rfl ?_
  refine ev_objInit dX11_init_1 (mt1 26 rfl rfl) (mt1 27 rfl rfl) (mt1 28 rfl rfl) (Nat.le_of_ble_eq_true rfl) ?_
  refine ev_aload_n dX11_init_4 rfl ?_
  refine ev_bipush (v := 7) dX11_init_5 (by decide) ?_
  refine bw_anew (k := 7) (N := 1) (t := 1) (E := RX2) hB dX11_init_7 ⟨(mt1 29 rfl rfl), by decide, fun _ => rfl⟩ (ix_z (by decide) rfl) (by decide) (N1 := 2) rfl (fun μ hB => ?_)
  refine bw_putF (i := 0) (k := 0) hB (by decide) rfl dX11_init_10 fpX11_11_11 rfl (Nat.le_of_ble_eq_true rfl) rfl rfl (fun μ hB => ?_)
  refine ev_aload_n dX11_init_13 rfl ?_
  refine ev_iconst (v := 0) dX11_init_14 (by decide) ?_
  refine bw_put (i := 0) (k := 1) hB (by decide) rfl dX11_init_15 fpX11_15_11 (Nat.le_of_ble_eq_true rfl) rfl rfl (fun μ hB => ?_)
  refine ev_aload_n dX11_init_18 rfl ?_
  refine ev_bipush (v := 7) dX11_init_19 (by decide) ?_
  refine bw_newa (k := 7) (N := 2) hB dX11_init_21 (ix_z (by decide) rfl) (by decide) (N1 := 3) rfl (fun μ hB => ?_)
  refine bw_putF (i := 0) (k := 2) hB (by decide) rfl dX11_init_23 fpX11_19_11 rfl (Nat.le_of_ble_eq_true rfl) rfl rfl (fun μ hB => ?_)
  refine ev_aload_n dX11_init_26 rfl ?_
  refine ev_gets (k := 0) dX11_init_27 rfl (mt1 31 rfl rfl) ?_
  refine bw_clone (k := 0) (N := 3) hB dX11_init_30 rfl (mt1 33 rfl rfl) (Nat.le_of_ble_eq_true rfl) (N1 := 4) rfl (fun μ hB ↦ ?_) 
  refine ev_castI dX11_init_33 (mt1 39 rfl rfl) ((hB.1 3 (by decide)).trans rfl) ?_
  refine bw_putF (i := 0) (k := 3) hB (by decide) rfl dX11_init_36 fpX11_31_11 rfl (Nat.le_of_ble_eq_true rfl) rfl rfl (fun μ hB => ?_)
  refine ev_aload_n dX11_init_39 rfl ?_
  refine bw_new (ci := 4) (k := 8) (N := 4) (fs := [.int 0, .int 0, .null, .null, .int 0, .int 0, .int 0, .int 0]) hB dX11_init_40 rfl uwX4 tyX4_ok (mt1 40 rfl rfl) (mt1 41 rfl rfl) (mt1 2 rfl rfl) (fun j hj => by have q : j = 0 ∨ j = 1 ∨ j = 2 ∨ j = 3 ∨ j = 4 ∨ j = 5 ∨ j = 6 ∨ j = 7 := (by omega); rcases q with rfl | rfl | rfl | rfl | rfl | rfl | rfl | rfl <;> rfl) (N1 := 5) rfl (fun μ hB => ?_)
  refine ev_dup dX11_init_43 rfl ?_
  refine k_iN (c_iX4 (w := a + 4) (by rw [hB.2.1.1]; omega) ((hB.1 4 (by decide)).trans rfl)) (by decide) dX11_init_44 cbX4_init rfl (List.mem_of_getElem? (i := 0) rfl) (mt1 43 rfl rfl) (by decide) rfl rfl (Nat.le_of_ble_eq_true rfl) (fun v μ1 hq ↦ ?_) 
  obtain ⟨rfl, hq⟩ := hq
  rw [hB.2.1.1] at hq
  have hB := (((hB.nw (k := 160) (iar (List.replicate 160 0))).up (i := 4) (by decide) (obj 4 [.int 0, .int 0, .ref (a + 5), .null, .int 0, .int 0, .int 0, .int 0])).nw (k := 160) (iar (List.replicate 160 0))).up (i := 4) (by decide) (obj 4 [.int 0, .int 0, .ref (a + 5), .ref (a + 5 + 1), .int 0, .int 0, .int 0, .int 0])
  rw [← hq] at hB
  clear hq
  simp only [Option.toList, List.cons_append, List.nil_append]
  refine bw_putF (i := 0) (k := 4) hB (by decide) rfl dX11_init_47 fpX11_37_11 rfl (Nat.le_of_ble_eq_true rfl) rfl rfl (fun μ hB => ?_)
  refine ev_aload_n dX11_init_50 rfl ?_
  refine ev_bipush (v := 6) dX11_init_51 (by decide) ?_
  refine bw_anew (k := 6) (N := 7) (t := 2) (E := RX5) hB dX11_init_53 ⟨(mt1 74 rfl rfl), by decide, fun _ => rfl⟩ (ix_z (by decide) rfl) (by decide) (N1 := 8) rfl (fun μ hB => ?_)
  refine bw_putF (i := 0) (k := 5) hB (by decide) rfl dX11_init_56 fpX11_43_11 rfl (Nat.le_of_ble_eq_true rfl) rfl rfl (fun μ hB => ?_)
  refine ev_aload_n dX11_init_59 rfl ?_
  refine ev_iconst (v := 0) dX11_init_60 (by decide) ?_
  refine bw_put (i := 0) (k := 6) hB (by decide) rfl dX11_init_61 fpX11_47_11 (Nat.le_of_ble_eq_true rfl) rfl rfl (fun μ hB => ?_)
  refine ev_aload_n dX11_init_64 rfl ?_
  refine ev_iconst (v := 0) dX11_init_65 (by decide) ?_
  refine bw_put (i := 0) (k := 7) hB (by decide) rfl dX11_init_66 fpX11_50_11 (Nat.le_of_ble_eq_true rfl) rfl rfl (fun μ hB => ?_)
  refine ev_aload_n dX11_init_69 rfl ?_
  refine ev_iconst (v := 4) dX11_init_70 (by decide) ?_
  refine bw_anew (k := 4) (N := 8) (t := 3) (E := RX7) hB dX11_init_71 ⟨(mt1 76 rfl rfl), by decide, fun _ => rfl⟩ (ix_z (by decide) rfl) (by decide) (N1 := 9) rfl (fun μ hB => ?_)
  refine bw_putF (i := 0) (k := 8) hB (by decide) rfl dX11_init_74 fpX11_55_11 rfl (Nat.le_of_ble_eq_true rfl) rfl rfl (fun μ hB => ?_)
  refine ev_aload_n dX11_init_77 rfl ?_
  refine bw_new (ci := 10) (k := 6) (N := 9) (fs := [.int 0, .int 0, .int 0, .int 0, .int 0, .int 0]) hB dX11_init_78 rfl uwX10 tyX10_ok (mt1 78 rfl rfl) (mt1 79 rfl rfl) (mt1 3 rfl rfl) (fun j hj => by have q : j = 0 ∨ j = 1 ∨ j = 2 ∨ j = 3 ∨ j = 4 ∨ j = 5 := (by omega); rcases q with rfl | rfl | rfl | rfl | rfl | rfl <;> rfl) (N1 := 10) rfl (fun μ hB => ?_)
  refine ev_dup dX11_init_81 rfl ?_
  refine k_iN (c_iX10 (w := a + 9) ((hB.1 9 (by decide)).trans rfl)) (by decide) dX11_init_82 cbX10_init rfl (List.mem_of_getElem? (i := 1) rfl) (mt1 81 rfl rfl) (by decide) rfl rfl (Nat.le_of_ble_eq_true rfl) (fun v μ1 hq ↦ ?_)
  obtain ⟨rfl, hq⟩ := hq
  have hB := BW.up hB (i := 9) (by decide) (obj 10 [.int 0, .int 0, .int 0, .int 0, .int 0, .int 1])
  rw [← hq] at hB
  clear hq
  simp only [Option.toList, List.cons_append, List.nil_append]
  refine bw_putF (i := 0) (k := 9) hB (by decide) rfl dX11_init_85 fpX11_62_11 rfl (Nat.le_of_ble_eq_true rfl) rfl rfl (fun μ hB => ?_)
  refine ev_aload_n dX11_init_88 rfl ?_
  refine ev_bipush (v := 7) dX11_init_89 (by decide) ?_
  refine bw_newa (k := 7) (N := 10) hB dX11_init_91 (ix_z (by decide) rfl) (by decide) (N1 := 11) rfl (fun μ hB => ?_)
  refine bw_putF (i := 0) (k := 10) hB (by decide) rfl dX11_init_93 fpX11_66_11 rfl (Nat.le_of_ble_eq_true rfl) rfl rfl (fun μ hB => ?_)
  refine ev_aload_n dX11_init_96 rfl ?_
  refine ev_bipush (v := 7) dX11_init_97 (by decide) ?_
  refine bw_newa (k := 7) (N := 11) hB dX11_init_99 (ix_z (by decide) rfl) (by decide) (N1 := 12) rfl (fun μ hB => ?_)
  refine bw_putF (i := 0) (k := 11) hB (by decide) rfl dX11_init_101 fpX11_69_11 rfl (Nat.le_of_ble_eq_true rfl) rfl rfl (fun μ hB => ?_)
  refine ev_aload_n dX11_init_104 rfl ?_
  refine bw_new (ci := 6) (k := 12) (N := 12) (fs := [.null, .int 0, .int 0, .int 0, .null, .null, .null, .null, .null, .null, .int 0, .null]) hB dX11_init_105 rfl uwX6 tyX6_ok (mt1 106 rfl rfl) (mt1 107 rfl rfl) (mt1 4 rfl rfl) (fun j hj => by have q : j = 0 ∨ j = 1 ∨ j = 2 ∨ j = 3 ∨ j = 4 ∨ j = 5 ∨ j = 6 ∨ j = 7 ∨ j = 8 ∨ j = 9 ∨ j = 10 ∨ j = 11 := (by omega); rcases q with rfl | rfl | rfl | rfl | rfl | rfl | rfl | rfl | rfl | rfl | rfl | rfl <;> rfl) (N1 := 13) rfl (fun μ hB => ?_)
  refine ev_dup dX11_init_108 rfl ?_
  refine ev_iconst (v := 0) dX11_init_109 (by decide) ?_
  refine k_i (c_iX6_0 hB) (by decide) dX11_init_110 cbX6_init rfl (mt1 108 rfl rfl) (mt1 109 rfl rfl) (by decide) rfl rfl (Nat.le_of_ble_eq_true rfl) (fun v μ1 hq ↦ ?_) 
  obtain ⟨rfl, c1, hc1, hB⟩ := hq
  have hB := hB.eq hc1
  clear hc1
  simp only [Option.toList, List.cons_append, List.nil_append]
  refine bw_putF (i := 0) (k := 12) hB (by decide) rfl dX11_init_113 fpX11_77_11 rfl (Nat.le_of_ble_eq_true rfl) rfl rfl (fun μ hB => ?_)
  refine ev_aload_n dX11_init_116 rfl ?_
  refine bw_new (ci := 6) (k := 12) (N := 29) (fs := [.null, .int 0, .int 0, .int 0, .null, .null, .null, .null, .null, .null, .int 0, .null]) hB dX11_init_117 rfl uwX6 tyX6_ok (mt1 106 rfl rfl) (mt1 107 rfl rfl) (mt1 4 rfl rfl) (fun j hj => by have q : j = 0 ∨ j = 1 ∨ j = 2 ∨ j = 3 ∨ j = 4 ∨ j = 5 ∨ j = 6 ∨ j = 7 ∨ j = 8 ∨ j = 9 ∨ j = 10 ∨ j = 11 := (by omega); rcases q with rfl | rfl | rfl | rfl | rfl | rfl | rfl | rfl | rfl | rfl | rfl | rfl <;> rfl) (N1 := 30) rfl (fun μ hB => ?_)
  refine ev_dup dX11_init_120 rfl ?_
  refine ev_iconst (v := 1) dX11_init_121 (by decide) ?_
  refine k_i (c_iX6_1 hB) (by decide) dX11_init_122 cbX6_init rfl (mt1 108 rfl rfl) (mt1 109 rfl rfl) (by decide) rfl rfl (Nat.le_of_ble_eq_true rfl) (fun v μ1 hq ↦ ?_) 
  obtain ⟨rfl, c1, hc1, hB⟩ := hq
  have hB := hB.eq hc1
  clear hc1
  simp only [Option.toList, List.cons_append, List.nil_append]
  refine bw_putF (i := 0) (k := 13) hB (by decide) rfl dX11_init_125 fpX11_81_11 rfl (Nat.le_of_ble_eq_true rfl) rfl rfl (fun μ hB => ?_)
  refine l_init0b (hB.eq (fun j hj => ?_)) (fun μ s' h1 h2 => go μ s' h1 (by simp only [List.length_cons, List.length_nil] at h2; omega))
  match j, hj with
    | 0, _ => rfl
    | 1, _ => rfl
    | 2, _ => rfl
    | 3, _ => rfl
    | 4, _ => rfl
    | 5, _ => rfl
    | 6, _ => rfl
    | 7, _ => rfl
    | 8, _ => rfl
    | 9, _ => rfl
    | 10, _ => rfl
    | 11, _ => rfl
    | 12, _ => rfl
    | 13, _ => rfl
    | 14, _ => rfl
    | 15, _ => rfl
    | 16, _ => rfl
    | 17, _ => rfl
    | 18, _ => rfl
    | 19, _ => rfl
    | 20, _ => rfl
    | 21, _ => rfl
    | 22, _ => rfl
    | 23, _ => rfl
    | 24, _ => rfl
    | 25, _ => rfl
    | 26, _ => rfl
    | 27, _ => rfl
    | 28, _ => rfl
    | 29, _ => rfl
    | 30, _ => rfl
    | 31, _ => rfl
    | 32, _ => rfl
    | 33, _ => rfl
    | 34, _ => rfl
    | 35, _ => rfl
    | 36, _ => rfl
    | 37, _ => rfl
    | 38, _ => rfl
    | 39, _ => rfl
    | 40, _ => rfl
    | 41, _ => rfl
    | 42, _ => rfl
    | 43, _ => rfl
    | 44, _ => rfl
    | 45, _ => rfl
    | k + 46, h => exact absurd h (by omega)
end KINIT11
