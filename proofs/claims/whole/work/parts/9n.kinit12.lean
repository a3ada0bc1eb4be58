/-! ===== the class: its constructor, the first text ===== -/
def tx0 : List Int32 := scB.getD 0 []
theorem tx0_B : txB tx0 = true := by decide +kernel
theorem tx0_X : (txK 3 0 (skp tx0)).2.2 = [[30, 20005, 5, 30003, 30001], [5, 20003, 30004], [20, 20003, 30002]] := by decide +kernel
def c11F (a : Nat) (T C : List Int32) (f : Nat → Int32) : Nat → MC := fun i =>
  if i = 0 then obj 11 [.ref (a + 1), .int 0, .ref (a + 2), .ref (a + 3), .ref (a + 4), .ref (a + 7), .int 1, .int 0, .ref (a + 8), .ref (a + 9), .ref (a + 10), .ref (a + 11), .ref (a + 12), .ref (a + 29), .int (-1), .int 0, .ref (a + 46), .ref (a + 47), .ref (a + 48)]
  else if i = 4 then obj 4 (rdF (a + 4) f) else if i = 5 then iar T else if i = 6 then iar C else if i = 7 then rar 2 ((List.replicate 6 none).set 0 (some (a + 57)))
  else if i = 57 then obj 5 [.ref (a + 58), .int 5, .int 8, .ref (a + 59)] else if i = 58 then iar (([30, 20005, 5, 30003, 30001, 5, 20003, 30004, 20, 20003, 30002] : List Int32).map en) else if i = 59 then iar (List.replicate 32 0) else c11 a i
section KINIT12
variable {g : Gl} {μ μ0 : Mm} {a s r : Nat} {T C : List Int32} {f : Nat → Int32}
theorem c_append {z : Nat} (hO : RDo r f T C μ) (h0 : f 0 = nI z) (hz : z < 160) (hT : T.length = 160) (x : Int32) : Mt g 0 mX4_append [.ref r, .int x] μ (fun v μ' => v = none ∧ RDo r (rset f 0 (nI (z + 1))) (T.set z x) C μ' ∧ FR r μ μ') := by
  refine Mt.of0 (ls0 := [some (.ref r), some (.int x)]) (by decide) (by simp [Value.category]) (Nat.le_of_ble_eq_true rfl) rfl ?_
  have hF : FR r μ μ := FR.rf
  refine ev_aload_n dX4_append_0 rfl ?_
  refine ev_get dX4_append_1 flX4_9_4 hO.1 rfl ?_
  rw [h0]
  refine ev_sipush (v := 160) dX4_append_4 (by decide) ?_
  refine ev_icmp_ge (tgt := 30) dX4_append_7 (by decide) (fun h7 => absurd h7 ((show ¬ nI 160 ≤ nI z from nI_ge hz (by decide)))) (fun _ => ?_)
  refine ev_aload_n dX4_append_10 rfl ?_
  refine ev_get dX4_append_11 flX4_18_4 hO.1 rfl ?_
  refine ev_aload_n dX4_append_14 rfl ?_
  refine ev_get dX4_append_15 flX4_9_4 hO.1 rfl ?_
  rw [h0]
  refine ev_iload_n dX4_append_18 rfl ?_
  refine evR_iastT hO hF dX4_append_19 (ix_n (by omega)) (show z < T.length by omega) (fun μ hO hF => ?_)
  refine ev_aload_n dX4_append_20 rfl ?_
  refine ev_dup dX4_append_21 rfl ?_
  refine ev_get dX4_append_22 flX4_9_4 hO.1 rfl ?_
  rw [h0]
  refine ev_iconst (v := 1) dX4_append_25 (by decide) ?_
  refine ev_iadd dX4_append_26 ?_
  rw [nI_1]
  refine evR_put hO hF (k := 0) (by decide) dX4_append_27 fpX4_9_4 (fun μ hO hF => ?_)
  refine ev_vret dX4_append_30 rfl ?_
  exact ⟨rfl, hO, hF⟩
theorem c_clear (hO : RDo r f T C μ) : Mt g 0 mX4_clear [.ref r] μ (fun v μ' => v = none ∧ RDo r (rset f 0 0) T C μ' ∧ FR r μ μ') := by
  refine Mt.of0 (ls0 := [some (.ref r)]) (by decide) (by simp [Value.category]) (Nat.le_of_ble_eq_true rfl) rfl ?_
  have hF : FR r μ μ := FR.rf
  refine ev_aload_n dX4_clear_0 rfl ?_
  refine ev_iconst (v := 0) dX4_clear_1 (by decide) ?_
  refine evR_put hO hF (k := 0) (by decide) dX4_clear_2 fpX4_9_4 (fun μ hO hF => ?_)
  refine ev_vret dX4_clear_5 rfl ?_
  exact ⟨rfl, hO, hF⟩
theorem l_init190 {μI : Mm} (hm0 : μI.1 a = some (c11 a 0)) {Q : Option Value → Mm → Prop} (go : ∀ (μ : Mm) (f : Nat → Int32) (T : List Int32), RDo (a + 4) f T C μ → FR (a + 4) μI μ → T.length = 160 → f 0 = nI 53 → (∀ i, i < 53 → T[i]? = some (scb 0 i)) → Ev g 68 mX11_init 218 [some (.ref a), some (.int (nI 53))] [] μ Q) : ∀ (m j : Nat) (μ : Mm) (f : Nat → Int32) (T : List Int32), j + m = 53 → RDo (a + 4) f T C μ → FR (a + 4) μI μ → T.length = 160 → f 0 = nI j → (∀ i, i < j → T[i]? = some (scb 0 i)) → Ev g 68 mX11_init 190 [some (.ref a), some (.int (nI j))] [] μ Q := by
  intro m
  induction m with
  | zero =>
    intro j μ f T hj hO hF hT h0 hi
    have hj : j = 53 := by omega
    subst hj
    refine ev_iload_n dX11_init_190 rfl ?_
    refine ev_ldcS (k := 0) dX11_init_191 rfl rfl rfl ?_
    refine ev_callS ((c_sLen (i := 0) (by decide)).mono (by decide)) (by decide) dX11_init_193 cbJ0_length_8abf5 (mt1 175 rfl rfl) (mt1 176 rfl rfl) (mt1 177 rfl rfl) rfl rfl (Nat.le_of_ble_eq_true rfl) (fun v μ1 hq ↦ ?_)
    obtain ⟨rfl, hμ⟩ := hq
    have hμ := hμ.symm
    subst hμ
    simp only [Option.toList, List.cons_append, List.nil_append]
    refine ev_icmp_ge (tgt := 218) dX11_init_196 (by decide) (fun _ => ?_) (fun h196 => absurd ((show nI (scN.getD 0 0) ≤ nI 53 from Int32.le_refl _)) h196)
    exact go μ f T hO hF hT h0 hi
  | succ m ih =>
    intro j μ f T hj hO hF hT h0 hi
    have ha : μ.1 a = some (c11 a 0) := (hF.2 a (Or.inl (by omega))).trans hm0
    refine ev_iload_n dX11_init_190 rfl ?_
    refine ev_ldcS (k := 0) dX11_init_191 rfl rfl rfl ?_
    refine ev_callS ((c_sLen (i := 0) (by decide)).mono (by decide)) (by decide) dX11_init_193 cbJ0_length_8abf5 (mt1 175 rfl rfl) (mt1 176 rfl rfl) (mt1 177 rfl rfl) rfl rfl (Nat.le_of_ble_eq_true rfl) (fun v μ1 hq ↦ ?_)
    obtain ⟨rfl, hμ⟩ := hq
    have hμ := hμ.symm
    subst hμ
    simp only [Option.toList, List.cons_append, List.nil_append]
    refine ev_icmp_ge (tgt := 218) dX11_init_196 (by decide) (fun h196 => absurd h196 ((show ¬ nI (scN.getD 0 0) ≤ nI j from nI_ge (show j < 53 by omega) (by decide)))) (fun _ => ?_)
    refine ev_aload_n dX11_init_199 rfl ?_
    refine ev_get dX11_init_200 flX11_37_11 ha rfl ?_
    refine ev_ldcS (k := 0) dX11_init_203 rfl rfl rfl ?_
    refine ev_iload_n dX11_init_205 rfl ?_
    refine ev_callS ((c_chr (i := 0) (j := j) (by decide) (show j < 53 by omega)).mono (by decide)) (by decide) dX11_init_206 cbJ0_charAt_5068e (mt1 185 rfl rfl) (mt1 186 rfl rfl) (mt1 187 rfl rfl) rfl rfl (Nat.le_of_ble_eq_true rfl) (fun v μ1 hq ↦ ?_)
    obtain ⟨rfl, hμ⟩ := hq
    have hμ := hμ.symm
    subst hμ
    simp only [Option.toList, List.cons_append, List.nil_append]
    refine k_v (c_append hO h0 (by omega) hT (scb 0 j)) (by decide) dX11_init_209 cbX4_append (mt1 223 rfl rfl) (mt1 224 rfl rfl) (mt1 225 rfl rfl) (ci := 4) rfl hO.1 rfl rfl (Nat.le_of_ble_eq_true rfl) (fun v μ1 hq => ?_)
    obtain ⟨rfl, hO1, hF1⟩ := hq
    simp only [Option.toList, List.cons_append, List.nil_append]
    refine ev_iinc dX11_init_212 rfl (by decide) ?_
    dsimp only [List.set]
    refine ev_goto (tgt := 190) dX11_init_215 (by decide) ?_
    rw [nI_inc]
    refine ih (j + 1) _ _ _ (by omega) hO1 (hF.tr hF1) (by rw [List.length_set]; exact hT) rfl (fun i hi2 => ?_)
    by_cases e : i = j
    · rw [e, List.getElem?_set_self (by omega)]
    · rw [List.getElem?_set_ne (Ne.symm e)]; exact hi i (by omega)
theorem l_init218 {μI : Mm} (hB : BW a 57 (c11 a) s μ0 μI) (hO : RDo (a + 4) f T C μ) (hF : FR (a + 4) μI μ) (hT : T.length = 160) (hC : C.length = 160) (h0 : f 0 = nI 53) (hi : ∀ i, i < 53 → T[i]? = some (scb 0 i)) {x : Option Value} : Ev g 68 mX11_init 218 [some (.ref a), x] [] μ (fun v μ' => v = none ∧ ∃ (C' : List Int32) (f' : Nat → Int32) (s' : Nat), C'.length = 160 ∧ f' 0 = 0 ∧ s' ≤ s + 200 ∧ BW a 60 (c11F a T C' f') s' μ0 μ') := by
  have top : μ.2.1 = a + 57 := by rw [hF.1]; exact hB.2.1.1
  have ts : μ.2.2 = s := by rw [hF.1]; exact hB.2.1.2
  have old : ∀ i, i < 57 → i ≠ 4 → i ≠ 5 → i ≠ 6 → μ.1 (a + i) = some (c11 a i) := fun i h1 h2 h3 h4 => (hF.2 _ (by omega)).trans (hB.1 i h1)
  have ha : μ.1 a = some (c11 a 0) := old 0 (by decide) (by decide) (by decide) (by decide)
  have hRT : RT T tx0 := by
    refine ⟨by decide, fun i c hc => ?_⟩
    have hl : i < 53 := (List.getElem?_eq_some_iff.mp hc).1
    rw [hi i hl]
    have e := gd (l := tx0) (j := i) hl
    rw [hc] at e
    exact e.symm
  refine ev_aload_n dX11_init_218 rfl ?_
  refine ev_get dX11_init_219 flX11_43_11 ha rfl ?_
  refine ev_iconst (v := 0) dX11_init_222 (by decide) ?_
  refine ev_aload_n dX11_init_223 rfl ?_
  refine ev_get dX11_init_224 flX11_37_11 ha rfl ?_
  refine k_v ((c_read hO hC hRT h0 (by omega)).mono (by decide : 66 ≤ 67)) (by decide) dX11_init_227 cbX4_read (mt1 227 rfl rfl) (mt1 228 rfl rfl) (mt1 229 rfl rfl) (ci := 4) rfl hO.1 rfl rfl (Nat.le_of_ble_eq_true rfl) (fun v μ1 hq => ?_)
  obtain ⟨-, rfl, k0, k1, k2, f1, C1, hX, -, -, hO1, hC1, hf1, u0, u1, u2, s1, ⟨s2, s3⟩, fr⟩ := hq.resolve_right (fun q => q.1 tx0_B)
  clear hq
  rw [tx0_X] at hX
  obtain ⟨e0, hX1⟩ := List.cons.inj hX
  obtain ⟨e1, hX2⟩ := List.cons.inj hX1
  obtain ⟨e2, -⟩ := List.cons.inj hX2
  clear hX hX1 hX2
  subst e0
  subst e1
  subst e2
  rw [top] at u0 u1 u2 s1
  rw [top]
  have n7 : μ1.1 (a + 7) = some (rar 2 (List.replicate 6 none)) := (fr (a + 7) (by omega) (by omega)).trans (old 7 (by decide) (by decide) (by decide) (by decide))
  have n0 : μ1.1 a = some (c11 a 0) := (fr a (by omega) (by omega)).trans ha
  simp only [Option.toList, List.cons_append, List.nil_append]
  refine ev_aast dX11_init_230 n7 u0 aok_r (ix_z (n := 0) (by decide) rfl) (by simp) ?_
  refine ev_aload_n dX11_init_231 rfl ?_
  refine ev_iconst (v := 1) dX11_init_232 (by decide) ?_
  refine ev_put dX11_init_233 fpX11_47_11 (show (mupd μ1 (a + 7) (rar 2 ((List.replicate 6 none).set 0 (some (a + 57))))).1 a = some (c11 a 0) by rw [mupd_ne (by omega)]; exact n0) (Nat.le_of_ble_eq_true rfl) rfl rfl ?_
  have nA : ∀ q, q ≠ a → q ≠ a + 7 → (mupd (mupd μ1 (a + 7) (rar 2 ((List.replicate 6 none).set 0 (some (a + 57))))) a (c11F a T C1 f1 0)).1 q = μ1.1 q := fun q h1 h2 => by rw [mupd_ne h1, mupd_ne h2]
  have nA0 : (mupd (mupd μ1 (a + 7) (rar 2 ((List.replicate 6 none).set 0 (some (a + 57))))) a (c11F a T C1 f1 0)).1 a = some (c11F a T C1 f1 0) := mupd_eq
  have nA7 : (mupd (mupd μ1 (a + 7) (rar 2 ((List.replicate 6 none).set 0 (some (a + 57))))) a (c11F a T C1 f1 0)).1 (a + 7) = some (rar 2 ((List.replicate 6 none).set 0 (some (a + 57)))) := by rw [mupd_ne (by omega)]; exact mupd_eq
  have nA2 : (mupd (mupd μ1 (a + 7) (rar 2 ((List.replicate 6 none).set 0 (some (a + 57))))) a (c11F a T C1 f1 0)).2 = μ1.2 := rfl
  have eA : mupd (mupd μ1 (a + 7) (rar 2 ((List.replicate 6 none).set 0 (some (a + 57))))) a (obj 11 (([.ref (a + 1), .int 0, .ref (a + 2), .ref (a + 3), .ref (a + 4), .ref (a + 7), .int 0, .int 0, .ref (a + 8), .ref (a + 9), .ref (a + 10), .ref (a + 11), .ref (a + 12), .ref (a + 29), .int (-1), .int 0, .ref (a + 46), .ref (a + 47), .ref (a + 48)] : List Value).set 6 (.int 1))) = mupd (mupd μ1 (a + 7) (rar 2 ((List.replicate 6 none).set 0 (some (a + 57))))) a (c11F a T C1 f1 0) := rfl
  rw [eA]
  generalize mupd (mupd μ1 (a + 7) (rar 2 ((List.replicate 6 none).set 0 (some (a + 57))))) a (c11F a T C1 f1 0) = μA at nA nA0 nA7 nA2 ⊢
  have ha : μA.1 a = some (c11F a T C1 f1 0) := nA0
  have hO : RDo (a + 4) f1 T C1 μA := ⟨by rw [nA _ (by omega) (by omega)]; exact hO1.1, by rw [nA _ (by omega) (by omega)]; exact hO1.2.1, by rw [nA _ (by omega) (by omega)]; exact hO1.2.2⟩
  refine ev_aload_n dX11_init_236 rfl ?_
  refine ev_get dX11_init_237 flX11_37_11 ha rfl ?_
  refine k_v (c_clear hO) (by decide) dX11_init_240 cbX4_clear (mt2 109 rfl rfl) (mt2 110 rfl rfl) (mt2 111 rfl rfl) (ci := 4) rfl hO.1 rfl rfl (Nat.le_of_ble_eq_true rfl) (fun v μ1 hq => ?_)
  obtain ⟨rfl, hO2, hF2⟩ := hq
  simp only [Option.toList, List.cons_append, List.nil_append]
  refine ev_vret dX11_init_243 rfl ?_
  refine ⟨rfl, C1, rset f1 0 0, _, hC1, rfl, ?_, fun i hi2 => ?_, ⟨?_, rfl⟩, fun q hq => ?_⟩
  · rw [hF2.1, nA2]; omega
  · by_cases i4 : i = 4
    · subst i4; exact hO2.1
    · by_cases i5 : i = 5
      · subst i5; exact hO2.2.1
      · by_cases i6 : i = 6
        · subst i6; exact hO2.2.2
        · rw [hF2.2 _ (by omega)]
          by_cases i0 : i = 0
          · subst i0; exact nA0
          · by_cases i7 : i = 7
            · subst i7; exact nA7
            · rw [nA _ (by omega) (by omega)]
              by_cases i57 : i = 57
              · subst i57; exact u0
              · by_cases i58 : i = 58
                · subst i58; exact u1
                · by_cases i59 : i = 59
                  · subst i59; exact u2
                  · rw [fr _ (by omega) (by omega), old i (by omega) i4 i5 i6]
                    unfold c11F
                    rw [if_neg i0, if_neg i4, if_neg i5, if_neg i6, if_neg i7, if_neg i57, if_neg i58, if_neg i59]
  · rw [hF2.1, nA2]; exact s1
  · rw [hF2.2 q (by omega), nA q (by omega) (by omega), fr q (by omega) (by omega), hF.2 q (by omega)]
    exact hB.2.2 q hq
theorem c_iX11 {z : Nat → MC} (hB : BW a 1 (cst z 0 (obj 11 [.null, .int 0, .null, .null, .null, .null, .int 0, .int 0, .null, .null, .null, .null, .null, .null, .int 0, .int 0, .null, .null, .null])) s μ0 μ) : Mt g 68 mX11_init [.ref a] μ (fun v μ' => v = none ∧ ∃ (T C : List Int32) (f : Nat → Int32) (s' : Nat), T.length = 160 ∧ C.length = 160 ∧ f 0 = 0 ∧ s' ≤ s + 4200 ∧ BW a 60 (c11F a T C f) s' μ0 μ') := by
  refine Mt.of0 (ls0 := [some (.ref a), none]) (by decide) (by simp [Value.category]) (Nat.le_of_ble_eq_true rfl) rfl ?_
  refine l_init0 hB (fun μI s1 hI hs => ?_)
  refine l_init190 (C := List.replicate 160 0) (μI := μI) (hI.1 0 (by decide)) (fun μ f T hO hF hT h0 hi => ?_) 53 0 μI (fun k => 0) (List.replicate 160 0) rfl ⟨hI.1 4 (by decide), hI.1 5 (by decide), hI.1 6 (by decide)⟩ FR.rf (by simp) rfl (fun i hi => absurd hi (Nat.not_lt_zero i))
  refine (l_init218 hI hO hF hT (by simp) h0 hi).imp (fun v μ' hq => ?_)
  obtain ⟨h1, C', f', s', h2, h3, h4, h5⟩ := hq
  exact ⟨h1, T, C', f', s', hT, h2, h3, by omega, h5⟩
end KINIT12
