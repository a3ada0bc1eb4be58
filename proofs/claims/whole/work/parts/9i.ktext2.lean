/-! ===== the class: text, the walk ===== -/
section KTEXT
variable {a m tx n t : Nat} {ρ ρ' : MS} {cd : Nat → List Int32} {Lf : Nat → Nat} {σ : KS} {μ : Mm}
theorem tx_t8 (hn7 : n ≤ 7) {tx' : Nat} {cd' : Nat → List Int32} {σ' : KS} (hT : KTie ρ n t tx cd Lf m σ) (hA : ∀ k ∈ coreA, k ≠ 11 → k ≠ 12 → ρ'.1 k = ρ.1 k) (hJ : ∀ k ∈ coreI, k ≠ 15 → k ≠ 16 → ρ'.2 k = ρ.2 k) (h15 : ρ'.2 15 = 0) (h99 : ρ'.1 99 = ρ.1 99) (hru : KRu t tx' cd' σ') (er : ∀ k, k < 200 → k ≠ 6 → σ'.1 k = σ.1 k) (e6 : (σ'.1 6).length = 160) (ei : ∀ o k, o < 200 → o ≠ 4 → (o ≠ 0 ∨ k ≠ 6) → kI σ' o k = kI σ o k) (e4 : kI σ' 4 0 = 0) (eD : kD σ' = kD σ) (htx : tx ≤ tx') (hcd : ∀ w, w < 3 → cd' (3 * t + w) = cd (3 * t + w)) : KTie ρ' n t tx' cd' Lf m σ' := by
  have hFc : Fc ρ' = Fc ρ := by
    funext k x
    show (if k < 5 then (ρ'.1 k).getD x 0 else 0) = (if k < 5 then (ρ.1 k).getD x 0 else 0)
    by_cases hk : k < 5
    · rw [if_pos hk, if_pos hk, hA k (by simp only [coreA, List.mem_cons, List.not_mem_nil, or_false]; omega) (by omega) (by omega)]
    · rw [if_neg hk, if_neg hk]
  have hB := hT.bs
  obtain ⟨h1, h2, h3, h4, h5, h6, h7, h8⟩ := hT.t8
  refine KT8.tie ⟨fun q hq => ?_, ?_, ⟨h3.1, (ei 0 1 (by decide) (by decide) (Or.inr (by decide))).trans h3.2.1, fun x hx => ?_⟩, fun i hi => by rw [er 2 (by decide) (by decide)]; exact h4 i hi, ⟨e4.trans h15.symm, fun i c hi => ?_⟩, hru, fun s hs => ?_, ?_⟩ ?_
  · have h200 : ∀ q ∈ kLen, q.1 < 200 := by decide
    by_cases q6 : q.1 = 6
    · have k6 : ∀ q ∈ kLen, q.1 = 6 → q.2 = 160 := by decide
      rw [k6 q hq q6, q6]; exact e6
    · rw [er _ (h200 q hq) q6]; exact h1 q hq
  · rw [er 3 (by decide) (by decide), hA 6 (by decide) (by decide) (by decide)]; exact h2
  · obtain ⟨w1, w2, w3⟩ := h3.2.2 x hx
    have hx7 : x < 7 := Nat.lt_of_lt_of_le hx hn7
    rw [eD, hFc]
    exact ⟨w1, (ei _ _ (by omega) (by omega) (Or.inl (by omega))).trans w2, fun k hk => (ei _ _ (by omega) (by omega) (Or.inl (by omega))).trans (w3 k hk)⟩
  · rw [h15, show (0 : Int32).toInt.toNat = 0 by decide] at hi
    exact absurd hi (Nat.not_lt_zero i)
  · obtain ⟨x1, x2, x3⟩ := h7 s hs
    rw [hA 33 (by decide) (by decide) (by decide), hA 34 (by decide) (by decide) (by decide), hA 35 (by decide) (by decide) (by decide)]
    refine ⟨(ei _ _ (by omega) (by omega) (Or.inl (by omega))).trans x1, (ei _ _ (by omega) (by omega) (Or.inl (by omega))).trans x2, fun i hi => by rw [er _ (by omega) (by omega)]; exact x3 i hi⟩
  · unfold KKp
    rw [hJ 30 (by decide) (by decide) (by decide), ei 0 14 (by decide) (by decide) (Or.inr (by decide)), ei 0 15 (by decide) (by decide) (Or.inr (by decide)), er 46 (by decide) (by decide), er 47 (by decide) (by decide), er 48 (by decide) (by decide)]
    refine h8.imp id (fun q => ?_)
    obtain ⟨q0, kn, kt, kL, k1, k2⟩ := q
    refine ⟨q0, kn, kt, kL, ?_, ?_⟩
    · unfold KImg at k1 ⊢
      rw [hA 29 (by decide) (by decide) (by decide)]
      obtain ⟨y1, y2, y3, y4, y5⟩ := k1
      exact ⟨y1, y2, y3, Nat.lt_of_lt_of_le y4 htx, y5⟩
    · rw [hA 29 (by decide) (by decide) (by decide)]; exact k2
  · have hB2 := hB.eq hFc h99
    intro so hso
    rw [ei _ _ (by omega) (by omega) (Or.inl (by omega)), ei _ _ (by omega) (by omega) (Or.inl (by omega)), ei _ _ (by omega) (by omega) (Or.inl (by omega)), er _ (by omega) (by omega), bst_cd hcd, bst_cd hcd, bst_cd hcd]
    exact hB2 so hso
theorem tx_im0 (hI : IM ρ n t tx cd Lf) (hA : ∀ k ∈ coreA, k ≠ 11 → k ≠ 12 → ρ'.1 k = ρ.1 k) (hJ : ∀ k ∈ coreI, k ≠ 15 → k ≠ 16 → ρ'.2 k = ρ.2 k) {tx' : Nat} {cd' : Nat → List Int32} (h16 : ρ'.2 16 = nI tx') (h6 : tx' ≤ 6) (htx : tx ≤ tx') (hR : ∀ r, r < 3 * tx' → RC ρ' r (cd' r) ∧ WF (cd' r)) : IM ρ' n t tx' cd' Lf := by
  obtain ⟨h1, h2, h3, h4, h5, -, h7, h8⟩ := hI
  have hFc : Fc ρ' = Fc ρ := by
    funext k x
    show (if k < 5 then (ρ'.1 k).getD x 0 else 0) = (if k < 5 then (ρ.1 k).getD x 0 else 0)
    by_cases hk : k < 5
    · rw [if_pos hk, if_pos hk, hA k (by simp only [coreA, List.mem_cons, List.not_mem_nil, or_false]; omega) (by omega) (by omega)]
    · rw [if_neg hk, if_neg hk]
  have hSe : Se ρ' = Se ρ := by
    funext i
    show (ρ'.1 6).getD i 0 = (ρ.1 6).getD i 0
    rw [hA 6 (by decide) (by decide) (by decide)]
  exact ⟨by rw [hFc]; exact h1, by rw [hSe]; exact h2, by rw [hJ 7 (by decide) (by decide) (by decide)]; exact h3, ⟨by rw [hJ 8 (by decide) (by decide) (by decide)]; exact h4.1, by omega⟩, ⟨h16, h6⟩, hR, by rw [hA 5 (by decide) (by decide) (by decide)]; exact h7, h8⟩
variable {g : Gl}
theorem c_kClear (hM : KM a m tx σ μ) : Mt g 0 mX4_clear [.ref (a + 4)] μ (fun v μ' => v = none ∧ μ' = mupd μ (a + 4) (obj 4 ((kf 4 a σ 4).set 0 (.int 0)))) := by
  refine Mt.of0 (ls0 := [some (.ref (a + 4))]) (by decide) (by simp [Value.category]) (Nat.le_of_ble_eq_true rfl) rfl ?_
  refine ev_aload_n dX4_clear_0 rfl ?_
  refine ev_iconst (v := 0) dX4_clear_1 (by decide) ?_
  refine ev_put dX4_clear_2 fpX4_9_4 (hM.o 4 4 (by decide)) (Nat.le_of_ble_eq_true rfl) rfl rfl ?_
  refine ev_vret dX4_clear_5 rfl ?_
  exact ⟨rfl, rfl⟩
/-- what text() leaves, of both -/
def TxP (a n t tx : Nat) (cd : Nat → List Int32) (Lf : Nat → Nat) (m : Nat) (ρ : MS) (tp : List Int32) (μ' : Mm) : Prop := ∀ ρ', TxR tx tp ρ' ρ → ρ'.1 99 = ρ.1 99 → ∃ (tx' : Nat) (cd' : Nat → List Int32), IM ρ' n t tx' cd' Lf ∧ KV a ρ' n t tx' cd' Lf m μ'
theorem c_kText (hI : IM ρ n t tx cd Lf) (hM : KM a m tx σ μ) (hT : KTie ρ n t tx cd Lf m σ) {tp : List Int32} (hP : TP ρ tp) : Mt g 67 mX11_text [.ref a] μ (fun v μ' => v = some (.int (txA tx tp)) ∧ TxP a n t tx cd Lf m ρ tp μ' ∧ FN a 3 200 μ μ') := by
  refine Mt.of0 (ls0 := [some (.ref a), none, none]) (by decide) (by simp [Value.category]) (Nat.le_of_ble_eq_true rfl) rfl ?_
  have hF : FC a μ μ := FC.rf
  have htx := hI.2.2.2.2.1.2
  have hA := hM.ad
  have hA6 : a + 94 ≤ μ.2.1 := hA.2.2.2.2.2.1
  have ht := hI.2.2.2.1.2
  have hru := hT.ru
  obtain ⟨p1, p2, p3⟩ := hP
  have e6 : nI tx < nI 6 ↔ tx < 6 := nI_ltI (by omega) (by decide)
  by_cases h6 : tx = 6
  · skip
    refine ev_aload_n dX11_text_0 rfl ?_
    refine ev_get dX11_text_1 flX11_47_11 (hM.o 0 11 (by decide)) rfl ?_
    rw [show kI σ 0 6 = nI tx from hru.1]
    refine ev_bipush (v := 6) dX11_text_4 (by decide) ?_
    refine ev_icmp_lt (tgt := 12) dX11_text_6 (by decide) (fun h6 => absurd h6 ((show ¬ nI tx < nI 6 by rw [e6]; omega))) (fun _ => ?_)
    refine ev_bipush (v := (-4)) dX11_text_9 (by decide) ?_
    refine ev_iret dX11_text_11 rfl ?_
    refine ⟨by rw [txA, if_pos h6], fun ρ' hr h99 => ?_, FN.of hF⟩
    rw [TxR, if_pos h6] at hr
    subst hr
    exact ⟨tx, cd, hI, σ, hM, hT⟩
  · have hRT : RT (σ.1 5) tp := by
      refine ⟨p2, fun i c hi => ?_⟩
      have h5 := hT.t8.2.2.2.2.1
      have hil := (List.getElem?_eq_some_iff.mp hi).1
      refine h5.2 i c ?_ (p3 i c hi)
      rw [p1, nI_i (by omega)]
      omega
    have h0 : kI σ 4 0 = nI tp.length := hT.t8.2.2.2.2.1.1.trans p1
    have l6 : (σ.1 6).length = 160 := hT.ln (k := 6) (by decide)
    have hb : txB tp = true ∨ ¬ txB tp = true := Classical.em _
    have rd := c_read (g := g) hM.rd l6 hRT h0 (show a + 4 + 3 ≤ μ.2.1 by omega)
    by_cases hB : txB tp = true
    · skip
      refine ev_aload_n dX11_text_0 rfl ?_
      refine ev_get dX11_text_1 flX11_47_11 (hM.o 0 11 (by decide)) rfl ?_
      rw [show kI σ 0 6 = nI tx from hru.1]
      refine ev_bipush (v := 6) dX11_text_4 (by decide) ?_
      refine ev_icmp_lt (tgt := 12) dX11_text_6 (by decide) (fun _ => ?_) (fun h6 => absurd ((show nI tx < nI 6 by rw [e6]; omega)) h6)
      refine ev_aload_n dX11_text_12 rfl ?_
      refine ev_get dX11_text_13 flX11_37_11 (hM.o 0 11 (by decide)) rfl ?_
      refine k_v rd (by decide) dX11_text_16 cbX4_read (mt1 227 rfl rfl) (mt1 228 rfl rfl) (mt1 229 rfl rfl) (ci := 4) rfl (hM.o 4 4 (by decide)) rfl rfl (Nat.le_of_ble_eq_true rfl) (fun v μ1 hq => ?_)
      obtain ⟨-, rfl, c0, c1, c2, f, C, hX, ⟨b0, b1, b2⟩, hl, hO, hC, hf0, u0, u1, u2, s1, ⟨s2, s3⟩, fr⟩ := hq.resolve_right (fun q => q.1 hB)
      clear hq
      have hM1 := hM.rdS hO (by omega) fr
      simp only [Option.toList, List.cons_append, List.nil_append]
      refine ev_astore_n dX11_text_19 (by decide) ?_
      dsimp only [List.set]
      have hM := hM1
      refine ev_aload_n dX11_text_20 rfl ?_
      refine ev_get dX11_text_21 flX11_37_11 (hM.o 0 11 (by decide)) rfl ?_
      refine k_v (c_kClear hM1) (by decide) dX11_text_24 cbX4_clear (mt2 109 rfl rfl) (mt2 110 rfl rfl) (mt2 111 rfl rfl) (ci := 4) rfl (hM.o 4 4 (by decide)) rfl rfl (Nat.le_of_ble_eq_true rfl) (fun v μ1 hq => ?_)
      obtain ⟨rfl, hq⟩ := hq
      rename_i μA
      have hM2 := hM1.setI (o := 4) (ci := 4) (k := 0) (by decide) (by decide) 0
      rw [← hq] at hM2
      have hM := hM2
      have v0 : μ1.1 μ.2.1 = some (obj 5 [.ref (μ.2.1 + 1), .int (nI c0.length), .int (nI (c0.length + c1.length)), .ref (μ.2.1 + 2)]) := by rw [hq, mupd_ne (by omega)]; exact u0
      have v1 : μ1.1 (μ.2.1 + 1) = some (iar ((c0 ++ c1 ++ c2).map en)) := by rw [hq, mupd_ne (by omega)]; exact u1
      have v2 : μ1.1 (μ.2.1 + 2) = some (iar (List.replicate 32 0)) := by rw [hq, mupd_ne (by omega)]; exact u2
      have z2 : μ1.2 = μA.2 := by rw [hq]; rfl
      have hN2 : FN a 3 200 μ μ1 := ⟨by rw [z2]; omega, fun q hq' => by rw [hq, mupd_ne (by omega)]; exact fr q (by omega) (by omega)⟩
      simp only [Option.toList, List.cons_append, List.nil_append]
      refine ev_aload_n dX11_text_27 rfl ?_
      refine ev_ifnonnull (tgt := 42) dX11_text_28 (by decide) ?_
      refine ev_aload_n dX11_text_42 rfl ?_
      refine ev_get dX11_text_43 flX11_47_11 (hM.o 0 11 (by decide)) rfl ?_
      rw [show kI (ksI (krd σ f C) 4 0 0) 0 6 = nI tx from hru.1]
      refine ev_istore_n dX11_text_46 (by decide) ?_
      dsimp only [List.set]
      refine ev_aload_n dX11_text_47 rfl ?_
      refine ev_get dX11_text_48 flX11_43_11 (hM.o 0 11 (by decide)) rfl ?_
      refine ev_iload_n dX11_text_51 rfl ?_
      refine ev_aload_n dX11_text_52 rfl ?_
      refine ev_aast dX11_text_53 hM.ul v0 aok_r (ix_n (by omega)) (by simp [kUl]; omega) ?_
      have hM3 := hM2.addU (by omega : tx < 6) v0 v1 v2 (by omega) (by rw [z2]; omega) (fun i hi => (hA.1 i hi).2) (fun r hr => (hA.2.1 r hr).2)
      have hN3 : FN a 3 200 μ (mupd μ1 (a + 7) (rar 2 ((kUl tx (ksI (krd σ f C) 4 0 0)).set tx (some μ.2.1)))) := hN2.fc (FC.rf.upd (by omega))
      generalize mupd μ1 (a + 7) (rar 2 ((kUl tx (ksI (krd σ f C) 4 0 0)).set tx (some μ.2.1))) = μ3 at hM3 hN3 ⊢
      clear hM
      have hM := hM3
      have hF : FC a μ3 μ3 := FC.rf
      refine ev_aload_n dX11_text_54 rfl ?_
      refine ev_iload_n dX11_text_55 rfl ?_
      refine ev_iconst (v := 1) dX11_text_56 (by decide) ?_
      refine ev_iadd dX11_text_57 ?_
      rw [nI_1]
      refine evK_put hM hF (o := 0) (ci := 11) (k := 6) (by decide) (by decide) dX11_text_58 fpX11_47_11 rfl rfl (fun μ hM hF => ?_)
      refine ev_iload_n dX11_text_61 rfl ?_
      refine ev_iret dX11_text_62 rfl ?_
      refine ⟨by rw [txA, if_neg h6, if_pos hB], fun ρ' hr h99 => ?_, hN3.fc hF⟩
      rw [TxR, if_neg h6] at hr
      obtain ⟨r1, r2, r3, r4, r5, r6⟩ := hr
      rw [if_pos hB] at r4
      have r6 := r6 hB
      rw [hX] at r6
      refine ⟨tx + 1, cdA cd tx c0 c1 c2, tx_im0 hI r1 r2 r4 (by omega) (by omega) (fun r hr => ?_), _, hM, tx_t8 hI.2.2.1.2 hT r1 r2 r3 h99 ⟨?_, ?_, fun r hr => ?_⟩ (fun k hk hk6 => ?_) ?_ (fun o k ho h4 h06 => ?_) ?_ rfl (by omega) (fun w hw => cdA_lt (by omega))⟩
      · by_cases hr3 : r < 3 * tx
        · rw [cdA_lt hr3]
          obtain ⟨y1, y2⟩ := hI.2.2.2.2.2.1 r hr3
          exact ⟨r5 r _ hr3 y1, y2⟩
        · have e3 : r = 3 * tx ∨ r = 3 * tx + 1 ∨ r = 3 * tx + 2 := by omega
          rcases e3 with rfl | rfl | rfl
          · rw [cdA_0]; exact ⟨r6 0 c0 rfl, b0.wf⟩
          · rw [cdA_1]; exact ⟨r6 1 c1 rfl, b1.wf⟩
          · rw [cdA_2]; exact ⟨r6 2 c2 rfl, b2.wf⟩
      · exact ksI_eq
      · refine (ksI_ne2 (by decide)).trans ?_
        exact (if_neg (by omega)).trans hru.2.1
      · by_cases e : r = tx
        · subst e
          rw [cdA_0, cdA_1, cdA_2]
          refine ⟨if_pos rfl, ?_, ?_, ?_, hl, fun w hw => ?_⟩
          · refine (ksI_ne (by omega)).trans ?_
            show (if 200 + r = 200 + r then (if 1 = 1 then _ else _) else _) = _
            rw [if_pos rfl, if_pos rfl]
          · refine (ksI_ne (by omega)).trans ?_
            show (if 200 + r = 200 + r then (if 2 = 1 then _ else _) else _) = _
            rw [if_pos rfl, if_neg (by decide)]
          · show (if 201 + 3 * r = 200 + 3 * r then _ else if 201 + 3 * r = 201 + 3 * r then List.replicate 32 0 else _).length = 32
            rw [if_neg (by omega), if_pos rfl, List.length_replicate]
          · have w3 : w = 0 ∨ w = 1 ∨ w = 2 := by omega
            rcases w3 with rfl | rfl | rfl
            · rw [Nat.add_zero, cdA_0]; exact b0
            · rw [cdA_1]; exact b1
            · rw [cdA_2]; exact b2
        · obtain ⟨y1, y2, y3, y4, y5, y6⟩ := hru.2.2 r (by omega)
          rw [cdA_lt (by omega), cdA_lt (by omega), cdA_lt (by omega)]
          have i1 : ∀ k, kI (ksI (kAddU (ksI (krd σ f C) 4 0 0) tx μ.2.1 ((c0 ++ c1 ++ c2).map en) (List.replicate 32 0) (nI c0.length) (nI (c0.length + c1.length))) 0 6 (nI (tx + 1))) (200 + r) k = kI σ (200 + r) k := fun k => (ksI_ne (by omega)).trans ((if_neg (by omega)).trans ((ksI_ne (by omega)).trans (krd_i (by omega))))
          refine ⟨?_, (i1 1).trans y2, (i1 2).trans y3, ?_, y5, fun w hw => by rw [cdA_lt (by omega)]; exact y6 w hw⟩
          · show (if 200 + 3 * r = 200 + 3 * tx then _ else if 200 + 3 * r = 201 + 3 * tx then _ else if 200 + 3 * r = 6 then C else σ.1 (200 + 3 * r)) = _
            rw [if_neg (by omega), if_neg (by omega), if_neg (by omega)]; exact y1
          · show (if 201 + 3 * r = 200 + 3 * tx then _ else if 201 + 3 * r = 201 + 3 * tx then _ else if 201 + 3 * r = 6 then C else σ.1 (201 + 3 * r)).length = _
            rw [if_neg (by omega), if_neg (by omega), if_neg (by omega)]; exact y4
      · show (if k = 200 + 3 * tx then _ else if k = 201 + 3 * tx then _ else if k = 6 then C else σ.1 k) = _
        rw [if_neg (by omega), if_neg (by omega), if_neg hk6]
      · show (if 6 = 200 + 3 * tx then _ else if 6 = 201 + 3 * tx then _ else if 6 = 6 then C else σ.1 6).length = _
        rw [if_neg (by omega), if_neg (by omega), if_pos rfl]; exact hC
      · by_cases o0 : o = 0
        · subst o0
          exact (ksI_ne2 (h06.resolve_left (fun q => q rfl))).trans ((if_neg (by omega)).trans ((ksI_ne (by omega)).trans (krd_i (by omega))))
        · exact (ksI_ne o0).trans ((if_neg (by omega)).trans ((ksI_ne h4).trans (krd_i h4)))
      · exact (ksI_ne (by decide)).trans ((if_neg (by omega)).trans ksI_eq)
    · skip
      refine ev_aload_n dX11_text_0 rfl ?_
      refine ev_get dX11_text_1 flX11_47_11 (hM.o 0 11 (by decide)) rfl ?_
      rw [show kI σ 0 6 = nI tx from hru.1]
      refine ev_bipush (v := 6) dX11_text_4 (by decide) ?_
      refine ev_icmp_lt (tgt := 12) dX11_text_6 (by decide) (fun _ => ?_) (fun h6 => absurd ((show nI tx < nI 6 by rw [e6]; omega)) h6)
      refine ev_aload_n dX11_text_12 rfl ?_
      refine ev_get dX11_text_13 flX11_37_11 (hM.o 0 11 (by decide)) rfl ?_
      refine k_v rd (by decide) dX11_text_16 cbX4_read (mt1 227 rfl rfl) (mt1 228 rfl rfl) (mt1 229 rfl rfl) (ci := 4) rfl (hM.o 4 4 (by decide)) rfl rfl (Nat.le_of_ble_eq_true rfl) (fun v μ1 hq => ?_)
      obtain ⟨-, rfl, ⟨f, C, hO, hC, hf0, hf1⟩, hFR⟩ := hq.resolve_left (fun q => hB q.1)
      clear hq
      have s1 : μ1.2 = μ.2 := hFR.1
      have hM1 := hM.rdS hO (by rw [s1]; exact Nat.le_refl _) (fun q hq1 _ => hFR.2 q hq1)
      have hF : FC a μ μ1 := ⟨s1, fun q hq1 => hFR.2 q (by omega)⟩
      simp only [Option.toList, List.cons_append, List.nil_append]
      refine ev_astore_nN dX11_text_19 (by decide) ?_
      dsimp only [List.set]
      have hM := hM1
      refine ev_aload_n dX11_text_20 rfl ?_
      refine ev_get dX11_text_21 flX11_37_11 (hM.o 0 11 (by decide)) rfl ?_
      refine k_v (c_kClear hM1) (by decide) dX11_text_24 cbX4_clear (mt2 109 rfl rfl) (mt2 110 rfl rfl) (mt2 111 rfl rfl) (ci := 4) rfl (hM.o 4 4 (by decide)) rfl rfl (Nat.le_of_ble_eq_true rfl) (fun v μ1 hq => ?_)
      obtain ⟨rfl, hq⟩ := hq
      rename_i μA
      have hM2 := hM1.setI (o := 4) (ci := 4) (k := 0) (by decide) (by decide) 0
      rw [← hq] at hM2
      have hM := hM2
      have hF2 : FC a μ μ1 := by rw [hq]; exact hF.upd (by omega)
      simp only [Option.toList, List.cons_append, List.nil_append]
      refine ev_aload_nN dX11_text_27 rfl ?_
      refine ev_ifnonnullN dX11_text_28 ?_
      refine ev_bipush (v := (-100)) dX11_text_31 (by decide) ?_
      refine ev_aload_n dX11_text_33 rfl ?_
      refine ev_get dX11_text_34 flX11_37_11 (hM.o 0 11 (by decide)) rfl ?_
      refine ev_get dX11_text_37 flX11_179_4 (hM.o 4 4 (by decide)) rfl ?_
      rw [show kI (ksI (krd σ f C) 4 0 0) 4 1 = nI (psn tp (txK 3 0 (skp tp)).2.1) from hf1]
      refine ev_isub dX11_text_40 ?_
      refine ev_iret dX11_text_41 rfl ?_
      refine ⟨by rw [txA, if_neg h6, if_neg hB], fun ρ' hr h99 => ?_, FN.of hF2⟩
      rw [TxR, if_neg h6] at hr
      obtain ⟨r1, r2, r3, r4, r5, r6⟩ := hr
      rw [if_neg hB] at r4
      refine ⟨tx, cd, tx_im0 hI r1 r2 r4 htx (Nat.le_refl _) (fun r hr => ?_), _, hM, tx_t8 hI.2.2.1.2 hT r1 r2 r3 h99 ⟨?_, ?_, fun r hr => ?_⟩ (fun k hk hk6 => krd_r (f := f) hk6) hC (fun o k ho h4 h06 => (ksI_ne h4).trans (krd_i h4)) ksI_eq rfl (Nat.le_refl _) (fun _ _ => rfl)⟩
      · obtain ⟨y1, y2⟩ := hI.2.2.2.2.2.1 r hr
        exact ⟨r5 r _ hr y1, y2⟩
      · exact hru.1
      · exact hru.2.1
      · obtain ⟨y1, y2, y3, y4, y5, y6⟩ := hru.2.2 r hr
        refine ⟨(krd_r (f := f) (by omega)).trans y1, ((ksI_ne (by omega)).trans (krd_i (by omega))).trans y2, ((ksI_ne (by omega)).trans (krd_i (by omega))).trans y3, ?_, y5, y6⟩
        show ((krd σ f C).1 (201 + 3 * r)).length = 32
        rw [krd_r (by omega)]; exact y4
end KTEXT
