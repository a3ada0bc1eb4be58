/-! ===== the class: a round ===== -/
section KGO
variable {g : Gl} {a m tx n t : Nat} {ρ : MS} {cd : Nat → List Int32} {Lf : Nat → Nat}
theorem ScK.of10 {t : Nat} {x y : KS} (h : EqK [10] [9] x y) (hl : (x.1 10).length = (y.1 10).length) : ScK t x y := ⟨h.wd (by simp) (fun _ h => h), hl, by rw [h.1 11 (by decide)], by rw [h.1 (201 + 3 * t) (by simp; omega)]⟩
theorem l_kGo (hV : VF (Fc ρ)) (hS : VS (Se ρ)) {o : Nat} (ho : o = 2 ∨ o = 11) {fr to : Nat} {os : List Nat} {σ0 : KS} (hT0 : KTie ρ n t tx cd Lf m σ0) (hos : ∀ (i h : Nat), os[i]? = some h → (σ0.1 o)[fr + i]? = some (nI h) ∧ h < n) (hto : to = fr + os.length) (h7 : to ≤ 7) (hn7 : n ≤ 7) {μ0 : Mm} : ∀ (r : List Nat) (k : Nat) (o5 : Option Value) (σ : KS) (μ : Mm), os.drop k = r → k ≤ os.length → KM a m tx σ μ → EqK [10] [9] σ σ0 → (σ.1 10).length = 7 → FC a μ0 μ → rg (kI σ 9 2) 0 99 →
    Ev g 4 mX11_goThrough 14 [some (.ref a), some (.ref (a + o)), some (.int (nI fr)), some (.int (nI to)), some (.int (nI (fr + k))), o5] [] μ (fun v μ' => v = some (.int (kwl (Fc ρ) (Se ρ) r (w6o σ 9) (σ.1 10)).1.1) ∧ (∃ σ', KM a m tx σ' μ' ∧ EqK [10] [9] σ' σ0 ∧ w6o σ' 9 = (kwl (Fc ρ) (Se ρ) r (w6o σ 9) (σ.1 10)).1 ∧ σ'.1 10 = (kwl (Fc ρ) (Se ρ) r (w6o σ 9) (σ.1 10)).2) ∧ FC a μ0 μ') := by
  have hl10 := hT0.ln (k := 10) (z := 7) (by decide)
  intro r
  induction r with
  | nil =>
    intro k o5 σ μ hr hk hM hE hl hF hp
    have hlen : os.length ≤ k := by simpa using hr
    refine ev_iload dX11_goThrough_14 rfl ?_
    refine ev_iload_n dX11_goThrough_16 rfl ?_
    refine ev_icmp_ge (tgt := 64) dX11_goThrough_17 (by decide) (fun _ => ?_) (fun h17 => absurd ((show nI to ≤ nI (fr + k) from nI_le (by omega) (by omega))) h17)
    refine ev_aload_n dX11_goThrough_64 rfl ?_
    refine ev_get dX11_goThrough_65 flX11_62_11 (hM.o 0 11 (by decide)) rfl ?_
    refine ev_get dX11_goThrough_68 flX11_331_10 (hM.o 9 10 (by decide)) rfl ?_
    refine ev_iret dX11_goThrough_71 rfl ?_
    exact ⟨rfl, ⟨σ, hM, hE, rfl, rfl⟩, hF⟩
  | cons h r ih =>
    intro k o5 σ μ hr hk hM hE hl hF hp
    obtain ⟨hh, hr', hlt⟩ := drop_at hr
    obtain ⟨ho1, hhn⟩ := hos _ _ hh
    have hT := hT0.sc (ScK.of10 hE (hl.trans hl10.symm))
    obtain ⟨hd, hkc⟩ := hT.door hM hhn
    have hda := hM.da (Nat.lt_of_lt_of_le hhn hT.nm)
    have hro : μ.1 (a + o) = some (iar (σ.1 o)) := hM.r o (by rcases ho with rfl | rfl <;> decide)
    have eo : σ.1 o = σ0.1 o := hE.1 o (by rcases ho with rfl | rfl <;> decide)
    have hh7 : h < 7 := by omega
    have hVh := hV h hh7
    have e3 : σ.1 3 = ρ.1 6 := hT.tm
    have hl3 : (σ.1 3).length = 10 := hT.ln (k := 3) (by decide)
    have eS : (fun i => (σ.1 3).getD i 0) = Se ρ := by rw [e3]
    have eth : (σ.1 3).getD (6 + (Fc ρ 4 h).toInt.toNat) 0 = thk (Fc ρ) (Se ρ) h := by rw [e3]; rfl
    have e5 : (σ.1 3).getD 5 0 = Se ρ 5 := by rw [e3]
    have h3 : 1 ≤ ((σ.1 3).getD 3 0).toInt := by rw [e3]; exact hS.2.2.2.1.1
    have h1 : rg ((σ.1 3).getD 1 0) 0 99 := by rw [e3]; exact hS.2.1
    rw [kwl]
    refine ev_iload dX11_goThrough_14 rfl ?_
    refine ev_iload_n dX11_goThrough_16 rfl ?_
    refine ev_icmp_ge (tgt := 64) dX11_goThrough_17 (by decide) (fun h17 => absurd h17 ((show ¬ nI to ≤ nI (fr + k) from nI_ge (by omega) (by omega)))) (fun _ => ?_)
    refine ev_aload_n dX11_goThrough_20 rfl ?_
    refine ev_aload_n dX11_goThrough_21 rfl ?_
    refine ev_iload dX11_goThrough_22 rfl ?_
    refine ev_iald dX11_goThrough_24 hro (ix_n (by omega)) (eo ▸ ho1) ?_
    refine k_v (c_doorOf hM hT.hc hT.nm hhn) (by decide) dX11_goThrough_25 cbX11_doorOf (mt3 61 rfl rfl) (mt3 63 rfl rfl) (ms0 17 rfl rfl) (ci := 11) rfl (hM.o 0 11 (by decide)) rfl rfl (Nat.le_of_ble_eq_true rfl) (fun v μ1 hq => ?_)
    obtain ⟨rfl, hμ⟩ := hq; have hμ := hμ.symm; subst hμ
    simp only [Option.toList, List.cons_append, List.nil_append]
    refine ev_astore dX11_goThrough_28 (by decide) ?_
    dsimp only [List.set]
    refine ev_aload dX11_goThrough_30 rfl ?_
    refine ev_ifnull dX11_goThrough_32 ?_
    refine ev_aload_n dX11_goThrough_35 rfl ?_
    refine ev_get dX11_goThrough_36 flX11_66_11 (hM.o 0 11 (by decide)) rfl ?_
    refine ev_aload dX11_goThrough_39 rfl ?_
    refine ev_get dX11_goThrough_41 (glX11_324 hkc.1) hd rfl ?_
    refine ev_aload_n dX11_goThrough_44 rfl ?_
    refine ev_get dX11_goThrough_45 flX11_62_11 (hM.o 0 11 (by decide)) rfl ?_
    refine ev_aload dX11_goThrough_48 rfl ?_
    refine ev_aload_n dX11_goThrough_50 rfl ?_
    refine ev_get dX11_goThrough_51 flX11_31_11 (hM.o 0 11 (by decide)) rfl ?_
    refine k_v (c_visit (z := w6o σ 9) (hM.o 9 10 (by decide)) (hM.r 3 (by decide)) hl3 (by omega) h3 h1 hp hkc.1 hd (by omega) hVh.2.2.1 hVh.2.2.2.2) (by decide) dX11_goThrough_54 cbX10_visit (mt3 206 rfl rfl) (mt3 207 rfl rfl) (mt3 208 rfl rfl) (ci := 10) rfl (hM.o 9 10 (by decide)) rfl rfl (Nat.le_of_ble_eq_true rfl) (fun v μ1 hq => ?_)
    obtain ⟨rfl, hμ⟩ := hq
    rw [eth, e5, hkc.tk, eS] at hμ
    rw [eth, eS]
    have hM := hM.walk (o := 9) (by decide) hμ
    have hF : FC a μ0 μ1 := by rw [hμ]; exact hF.upd (by omega)
    simp only [Option.toList, List.cons_append, List.nil_append]
    refine evK_iast hM hF (k := 10) (by decide) dX11_goThrough_57 (ix_n (by omega)) (show h < (σ.1 10).length by omega) (fun μ hM hF => ?_)
    refine ev_iinc dX11_goThrough_58 rfl (by decide) ?_
    dsimp only [List.set]
    refine ev_goto (tgt := 14) dX11_goThrough_61 (by decide) ?_
    rw [nI_inc, show fr + k + 1 = fr + (k + 1) by omega]
    have hz := ih (k + 1) (some (.ref (kD σ h).1)) _ _ hr' (by omega) hM ((hE.sO (by decide)).sR (by decide)) (show ((σ.1 10).set h _).length = 7 by rw [List.length_set]; exact hl) hF (show rg (Fc ρ 2 h) 0 99 from hVh.2.2.1)
    exact hz
/-- goThrough(order, from, to) -/
theorem c_kGo {σ : KS} {μ : Mm} (hV : VF (Fc ρ)) (hS : VS (Se ρ)) (hn7 : n ≤ 7) (hM : KM a m tx σ μ) (hT : KTie ρ n t tx cd Lf m σ) {o : Nat} (ho : o = 2 ∨ o = 11) {fr to : Nat} {os : List Nat} (hos : ∀ (i h : Nat), os[i]? = some h → (σ.1 o)[fr + i]? = some (nI h) ∧ h < n) (hto : to = fr + os.length) (h7 : to ≤ 7) :
    Mt g 4 mX11_goThrough [.ref a, .ref (a + o), .int (nI fr), .int (nI to)] μ (fun v μ' => v = some (.int (rd0 (Fc ρ) (Se ρ) os).1) ∧ (∃ σ', KM a m tx σ' μ' ∧ EqK [10] [9] σ' σ ∧ (σ'.1 10).length = 7 ∧ kI σ' 9 1 = (rd0 (Fc ρ) (Se ρ) os).2.1 ∧ ∀ h ∈ os, (σ'.1 10).getD h 0 = (rd0 (Fc ρ) (Se ρ) os).2.2.getD h 0) ∧ FC a μ μ') := by
  refine Mt.of0 (ls0 := [some (.ref a), some (.ref (a + o)), some (.int (nI fr)), some (.int (nI to)), none, none]) (by decide) (by simp [Value.category]) (Nat.le_of_ble_eq_true rfl) rfl ?_
  have hl3 : (σ.1 3).length = 10 := hT.ln (k := 3) (by decide)
  have hl10 := hT.ln (k := 10) (z := 7) (by decide)
  have e3 : σ.1 3 = ρ.1 6 := hT.tm
  have hF : FC a μ μ := FC.rf
  have hin : ∀ h ∈ os, h < 7 := by
    intro h hm
    obtain ⟨i, hi⟩ := List.getElem?_of_mem hm
    have := (hos i h hi).2
    omega
  refine ev_aload_n dX11_goThrough_0 rfl ?_
  refine ev_get dX11_goThrough_1 flX11_62_11 (hM.o 0 11 (by decide)) rfl ?_
  refine ev_aload_n dX11_goThrough_4 rfl ?_
  refine ev_get dX11_goThrough_5 flX11_31_11 (hM.o 0 11 (by decide)) rfl ?_
  refine k_v (c_start (z := w6o σ 9) (hM.o 9 10 (by decide)) (hM.r 3 (by decide)) hl3 (by omega)) (by decide) dX11_goThrough_8 cbX10_start (mt3 198 rfl rfl) (mt3 199 rfl rfl) (mt3 200 rfl rfl) (ci := 10) rfl (hM.o 9 10 (by decide)) rfl rfl (Nat.le_of_ble_eq_true rfl) (fun v μ1 hq => ?_)
  obtain ⟨rfl, hμ⟩ := hq
  rw [e3] at hμ
  have hM := hM.walk (o := 9) (by decide) hμ
  have hF : FC a μ μ1 := by rw [hμ]; exact hF.upd (by omega)
  simp only [Option.toList, List.cons_append, List.nil_append]
  refine ev_iload_n dX11_goThrough_11 rfl ?_
  refine ev_istore dX11_goThrough_12 (by decide) ?_
  dsimp only [List.set]
  refine Ev.imp (l_kGo (g := g) (μ0 := μ) hV hS ho hT hos hto h7 hn7 os 0 _ _ _ rfl (Nat.zero_le _) hM (EqK.rf.sO (by decide)) hl10 hF (show rg (Se ρ 1) 0 99 from hS.2.1)) ?_
  rintro v μ' ⟨rfl, ⟨σ', hM', hE', hw', h10'⟩, hF'⟩
  have ew : w6o (ksO σ 9 (w6f ((ρ.1 6).getD 2 0, 0, (ρ.1 6).getD 1 0, 0, (ρ.1 6).getD 0 0, 1))) 9 = (Se ρ 2, 0, Se ρ 1, 0, Se ρ 0, 1) := w6o_eq
  have hz := kwl_rd hV hS hin (σ.1 10)
  have hz2 := wlk0_rd (F := Fc ρ) (S := Se ρ) (os := os) hl10 hin
  rw [hz] at hz2
  have e10 : (ksO σ 9 (w6f ((ρ.1 6).getD 2 0, 0, (ρ.1 6).getD 1 0, 0, (ρ.1 6).getD 0 0, 1))).1 10 = σ.1 10 := rfl
  rw [ew, e10] at hw' h10' ⊢
  refine ⟨by rw [hz2.1], ⟨σ', hM', hE', by rw [h10']; exact hz2.2.2.1, ?_, fun h hh => by rw [h10']; exact hz2.2.2.2 h hh⟩, hF'⟩
  have := congrArg (fun z : W6 => z.2.1) hw'
  exact this.trans hz2.2.1
end KGO
