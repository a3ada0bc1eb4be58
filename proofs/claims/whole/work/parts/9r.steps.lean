/-! ===== the law: a call of both ===== -/
theorem EqC.sym {ρ ρ' : MS} (h : EqC ρ ρ') : EqC ρ' ρ := ⟨fun k hk => (h.1 k hk).symm, fun k hk => (h.2 k hk).symm⟩
theorem MW.eqc {b : Nat} {ρ ρ' : MS} {μ : Mm} (h : MW b ρ μ) (e : EqC ρ ρ') : MW b ρ' μ := by
  obtain ⟨ρ0, h1, h2, h3⟩ := h
  exact ⟨ρ0, h1, h2, h3.tr e⟩
theorem MW.fr {b : Nat} {ρ : MS} {μ μ' : Mm} (h : MW b ρ μ) (e : ∀ q, b ≤ q ∧ q < b + 34 → μ'.1 q = μ.1 q) : MW b ρ μ' := by
  obtain ⟨ρ0, ⟨h1, h2, h3, h4⟩, hL, hE⟩ := h
  refine ⟨ρ0, ⟨?_, fun q hq => ?_, ?_, fun i w hi => ?_⟩, hL, hE⟩
  · rw [e _ (by omega)]; exact h1
  · have hz := mA_ok q hq q hq
    rw [e _ (by omega)]; exact h2 q hq
  · rw [e _ (by omega)]; exact h3
  · have := mWd_len hi
    rw [e _ (by omega)]; exact h4 i w hi
theorem MW.ob {b : Nat} {ρ : MS} {μ : Mm} (h : MW b ρ μ) : ∃ fs, μ.1 b = some (obj 12 fs) := by
  obtain ⟨ρ0, h1, -⟩ := h
  exact ⟨_, h1.1⟩
theorem KV.fr {a n t tx m : Nat} {ρ : MS} {cd : Nat → List Int32} {Lf : Nat → Nat} {μ μ' : Mm} (h : KV a ρ n t tx cd Lf m μ) (e : FM (a + 60) μ μ') : KV a ρ n t tx cd Lf m μ' := by
  obtain ⟨σ, hM, hT⟩ := h
  exact ⟨σ, hM.frame e.1 (fun q hq => e.2 q (by omega)), hT⟩
theorem IM.cong {ρ ρ' : MS} {n t tx : Nat} {cd : Nat → List Int32} {Lf : Nat → Nat} (h : IM ρ n t tx cd Lf) (e : ∀ k, (k ≤ 6 ∨ k = 11 ∨ k = 12) → ρ'.1 k = ρ.1 k) (ei : ∀ k, (k = 7 ∨ k = 8 ∨ k = 16) → ρ'.2 k = ρ.2 k) : IM ρ' n t tx cd Lf := by
  have hFc : Fc ρ' = Fc ρ := by
    funext k x
    show (if k < 5 then (ρ'.1 k).getD x 0 else 0) = (if k < 5 then (ρ.1 k).getD x 0 else 0)
    by_cases hk : k < 5
    · rw [if_pos hk, if_pos hk, e k (by omega)]
    · rw [if_neg hk, if_neg hk]
  have hSe : Se ρ' = Se ρ := by
    funext i
    show (ρ'.1 6).getD i 0 = (ρ.1 6).getD i 0
    rw [e 6 (by omega)]
  obtain ⟨h1, h2, h3, h4, h5, h6, h7, h8⟩ := h
  refine ⟨by rw [hFc]; exact h1, by rw [hSe]; exact h2, by rw [ei 7 (by omega)]; exact h3, by rw [ei 8 (by omega)]; exact h4, by rw [ei 16 (by omega)]; exact h5, fun r hr => ?_, by rw [e 5 (by omega)]; exact h7, h8⟩
  unfold RC
  rw [e 11 (by omega), e 12 (by omega)]
  exact h6 r hr
/-- sheets' rows and the tape's size as they were -/
def SbE (ρ' ρ : MS) : Prop := ρ'.1 33 = ρ.1 33 ∧ ρ'.1 34 = ρ.1 34 ∧ ρ'.2 15 = ρ.2 15
theorem SbE.rf {ρ : MS} : SbE ρ ρ := ⟨rfl, rfl, rfl⟩
theorem SbE.tr {a b c : MS} (h : SbE a b) (k : SbE b c) : SbE a c := ⟨h.1.trans k.1, h.2.1.trans k.2.1, h.2.2.trans k.2.2⟩
theorem SbE.gho {a b : MS} (h : SbE a b) : SbE (gho a) b := ⟨h.1, h.2.1, h.2.2⟩
theorem SbE.sh {ρ' ρ : MS} (h : SbE ρ' ρ) (hS : SH ρ) : SH ρ' := by
  intro s hs
  rw [h.1, h.2.1]
  exact hS s hs
theorem SbE.tb {ρ' ρ : MS} (h : SbE ρ' ρ) (hB : TB ρ) : TB ρ' := by
  unfold TB
  rw [h.2.2]
  exact hB
theorem sb_bag {ρ : MS} {w v : Int32} : SbE (opBag ρ w v).2 ρ := by
  unfold opBag
  split <;> exact SbE.rf
theorem sb_set {ρ : MS} {n : Nat} {h w v : Int32} : SbE (opSet ρ n h w v).2 ρ := by
  unfold opSet
  repeat' split
  all_goals exact SbE.rf
theorem sb_swap {ρ : MS} {n : Nat} {i j : Int32} : SbE (opSwap ρ n i j).2 ρ := by
  unfold opSwap
  split <;> exact SbE.rf
theorem sb_force {ρ : MS} {tx : Nat} {x : Int32} : SbE (opForce ρ tx x).2 ρ := by
  unfold opForce
  split <;> exact SbE.rf
theorem sb_arr {ρ : MS} {n t : Nat} {cd : Nat → List Int32} {so : Int32} : SbE (opArrange ρ n t cd so).2 ρ := by
  unfold opArrange
  split <;> exact SbE.rf
theorem sb_back {ρ : MS} : SbE (opBack ρ).2 ρ := by
  unfold opBack
  split <;> exact SbE.rf
theorem sb_house {ρ : MS} {n : Nat} {k w p : Int32} : SbE (opHouse ρ n k w p).2 ρ := by
  unfold opHouse
  repeat' split
  all_goals exact SbE.rf
theorem sb_hsK {sz fr : Int32} {c0 : List Int32} {s f : Nat} : ∀ (m k many : Nat) (ρ : MS), SbE (hsK sz fr c0 s f m k many ρ).2 ρ := by
  intro m
  induction m with
  | zero => intro k many ρ; exact SbE.rf
  | succ m ih =>
    intro k many ρ
    rw [hsK]
    split
    · exact SbE.rf
    · exact (ih _ _ _).tr sb_house
theorem sb_houses {ρ : MS} {s so fr z : Int32} : SbE (opHouses ρ s so fr z).2 ρ := by
  unfold opHouses
  repeat' split
  all_goals first | exact SbE.rf | exact sb_hsK _ _ _ _
theorem gi_swap {ρ : MS} {n : Nat} {i j : Int32} (h : GI ρ) : GI (opSwap ρ n i j).2 := by
  unfold opSwap
  split <;> exact h
theorem gi_feed {ρ : MS} {x : Int32} (h : GI ρ) : GI (opFeed ρ x).2 := by
  unfold opFeed
  repeat' split
  all_goals exact h
theorem sh_feed {ρ : MS} {x : Int32} (h : SH ρ) : SH (opFeed ρ x).2 := by
  unfold opFeed
  repeat' split
  all_goals exact h
theorem gi_arr {ρ : MS} {n t : Nat} {cd : Nat → List Int32} {so : Int32} (h : GI ρ) : GI (opArrange ρ n t cd so).2 := by
  unfold opArrange
  split <;> exact h
theorem VS.at {S : Nat → Int32} (h : VS S) : ∀ i, i < 10 → rg (S i) (lstS.getD i 0).toInt (mstS.getD i 0).toInt := by
  obtain ⟨a0, a1, a2, a3, a4, a5, a6, a7, a8, a9⟩ := h
  intro i hi
  match i, hi with
  | 0, _ => exact a0
  | 1, _ => exact a1
  | 2, _ => exact a2
  | 3, _ => exact a3
  | 4, _ => exact a4
  | 5, _ => exact a5
  | 6, _ => exact a6
  | 7, _ => exact a7
  | 8, _ => exact a8
  | 9, _ => exact a9
  | n + 10, h => exact absurd h (by omega)
theorem VS.of {S : Nat → Int32} (h : ∀ i, i < 10 → rg (S i) (lstS.getD i 0).toInt (mstS.getD i 0).toInt) : VS S := ⟨h 0 (by decide), h 1 (by decide), h 2 (by decide), h 3 (by decide), h 4 (by decide), h 5 (by decide), h 6 (by decide), h 7 (by decide), h 8 (by decide), h 9 (by decide)⟩
theorem im_bag {ρ : MS} {n t tx : Nat} {cd : Nat → List Int32} {Lf : Nat → Nat} (hC : CLn ρ) (hI : IM ρ n t tx cd Lf) {w v : Int32} : IM (opBag ρ w v).2 n t tx cd Lf := by
  unfold opBag
  split
  · rename_i h
    obtain ⟨⟨h1, h2⟩, h3, h4⟩ := h
    have l6 : (ρ.1 6).length = 10 := hC (6, 10) (by decide) (by decide)
    refine hI.s6 (VS.of (fun i hi => ?_))
    have hV := hI.2.1.at i hi
    show rg (((ρ.1 6).set w.toInt.toNat v).getD i 0) _ _
    rw [Int32.le_iff_toInt_le] at h1 h2 h3 h4
    have e0 : (0 : Int32).toInt = 0 := by decide
    have e9 : (9 : Int32).toInt = 9 := by decide
    rw [e0] at h1
    rw [e9] at h2
    rw [setD_if (by omega)]
    by_cases e : i = w.toInt.toNat
    · rw [if_pos e]
      subst e
      exact ⟨h3, h4⟩
    · rw [if_neg e]; exact hV
  · exact hI
theorem ShO.im2 {ρ ρ' : MS} {n t tx : Nat} {cd : Nat → List Int32} {Lf : Nat → Nat} (h : ShO ρ' ρ) (hI : IM ρ n t tx cd Lf) : IM ρ' n t tx cd Lf := hI.cong (fun k hk => h.1 k (by simp only [List.mem_cons, List.not_mem_nil, or_false]; omega)) (fun k hk => by rw [h.2])
theorem ShO.gi2 {ρ ρ' : MS} (h : ShO ρ' ρ) (hG : GI ρ) : GI ρ' := by
  unfold GI
  rw [h.1 99 (by decide), h.1 6 (by decide)]
  exact hG
theorem ShO.tb2 {ρ ρ' : MS} (h : ShO ρ' ρ) (hB : TB ρ) : TB ρ' := by
  unfold TB
  rw [h.2]
  exact hB
theorem TP.of {ρ : MS} (hC : CLn ρ) (hB : TB ρ) : ∃ tp, TP ρ tp := by
  obtain ⟨z, hz1, hz2, hz3⟩ := hB.z
  have l10 : (ρ.1 10).length = 160 := hC (10, 160) (by decide) (by decide)
  have hl : ((ρ.1 10).take z).length = z := by rw [List.length_take]; omega
  refine ⟨(ρ.1 10).take z, by rw [hl]; exact hz2, by rw [hl]; exact hz1, fun i c hc => ?_⟩
  rw [List.getElem?_take] at hc
  split at hc
  · exact hc
  · cases hc
theorem TxR.g {tx : Nat} {tp : List Int32} {ρ' ρ : MS} (h : TxR tx tp ρ' ρ) : TxR tx tp (setA ρ' 99 (ρ.1 99)) ρ := by
  unfold TxR at h ⊢
  split
  · rename_i h6
    rw [if_pos h6] at h
    rw [h]
    exact setA_self
  · rename_i h6
    rw [if_neg h6] at h
    obtain ⟨r1, r2, r3, r4, r5, r6⟩ := h
    refine ⟨fun k hk h1 h2 => ?_, r2, r3, r4, fun r c hr hc => ?_, fun hb j C hj => ?_⟩
    · show (if k = 99 then _ else ρ'.1 k) = _
      rw [if_neg (fun e => by rw [e] at hk; revert hk; decide)]
      exact r1 k hk h1 h2
    · exact r5 r c hr hc
    · exact r6 hb j C hj
section STEPS
variable {g : Gl} {a : Nat} {μ : Mm}
/-- a call of the class, and then of the reference: alike, and what holds between calls holds again -/
def SpQ (g : Gl) (a : Nat) (Ym : Md) (av : List Value) (μ : Mm) : Option Value → Mm → Prop := fun v μ1 => ∃ x : Int32, v = some (.int x) ∧ (μ.2.1 ≤ μ1.2.1 ∧ μ1.2.1 ≤ μ.2.1 + 7 ∧ μ1.2.2 ≤ μ.2.2 + 200) ∧ (∃ fs, μ1.1 (a + 60) = some (obj 12 fs)) ∧ Mt g 68 Ym (.ref (a + 60) :: av) μ1 (fun v μ2 => v = some (.int x) ∧ Inv a μ2 ∧ μ2.2 = μ1.2)
def SpL (g : Gl) (a : Nat) (Ym : Md) (av : List Value) (μ : Mm) : Option Value → Mm → Prop := fun v μ1 => ∃ x : Int64, v = some (.long x) ∧ (μ.2.1 ≤ μ1.2.1 ∧ μ1.2.1 ≤ μ.2.1 + 7 ∧ μ1.2.2 ≤ μ.2.2 + 200) ∧ (∃ fs, μ1.1 (a + 60) = some (obj 12 fs)) ∧ Mt g 68 Ym (.ref (a + 60) :: av) μ1 (fun v μ2 => v = some (.long x) ∧ Inv a μ2 ∧ μ2.2 = μ1.2)
theorem s_told (hI0 : Inv a μ) (x : Int32) (y : Int32) : Mt g 68 mX11_told [.ref a, .int x, .int y] μ (SpQ g a mX12_told [.int x, .int y] μ) := by
  obtain ⟨ρ, n, t, tx, cd, Lf, m, hG, hI, ⟨σ, hM, hT⟩, hW, hS, hB⟩ := hI0
  have hC : CLn ρ := hW.cl
  have hN := hI.2.2.1.1
  have hn7 := hI.2.2.1.2
  refine (((c_kTold hI hM hT x y).mono (by decide)).imp (fun v μ1 hq => ?_))
  obtain ⟨rfl, hK, hF⟩ := hq
  have hW1 : MW (a + 60) ρ μ1 := hW.fr (fun q hq => hF.2 q (by omega))
  refine ⟨_, rfl, ⟨by rw [hF.1]; omega, by rw [hF.1]; omega, by rw [hF.1]; omega⟩, hW1.ob, ((c_told hW1 hI x y).mono (by decide)).imp (fun v μ2 hq2 => ?_)⟩
  obtain ⟨rfl, hW2, hF2⟩ := hq2
  exact ⟨rfl, ⟨ρ, n, t, tx, cd, Lf, m, hG, hI, hK.fr hF2, hW2, hS, hB⟩, hF2.1⟩
theorem s_at (hI0 : Inv a μ) (x : Int32) (y : Int32) : Mt g 68 mX11_at [.ref a, .int x, .int y] μ (SpQ g a mX12_at [.int x, .int y] μ) := by
  obtain ⟨ρ, n, t, tx, cd, Lf, m, hG, hI, ⟨σ, hM, hT⟩, hW, hS, hB⟩ := hI0
  have hC : CLn ρ := hW.cl
  have hN := hI.2.2.1.1
  have hn7 := hI.2.2.1.2
  refine (((c_kAt hI hM hT x y).mono (by decide)).imp (fun v μ1 hq => ?_))
  obtain ⟨rfl, hK, hF⟩ := hq
  have hW1 : MW (a + 60) ρ μ1 := hW.fr (fun q hq => hF.2 q (by omega))
  refine ⟨_, rfl, ⟨by rw [hF.1]; omega, by rw [hF.1]; omega, by rw [hF.1]; omega⟩, hW1.ob, ((c_at hW1 hI x y).mono (by decide)).imp (fun v μ2 hq2 => ?_)⟩
  obtain ⟨rfl, hW2, hF2⟩ := hq2
  exact ⟨rfl, ⟨ρ, n, t, tx, cd, Lf, m, hG, hI, hK.fr hF2, hW2, hS, hB⟩, hF2.1⟩
theorem s_round (hI0 : Inv a μ) (x : Int32) : Mt g 68 mX11_round [.ref a, .int x] μ (SpQ g a mX12_round [.int x] μ) := by
  obtain ⟨ρ, n, t, tx, cd, Lf, m, hG, hI, ⟨σ, hM, hT⟩, hW, hS, hB⟩ := hI0
  have hC : CLn ρ := hW.cl
  have hN := hI.2.2.1.1
  have hn7 := hI.2.2.1.2
  refine (((c_kRound hI hM hT x).mono (by decide)).imp (fun v μ1 hq => ?_))
  obtain ⟨rfl, hK, hF⟩ := hq
  have hW1 : MW (a + 60) ρ μ1 := hW.fr (fun q hq => hF.2 q (by omega))
  refine ⟨_, rfl, ⟨by rw [hF.1]; omega, by rw [hF.1]; omega, by rw [hF.1]; omega⟩, hW1.ob, ((c_round hW1 hI x).mono (by decide)).imp (fun v μ2 hq2 => ?_)⟩
  obtain ⟨rfl, hW2, hF2⟩ := hq2
  exact ⟨rfl, ⟨ρ, n, t, tx, cd, Lf, m, hG, hI, hK.fr hF2, hW2, hS, hB⟩, hF2.1⟩
theorem s_shifted (hI0 : Inv a μ) (x : Int32) (y : Int32) : Mt g 68 mX11_shifted [.ref a, .int x, .int y] μ (SpQ g a mX12_shifted [.int x, .int y] μ) := by
  obtain ⟨ρ, n, t, tx, cd, Lf, m, hG, hI, ⟨σ, hM, hT⟩, hW, hS, hB⟩ := hI0
  have hC : CLn ρ := hW.cl
  have hN := hI.2.2.1.1
  have hn7 := hI.2.2.1.2
  refine (((c_kShifted hI hM hT x y).mono (by decide)).imp (fun v μ1 hq => ?_))
  obtain ⟨rfl, hK, hF⟩ := hq
  have hW1 : MW (a + 60) ρ μ1 := hW.fr (fun q hq => hF.2 q (by omega))
  refine ⟨_, rfl, ⟨by rw [hF.1]; omega, by rw [hF.1]; omega, by rw [hF.1]; omega⟩, hW1.ob, ((c_shifted hW1 hI x y).mono (by decide)).imp (fun v μ2 hq2 => ?_)⟩
  obtain ⟨rfl, hW2, hF2⟩ := hq2
  exact ⟨rfl, ⟨ρ, n, t, tx, cd, Lf, m, hG, hI, hK.fr hF2, hW2, hS, hB⟩, hF2.1⟩
theorem s_where (hI0 : Inv a μ) (x : Int32) (y : Int32) : Mt g 68 mX11_where [.ref a, .int x, .int y] μ (SpQ g a mX12_where [.int x, .int y] μ) := by
  obtain ⟨ρ, n, t, tx, cd, Lf, m, hG, hI, ⟨σ, hM, hT⟩, hW, hS, hB⟩ := hI0
  have hC : CLn ρ := hW.cl
  have hN := hI.2.2.1.1
  have hn7 := hI.2.2.1.2
  refine (((c_kWhere hS hI hM hT x y).mono (by decide)).imp (fun v μ1 hq => ?_))
  obtain ⟨rfl, hK, hF⟩ := hq
  have hW1 : MW (a + 60) ρ μ1 := hW.fr (fun q hq => hF.2 q (by omega))
  refine ⟨_, rfl, ⟨by rw [hF.1]; omega, by rw [hF.1]; omega, by rw [hF.1]; omega⟩, hW1.ob, ((c_where hW1 hI x y).mono (by decide)).imp (fun v μ2 hq2 => ?_)⟩
  obtain ⟨rfl, hW2, hF2⟩ := hq2
  exact ⟨rfl, ⟨ρ, n, t, tx, cd, Lf, m, hG, hI, hK.fr hF2, hW2, hS, hB⟩, hF2.1⟩
theorem s_best (hI0 : Inv a μ) (x : Int32) (y : Int32) : Mt g 68 mX11_best [.ref a, .int x, .int y] μ (SpQ g a mX12_best [.int x, .int y] μ) := by
  obtain ⟨ρ, n, t, tx, cd, Lf, m, hG, hI, ⟨σ, hM, hT⟩, hW, hS, hB⟩ := hI0
  have hC : CLn ρ := hW.cl
  have hN := hI.2.2.1.1
  have hn7 := hI.2.2.1.2
  refine (((c_kBest hG hI hM hT x y).mono (by decide)).imp (fun v μ1 hq => ?_))
  obtain ⟨rfl, hK, hF⟩ := hq
  have hW1 : MW (a + 60) ρ μ1 := hW.fr (fun q hq => hF.2 q (by omega))
  refine ⟨_, rfl, ⟨by rw [hF.1]; omega, by rw [hF.1]; omega, by rw [hF.1]; omega⟩, hW1.ob, ((c_best hW1 hI x y).mono (by decide)).imp (fun v μ2 hq2 => ?_)⟩
  obtain ⟨rfl, hW2, hF2⟩ := hq2
  exact ⟨rfl, ⟨ρ, n, t, tx, cd, Lf, m, hG, hI, hK.fr hF2, hW2, hS, hB⟩, hF2.1⟩
theorem s_ways (hI0 : Inv a μ) (x : Int32) : Mt g 68 mX11_ways [.ref a, .int x] μ (SpQ g a mX12_ways [.int x] μ) := by
  obtain ⟨ρ, n, t, tx, cd, Lf, m, hG, hI, ⟨σ, hM, hT⟩, hW, hS, hB⟩ := hI0
  have hC : CLn ρ := hW.cl
  have hN := hI.2.2.1.1
  have hn7 := hI.2.2.1.2
  refine (((c_kWays hI hM hT x).mono (by decide)).imp (fun v μ1 hq => ?_))
  obtain ⟨rfl, hK, hF⟩ := hq
  have hW1 : MW (a + 60) ρ μ1 := hW.fr (fun q hq => hF.2 q (by omega))
  refine ⟨_, rfl, ⟨by rw [hF.1]; omega, by rw [hF.1]; omega, by rw [hF.1]; omega⟩, hW1.ob, ((c_ways hW1 hI x).mono (by decide)).imp (fun v μ2 hq2 => ?_)⟩
  obtain ⟨rfl, hW2, hF2⟩ := hq2
  exact ⟨rfl, ⟨ρ, n, t, tx, cd, Lf, m, hG, hI, hK.fr hF2, hW2, hS, hB⟩, hF2.1⟩
theorem s_begin (hI0 : Inv a μ) : Mt g 68 mX11_begin [.ref a] μ (SpQ g a mX12_begin [] μ) := by
  obtain ⟨ρ, n, t, tx, cd, Lf, m, hG, hI, ⟨σ, hM, hT⟩, hW, hS, hB⟩ := hI0
  have hC : CLn ρ := hW.cl
  have hN := hI.2.2.1.1
  have hn7 := hI.2.2.1.2
  refine (((c_kBegin hI hM hT ).mono (by decide)).imp (fun v μ1 hq => ?_))
  obtain ⟨rfl, hK, hF⟩ := hq
  have hW1 : MW (a + 60) ρ μ1 := hW.fr (fun q hq => hF.2 q (by omega))
  refine ⟨_, rfl, ⟨by rw [hF.1]; omega, by rw [hF.1]; omega, by rw [hF.1]; omega⟩, hW1.ob, ((c_begin hW1 hI ).mono (by decide)).imp (fun v μ2 hq2 => ?_)⟩
  obtain ⟨rfl, hW2, hF2⟩ := hq2
  exact ⟨rfl, ⟨ρ, n, t, tx, cd, Lf, m, hG, hI, hK.fr hF2, hW2, hS, hB⟩, hF2.1⟩
theorem s_heap (hI0 : Inv a μ) (x : Int32) : Mt g 68 mX11_heap [.ref a, .int x] μ (SpQ g a mX12_heap [.int x] μ) := by
  obtain ⟨ρ, n, t, tx, cd, Lf, m, hG, hI, ⟨σ, hM, hT⟩, hW, hS, hB⟩ := hI0
  have hC : CLn ρ := hW.cl
  have hN := hI.2.2.1.1
  have hn7 := hI.2.2.1.2
  refine (((c_kHeap hI hM hT x).mono (by decide)).imp (fun v μ1 hq => ?_))
  obtain ⟨rfl, hK, hF⟩ := hq
  have hW1 : MW (a + 60) ρ μ1 := hW.fr (fun q hq => hF.2 q (by omega))
  refine ⟨_, rfl, ⟨by rw [hF.1]; omega, by rw [hF.1]; omega, by rw [hF.1]; omega⟩, hW1.ob, ((c_heap hW1 hI x).mono (by decide)).imp (fun v μ2 hq2 => ?_)⟩
  obtain ⟨rfl, hW2, hF2⟩ := hq2
  exact ⟨rfl, ⟨ρ, n, t, tx, cd, Lf, m, hG, hI, hK.fr hF2, hW2, hS, hB⟩, hF2.1⟩
theorem s_split (hI0 : Inv a μ) (x : Int32) : Mt g 68 mX11_split [.ref a, .int x] μ (SpQ g a mX12_split [.int x] μ) := by
  obtain ⟨ρ, n, t, tx, cd, Lf, m, hG, hI, ⟨σ, hM, hT⟩, hW, hS, hB⟩ := hI0
  have hC : CLn ρ := hW.cl
  have hN := hI.2.2.1.1
  have hn7 := hI.2.2.1.2
  refine (((c_kSplit hI hM hT x).mono (by decide)).imp (fun v μ1 hq => ?_))
  obtain ⟨rfl, hK, hF⟩ := hq
  have hW1 : MW (a + 60) ρ μ1 := hW.fr (fun q hq => hF.2 q (by omega))
  refine ⟨_, rfl, ⟨by rw [hF.1]; omega, by rw [hF.1]; omega, by rw [hF.1]; omega⟩, hW1.ob, ((c_split hW1 hI x).mono (by decide)).imp (fun v μ2 hq2 => ?_)⟩
  obtain ⟨rfl, hW2, hF2⟩ := hq2
  exact ⟨rfl, ⟨ρ, n, t, tx, cd, Lf, m, hG, hI, hK.fr hF2, hW2, hS, hB⟩, hF2.1⟩
theorem s_drop (hI0 : Inv a μ) (x : Int32) : Mt g 68 mX11_drop [.ref a, .int x] μ (SpQ g a mX12_drop [.int x] μ) := by
  obtain ⟨ρ, n, t, tx, cd, Lf, m, hG, hI, ⟨σ, hM, hT⟩, hW, hS, hB⟩ := hI0
  have hC : CLn ρ := hW.cl
  have hN := hI.2.2.1.1
  have hn7 := hI.2.2.1.2
  refine (((c_kDrop hI hM hT x).mono (by decide)).imp (fun v μ1 hq => ?_))
  obtain ⟨rfl, hK, hF⟩ := hq
  have hW1 : MW (a + 60) ρ μ1 := hW.fr (fun q hq => hF.2 q (by omega))
  refine ⟨_, rfl, ⟨by rw [hF.1]; omega, by rw [hF.1]; omega, by rw [hF.1]; omega⟩, hW1.ob, ((c_drop hW1 hI x).mono (by decide)).imp (fun v μ2 hq2 => ?_)⟩
  obtain ⟨rfl, hW2, hF2⟩ := hq2
  exact ⟨rfl, ⟨ρ, n, t, tx, cd, Lf, m, hG, hI, hK.fr hF2, hW2, hS, hB⟩, hF2.1⟩
theorem s_away (hI0 : Inv a μ) (x : Int32) (y : Int32) : Mt g 68 mX11_away [.ref a, .int x, .int y] μ (SpQ g a mX12_away [.int x, .int y] μ) := by
  obtain ⟨ρ, n, t, tx, cd, Lf, m, hG, hI, ⟨σ, hM, hT⟩, hW, hS, hB⟩ := hI0
  have hC : CLn ρ := hW.cl
  have hN := hI.2.2.1.1
  have hn7 := hI.2.2.1.2
  refine (((c_kAway hI hM hT x y).mono (by decide)).imp (fun v μ1 hq => ?_))
  obtain ⟨rfl, hK, hF⟩ := hq
  have hW1 : MW (a + 60) ρ μ1 := hW.fr (fun q hq => hF.2 q (by omega))
  refine ⟨_, rfl, ⟨by rw [hF.1]; omega, by rw [hF.1]; omega, by rw [hF.1]; omega⟩, hW1.ob, ((c_away hW1 hI x y).mono (by decide)).imp (fun v μ2 hq2 => ?_)⟩
  obtain ⟨rfl, hW2, hF2⟩ := hq2
  exact ⟨rfl, ⟨ρ, n, t, tx, cd, Lf, m, hG, hI, hK.fr hF2, hW2, hS, hB⟩, hF2.1⟩
theorem s_judge (hI0 : Inv a μ) (x : Int32) : Mt g 68 mX11_judge [.ref a, .int x] μ (SpQ g a mX12_judge [.int x] μ) := by
  obtain ⟨ρ, n, t, tx, cd, Lf, m, hG, hI, ⟨σ, hM, hT⟩, hW, hS, hB⟩ := hI0
  have hC : CLn ρ := hW.cl
  have hN := hI.2.2.1.1
  have hn7 := hI.2.2.1.2
  refine (((c_kJudge hS hI hM hT x).mono (by decide)).imp (fun v μ1 hq => ?_))
  obtain ⟨rfl, hK, hF⟩ := hq
  have hW1 : MW (a + 60) ρ μ1 := hW.fr (fun q hq => hF.2 q (by omega))
  refine ⟨_, rfl, ⟨by rw [hF.1]; omega, by rw [hF.1]; omega, by rw [hF.1]; omega⟩, hW1.ob, ((c_judge hW1 hI x).mono (by decide)).imp (fun v μ2 hq2 => ?_)⟩
  obtain ⟨rfl, hW2, hF2⟩ := hq2
  exact ⟨rfl, ⟨ρ, n, t, tx, cd, Lf, m, hG, hI, hK.fr hF2, hW2, hS, hB⟩, hF2.1⟩
theorem s_thrownBy (hI0 : Inv a μ) (x : Int32) (y : Int32) : Mt g 68 mX11_thrownBy [.ref a, .int x, .int y] μ (SpQ g a mX12_thrownBy [.int x, .int y] μ) := by
  obtain ⟨ρ, n, t, tx, cd, Lf, m, hG, hI, ⟨σ, hM, hT⟩, hW, hS, hB⟩ := hI0
  have hC : CLn ρ := hW.cl
  have hN := hI.2.2.1.1
  have hn7 := hI.2.2.1.2
  refine (((c_kThrown hI hM hT x y).mono (by decide)).imp (fun v μ1 hq => ?_))
  obtain ⟨rfl, hK, hF⟩ := hq
  have hW1 : MW (a + 60) ρ μ1 := hW.fr (fun q hq => hF.2 q (by omega))
  refine ⟨_, rfl, ⟨by rw [hF.1]; omega, by rw [hF.1]; omega, by rw [hF.1]; omega⟩, hW1.ob, ((c_thrownBy hW1 hN hn7 x y).mono (by decide)).imp (fun v μ2 hq2 => ?_)⟩
  obtain ⟨rfl, hW2, hF2⟩ := hq2
  exact ⟨rfl, ⟨ρ, n, t, tx, cd, Lf, m, hG, hI, hK.fr hF2, hW2, hS, hB⟩, hF2.1⟩
theorem s_chance (hI0 : Inv a μ) (x : Int32) (y : Int32) (z : Int32) (w : Int32) : Mt g 68 mX11_chance [.ref a, .int x, .int y, .int z, .int w] μ (SpL g a mX12_chance [.int x, .int y, .int z, .int w] μ) := by
  obtain ⟨ρ, n, t, tx, cd, Lf, m, hG, hI, ⟨σ, hM, hT⟩, hW, hS, hB⟩ := hI0
  have hC : CLn ρ := hW.cl
  have hN := hI.2.2.1.1
  have hn7 := hI.2.2.1.2
  refine (((c_kChance hI hM hT x y z w).mono (by decide)).imp (fun v μ1 hq => ?_))
  obtain ⟨rfl, hK, hF⟩ := hq
  have hW1 : MW (a + 60) ρ μ1 := hW.fr (fun q hq => hF.2 q (by omega))
  refine ⟨_, rfl, ⟨by rw [hF.1]; omega, by rw [hF.1]; omega, by rw [hF.1]; omega⟩, hW1.ob, ((c_chance hW1 hN hn7 x y z w).mono (by decide)).imp (fun v μ2 hq2 => ?_)⟩
  obtain ⟨rfl, hW2, hF2⟩ := hq2
  exact ⟨rfl, ⟨ρ, n, t, tx, cd, Lf, m, hG, hI, hK.fr hF2, hW2, hS, hB⟩, hF2.1⟩
theorem s_count (hI0 : Inv a μ) (x : Int32) : Mt g 68 mX11_count [.ref a, .int x] μ (SpQ g a mX12_count [.int x] μ) := by
  obtain ⟨ρ, n, t, tx, cd, Lf, m, hG, hI, ⟨σ, hM, hT⟩, hW, hS, hB⟩ := hI0
  have hC : CLn ρ := hW.cl
  have hN := hI.2.2.1.1
  have hn7 := hI.2.2.1.2
  refine (((c_kCount hI hM hT x).mono (by decide)).imp (fun v μ1 hq => ?_))
  obtain ⟨rfl, hK, hF⟩ := hq
  have hW1 : MW (a + 60) ρ μ1 := hW.fr (fun q hq => hF.2 q (by omega))
  refine ⟨_, rfl, ⟨by rw [hF.1]; omega, by rw [hF.1]; omega, by rw [hF.1]; omega⟩, hW1.ob, ((c_count hW1  x).mono (by decide)).imp (fun v μ2 hq2 => ?_)⟩
  obtain ⟨rfl, hW2, hF2⟩ := hq2
  exact ⟨rfl, ⟨ρ, n, t, tx, cd, Lf, m, hG, hI, hK.fr hF2, hW2, hS, hB⟩, hF2.1⟩
theorem s_taken (hI0 : Inv a μ) (x : Int32) (y : Int32) : Mt g 68 mX11_taken [.ref a, .int x, .int y] μ (SpQ g a mX12_taken [.int x, .int y] μ) := by
  obtain ⟨ρ, n, t, tx, cd, Lf, m, hG, hI, ⟨σ, hM, hT⟩, hW, hS, hB⟩ := hI0
  have hC : CLn ρ := hW.cl
  have hN := hI.2.2.1.1
  have hn7 := hI.2.2.1.2
  refine (((c_kTaken hI hM hT x y).mono (by decide)).imp (fun v μ1 hq => ?_))
  obtain ⟨rfl, hK, hF⟩ := hq
  have hW1 : MW (a + 60) ρ μ1 := hW.fr (fun q hq => hF.2 q (by omega))
  refine ⟨_, rfl, ⟨by rw [hF.1]; omega, by rw [hF.1]; omega, by rw [hF.1]; omega⟩, hW1.ob, ((c_taken hW1 hN hn7 x y).mono (by decide)).imp (fun v μ2 hq2 => ?_)⟩
  obtain ⟨rfl, hW2, hF2⟩ := hq2
  exact ⟨rfl, ⟨ρ, n, t, tx, cd, Lf, m, hG, hI, hK.fr hF2, hW2, hS, hB⟩, hF2.1⟩
theorem s_bag (hI0 : Inv a μ) (x : Int32) (y : Int32) : Mt g 68 mX11_bag [.ref a, .int x, .int y] μ (SpQ g a mX12_bag [.int x, .int y] μ) := by
  obtain ⟨ρ, n, t, tx, cd, Lf, m, hG, hI, ⟨σ, hM, hT⟩, hW, hS, hB⟩ := hI0
  have hC : CLn ρ := hW.cl
  have hN := hI.2.2.1.1
  have hn7 := hI.2.2.1.2
  refine (((c_kBag hG hM hT x y).mono (by decide)).imp (fun v μ1 hq => ?_))
  obtain ⟨rfl, hK, hF⟩ := hq
  have hW1 : MW (a + 60) ρ μ1 := hW.fr (fun q hq => hF.2 q (by omega))
  refine ⟨_, rfl, ⟨by rw [hF.1]; omega, by rw [hF.1]; omega, by rw [hF.1]; omega⟩, hW1.ob, ((c_bag hW1  x y).mono (by decide)).imp (fun v μ2 hq2 => ?_)⟩
  obtain ⟨rfl, hW2, hF2⟩ := hq2
  exact ⟨rfl, ⟨_, n, t, tx, cd, Lf, m, gho_gi _, (im_bag hC hI).eqc gho_eqc, hK.fr hF2, hW2.eqc gho_eqc.sym, sb_bag.gho.sh hS, sb_bag.gho.tb hB⟩, hF2.1⟩
theorem s_set (hI0 : Inv a μ) (x : Int32) (y : Int32) (z : Int32) : Mt g 68 mX11_set [.ref a, .int x, .int y, .int z] μ (SpQ g a mX12_set [.int x, .int y, .int z] μ) := by
  obtain ⟨ρ, n, t, tx, cd, Lf, m, hG, hI, ⟨σ, hM, hT⟩, hW, hS, hB⟩ := hI0
  have hC : CLn ρ := hW.cl
  have hN := hI.2.2.1.1
  have hn7 := hI.2.2.1.2
  refine (((c_kSet hG hC hI hM hT x y z).mono (by decide)).imp (fun v μ1 hq => ?_))
  obtain ⟨rfl, ⟨hI2, hK⟩, hF⟩ := hq
  have hW1 : MW (a + 60) ρ μ1 := hW.fr (fun q hq => hF.2 q (by omega))
  refine ⟨_, rfl, ⟨by rw [hF.1]; omega, by rw [hF.1]; omega, by rw [hF.1]; omega⟩, hW1.ob, ((c_set hW1 hN hn7 x y z).mono (by decide)).imp (fun v μ2 hq2 => ?_)⟩
  obtain ⟨rfl, hW2, hF2⟩ := hq2
  exact ⟨rfl, ⟨_, n, t, tx, cd, Lf, m, gho_gi _, hI2, hK.fr hF2, hW2.eqc gho_eqc.sym, sb_set.gho.sh hS, sb_set.gho.tb hB⟩, hF2.1⟩
theorem s_swap (hI0 : Inv a μ) (x : Int32) (y : Int32) : Mt g 68 mX11_swap [.ref a, .int x, .int y] μ (SpQ g a mX12_swap [.int x, .int y] μ) := by
  obtain ⟨ρ, n, t, tx, cd, Lf, m, hG, hI, ⟨σ, hM, hT⟩, hW, hS, hB⟩ := hI0
  have hC : CLn ρ := hW.cl
  have hN := hI.2.2.1.1
  have hn7 := hI.2.2.1.2
  refine (((c_kSwap hI (hC (5, 7) (by decide) (by decide)) hM hT x y).mono (by decide)).imp (fun v μ1 hq => ?_))
  obtain ⟨rfl, ⟨Lf2, hI2, hK⟩, hF⟩ := hq
  have hW1 : MW (a + 60) ρ μ1 := hW.fr (fun q hq => hF.2 q (by omega))
  refine ⟨_, rfl, ⟨by rw [hF.1]; omega, by rw [hF.1]; omega, by rw [hF.1]; omega⟩, hW1.ob, ((c_swap hW1 hN hn7 x y).mono (by decide)).imp (fun v μ2 hq2 => ?_)⟩
  obtain ⟨rfl, hW2, hF2⟩ := hq2
  exact ⟨rfl, ⟨_, n, t, tx, cd, Lf2, m, gi_swap hG, hI2, hK.fr hF2, hW2, sb_swap.sh hS, sb_swap.tb hB⟩, hF2.1⟩
theorem s_force (hI0 : Inv a μ) (x : Int32) : Mt g 68 mX11_force [.ref a, .int x] μ (SpQ g a mX12_force [.int x] μ) := by
  obtain ⟨ρ, n, t, tx, cd, Lf, m, hG, hI, ⟨σ, hM, hT⟩, hW, hS, hB⟩ := hI0
  have hC : CLn ρ := hW.cl
  have hN := hI.2.2.1.1
  have hn7 := hI.2.2.1.2
  refine (((c_kForce hG hI hM hT x).mono (by decide)).imp (fun v μ1 hq => ?_))
  obtain ⟨rfl, ⟨t2, hI2, hK⟩, hF⟩ := hq
  have hW1 : MW (a + 60) ρ μ1 := hW.fr (fun q hq => hF.2 q (by omega))
  refine ⟨_, rfl, ⟨by rw [hF.1]; omega, by rw [hF.1]; omega, by rw [hF.1]; omega⟩, hW1.ob, ((c_force hW1 hI.2.2.2.2.1.1 x).mono (by decide)).imp (fun v μ2 hq2 => ?_)⟩
  obtain ⟨rfl, hW2, hF2⟩ := hq2
  exact ⟨rfl, ⟨_, n, t2, tx, cd, Lf, m, gho_gi _, hI2, hK.fr hF2, hW2.eqc gho_eqc.sym, sb_force.gho.sh hS, sb_force.gho.tb hB⟩, hF2.1⟩
theorem s_feed (hI0 : Inv a μ) (x : Int32) : Mt g 68 mX11_feed [.ref a, .int x] μ (SpQ g a mX12_feed [.int x] μ) := by
  obtain ⟨ρ, n, t, tx, cd, Lf, m, hG, hI, ⟨σ, hM, hT⟩, hW, hS, hB⟩ := hI0
  have hC : CLn ρ := hW.cl
  have hN := hI.2.2.1.1
  have hn7 := hI.2.2.1.2
  refine (((c_kFeed hC hB hI hM hT x).mono (by decide)).imp (fun v μ1 hq => ?_))
  obtain ⟨rfl, ⟨hI2, hB2, hK⟩, hF⟩ := hq
  have hW1 : MW (a + 60) ρ μ1 := hW.fr (fun q hq => hF.2 q (by omega))
  refine ⟨_, rfl, ⟨by rw [hF.1]; omega, by rw [hF.1]; omega, by rw [hF.1]; omega⟩, hW1.ob, ((c_feed hW1 hB x).mono (by decide)).imp (fun v μ2 hq2 => ?_)⟩
  obtain ⟨rfl, hW2, hF2⟩ := hq2
  exact ⟨rfl, ⟨_, n, t, tx, cd, Lf, m, gi_feed hG, hI2, hK.fr hF2, hW2, sh_feed hS, hB2⟩, hF2.1⟩
theorem s_arrange (hI0 : Inv a μ) (x : Int32) : Mt g 68 mX11_arrange [.ref a, .int x] μ (SpQ g a mX12_arrange [.int x] μ) := by
  obtain ⟨ρ, n, t, tx, cd, Lf, m, hG, hI, ⟨σ, hM, hT⟩, hW, hS, hB⟩ := hI0
  have hC : CLn ρ := hW.cl
  have hN := hI.2.2.1.1
  have hn7 := hI.2.2.1.2
  refine (((c_kArrange hG hC hI hM hT x).mono (by decide)).imp (fun v μ1 hq => ?_))
  obtain ⟨rfl, ⟨Lf2, hI2, hK⟩, hF⟩ := hq
  have hW1 : MW (a + 60) ρ μ1 := hW.fr (fun q hq => hF.2 q (by omega))
  refine ⟨_, rfl, ⟨by rw [hF.1]; omega, by rw [hF.1]; omega, by rw [hF.1]; omega⟩, hW1.ob, ((c_arrange hW1 hI x).mono (by decide)).imp (fun v μ2 hq2 => ?_)⟩
  obtain ⟨rfl, hW2, hF2⟩ := hq2
  exact ⟨rfl, ⟨_, n, t, tx, cd, Lf2, m, gi_arr hG, hI2, hK.fr hF2, hW2, sb_arr.sh hS, sb_arr.tb hB⟩, hF2.1⟩
theorem s_image (hI0 : Inv a μ) : Mt g 68 mX11_image [.ref a] μ (SpQ g a mX12_image [] μ) := by
  obtain ⟨ρ, n, t, tx, cd, Lf, m, hG, hI, ⟨σ, hM, hT⟩, hW, hS, hB⟩ := hI0
  have hC : CLn ρ := hW.cl
  have hN := hI.2.2.1.1
  have hn7 := hI.2.2.1.2
  refine (((c_kImage hG hC hI hM hT ).mono (by decide)).imp (fun v μ1 hq => ?_))
  obtain ⟨rfl, hK, hF⟩ := hq
  have hW1 : MW (a + 60) ρ μ1 := hW.fr (fun q hq => hF.2 q (by omega))
  refine ⟨_, rfl, ⟨by rw [hF.1]; omega, by rw [hF.1]; omega, by rw [hF.1]; omega⟩, hW1.ob, ((c_image hW1  ).mono (by decide)).imp (fun v μ2 hq2 => ?_)⟩
  obtain ⟨rfl, hW2, hF2⟩ := hq2
  exact ⟨rfl, ⟨(opImage ρ).2, n, t, tx, cd, Lf, m, hG, hI.cong (fun k hk => by show (if k = 29 then _ else ρ.1 k) = _; rw [if_neg (by omega)]) (fun k hk => by show (if k = 30 then _ else ρ.2 k) = _; rw [if_neg (by omega)]), hK.fr hF2, hW2, hS, hB⟩, hF2.1⟩
theorem s_back (hI0 : Inv a μ) : Mt g 68 mX11_back [.ref a] μ (SpQ g a mX12_back [] μ) := by
  obtain ⟨ρ, n, t, tx, cd, Lf, m, hG, hI, ⟨σ, hM, hT⟩, hW, hS, hB⟩ := hI0
  have hC : CLn ρ := hW.cl
  have hN := hI.2.2.1.1
  have hn7 := hI.2.2.1.2
  refine (((c_kBack hG hC hI hM hT ).mono (by decide)).imp (fun v μ1 hq => ?_))
  obtain ⟨rfl, ⟨n2, t2, Lf2, -, hI2, hK⟩, hF⟩ := hq
  have hW1 : MW (a + 60) ρ μ1 := hW.fr (fun q hq => hF.2 q (by omega))
  refine ⟨_, rfl, ⟨by rw [hF.1]; omega, by rw [hF.1]; omega, by rw [hF.1]; omega⟩, hW1.ob, ((c_back hW1  ).mono (by decide)).imp (fun v μ2 hq2 => ?_)⟩
  obtain ⟨rfl, hW2, hF2⟩ := hq2
  exact ⟨rfl, ⟨_, n2, t2, tx, cd, Lf2, m, gho_gi _, hI2, hK.fr hF2, hW2.eqc gho_eqc.sym, sb_back.gho.sh hS, sb_back.gho.tb hB⟩, hF2.1⟩
theorem s_sheet (hI0 : Inv a μ) (x : Int32) (y : Int32) (z : Int32) : Mt g 68 mX11_sheet [.ref a, .int x, .int y, .int z] μ (SpQ g a mX12_sheet [.int x, .int y, .int z] μ) := by
  obtain ⟨ρ, n, t, tx, cd, Lf, m, hG, hI, ⟨σ, hM, hT⟩, hW, hS, hB⟩ := hI0
  have hC : CLn ρ := hW.cl
  have hN := hI.2.2.1.1
  have hn7 := hI.2.2.1.2
  refine (((c_kSheet hG hC hS hB hI hM hT x y z).mono (by decide)).imp (fun v μ1 hq => ?_))
  obtain ⟨rfl, ⟨⟨hO, hS2⟩, hK⟩, hF⟩ := hq
  have hW1 : MW (a + 60) ρ μ1 := hW.fr (fun q hq => hF.2 q (by omega))
  refine ⟨_, rfl, ⟨by rw [hF.1]; omega, by rw [hF.1]; omega, by rw [hF.1]; omega⟩, hW1.ob, ((c_sheet hW1  x y z).mono (by decide)).imp (fun v μ2 hq2 => ?_)⟩
  obtain ⟨rfl, hW2, hF2⟩ := hq2
  exact ⟨rfl, ⟨_, n, t, tx, cd, Lf, m, hO.gi2 hG, hO.im2 hI, hK.fr hF2, hW2, hS2, hO.tb2 hB⟩, hF2.1⟩
theorem s_cell (hI0 : Inv a μ) (x : Int32) (y : Int32) (z : Int32) : Mt g 68 mX11_cell [.ref a, .int x, .int y, .int z] μ (SpQ g a mX12_cell [.int x, .int y, .int z] μ) := by
  obtain ⟨ρ, n, t, tx, cd, Lf, m, hG, hI, ⟨σ, hM, hT⟩, hW, hS, hB⟩ := hI0
  have hC : CLn ρ := hW.cl
  have hN := hI.2.2.1.1
  have hn7 := hI.2.2.1.2
  refine (((c_kCell hG hC hS hB hI hM hT x y z).mono (by decide)).imp (fun v μ1 hq => ?_))
  obtain ⟨rfl, ⟨⟨hO, hS2⟩, hK⟩, hF⟩ := hq
  have hW1 : MW (a + 60) ρ μ1 := hW.fr (fun q hq => hF.2 q (by omega))
  refine ⟨_, rfl, ⟨by rw [hF.1]; omega, by rw [hF.1]; omega, by rw [hF.1]; omega⟩, hW1.ob, ((c_cell hW1 hS x y z).mono (by decide)).imp (fun v μ2 hq2 => ?_)⟩
  obtain ⟨rfl, hW2, hF2⟩ := hq2
  exact ⟨rfl, ⟨_, n, t, tx, cd, Lf, m, hO.gi2 hG, hO.im2 hI, hK.fr hF2, hW2, hS2, hO.tb2 hB⟩, hF2.1⟩
theorem s_copy (hI0 : Inv a μ) (x : Int32) (y : Int32) (z : Int32) (w : Int32) (u : Int32) : Mt g 68 mX11_copy [.ref a, .int x, .int y, .int z, .int w, .int u] μ (SpQ g a mX12_copy [.int x, .int y, .int z, .int w, .int u] μ) := by
  obtain ⟨ρ, n, t, tx, cd, Lf, m, hG, hI, ⟨σ, hM, hT⟩, hW, hS, hB⟩ := hI0
  have hC : CLn ρ := hW.cl
  have hN := hI.2.2.1.1
  have hn7 := hI.2.2.1.2
  refine (((c_kCopy hG hC hS hB hI hM hT x y z w u).mono (by decide)).imp (fun v μ1 hq => ?_))
  obtain ⟨rfl, ⟨⟨hO, hS2⟩, hK⟩, hF⟩ := hq
  have hW1 : MW (a + 60) ρ μ1 := hW.fr (fun q hq => hF.2 q (by omega))
  refine ⟨_, rfl, ⟨by rw [hF.1]; omega, by rw [hF.1]; omega, by rw [hF.1]; omega⟩, hW1.ob, ((c_copy hW1 hS x y z w u).mono (by decide)).imp (fun v μ2 hq2 => ?_)⟩
  obtain ⟨rfl, hW2, hF2⟩ := hq2
  exact ⟨rfl, ⟨_, n, t, tx, cd, Lf, m, hO.gi2 hG, hO.im2 hI, hK.fr hF2, hW2, hS2, hO.tb2 hB⟩, hF2.1⟩
theorem s_house (hI0 : Inv a μ) (x : Int32) (y : Int32) (z : Int32) : Mt g 68 mX11_house [.ref a, .int x, .int y, .int z] μ (SpQ g a mX12_house [.int x, .int y, .int z] μ) := by
  obtain ⟨ρ, n, t, tx, cd, Lf, m, hG, hI, ⟨σ, hM, hT⟩, hW, hS, hB⟩ := hI0
  have hC : CLn ρ := hW.cl
  have hN := hI.2.2.1.1
  have hn7 := hI.2.2.1.2
  refine (((c_kNew hG hC hI hM hT x y z).mono (by decide)).imp (fun v μ1 hq => ?_))
  obtain ⟨rfl, ⟨n2, Lf2, m2, -, hI2, hK⟩, hF⟩ := hq
  have hW1 : MW (a + 60) ρ μ1 := hW.fr (fun q hq => hF.2 q (by omega))
  refine ⟨_, rfl, ⟨hF.1.1, by have := hF.1; omega, by have := hF.1; omega⟩, hW1.ob, ((c_house hW1 hN hn7 x y z).mono (by decide)).imp (fun v μ2 hq2 => ?_)⟩
  obtain ⟨rfl, hW2, hF2⟩ := hq2
  exact ⟨rfl, ⟨_, n2, t, tx, cd, Lf2, m2, gho_gi _, hI2, hK.fr hF2, hW2.eqc gho_eqc.sym, sb_house.gho.sh hS, sb_house.gho.tb hB⟩, hF2.1⟩
theorem s_houses (hI0 : Inv a μ) (x : Int32) (y : Int32) (z : Int32) (w : Int32) : Mt g 68 mX11_houses [.ref a, .int x, .int y, .int z, .int w] μ (SpQ g a mX12_houses [.int x, .int y, .int z, .int w] μ) := by
  obtain ⟨ρ, n, t, tx, cd, Lf, m, hG, hI, ⟨σ, hM, hT⟩, hW, hS, hB⟩ := hI0
  have hC : CLn ρ := hW.cl
  have hN := hI.2.2.1.1
  have hn7 := hI.2.2.1.2
  refine (((c_kHouses hG hC hS hI hM hT x y z w).mono (by decide)).imp (fun v μ1 hq => ?_))
  obtain ⟨rfl, ⟨n2, Lf2, m2, hI2, hK⟩, hF⟩ := hq
  have hW1 : MW (a + 60) ρ μ1 := hW.fr (fun q hq => hF.2 q (by omega))
  refine ⟨_, rfl, ⟨hF.1.1, by have := hF.1; omega, by have := hF.1; omega⟩, hW1.ob, ((c_houses hW1 hS hN hn7 x y z w).mono (by decide)).imp (fun v μ2 hq2 => ?_)⟩
  obtain ⟨rfl, hW2, hF2⟩ := hq2
  exact ⟨rfl, ⟨_, n2, t, tx, cd, Lf2, m2, gho_gi _, hI2, hK.fr hF2, hW2.eqc gho_eqc.sym, sb_houses.gho.sh hS, sb_houses.gho.tb hB⟩, hF2.1⟩
theorem s_text (hI0 : Inv a μ) : Mt g 68 mX11_text [.ref a] μ (SpQ g a mX12_text [] μ) := by
  obtain ⟨ρ, n, t, tx, cd, Lf, m, hG, hI, ⟨σ, hM, hT⟩, hW, hS, hB⟩ := hI0
  have hC : CLn ρ := hW.cl
  have hN := hI.2.2.1.1
  have hn7 := hI.2.2.1.2
  obtain ⟨tp, hP⟩ := TP.of hC hB
  refine (((c_kText hI hM hT hP).mono (by decide)).imp (fun v μ1 hq => ?_))
  obtain ⟨rfl, hX, hF⟩ := hq
  have hW1 : MW (a + 60) ρ μ1 := hW.fr (fun q hq => hF.2 q (by omega))
  refine ⟨_, rfl, ⟨hF.1.1, by have := hF.1; omega, by have := hF.1; omega⟩, hW1.ob, ((c_text hW1 hP hI.2.2.2.2.1.2 hI.2.2.2.2.1.1).mono (by decide)).imp (fun v μ2 hq2 => ?_)⟩
  obtain ⟨rfl, ⟨ρ2, hW2, hR⟩, hF2⟩ := hq2
  have hR2 := hR.g
  obtain ⟨tx2, cd2, hI2, hK⟩ := hX _ hR2 rfl
  have e99 : EqC ρ2 (setA ρ2 99 (ρ.1 99)) := (EqC.rf.sA (by decide)).sym
  refine ⟨rfl, ⟨_, n, t, tx2, cd2, Lf, m, ?_, hI2, hK.fr hF2, hW2.eqc e99, ?_, ?_⟩, hF2.1⟩
  · by_cases h6 : tx = 6
    · unfold TxR at hR2
      rw [if_pos h6] at hR2
      rw [hR2]; exact hG
    · unfold TxR at hR2
      rw [if_neg h6] at hR2
      show ρ.1 99 = (setA ρ2 99 (ρ.1 99)).1 6
      rw [hR2.1 6 (by decide) (by decide) (by decide)]
      exact hG
  · by_cases h6 : tx = 6
    · unfold TxR at hR2
      rw [if_pos h6] at hR2
      rw [hR2]; exact hS
    · unfold TxR at hR2
      rw [if_neg h6] at hR2
      intro s hs
      rw [hR2.1 33 (by decide) (by decide) (by decide), hR2.1 34 (by decide) (by decide) (by decide)]
      exact hS s hs
  · by_cases h6 : tx = 6
    · unfold TxR at hR2
      rw [if_pos h6] at hR2
      rw [hR2]; exact hB
    · unfold TxR at hR2
      rw [if_neg h6] at hR2
      unfold TB
      rw [hR2.2.2.1]
      decide
end STEPS
