/-! ===== the class's search: what it leaves of the rest ===== -/
section KFIND
variable {a m tx n t o so' : Nat} {ρ : MS} {cd : Nat → List Int32} {Lf : Nat → Nat} {σ σ' : KS}
theorem KT8.srch (h : KT8 ρ n t tx cd Lf m σ) (hn7 : n ≤ 7) (ho : SO o) (er : ∀ k, k ≠ o + 1 → k ≠ o + 3 → σ'.1 k = σ.1 k) (l1 : (σ'.1 (o + 1)).length = (σ.1 (o + 1)).length) (l3 : (σ'.1 (o + 3)).length = (σ.1 (o + 3)).length) (ei : ∀ p k, (p < o ∨ o + 15 ≤ p) → kI σ' p k = kI σ p k) (eD : kD σ' = kD σ) : KT8 ρ n t tx cd Lf m σ' := by
  have ho2 : o = 12 ∨ o = 29 := ho
  obtain ⟨x1, x2, x3, x4, x5, x6, x7, x8⟩ := h
  refine ⟨fun q hq => ?_, by rw [er 3 (by omega) (by omega)]; exact x2, ⟨x3.1, (ei _ _ (by omega)).trans x3.2.1, fun x hx => ?_⟩, fun j hj => ?_, ⟨(ei _ _ (by omega)).trans x5.1, fun j c hj hc => ?_⟩, ⟨(ei _ _ (by omega)).trans x6.1, (ei _ _ (by omega)).trans x6.2.1, fun q hq => ?_⟩, fun s hs => ?_, ?_⟩
  · by_cases q1 : q.1 = o + 1
    · rw [q1, l1, ← q1]; exact x1 q hq
    by_cases q2 : q.1 = o + 3
    · rw [q2, l3, ← q2]; exact x1 q hq
    rw [er _ q1 q2]; exact x1 q hq
  · obtain ⟨w1, w2, w3⟩ := x3.2.2 x hx
    exact ⟨by rw [eD]; exact w1, (ei _ _ (by omega)).trans w2, fun k hk => (ei _ _ (by omega)).trans (w3 k hk)⟩
  · rw [er 2 (by omega) (by omega)]; exact x4 j hj
  · rw [er 5 (by omega) (by omega)]; exact x5.2 j c hj hc
  · obtain ⟨w1, w2, w3, w4, w5⟩ := x6.2.2 q hq
    exact ⟨by rw [er _ (by omega) (by omega)]; exact w1, (ei _ _ (by omega)).trans w2, (ei _ _ (by omega)).trans w3, by rw [er _ (by omega) (by omega)]; exact w4, w5⟩
  · obtain ⟨w1, w2, w3⟩ := x7 s hs
    exact ⟨(ei _ _ (by omega)).trans w1, (ei _ _ (by omega)).trans w2, fun j hj => by rw [er _ (by omega) (by omega)]; exact w3 j hj⟩
  · unfold KKp
    rw [ei _ _ (by omega), ei _ _ (by omega), er 46 (by omega) (by omega), er 47 (by omega) (by omega), er 48 (by omega) (by omega)]
    exact x8
/-- the found orders, once one search is through -/
theorem KBs.srch (h : KBs ρ n t cd σ) (hG : GI ρ) (hs : so' < 2) (ho : o = 12 + 17 * so') (er : ∀ k, k ≠ o + 1 → k ≠ o + 3 → σ'.1 k = σ.1 k) (ei : ∀ p k, (p < o ∨ o + 15 ≤ p) → kI σ' p k = kI σ p k) (e3 : kI σ' o 3 = nI so') (e2 : kI σ' o 2 = 1) (e1 : kI σ' o 1 = if so' = 0 then 0 - (bst ρ n t cd 0).1 else (bst ρ n t cd 1).1) (eo : OrdP σ' (o + 1) (bst ρ n t cd (nI so')).2) (hl : (bst ρ n t cd (nI so')).2.length = n) : KBs ρ n t cd σ' := by
  intro so hso
  have eg : ∀ s, bst (gst ρ) n t cd s = bst ρ n t cd s := fun s => by
    have : gst ρ = ρ := by
      unfold gst
      rw [show ρ.1 99 = ρ.1 6 from hG]
      exact setA_self
    rw [this]
  by_cases e : so = so'
  · subst e
    subst ho
    refine ⟨e3, Or.inr ⟨e2, ?_, fun i hi => ?_⟩⟩
    · rw [eg, eg]; exact e1
    · rw [eg]
      have hx : ((bst ρ n t cd (nI so)).2)[i]? = some ((bst ρ n t cd (nI so)).2.getD i 0) := by
        rw [List.getD_eq_getElem?_getD, List.getElem?_eq_getElem (by omega)]; rfl
      exact eo i _ hx
  · have := h so hso
    rw [ei _ _ (by omega), ei _ _ (by omega), ei _ _ (by omega), er _ (by omega) (by omega)]
    exact this
theorem bst_len (hn : n ≤ 7) {so : Int32} : (bst ρ n t cd so).2.length = n := by
  obtain ⟨Ps, hPs⟩ := pm_ne n
  have hpm := hPs hn
  have hb : bst ρ n t cd so = fbK so (eB ρ n t cd so) Ps (eB ρ n t cd so (List.range n)) (List.range n) := by
    unfold bst
    rw [hpm]
  have hm : (bst ρ n t cd so).2 ∈ pm n := by
    rw [hb, hpm]
    rcases fbK_in (so := so) (E := eB ρ n t cd so) Ps (eB ρ n t cd so (List.range n)) (List.range n) with q | q
    · rw [q]; exact List.mem_cons_self
    · exact List.mem_cons_of_mem _ q
  exact (pm_mem hm).1
theorem kf_T9 {x : Nat} : (kf 6 a σ o).set 9 (.ref x) = kf 6 a (ksT σ o (x, (kT σ o).2)) o := by simp [kf, ksT, kI, kT]
theorem kf_T11 {x : Nat} : (kf 6 a σ o).set 11 (.ref x) = kf 6 a (ksT σ o ((kT σ o).1, x)) o := by simp [kf, ksT, kI, kT]
end KFIND
