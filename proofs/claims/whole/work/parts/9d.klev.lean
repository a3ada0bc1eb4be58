/-! ===== the class's reader: emit, passed; what a level answers ===== -/
def RdS (r : Nat) (T tp s D : List Int32) (μ : Mm) : Prop := ∃ (f : Nat → Int32) (C : List Int32), RDo r f T C μ ∧ C.length = 160 ∧ f 0 = nI tp.length ∧ RTok f tp s ∧ f 4 = nI D.length ∧ ∀ (i : Nat) (c : Int32), D[i]? = some c → C[i]? = some (en c)
theorem RdS.sfx {r : Nat} {T tp s D : List Int32} {μ : Mm} (h : RdS r T tp s D μ) : Sfx tp s := by
  obtain ⟨f, C, -, -, -, hK, -⟩ := h
  exact hK.1
/-- it can't stand: the token where that is seen -/
def LvF (r : Nat) (T tp : List Int32) (R : Bool × (List Int32 × PS)) (μ : Mm) : Prop := R.1 = false ∧ ∃ (f : Nat → Int32) (C : List Int32), RDo r f T C μ ∧ C.length = 160 ∧ f 0 = nI tp.length ∧ f 1 = nI (psn tp R.2.1)
theorem LvF.of {r : Nat} {T tp s D : List Int32} {μ : Mm} {R : Bool × (List Int32 × PS)} (h : RdS r T tp s D μ) (hR : R.1 = false ∧ R.2.1 = s) : LvF r T tp R μ := by
  obtain ⟨f, C, h1, h2, h3, h4, -⟩ := h
  exact ⟨hR.1, f, C, h1, h2, h3, by rw [hR.2]; exact h4.2.1⟩
def LvY (r : Nat) (T tp : List Int32) (h : Int32) (kh : Nat) (Nx : Int32 → PS → Prop) (s D H C : List Int32) (o : Int32) (μ : Mm) : Prop := ∃ (s' E : List Int32) (P' : PS), RdS r T tp s' (D ++ E) μ ∧ rowR true s (H, C, o) = rowR false s' P' ∧ Rd h P' (H, C ++ E, o) ∧ Nx (tkK s') P' ∧ Hk kh E ∧ E.length + psn tp s ≤ psn tp s'
def LvQ (r : Nat) (T tp : List Int32) (h : Int32) (kh : Nat) (Nx : Int32 → PS → Prop) (s D H C : List Int32) (o : Int32) (μ : Mm) : Option Value → Mm → Prop := fun v μ' => FR r μ μ' ∧ ∃ z, v = some (.int z) ∧ ((z = 1 ∧ LvY r T tp h kh Nx s D H C o μ') ∨ (z = 0 ∧ LvF r T tp (rowR true s (H, C, o)) μ'))
def LvC (g : Gl) (Y : Md) (d r : Nat) (T tp : List Int32) (q : Nat) (h : Int32) (kh : Nat) (Nx : Int32 → PS → Prop) (pre : List Int32 → List Int32 → Prop) : Prop := ∀ (s D H C : List Int32) (μ : Mm), RdS r T tp s D μ → D.length ≤ psn tp s → pre s H → Mt g d Y [.ref r, .int (nI (5 - q))] μ (LvQ r T tp h kh Nx s D H C (nI (5 - q)) μ)
def preO (s H : List Int32) : Prop := ¬ (tkK s = 8 ∧ mayB H = true)
def preT (s H : List Int32) : Prop := preO s H ∧ Tp [10, 7, 6, 8, 4, 5, 1, 2] H
def preS (s H : List Int32) : Prop := preO s H ∧ Tp [10, 7, 6, 8, 4, 5] H
def preC (s H : List Int32) : Prop := preO s H ∧ Tp [10, 7, 6, 8] H
def preN (_ H : List Int32) : Prop := Tp [10, 7, 6, 8] H
def preB (_ H : List Int32) : Prop := Tp [10, 7] H
def preE (_ H : List Int32) : Prop := Tp [10] H
theorem mayB_c {x : Int32} {H : List Int32} (h : ¬ (x = 10 ∨ x = 7 ∨ x = 6 ∨ x = 8)) : ¬ mayB (x :: H) = true := by
  intro q
  have q := of_decide_eq_true q
  rcases q with q | q
  · cases q
  · exact h q
theorem mayB_t {H : List Int32} (h : Tp [10, 7, 6, 8] H) : mayB H = true := by
  refine decide_eq_true ?_
  rcases h with h | h
  · exact Or.inl h
  · refine Or.inr ?_
    simpa using h
theorem preO_c {s : List Int32} {x : Int32} {H : List Int32} (h : ¬ (x = 10 ∨ x = 7 ∨ x = 6 ∨ x = 8)) : preO s (x :: H) := fun q => mayB_c h q.2
theorem psn_nx {tp s : List Int32} (hs : Sfx tp s) (h : ¬ tkK s = 0) : psn tp s + 1 ≤ psn tp (nxT s) := psn_lt hs (nxT_lt h)
theorem psn_lt0 {tp s : List Int32} (hs : Sfx tp s) (h : ¬ tkK s = 0) : psn tp s < tp.length := by
  have := hs.le
  have h2 := nxT_lt h
  simp only [psn]
  omega
theorem psn_le {tp s : List Int32} : psn tp s ≤ tp.length := Nat.sub_le _ _
section KLEV
variable {g : Gl} {r : Nat} {T tp s D : List Int32}
theorem c_emit {μ : Mm} (hS : RdS r T tp s D μ) (hD : D.length < 160) {c x : Int32} (hx : x = en c) : Mt g 0 mX4_emit [.ref r, .int x] μ (fun v μ' => v = some (.int 1) ∧ RdS r T tp s (D ++ [c]) μ' ∧ FR r μ μ') := by
  refine Mt.of0 (ls0 := [some (.ref r), some (.int x)]) (by decide) (by simp [Value.category]) (Nat.le_of_ble_eq_true rfl) rfl ?_
  obtain ⟨f, C, hO, hC, h0, hK, h4, hc⟩ := hS
  have hF : FR r μ μ := FR.rf
  refine ev_aload_n dX4_emit_0 rfl ?_
  refine ev_get dX4_emit_1 flX4_25_4 hO.1 rfl ?_
  refine ev_sipush (v := 160) dX4_emit_4 (by decide) ?_
  refine ev_icmp_ge (tgt := 30) dX4_emit_7 (by decide) (fun h7 => absurd h7 ((show ¬ nI 160 ≤ f 4 by rw [h4]; exact nI_ge hD (by decide)))) (fun _ => ?_)
  refine ev_aload_n dX4_emit_10 rfl ?_
  refine ev_get dX4_emit_11 flX4_22_4 hO.1 rfl ?_
  refine ev_aload_n dX4_emit_14 rfl ?_
  refine ev_get dX4_emit_15 flX4_25_4 hO.1 rfl ?_
  rw [h4]
  refine ev_iload_n dX4_emit_18 rfl ?_
  refine evR_iastC hO hF dX4_emit_19 (ix_n (by omega)) (show D.length < C.length by omega) (fun μ hO hF => ?_)
  refine ev_aload_n dX4_emit_20 rfl ?_
  refine ev_dup dX4_emit_21 rfl ?_
  refine ev_get dX4_emit_22 flX4_25_4 hO.1 rfl ?_
  rw [h4]
  refine ev_iconst (v := 1) dX4_emit_25 (by decide) ?_
  refine ev_iadd dX4_emit_26 ?_
  refine evR_put hO hF (k := 4) (by decide) dX4_emit_27 fpX4_25_4 (fun μ hO hF => ?_)
  refine ev_iconst (v := 1) dX4_emit_30 (by decide) ?_
  refine ev_zret dX4_emit_31 rfl (by decide) ?_
  refine ⟨rfl, ⟨_, _, hO, by rw [List.length_set]; exact hC, h0, hK, ?_, fun i c' hi => ?_⟩, hF⟩
  · show nI D.length + 1 = _
    rw [nI_1, List.length_append, List.length_singleton]
  · rw [List.getElem?_append] at hi
    split at hi
    · rw [List.getElem?_set_ne (by omega)]; exact hc i c' hi
    · have hk2 := (List.getElem?_eq_some_iff.mp hi).1
      simp only [List.length_singleton] at hk2
      have e : i = D.length := by omega
      subst e
      rw [List.getElem?_set_self (by omega), hx]
      rw [Nat.sub_self] at hi
      cases hi
      rfl
theorem c_advS {μ : Mm} (hS : RdS r T tp s D μ) (hT : RT T tp) : Mt g 6 mX4_advance [.ref r] μ (fun v μ' => v = none ∧ RdS r T tp (nxT s) D μ' ∧ FR r μ μ') := by
  obtain ⟨f, C, hO, hC, h0, hK, h4, hc⟩ := hS
  refine (c_advance hO hT h0 (x := tkR s) (hK.1.tr tkR_sfx) hK.2.2.2.2).imp (fun v μ' hq => ?_)
  obtain ⟨h1, ⟨f', hO', hE, hK'⟩, hF⟩ := hq
  exact ⟨h1, ⟨f', C, hO', hC, (hE 0 (by decide)).trans h0, hK', (hE 4 (by decide)).trans h4, hc⟩, hF⟩
theorem c_passed {μ : Mm} (hS : RdS r T tp s D μ) (hT : RT T tp) (k : Int32) : Mt g 7 mX4_passed [.ref r, .int k] μ (fun v μ' => FR r μ μ' ∧ ∃ z, v = some (.int z) ∧ ((z = 1 ∧ tkK s = k ∧ RdS r T tp (nxT s) D μ') ∨ (z = 0 ∧ ¬ tkK s = k ∧ μ' = μ))) := by
  refine Mt.of0 (ls0 := [some (.ref r), some (.int k)]) (by decide) (by simp [Value.category]) (Nat.le_of_ble_eq_true rfl) rfl ?_
  obtain ⟨f, C, hO, hC, h0, hK, h4, hc⟩ := id hS
  have hF : FR r μ μ := FR.rf
  refine ev_aload_n dX4_passed_0 rfl ?_
  refine ev_get dX4_passed_1 flX4_31_4 hO.1 rfl ?_
  rw [hK.2.2.1]
  refine ev_iload_n dX4_passed_4 rfl ?_
  refine ev_icmp_eq (tgt := 10) dX4_passed_5 (by decide) (fun h5 => ?_) (fun h5 => ?_)
  · refine ev_aload_n dX4_passed_10 rfl ?_
    refine k_v (c_advS hS hT) (by decide) dX4_passed_11 cbX4_advance (mt1 231 rfl rfl) (mt1 233 rfl rfl) (ms0 0 rfl rfl) (ci := 4) rfl hO.1 rfl rfl (Nat.le_of_ble_eq_true rfl) (fun v μ1 hq => ?_)
    obtain ⟨rfl, hS, hF2⟩ := hq; have hF := hF.tr hF2
    simp only [Option.toList, List.cons_append, List.nil_append]
    refine ev_iconst (v := 1) dX4_passed_14 (by decide) ?_
    refine ev_zret dX4_passed_15 rfl (by decide) ?_
    exact ⟨hF, 1, rfl, Or.inl ⟨rfl, h5, hS⟩⟩
  · refine ev_iconst (v := 0) dX4_passed_8 (by decide) ?_
    refine ev_zret dX4_passed_9 rfl (by decide) ?_
    exact ⟨hF, 0, rfl, Or.inr ⟨rfl, h5, rfl⟩⟩
theorem LvQ.nar {z : Int32} {p q : Prop} (hz : (z = 1 ∧ p) ∨ (z = 0 ∧ q)) : narrow .boolean (.int z) = .int z := by
  rcases hz with ⟨rfl, -⟩ | ⟨rfl, -⟩ <;> rfl
end KLEV
