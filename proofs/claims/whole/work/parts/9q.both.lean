/-! ===== both at first ===== -/
/-- the class's state at first -/
def sI (a : Nat) (T C : List Int32) (f : Nat → Int32) : KS :=
  (fun k => if k = 3 then [12, 0, 0, 4, 1, 0, 1, 2, 3, 4] else if k = 5 then T else if k = 6 then C else if k = 18 ∨ k = 35 ∨ k = 47 then List.replicate 10 0 else if k = 27 ∨ k = 28 then [] else if k = 44 ∨ k = 45 then List.replicate 756 0 else if k = 48 then List.replicate 28 0 else if k = 50 ∨ k = 52 ∨ k = 54 ∨ k = 56 then List.replicate 40 0 else if k = 200 then (fr0 ++ fr1 ++ fr2).map en else if k = 201 then List.replicate 32 0 else List.replicate 7 0,
   fun o k => if o = 0 then (if k = 6 then 1 else if k = 14 then -1 else 0) else if o = 4 then f k else if o = 29 then (if k = 3 then 1 else 0) else if o = 49 ∨ o = 51 ∨ o = 53 ∨ o = 55 then (if k = 0 then -1 else 0) else if o = 200 then (if k = 1 then 5 else 8) else if k = 5 then 1 else 0,
   fun _ => (0, 0), fun _ => a + 57, fun o => if o = 12 then (a + 17, a + 18) else (a + 34, a + 35))
def cd0 : Nat → List Int32 := fun w => if w = 0 then fr0 else if w = 1 then fr1 else fr2
section BOTH
variable {g : Gl} {μ μ0 : Mm} {a b s : Nat} {z : Nat → MC} {T C : List Int32} {f : Nat → Int32}
theorem c_iX12 (hB : BW b 1 (cst z 0 (obj 12 [.null, .null, .null, .null, .null, .null, .null, .int 0, .int 0, .null, .null, .null, .null, .null, .null, .int 0, .int 0, .int 0, .int 0, .int 0, .int 0, .int 0, .int 0, .int 0, .null, .null, .int 0, .int 0, .null, .null, .int 0, .int 0, .int 0, .null, .null, .null, .null])) s μ0 μ) : Mt g 3 mX12_init [.ref b] μ (fun v μ' => v = none ∧ MFi b μ' ∧ (μ'.2.1 = b + 34 ∧ μ'.2.2 ≤ s + 4200) ∧ ∀ q, q < b → μ'.1 q = μ0.1 q) := by
  refine Mt.of0 (ls0 := [some (.ref b), none]) (by decide) (by simp [Value.category]) (Nat.le_of_ble_eq_true rfl) rfl ?_
  refine l_m12A hB (fun μ1 s1 h1 q1 => ?_)
  refine l_m12B h1 (fun μ2 s2 h2 q2 => ?_)
  refine l_m12C h2 (fun μ3 s3 x h3 q3 => ?_)
  have hM := rm_I h3
  refine ev_aload_n dX12_init_549 rfl ?_
  refine k_v (c_firstRule hM) (by decide) dX12_init_550 cbX12_firstRule (mt4 239 rfl rfl) (mt5 1 rfl rfl) (ms0 43 rfl rfl) (ci := 12) rfl hM.1 rfl rfl (Nat.le_of_ble_eq_true rfl) (fun v μ1 hq => ?_)
  obtain ⟨rfl, hm, hF⟩ := hq
  simp only [Option.toList, List.cons_append, List.nil_append]
  refine ev_vret dX12_init_553 rfl ?_
  refine ⟨rfl, hm, ⟨by rw [hF.1]; exact h3.2.1.1, by rw [hF.1, h3.2.1.2]; omega⟩, fun q hq => (hF.2 q (Or.inl hq)).trans (h3.2.2 q hq)⟩
theorem km_I {μ1 : Mm} (hB : BW a 60 (c11F a T C f) s μ0 μ1) (fr : ∀ q, q < a + 60 → μ.1 q = μ1.1 q) (top : μ.2.1 = a + 94) : KM a 0 1 (sI a T C f) μ := by
  have hi : ∀ i, i < 60 → μ.1 (a + i) = some (c11F a T C f i) := fun i h => (fr _ (by omega)).trans (hB.1 i h)
  refine ⟨fun q hq => ?_, fun q hq => ?_, ⟨hi 1 (by decide), hi 7 (by decide), hi 8 (by decide), hi 14 (by decide), hi 31 (by decide)⟩, fun i h => absurd h (Nat.not_lt_zero i), fun r hr => ?_, ⟨fun i h => absurd h (Nat.not_lt_zero i), fun r hr => ?_, fun i j h => absurd h (Nat.not_lt_zero i), fun r r' h1 h2 => Or.inl (by omega), fun i r h => absurd h (Nat.not_lt_zero i), by omega, by decide, by decide⟩⟩
  · simp only [kO, List.mem_cons, List.not_mem_nil, or_false] at hq
    rcases hq with rfl | rfl | rfl | rfl | rfl | rfl | rfl | rfl | rfl | rfl | rfl | rfl | rfl | rfl | rfl | rfl | rfl | rfl | rfl | rfl | rfl | rfl | rfl | rfl | rfl
    · exact hi 0 (by decide)
    · exact hi 4 (by decide)
    · exact hi 9 (by decide)
    · exact hi 12 (by decide)
    · exact hi 19 (by decide)
    · exact hi 20 (by decide)
    · exact hi 21 (by decide)
    · exact hi 22 (by decide)
    · exact hi 23 (by decide)
    · exact hi 24 (by decide)
    · exact hi 25 (by decide)
    · exact hi 26 (by decide)
    · exact hi 29 (by decide)
    · exact hi 36 (by decide)
    · exact hi 37 (by decide)
    · exact hi 38 (by decide)
    · exact hi 39 (by decide)
    · exact hi 40 (by decide)
    · exact hi 41 (by decide)
    · exact hi 42 (by decide)
    · exact hi 43 (by decide)
    · exact hi 49 (by decide)
    · exact hi 51 (by decide)
    · exact hi 53 (by decide)
    · exact hi 55 (by decide)
  · simp only [kRo, List.mem_cons, List.not_mem_nil, or_false] at hq
    rcases hq with rfl | rfl | rfl | rfl | rfl | rfl | rfl | rfl | rfl | rfl | rfl | rfl | rfl | rfl | rfl | rfl | rfl | rfl | rfl | rfl | rfl | rfl | rfl | rfl | rfl
    · exact hi 2 (by decide)
    · exact hi 3 (by decide)
    · exact hi 5 (by decide)
    · exact hi 6 (by decide)
    · exact hi 10 (by decide)
    · exact hi 11 (by decide)
    · exact hi 13 (by decide)
    · exact hi 15 (by decide)
    · exact hi 16 (by decide)
    · exact hi 18 (by decide)
    · exact hi 27 (by decide)
    · exact hi 28 (by decide)
    · exact hi 30 (by decide)
    · exact hi 32 (by decide)
    · exact hi 33 (by decide)
    · exact hi 35 (by decide)
    · exact hi 44 (by decide)
    · exact hi 45 (by decide)
    · exact hi 46 (by decide)
    · exact hi 47 (by decide)
    · exact hi 48 (by decide)
    · exact hi 50 (by decide)
    · exact hi 52 (by decide)
    · exact hi 54 (by decide)
    · exact hi 56 (by decide)
  · have e : r = 0 := by omega
    subst e
    exact ⟨hi 57 (by decide), hi 58 (by decide), hi 59 (by decide)⟩
  · have e : r = 0 := by omega
    subst e
    exact ⟨Or.inl ⟨rfl, rfl⟩, by show a + 57 + 3 ≤ _; omega⟩
/-- the reference's state at first, with its ghost -/
abbrev r99 (ρ : MS) : MS := setA ρ 99 [12, 0, 0, 4, 1, 0, 1, 2, 3, 4]
theorem r99_r {ρ : MS} (hE : EqE [11, 12, 13] [21, 22, 23] ρ msI) {k : Nat} (h : k ∉ [11, 12, 13, 99]) : (r99 ρ).1 k = rI k := by
  show (if k = 99 then _ else ρ.1 k) = _
  rw [if_neg (fun q => h (by rw [q]; decide)), hE.1 k (fun q => h (by simp only [List.mem_cons, List.not_mem_nil, or_false] at q ⊢; omega))]
  rfl
theorem r99_i {ρ : MS} (hE : EqE [11, 12, 13] [21, 22, 23] ρ msI) {k : Nat} (h : k ∉ [21, 22, 23]) : (r99 ρ).2 k = if k = 16 then 1 else 0 := hE.2 k h
theorem r99_eqc {ρ : MS} : EqC ρ (r99 ρ) := ⟨fun k hk => by show _ = if k = 99 then _ else _; rw [if_neg (fun e => by rw [e] at hk; revert hk; decide)], fun _ _ => rfl⟩
theorem r99_F {ρ : MS} (hE : EqE [11, 12, 13] [21, 22, 23] ρ msI) : Fc (r99 ρ) = fun _ h => (List.replicate 7 (0 : Int32)).getD h 0 := by
  funext k x
  show (if k < 5 then ((r99 ρ).1 k).getD x 0 else 0) = _
  by_cases hk : k < 5
  · rw [if_pos hk, r99_r hE (by simp only [List.mem_cons, List.not_mem_nil, or_false]; omega)]
    have e : k = 0 ∨ k = 1 ∨ k = 2 ∨ k = 3 ∨ k = 4 := by omega
    rcases e with rfl | rfl | rfl | rfl | rfl <;> rfl
  · rw [if_neg hk]
    by_cases hx : x < 7
    · have k7 : ∀ x, x < 7 → (0 : Int32) = (List.replicate 7 (0 : Int32)).getD x 0 := by decide
      exact k7 x hx
    · rw [List.getD_eq_getElem?_getD, List.getElem?_eq_none (by simp; omega)]
      rfl
theorem im_I {ρ : MS} (hE : EqE [11, 12, 13] [21, 22, 23] ρ msI) (h0 : RC ρ 0 fr0) (h1 : RC ρ 1 fr1) (h2 : RC ρ 2 fr2) : IM (r99 ρ) 0 0 1 cd0 (fun _ => 0) := by
  refine ⟨?_, ?_, ⟨r99_i hE (by decide), by decide⟩, ⟨r99_i hE (by decide), by decide⟩, ⟨r99_i hE (by decide), by decide⟩, fun r hr => ?_, fun i hi => absurd hi (Nat.not_lt_zero i), fun h hh => absurd hh (Nat.not_lt_zero h)⟩
  · rw [r99_F hE]
    unfold VF rg
    decide
  · have e : Se (r99 ρ) = fun i => ([12, 0, 0, 4, 1, 0, 1, 2, 3, 4] : List Int32).getD i 0 := by
      funext i
      show ((r99 ρ).1 6).getD i 0 = _
      rw [r99_r hE (by decide)]
      rfl
    rw [e]
    unfold VS rg
    decide
  · have e : r = 0 ∨ r = 1 ∨ r = 2 := by omega
    rcases e with rfl | rfl | rfl
    · exact ⟨h0, fr0_B.wf⟩
    · exact ⟨h1, fr1_B.wf⟩
    · exact ⟨h2, fr2_B.wf⟩
theorem kt_I {ρ : MS} (hE : EqE [11, 12, 13] [21, 22, 23] ρ msI) (hT : T.length = 160) (hC : C.length = 160) (hf : f 0 = 0) : KTie (r99 ρ) 0 0 1 cd0 (fun _ => 0) 0 (sI a T C f) := by
  refine ⟨fun q hq => ?_, (r99_r hE (k := 6) (by decide)).symm, ⟨Nat.le_refl _, rfl, fun h hh => absurd hh (Nat.not_lt_zero h)⟩, fun i hi => absurd hi (Nat.not_lt_zero i), ⟨hf.trans (r99_i hE (k := 15) (by decide)).symm, fun i c hi => ?_⟩, ⟨rfl, rfl, fun r hr => ?_⟩, fun s hs => ?_, Or.inl ⟨r99_i hE (by decide), rfl⟩, fun so hso => ?_⟩
  · simp only [kLen, List.mem_cons, List.not_mem_nil, or_false] at hq
    rcases hq with rfl | rfl | rfl | rfl | rfl | rfl | rfl | rfl | rfl | rfl | rfl | rfl | rfl | rfl | rfl | rfl | rfl | rfl | rfl | rfl | rfl | rfl | rfl <;> first | exact hT | exact hC | exact List.length_replicate | rfl
  · rw [r99_i hE (by decide)] at hi
    exact absurd hi (Nat.not_lt_zero i)
  · have e : r = 0 := by omega
    subst e
    refine ⟨rfl, rfl, rfl, List.length_replicate, by decide, fun w hw => ?_⟩
    have e : w = 0 ∨ w = 1 ∨ w = 2 := by omega
    rcases e with rfl | rfl | rfl
    · exact fr0_B
    · exact fr1_B
    · exact fr2_B
  · rw [r99_r hE (k := 33) (by decide), r99_r hE (k := 34) (by decide), r99_r hE (k := 35) (by decide)]
    have e : s = 0 ∨ s = 1 ∨ s = 2 ∨ s = 3 := by omega
    have n0 : ∀ i, ¬ i < ((0 : Int32).toInt.toNat) := fun i => Nat.not_lt_zero i
    rcases e with rfl | rfl | rfl | rfl <;> exact ⟨rfl, rfl, fun i hi => absurd hi (n0 i)⟩
  · have e : so = 0 ∨ so = 1 := by omega
    rcases e with rfl | rfl
    · exact ⟨rfl, Or.inl rfl⟩
    · exact ⟨rfl, Or.inl rfl⟩
/-- what holds between the calls -/
def Inv (a : Nat) (μ : Mm) : Prop := ∃ (ρ : MS) (n t tx : Nat) (cd : Nat → List Int32) (Lf : Nat → Nat) (m : Nat), GI ρ ∧ IM ρ n t tx cd Lf ∧ KV a ρ n t tx cd Lf m μ ∧ MW (a + 60) ρ μ ∧ SH ρ ∧ TB ρ
theorem inv_I {μ1 : Mm} (hB : BW a 60 (c11F a T C f) s μ0 μ1) (hT : T.length = 160) (hC : C.length = 160) (hf : f 0 = 0) (hm : MFi (a + 60) μ) (fr : ∀ q, q < a + 60 → μ.1 q = μ1.1 q) (top : μ.2.1 = a + 94) : Inv a μ := by
  obtain ⟨ρ, hM, hL, hE, h0, h1, h2⟩ := hm
  refine ⟨r99 ρ, 0, 0, 1, cd0, fun _ => 0, 0, ?_, im_I hE h0 h1 h2, ⟨sI a T C f, km_I hB fr top, kt_I hE hT hC hf⟩, ⟨ρ, hM, hL, r99_eqc⟩, fun s hs => ?_, ?_⟩
  · show (if 99 = 99 then ([12, 0, 0, 4, 1, 0, 1, 2, 3, 4] : List Int32) else ρ.1 99) = (r99 ρ).1 6
    rw [if_pos rfl, r99_r hE (k := 6) (by decide)]
    rfl
  · rw [r99_r hE (k := 33) (by decide), r99_r hE (k := 34) (by decide)]
    have e : s = 0 ∨ s = 1 ∨ s = 2 ∨ s = 3 := by omega
    unfold rg
    rcases e with rfl | rfl | rfl | rfl <;> decide
  · unfold TB
    rw [r99_i hE (by decide)]
    decide
end BOTH
