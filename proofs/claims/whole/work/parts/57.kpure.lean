/-! ===== a round, as the class goes it and as the reference goes it ===== -/
/-- the class's round: where one stands, who got a paper when -/
def kwl (F : Nat → Nat → Int32) (S : Nat → Int32) : List Nat → W6 → List Int32 → W6 × List Int32
  | [], z, th => (z, th)
  | h :: r, z, th => kwl F S r (visW S (F 2 h) (F 3 h) (thk F S h) (tks F S h) (heapW S (thk F S h) z)) (th.set h (visA S (F 2 h) (F 3 h) (heapW S (thk F S h) z)))
theorem kwl_len {F : Nat → Nat → Int32} {S : Nat → Int32} : ∀ (r : List Nat) (z : W6) (th : List Int32), (kwl F S r z th).2.length = th.length := by
  intro r
  induction r with
  | nil => intro z th; rfl
  | cons h r ih => intro z th; rw [kwl, ih, List.length_set]
theorem tpk_sh {F : Nat → Nat → Int32} {S : Nat → Int32} : ∀ (r : List Nat) (t : Int32) (n : Nat), 1 ≤ n → tpk F S r t n = tpk F S r t 1 + (n - 1) := by
  intro r
  induction r with
  | nil => intro t n h; simp only [tpk]; omega
  | cons h r ih =>
    intro t n hn
    rw [tpk, tpk]
    by_cases q : S 0 < t + thk F S h
    · rw [if_pos ⟨by omega, q⟩, if_pos ⟨by omega, q⟩]; omega
    · rw [if_neg (fun z => q z.2), if_neg (fun z => q z.2), ih _ (n + 1) (by omega), ih _ 2 (by omega)]; omega
theorem thk_rg {F : Nat → Nat → Int32} {S : Nat → Int32} (hV : VF F) (hS : VS S) {h : Nat} (hh : h < 7) : rg (thk F S h) 1 9 := by
  have h4 := (hV h hh).2.2.2.2
  have h1 := h4.1; have h2 := h4.2
  obtain ⟨-, -, -, -, -, -, s6, s7, s8, s9⟩ := hS
  have e : (F 4 h).toInt.toNat = 0 ∨ (F 4 h).toInt.toNat = 1 ∨ (F 4 h).toInt.toNat = 2 ∨ (F 4 h).toInt.toNat = 3 := by omega
  unfold thk
  rcases e with e | e | e | e <;> rw [e]
  · exact s6
  · exact s7
  · exact s8
  · exact s9
/-- the two rounds go alike, once one has left the heap -/
theorem kwl_eq {F : Nat → Nat → Int32} {S : Nat → Int32} (hV : VF F) (hS : VS S) : ∀ (r : List Nat) (mi bk at' on ro t : Int32) (th : List Int32), (∀ h ∈ r, h < 7) → t.toInt + ro.toInt = (S 0).toInt → -9 ≤ ro.toInt → ro.toInt ≤ 60 → 0 ≤ t.toInt → t.toInt ≤ 69 →
    wlk F S r mi at' on (tpk F S r t 1 - 1) bk th = ((kwl F S r (mi, bk, at', on, ro, 0) th).1.1, (kwl F S r (mi, bk, at', on, ro, 0) th).1.2.1, (kwl F S r (mi, bk, at', on, ro, 0) th).2) := by
  have h0 := hS.1
  intro r
  induction r with
  | nil => intro mi bk at' on ro t th _ _ _ _ _ _; rfl
  | cons h r ih =>
    intro mi bk at' on ro t th hr e1 e2 e3 e4 e5
    have hh := hr h List.mem_cons_self
    have hr' : ∀ h ∈ r, h < 7 := fun x hx => hr x (List.mem_cons_of_mem _ hx)
    have ht := thk_rg hV hS hh
    have ht1 := ht.1; have ht2 := ht.2; have q1 := h0.1; have q2 := h0.2
    have et : (t + thk F S h).toInt = t.toInt + (thk F S h).toInt := add_i (by omega) (by omega)
    have hvis : ∀ (mi at' : Int32), visA S (F 2 h) (F 3 h) (mi, bk, at', on, ro, 0) = wmi F S h mi at' on := by
      intro mi at'
      unfold visA wmi
      dsimp only
      split
      · rw [Int32.add_zero]
      · rw [Int32.add_assoc]
    have hvis2 : ∀ (mi bk at' ro ah : Int32), visA S (F 2 h) (F 3 h) (mi, bk, at', on, ro, ah) = wmi F S h mi at' on := by
      intro mi bk at' ro ah
      unfold visA wmi
      dsimp only
      split
      · rw [Int32.add_zero]
      · rw [Int32.add_assoc]
    by_cases q : S 0 < t + thk F S h
    · have q' := q
      rw [Int32.lt_iff_toInt_lt, et] at q'
      have eh : heapW S (thk F S h) (mi, bk, at', on, ro, 0) = (mi + far32 at' (S 1) (S 3), bk + 1, S 1, on, S 0, 1) := by
        have q3 : ro < thk F S h := by rw [Int32.lt_iff_toInt_lt]; omega
        rw [heapW, if_pos ⟨rfl, q3⟩]
        rfl
      have ep : tpk F S (h :: r) t 1 - 1 = 0 := by rw [tpk, if_pos ⟨by omega, q⟩]
      rw [ep, wlk, kwl, eh, hvis2]
      have e6 : (S 0 - thk F S h).toInt = (S 0).toInt - (thk F S h).toInt := sub_i (by omega) (by omega)
      have ez : (0 + thk F S h).toInt = (thk F S h).toInt := by rw [add_i (by rw [Int32.toInt_zero]; omega) (by rw [Int32.toInt_zero]; omega), Int32.toInt_zero]; omega
      have hz := ih (wmi F S h (mi + far32 at' (S 1) (S 3)) (S 1) on + tks F S h) (bk + 1) (F 2 h) (F 3 h) (S 0 - thk F S h) (0 + thk F S h) (th.set h (wmi F S h (mi + far32 at' (S 1) (S 3)) (S 1) on)) hr' (by rw [e6, ez]; omega) (by rw [e6]; omega) (by rw [e6]; omega) (by rw [ez]; omega) (by rw [ez]; omega)
      have ep2 : tpk F S (h :: r) 0 0 = tpk F S r (0 + thk F S h) 1 := by rw [tpk, if_neg (fun z => absurd z.1 (by omega))]
      rw [ep2, hz]
      unfold visW
      rw [hvis2]
    · have q' := q
      rw [Int32.lt_iff_toInt_lt, et] at q'
      have eh : heapW S (thk F S h) (mi, bk, at', on, ro, 0) = (mi, bk, at', on, ro, 0) := by
        have q3 : ¬ ro < thk F S h := by rw [Int32.lt_iff_toInt_lt]; omega
        rw [heapW, if_neg (fun z => q3 z.2)]
      have ep : tpk F S (h :: r) t 1 - 1 = (tpk F S r (t + thk F S h) 1 - 1) + 1 := by
        rw [tpk, if_neg (fun z => q z.2), tpk_sh _ _ 2 (by omega)]
        have := (tpk_b (F := F) (S := S) r (t + thk F S h) 1).1
        omega
      rw [ep, wlk, kwl, eh, hvis2]
      have e6 : (ro - thk F S h).toInt = ro.toInt - (thk F S h).toInt := sub_i (by omega) (by omega)
      rw [ih (wmi F S h mi at' on + tks F S h) bk (F 2 h) (F 3 h) (ro - thk F S h) (t + thk F S h) (th.set h (wmi F S h mi at' on)) hr' (by rw [e6, et]; omega) (by rw [e6]; omega) (by rw [e6]; omega) (by rw [et]; omega) (by rw [et]; omega)]
      unfold visW
      rw [hvis2]
/-- the whole round -/
theorem kwl_rd {F : Nat → Nat → Int32} {S : Nat → Int32} (hV : VF F) (hS : VS S) {os : List Nat} (hr : ∀ h ∈ os, h < 7) (th : List Int32) : wlk0 F S os th = ((kwl F S os (S 2, 0, S 1, 0, S 0, 1) th).1.1, (kwl F S os (S 2, 0, S 1, 0, S 0, 1) th).1.2.1, (kwl F S os (S 2, 0, S 1, 0, S 0, 1) th).2) := by
  have h0 := hS.1
  cases os with
  | nil => rfl
  | cons h r =>
    have hh := hr h List.mem_cons_self
    have hr' : ∀ h ∈ r, h < 7 := fun x hx => hr x (List.mem_cons_of_mem _ hx)
    have ht := thk_rg hV hS hh
    have ht1 := ht.1; have ht2 := ht.2; have q1 := h0.1; have q2 := h0.2
    have ep2 : tpk F S (h :: r) 0 0 = (tpk F S r (0 + thk F S h) 1 - 1) + 1 := by
      rw [tpk, if_neg (fun z => absurd z.1 (by omega)), Nat.zero_add]
      have := (tpk_b (F := F) (S := S) r (0 + thk F S h) 1).1
      omega
    have eh : heapW S (thk F S h) (S 2, 0, S 1, 0, S 0, 1) = (S 2, 0, S 1, 0, S 0, 1) := by rw [heapW, if_neg (fun z => absurd z.1 (show ¬ (1 : Int32) = 0 by decide))]
    have hvis2 : visA S (F 2 h) (F 3 h) (S 2, 0, S 1, 0, S 0, 1) = wmi F S h (S 2) (S 1) 0 := by
      unfold visA wmi
      dsimp only
      split
      · rw [Int32.add_zero]
      · rw [Int32.add_assoc]
    have e6 : (S 0 - thk F S h).toInt = (S 0).toInt - (thk F S h).toInt := sub_i (by omega) (by omega)
    have ez : (0 + thk F S h).toInt = (thk F S h).toInt := by rw [add_i (by rw [Int32.toInt_zero]; omega) (by rw [Int32.toInt_zero]; omega), Int32.toInt_zero]; omega
    rw [wlk0, ep2, wlk, kwl, eh, hvis2]
    rw [kwl_eq hV hS r (wmi F S h (S 2) (S 1) 0 + tks F S h) 0 (F 2 h) (F 3 h) (S 0 - thk F S h) (0 + thk F S h) (th.set h (wmi F S h (S 2) (S 1) 0)) hr' (by rw [e6, ez]; omega) (by rw [e6]; omega) (by rw [e6]; omega) (by rw [ez]; omega) (by rw [ez]; omega)]
    unfold visW
    rw [hvis2]
