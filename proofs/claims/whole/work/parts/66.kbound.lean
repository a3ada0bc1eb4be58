/-! ===== bounds of a round; a later beginning ===== -/
theorem rg_i {x : Int32} {lo hi : Int} (h : rg x lo hi) : lo ≤ x.toInt ∧ x.toInt ≤ hi := h
theorem div_rg {x p : Int32} {M : Int} (h0 : 0 ≤ x.toInt) (hx : x.toInt ≤ M) (hp : rg p 1 9) : 0 ≤ (x / p).toInt ∧ (x / p).toInt ≤ M := by
  obtain ⟨p1, p2⟩ := hp
  have hne : p ≠ -1 := fun q => by rw [q] at p1; exact absurd p1 (by decide)
  rw [Int32.toInt_div_of_ne_right x p hne, Int.tdiv_eq_ediv_of_nonneg h0]
  have h1 : 0 ≤ x.toInt / p.toInt := Int.ediv_nonneg h0 (by omega)
  have h2 : x.toInt / p.toInt ≤ x.toInt := Int.ediv_le_self _ h0
  omega
theorem far_rg {x y p : Int32} (hx : rg x 0 99) (hy : rg y 0 99) (hp : rg p 1 9) : 0 ≤ (far32 x y p).toInt ∧ (far32 x y p).toInt ≤ 107 := by
  have h1 := hx.1; have h2 := hx.2; have h3 := hy.1; have h4 := hy.2; have p1 := hp.1; have p2 := hp.2
  have e1 : (y - x).toInt = y.toInt - x.toInt := sub_i (by omega) (by omega)
  have e2 : (x - y).toInt = x.toInt - y.toInt := sub_i (by omega) (by omega)
  have ea : 0 ≤ (if x < y then y - x else x - y).toInt ∧ (if x < y then y - x else x - y).toInt ≤ 99 := by
    split
    · rename_i q; rw [Int32.lt_iff_toInt_lt] at q; rw [e1]; omega
    · rename_i q; rw [Int32.lt_iff_toInt_lt] at q; rw [e2]; omega
  unfold far32
  generalize (if x < y then y - x else x - y) = z at ea
  have t1 : (1 : Int32).toInt = 1 := by decide
  have e3 : (z + p).toInt = z.toInt + p.toInt := add_i (by omega) (by omega)
  have e4 : (z + p - 1).toInt = z.toInt + p.toInt - 1 := by rw [sub_i (by rw [e3, t1]; omega) (by rw [e3, t1]; omega), e3, t1]
  exact div_rg (by rw [e4]; omega) (by rw [e4]; omega) hp
theorem dog_rg {x : Int32} : dogT x = 1 ∨ dogT x = 4 := by
  unfold dogT
  split
  · right; decide
  · left; decide
theorem tks_rg {F : Nat → Nat → Int32} {S : Nat → Int32} (hV : VF F) (hS : VS S) {h : Nat} (hh : h < 7) : rg (tks F S h) 1 19 := by
  have ht := thk_rg hV hS hh
  obtain ⟨t1, t2⟩ := ht
  obtain ⟨n1, n2⟩ := (hV h hh).2.1
  have o1 : (1 : Int32).toInt = 1 := by decide
  have eg : (1 + F 1 h).toInt = 1 + (F 1 h).toInt := by rw [add_i (by rw [o1]; omega) (by rw [o1]; omega), o1]
  unfold tks
  split
  · exact ⟨by omega, by omega⟩
  · split
    · rcases dog_rg (x := F 1 h) with q | q <;> rw [q] <;> exact ⟨by decide, by decide⟩
    · split
      · have e2 : (1 + F 1 h + thk F S h).toInt = 1 + (F 1 h).toInt + (thk F S h).toInt := by rw [add_i (by rw [eg]; omega) (by rw [eg]; omega), eg]
        exact ⟨by omega, by omega⟩
      · split
        · rcases dog_rg (x := F 1 h) with q | q <;> rw [q] <;> exact ⟨by decide, by decide⟩
        · split
          · have eb : (b2i (0 < S 5)).toInt = 0 ∨ (b2i (0 < S 5)).toInt = 1 := by
              unfold b2i; split
              · right; decide
              · left; decide
            have e2 : (1 + F 1 h + b2i (0 < S 5)).toInt = 1 + (F 1 h).toInt + (b2i (0 < S 5)).toInt := by rw [add_i (by rw [eg]; omega) (by rw [eg]; omega), eg]
            exact ⟨by omega, by omega⟩
          · exact ⟨by decide, by decide⟩
theorem wmi_rg {F : Nat → Nat → Int32} {S : Nat → Int32} (hV : VF F) (hS : VS S) {h : Nat} (hh : h < 7) {mi at' on : Int32} (ha : rg at' 0 99) (h0 : 0 ≤ mi.toInt) (h1 : mi.toInt ≤ 100000) : mi.toInt ≤ (wmi F S h mi at' on).toInt ∧ (wmi F S h mi at' on).toInt ≤ mi.toInt + 116 := by
  obtain ⟨f1, f2⟩ := far_rg ha (hV h hh).2.2.1 hS.2.2.2.1
  obtain ⟨c1, c2⟩ := hS.2.2.2.2.1
  unfold wmi
  have ec : 0 ≤ (if on = F 3 h then 0 else S 4).toInt ∧ (if on = F 3 h then 0 else S 4).toInt ≤ 9 := by
    split
    · exact ⟨by decide, by decide⟩
    · exact ⟨by omega, by omega⟩
  generalize (if on = F 3 h then (0 : Int32) else S 4) = z at ec
  have e1 : (far32 at' (F 2 h) (S 3) + z).toInt = (far32 at' (F 2 h) (S 3)).toInt + z.toInt := add_i (by omega) (by omega)
  rw [add_i (by rw [e1]; omega) (by rw [e1]; omega), e1]
  omega
theorem wlk_out {F : Nat → Nat → Int32} {S : Nat → Int32} : ∀ (r : List Nat) (mi at' on : Int32) (pp : Nat) (bk : Int32) (th : List Int32) (q : Nat), q ∉ r → (wlk F S r mi at' on pp bk th).2.2.getD q 0 = th.getD q 0 := by
  intro r
  induction r with
  | nil => intro mi at' on pp bk th q _; cases pp <;> rfl
  | cons h r ih =>
    intro mi at' on pp bk th q hq
    have hne : q ≠ h := fun e => hq (e ▸ List.mem_cons_self)
    have hqr : q ∉ r := fun e => hq (List.mem_cons_of_mem _ e)
    cases pp with
    | zero => rw [wlk, ih _ _ _ _ _ _ q hqr, List.getD_eq_getElem?_getD, List.getElem?_set_ne (Ne.symm hne), ← List.getD_eq_getElem?_getD]
    | succ pp => rw [wlk, ih _ _ _ _ _ _ q hqr, List.getD_eq_getElem?_getD, List.getElem?_set_ne (Ne.symm hne), ← List.getD_eq_getElem?_getD]
theorem set_D {l : List Int32} {h : Nat} {x : Int32} (hl : h < l.length) : (l.set h x).getD h 0 = x := by
  rw [List.getD_eq_getElem?_getD, List.getElem?_set_self hl]; rfl
theorem wlk_rg {F : Nat → Nat → Int32} {S : Nat → Int32} (hV : VF F) (hS : VS S) : ∀ (r : List Nat) (mi at' on : Int32) (pp : Nat) (bk : Int32) (th : List Int32), (∀ h ∈ r, h < 7) → th.length = 7 → rg at' 0 99 → 0 ≤ mi.toInt → mi.toInt + 250 * r.length ≤ 100000 → mi.toInt ≤ (wlk F S r mi at' on pp bk th).1.toInt ∧ (wlk F S r mi at' on pp bk th).1.toInt ≤ mi.toInt + 250 * r.length ∧ ∀ q ∈ r, mi.toInt ≤ ((wlk F S r mi at' on pp bk th).2.2.getD q 0).toInt ∧ ((wlk F S r mi at' on pp bk th).2.2.getD q 0).toInt ≤ mi.toInt + 250 * r.length := by
  intro r
  induction r with
  | nil => intro mi at' on pp bk th _ _ _ _ _; cases pp <;> exact ⟨Int.le_refl _, by simp [wlk], fun q hq => by simp at hq⟩
  | cons h r ih =>
    intro mi at' on pp bk th hr hl ha h0 h1
    have hh := hr h List.mem_cons_self
    have hr' : ∀ x ∈ r, x < 7 := fun x q => hr x (List.mem_cons_of_mem _ q)
    simp only [List.length_cons] at h1 ⊢
    have hT := tks_rg hV hS hh
    obtain ⟨t1, t2⟩ := hT
    have step : ∀ (mi' at2 : Int32) (pp' : Nat) (bk' : Int32), mi.toInt ≤ mi'.toInt → mi'.toInt ≤ mi.toInt + 107 → rg at2 0 99 →
        mi.toInt ≤ (wlk F S r (wmi F S h mi' at2 on + tks F S h) (F 2 h) (F 3 h) pp' bk' (th.set h (wmi F S h mi' at2 on))).1.toInt ∧ (wlk F S r (wmi F S h mi' at2 on + tks F S h) (F 2 h) (F 3 h) pp' bk' (th.set h (wmi F S h mi' at2 on))).1.toInt ≤ mi.toInt + 250 * ((r.length + 1 : Nat) : Int) ∧ ∀ q ∈ h :: r, mi.toInt ≤ ((wlk F S r (wmi F S h mi' at2 on + tks F S h) (F 2 h) (F 3 h) pp' bk' (th.set h (wmi F S h mi' at2 on))).2.2.getD q 0).toInt ∧ ((wlk F S r (wmi F S h mi' at2 on + tks F S h) (F 2 h) (F 3 h) pp' bk' (th.set h (wmi F S h mi' at2 on))).2.2.getD q 0).toInt ≤ mi.toInt + 250 * ((r.length + 1 : Nat) : Int) := by
      intro mi' at2 pp' bk' m1 m2 ha2
      have hw := wmi_rg hV hS hh (mi := mi') (on := on) ha2 (by omega) (by omega)
      have e1 : (wmi F S h mi' at2 on + tks F S h).toInt = (wmi F S h mi' at2 on).toInt + (tks F S h).toInt := add_i (by omega) (by omega)
      have hz := ih (wmi F S h mi' at2 on + tks F S h) (F 2 h) (F 3 h) pp' bk' (th.set h (wmi F S h mi' at2 on)) hr' (by rw [List.length_set]; exact hl) (hV h hh).2.2.1 (by rw [e1]; omega) (by rw [e1]; omega)
      rw [e1] at hz
      refine ⟨by omega, by omega, fun q hq => ?_⟩
      by_cases qr : q ∈ r
      · have := hz.2.2 q qr; omega
      · rcases List.mem_cons.mp hq with rfl | q2
        · rw [wlk_out _ _ _ _ _ _ _ _ qr, set_D (by omega)]; omega
        · exact absurd q2 qr
    cases pp with
    | zero =>
      obtain ⟨f1, f2⟩ := far_rg ha hS.2.1 hS.2.2.2.1
      have e1 : (mi + far32 at' (S 1) (S 3)).toInt = mi.toInt + (far32 at' (S 1) (S 3)).toInt := add_i (by omega) (by omega)
      rw [wlk]
      exact step _ _ _ _ (by rw [e1]; omega) (by rw [e1]; omega) hS.2.1
    | succ pp =>
      rw [wlk]
      exact step _ _ _ _ (by omega) (by omega) ha
/-- a round's end, and who gets its paper when -/
theorem rd0_rg {F : Nat → Nat → Int32} {S : Nat → Int32} (hV : VF F) (hS : VS S) {os : List Nat} (hr : ∀ h ∈ os, h < 7) (hl : os.length ≤ 7) : 0 ≤ (rd0 F S os).1.toInt ∧ (rd0 F S os).1.toInt ≤ 2749 ∧ ∀ q ∈ os, (S 2).toInt ≤ ((rd0 F S os).2.2.getD q 0).toInt ∧ ((rd0 F S os).2.2.getD q 0).toInt ≤ (S 2).toInt + 1750 := by
  obtain ⟨b1, b2⟩ := hS.2.2.1
  have hz := wlk_rg hV hS os (S 2) (S 1) 0 (tpk F S os 0 0) 0 (List.replicate 7 0) hr (by simp) hS.2.1 (by omega) (by omega)
  refine ⟨by have := hz.1; unfold rd0 wlk0; omega, by have := hz.2.1; unfold rd0 wlk0; omega, fun q hq => ?_⟩
  have := hz.2.2 q hq
  unfold rd0 wlk0
  omega
/-- all but BEGIN is the same -/
def Sb (S S' : Nat → Int32) : Prop := ∀ i, i ≠ 2 → S' i = S i
theorem Sb.thk {F : Nat → Nat → Int32} {S S' : Nat → Int32} (h : Sb S S') (k : Nat) : thk F S' k = thk F S k := h _ (by omega)
theorem tks_u (F : Nat → Nat → Int32) (S : Nat → Int32) (k : Nat) : tks F S k = if F 0 k = 1 then 1 + F 1 k else if F 0 k = 2 then dogT (F 1 k) else if F 0 k = 3 then 1 + F 1 k + thk F S k else if F 0 k = 4 then 2 * dogT (F 1 k) else if F 0 k = 5 then 1 + F 1 k + b2i (0 < S 5) else 1 := rfl
theorem Sb.tks {F : Nat → Nat → Int32} {S S' : Nat → Int32} (h : Sb S S') (k : Nat) : tks F S' k = tks F S k := by
  simp only [tks_u]
  rw [h.thk, h 5 (by decide)]
theorem wlk_sh {F : Nat → Nat → Int32} {S S' : Nat → Int32} (h : Sb S S') (dl : Int32) : ∀ (r : List Nat) (mi at' on : Int32) (pp : Nat) (bk : Int32) (th th' : List Int32), th.length = 7 → th'.length = 7 → (∀ x ∈ r, x < 7) →
    (wlk F S' r (mi + dl) at' on pp bk th').1 = (wlk F S r mi at' on pp bk th).1 + dl ∧ ∀ q ∈ r, (wlk F S' r (mi + dl) at' on pp bk th').2.2.getD q 0 = (wlk F S r mi at' on pp bk th).2.2.getD q 0 + dl := by
  have hw : ∀ (k : Nat) (mi at' on : Int32), wmi F S' k (mi + dl) at' on = wmi F S k mi at' on + dl := by
    intro k mi at' on
    unfold wmi
    rw [h 3 (by decide), h 4 (by decide), Int32.add_assoc, Int32.add_comm dl, ← Int32.add_assoc]
  have ht : ∀ r t n, tpk F S' r t n = tpk F S r t n := fun r t n => tpk_congr (fun k => h.thk k) (h 0 (by decide)) r t n
  intro r
  induction r with
  | nil => intro mi at' on pp bk th th' _ _ _; cases pp <;> exact ⟨rfl, fun q hq => by simp at hq⟩
  | cons k r ih =>
    intro mi at' on pp bk th th' hl hl' hr
    have hk := hr k List.mem_cons_self
    have hr' : ∀ x ∈ r, x < 7 := fun x q => hr x (List.mem_cons_of_mem _ q)
    have hcom : ∀ x y : Int32, x + dl + y = x + y + dl := fun x y => by rw [Int32.add_assoc, Int32.add_comm dl, ← Int32.add_assoc]
    cases pp with
    | zero =>
      rw [wlk, wlk, h 1 (by decide), h 3 (by decide), h.tks, hcom, hw, hcom, ht]
      have hz := ih (wmi F S k (mi + far32 at' (S 1) (S 3)) (S 1) on + tks F S k) (F 2 k) (F 3 k) (tpk F S (k :: r) 0 0 - 1) (bk + 1) (th.set k (wmi F S k (mi + far32 at' (S 1) (S 3)) (S 1) on)) (th'.set k (wmi F S k (mi + far32 at' (S 1) (S 3)) (S 1) on + dl)) (by rw [List.length_set]; exact hl) (by rw [List.length_set]; exact hl') hr'
      refine ⟨hz.1, fun q hq => ?_⟩
      by_cases qr : q ∈ r
      · exact hz.2 q qr
      · rcases List.mem_cons.mp hq with rfl | q2
        · rw [wlk_out _ _ _ _ _ _ _ _ qr, wlk_out _ _ _ _ _ _ _ _ qr, set_D (by omega), set_D (by omega)]
        · exact absurd q2 qr
    | succ pp =>
      rw [wlk, wlk, h.tks, hw, hcom]
      have hz := ih (wmi F S k mi at' on + tks F S k) (F 2 k) (F 3 k) pp bk (th.set k (wmi F S k mi at' on)) (th'.set k (wmi F S k mi at' on + dl)) (by rw [List.length_set]; exact hl) (by rw [List.length_set]; exact hl') hr'
      refine ⟨hz.1, fun q hq => ?_⟩
      by_cases qr : q ∈ r
      · exact hz.2 q qr
      · rcases List.mem_cons.mp hq with rfl | q2
        · rw [wlk_out _ _ _ _ _ _ _ _ qr, wlk_out _ _ _ _ _ _ _ _ qr, set_D (by omega), set_D (by omega)]
        · exact absurd q2 qr
/-- by another beginning all is so much later -/
theorem rd0_sh {F : Nat → Nat → Int32} {S S' : Nat → Int32} (h : Sb S S') {os : List Nat} (hr : ∀ x ∈ os, x < 7) : ∀ q ∈ os, (rd0 F S' os).2.2.getD q 0 = (rd0 F S os).2.2.getD q 0 + (S' 2 - S 2) := by
  have e : S' 2 = S 2 + (S' 2 - S 2) := by rw [Int32.add_comm, Int32.sub_add_cancel]
  have ht : tpk F S' os 0 0 = tpk F S os 0 0 := tpk_congr (fun k => h.thk k) (h 0 (by decide)) os 0 0
  have hz := wlk_sh (F := F) h (S' 2 - S 2) os (S 2) (S 1) 0 (tpk F S os 0 0) 0 (List.replicate 7 0) (List.replicate 7 0) (by simp) (by simp) hr
  rw [← e] at hz
  intro q hq
  unfold rd0 wlk0
  rw [ht, h 1 (by decide)]
  exact hz.2 q hq
