/-! ===== the class's search: hopes ===== -/
section KHOPE
variable {F : Nat → Nat → Int32} {S : Nat → Int32} {W Hp : Nat → Int32 → Int32} {so : Int32}
theorem neg_i {x : Int32} (h0 : 0 ≤ x.toInt) : (0 - x).toInt = - x.toInt := by
  have hx := x.toInt_lt
  rw [sub_i (by rw [Int32.toInt_zero]; omega) (by rw [Int32.toInt_zero]; omega), Int32.toInt_zero]; omega
theorem hpK_i (hV : VF F) (hS : VS S) (hW : WHp W Hp) {av : List Nat} (ha : ∀ h ∈ av, h < 7) (hl : av.length ≤ 7) {z : W6} {p : Int32} (hz : WkO z) (hz1 : z.1.toInt ≤ 90000) (hp : 0 ≤ p.toInt ∧ p.toInt ≤ 90000) : (hpK F S Hp so av z p).toInt = if so = 0 then - (z.1.toInt + (av.map (fun h => (tks F S h).toInt)).sum) else p.toInt + (av.map (fun h => (Hp h z.1).toInt)).sum := by
  have z0 := hz.1
  unfold hpK
  split
  · have hb : ∀ h ∈ av, 0 ≤ (tks F S h).toInt ∧ (tks F S h).toInt ≤ 19 := fun h hh => by
      obtain ⟨t1, t2⟩ := tks_rg hV hS (ha h hh)
      exact ⟨by omega, t2⟩
    have e := smK_i (f := tks F S) (B := 19) (by omega) av z.1 hb z0 (by omega)
    have sb := sum_bd (f := fun h => (tks F S h).toInt) (B := 19) av hb
    rw [neg_i (by rw [e]; omega), e]
  · have hb : ∀ h ∈ av, 0 ≤ (Hp h z.1).toInt ∧ (Hp h z.1).toInt ≤ 1000 := fun h hh => by
      obtain ⟨-, -, q3, q4⟩ := (hW h (ha h hh)).1 z.1
      exact ⟨q3, q4⟩
    exact smK_i (f := fun h => Hp h z.1) (B := 1000) (by omega) av p hb hp.1 (by omega)
theorem hope_ub (hV : VF F) (hS : VS S) (hW : WHp W Hp) : ∀ (m : Nat) (av r : List Nat) (z : W6) (p : Int32), av.length = m → r ∈ pmK m av → (∀ h ∈ av, h < 7) → m ≤ 7 → WkO z → z.1.toInt + 250 * m ≤ 90000 → 0 ≤ p.toInt → p.toInt + 1000 * m ≤ 90000 → (vlK F S W so r z p).toInt ≤ (hpK F S Hp so av z p).toInt := by
  intro m
  induction m with
  | zero =>
    intro av r z p hl hr ha h7 hz h1 p0 p1
    have : av = [] := List.length_eq_zero_iff.mp hl
    subst this
    simp [pmK] at hr
    subst hr
    exact Int.le_refl _
  | succ m ih =>
    intro av r z p hl hr ha h7 hz h1 p0 p1
    rw [pmK, List.mem_flatMap] at hr
    obtain ⟨h, hh, hr⟩ := hr
    obtain ⟨r', hr', rfl⟩ := List.mem_map.mp hr
    have hh7 := ha h hh
    obtain ⟨q1, q2, q3, q4⟩ := stW_ok hV hS hh7 hz (by omega)
    obtain ⟨t1, t2⟩ := tks_rg hV hS hh7
    obtain ⟨w1, w2⟩ := hW h hh7
    obtain ⟨wa, wb, wc, wd⟩ := w1 (stW F S z h).2
    have hz0 := hz.1
    have ep : (p + W h (stW F S z h).2).toInt = p.toInt + (W h (stW F S z h).2).toInt := add_i (by omega) (by omega)
    have he : ∀ x ∈ av.erase h, x < 7 := fun x hx => ha x (List.mem_of_mem_erase hx)
    have hel : (av.erase h).length = m := by rw [List.length_erase_of_mem hh, hl]; rfl
    have b1 : (stW F S z h).1.1.toInt + 250 * m ≤ 90000 := by omega
    have i1 := ih (av.erase h) r' (stW F S z h).1 (p + W h (stW F S z h).2) hel hr' he (by omega) q1 b1 (by omega) (by omega)
    rw [vlK]
    refine Int.le_trans i1 ?_
    rw [hpK_i hV hS hW he (by omega) q1 (by omega) ⟨by omega, by omega⟩, hpK_i hV hS hW ha (by omega) hz (by omega) ⟨p0, by omega⟩]
    split
    · have := sum_erase (f := fun x => (tks F S x).toInt) av hh
      rw [this]; omega
    · have e1 := sum_erase (f := fun x => (Hp x z.1).toInt) av hh
      have e2 := sum_le (f := fun x => (Hp x (stW F S z h).1.1).toInt) (f' := fun x => (Hp x z.1).toInt) (av.erase h) (fun x hx => ((hW x (he x hx)).2 z.1 (stW F S z h).1.1 hz0 (by omega) (by omega)).2)
      have e3 := (w2 z.1 (stW F S z h).2 hz0 q2 (by omega)).1
      rw [e1, ep]; omega
end KHOPE
