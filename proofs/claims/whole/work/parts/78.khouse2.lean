/-! ===== the class: house, continued ===== -/
abbrev HsC (k w p : Int32) : Prop := (0 ≤ k ∧ k ≤ 5) ∧ (0 ≤ w ∧ w ≤ 99) ∧ w - w / 10 * 10 ≤ 3 ∧ (0 ≤ p ∧ p ≤ 999) ∧ p - p / 10 * 10 ≤ 1
def nfc (k w p : Int32) : Nat → Int32 := fun q => if q = 0 then k else if q = 1 then w / 10 else if q = 2 then p / 10 else if q = 3 then p - p / 10 * 10 else w - w / 10 * 10
def hsR (ρ : MS) (n : Nat) (k w p : Int32) : MS := setI (setA (setA (setA (setA (setA (setA ρ 0 ((ρ.1 0).set n k)) 1 ((ρ.1 1).set n (w / 10))) 4 ((ρ.1 4).set n (w - w / 10 * 10))) 2 ((ρ.1 2).set n (p / 10))) 3 ((ρ.1 3).set n (p - p / 10 * 10))) 5 ((ρ.1 5).set n (nI n))) 7 (nI (n + 1))
theorem opHouse_eq {ρ : MS} {n : Nat} {k w p : Int32} : opHouse ρ n k w p = (if HsC k w p then (if n = 7 then (-4, ρ) else (nI n, hsR ρ n k w p)) else (-2, ρ)) := rfl
theorem rem_g (x : Int32) (h0 : 0 ≤ x.toInt) : (x / 10).toInt = x.toInt / 10 ∧ (x - x / 10 * 10).toInt = x.toInt % 10 := by
  have hx := x.toInt_lt
  have h10 : (10 : Int32).toInt = 10 := by decide
  have e1 : (x / 10).toInt = x.toInt / 10 := by
    rw [Int32.toInt_div_of_ne_right x 10 (by decide), h10, Int.tdiv_eq_ediv_of_nonneg h0]
  have e2 : (x / 10 * 10).toInt = x.toInt / 10 * 10 := by rw [mul_i (by rw [e1, h10]; omega) (by rw [e1, h10]; omega), e1, h10]
  refine ⟨e1, ?_⟩
  rw [sub_i (by rw [e2]; omega) (by rw [e2]; omega), e2]
  omega
/-- HouseFacts: the class's own test -/
theorem isF_w {w' : Nat} {v M : Int32} (hw : w' < 4) (hM : mfs.getD w' 0 = M) : isF (nI w') v ↔ 0 ≤ v ∧ v ≤ M := by
  have e : (nI w').toInt.toNat = w' := by rw [nI_i (by omega)]; omega
  unfold isF
  rw [e, hM]
  constructor
  · exact fun q => q.2
  · refine fun q => ⟨⟨?_, ?_⟩, q⟩
    · rw [Int32.le_iff_toInt_le, nI_i (by omega), Int32.toInt_zero]; omega
    · have e4 : (4 : Int32).toInt = 4 := by decide
      rw [Int32.lt_iff_toInt_lt, nI_i (by omega), e4]; omega
theorem hsC_iff {k w p : Int32} (hk : 0 ≤ k ∧ k ≤ 5) (hw : 0 ≤ w) (hp : 0 ≤ p) : HsC k w p ↔ isF 0 (w / 10) ∧ isF 3 (w - w / 10 * 10) ∧ isF 1 (p / 10) ∧ isF 2 (p - p / 10 * 10) := by
  have i0 : isF 0 (w / 10) ↔ 0 ≤ w / 10 ∧ w / 10 ≤ 9 := isF_w (w' := 0) (by decide) rfl
  have i3 : isF 3 (w - w / 10 * 10) ↔ 0 ≤ w - w / 10 * 10 ∧ w - w / 10 * 10 ≤ 3 := isF_w (w' := 3) (by decide) rfl
  have i1 : isF 1 (p / 10) ↔ 0 ≤ p / 10 ∧ p / 10 ≤ 99 := isF_w (w' := 1) (by decide) rfl
  have i2 : isF 2 (p - p / 10 * 10) ↔ 0 ≤ p - p / 10 * 10 ∧ p - p / 10 * 10 ≤ 1 := isF_w (w' := 2) (by decide) rfl
  rw [i0, i1, i2, i3]
  unfold HsC
  have hw' := hw; have hp' := hp
  rw [Int32.le_iff_toInt_le, Int32.toInt_zero] at hw' hp'
  obtain ⟨w1, w2⟩ := rem_g w hw'
  obtain ⟨p1, p2⟩ := rem_g p hp'
  have c9 : (9 : Int32).toInt = 9 := by decide
  have c3 : (3 : Int32).toInt = 3 := by decide
  have c1 : (1 : Int32).toInt = 1 := by decide
  have c99 : (99 : Int32).toInt = 99 := by decide
  have c999 : (999 : Int32).toInt = 999 := by decide
  simp only [Int32.le_iff_toInt_le, Int32.toInt_zero, w1, w2, p1, p2, c9, c3, c1, c99, c999] at *
  omega
section HSR
variable {ρ : MS} {n : Nat} {k w p : Int32}
theorem hsR_r {j : Nat} (h : 6 ≤ j) : (hsR ρ n k w p).1 j = ρ.1 j := by
  show (if j = 5 then _ else if j = 3 then _ else if j = 2 then _ else if j = 4 then _ else if j = 1 then _ else if j = 0 then _ else ρ.1 j) = ρ.1 j
  rw [if_neg (by omega), if_neg (by omega), if_neg (by omega), if_neg (by omega), if_neg (by omega), if_neg (by omega)]
theorem hsR_i {j : Nat} (h : j ≠ 7) : (hsR ρ n k w p).2 j = ρ.2 j := if_neg h
theorem hsR_7 : (hsR ρ n k w p).2 7 = nI (n + 1) := rfl
theorem hsR_5 : (hsR ρ n k w p).1 5 = (ρ.1 5).set n (nI n) := rfl
theorem setD_if {l : List Int32} {i j : Nat} {v : Int32} (h : i < l.length) : (l.set i v).getD j 0 = if j = i then v else l.getD j 0 := by
  by_cases e : j = i
  · subst e; rw [if_pos rfl, setD_eq h]
  · rw [if_neg e, setD_ne e]
theorem hsR_f (hC : CLn ρ) (hn : n < 7) {q x : Nat} (hq : q < 5) : Fc (hsR ρ n k w p) q x = if x = n then nfc k w p q else Fc ρ q x := by
  have e : q = 0 ∨ q = 1 ∨ q = 2 ∨ q = 3 ∨ q = 4 := by omega
  have l0 : (ρ.1 0).length = 7 := hC (0, 7) (by decide) (by decide)
  have l1 : (ρ.1 1).length = 7 := hC (1, 7) (by decide) (by decide)
  have l2 : (ρ.1 2).length = 7 := hC (2, 7) (by decide) (by decide)
  have l3 : (ρ.1 3).length = 7 := hC (3, 7) (by decide) (by decide)
  have l4 : (ρ.1 4).length = 7 := hC (4, 7) (by decide) (by decide)
  rcases e with rfl | rfl | rfl | rfl | rfl
  · show ((ρ.1 0).set n k).getD x 0 = _
    rw [setD_if (by omega)]; rfl
  · show ((ρ.1 1).set n (w / 10)).getD x 0 = _
    rw [setD_if (by omega)]; rfl
  · show ((ρ.1 2).set n (p / 10)).getD x 0 = _
    rw [setD_if (by omega)]; rfl
  · show ((ρ.1 3).set n (p - p / 10 * 10)).getD x 0 = _
    rw [setD_if (by omega)]; rfl
  · show ((ρ.1 4).set n (w - w / 10 * 10)).getD x 0 = _
    rw [setD_if (by omega)]; rfl
theorem hsR_im (hC : CLn ρ) (hn : n < 7) (hH : HsC k w p) {t tx : Nat} {cd : Nat → List Int32} {Lf : Nat → Nat} (hI : IM ρ n t tx cd Lf) : IM (hsR ρ n k w p) (n + 1) t tx cd (fun i => if i = n then n else Lf i) := by
  obtain ⟨h1, h2, h3, h4, h5, h6, h7, h8⟩ := hI
  have l5 : (ρ.1 5).length = 7 := hC (5, 7) (by decide) (by decide)
  refine ⟨fun x hx => ?_, ?_, ⟨hsR_7, hn⟩, by rw [hsR_i (by decide)]; exact h4, by rw [hsR_i (by decide)]; exact h5, fun r hr => ⟨?_, (h6 r hr).2⟩, fun i hi => ?_, fun x hx => ?_⟩
  · rw [hsR_f hC hn (by decide), hsR_f hC hn (by decide), hsR_f hC hn (by decide), hsR_f hC hn (by decide), hsR_f hC hn (by decide)]
    by_cases e : x = n
    · rw [if_pos e, if_pos e, if_pos e, if_pos e, if_pos e]
      obtain ⟨⟨k0, k5⟩, ⟨w0, w9⟩, w3, ⟨p0, p9⟩, p1⟩ := hH
      have hw' := w0; have hp' := p0
      rw [Int32.le_iff_toInt_le, Int32.toInt_zero] at hw' hp'
      obtain ⟨a1, a2⟩ := rem_g w hw'
      obtain ⟨b1, b2⟩ := rem_g p hp'
      have c5 : (5 : Int32).toInt = 5 := by decide
      have c3 : (3 : Int32).toInt = 3 := by decide
      have c1 : (1 : Int32).toInt = 1 := by decide
      have c99 : (99 : Int32).toInt = 99 := by decide
      have c999 : (999 : Int32).toInt = 999 := by decide
      rw [Int32.le_iff_toInt_le] at k0 k5 w9 w3 p9 p1
      rw [Int32.toInt_zero] at k0
      rw [c5] at k5
      rw [c99] at w9
      rw [a2, c3] at w3
      rw [c999] at p9
      rw [b2, c1] at p1
      refine ⟨⟨k0, k5⟩, ?_, ?_, ?_, ?_⟩
      · show rg (w / 10) 0 9; unfold rg; rw [a1]; omega
      · show rg (p / 10) 0 99; unfold rg; rw [b1]; omega
      · show rg (p - p / 10 * 10) 0 1; unfold rg; rw [b2]; omega
      · show rg (w - w / 10 * 10) 0 3; unfold rg; rw [a2]; omega
    · rw [if_neg e, if_neg e, if_neg e, if_neg e, if_neg e]; exact h1 x hx
  · have : Se (hsR ρ n k w p) = Se ρ := by funext j; show ((hsR ρ n k w p).1 6).getD j 0 = _; rw [hsR_r (by decide)]
    rw [this]; exact h2
  · have := (h6 r hr).1
    unfold RC at this ⊢
    rw [hsR_r (by decide), hsR_r (by decide)]; exact this
  · rw [hsR_5, List.getElem?_set]
    by_cases e : n = i
    · rw [if_pos e, if_pos (by omega), ← e]
      show _ = some (nI (if n = n then n else Lf n)) ∧ (if n = n then n else Lf n) < n + 1
      rw [if_pos rfl]; exact ⟨rfl, Nat.lt_succ_self _⟩
    · rw [if_neg e]
      obtain ⟨z1, z2⟩ := h7 i (by omega)
      show _ = some (nI (if i = n then n else Lf i)) ∧ (if i = n then n else Lf i) < n + 1
      rw [if_neg (Ne.symm e)]; exact ⟨z1, by omega⟩
  · by_cases e : x = n
    · exact ⟨n, Nat.lt_succ_self _, by show (if n = n then n else Lf n) = x; rw [if_pos rfl, e]⟩
    · obtain ⟨i, hi, ei⟩ := h8 x (by omega)
      exact ⟨i, by omega, by show (if i = n then n else Lf i) = x; rw [if_neg (by omega)]; exact ei⟩
end HSR
