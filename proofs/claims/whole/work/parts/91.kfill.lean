/-! ===== the class's search: fillGifts ===== -/
def EqF (t : Nat) (σ' σ : KS) : Prop := EqK [33, 44, 45, 201 + 3 * t] [] σ' σ ∧ (σ'.1 33).length = (σ.1 33).length ∧ (σ'.1 44).length = (σ.1 44).length ∧ (σ'.1 45).length = (σ.1 45).length ∧ (σ'.1 (201 + 3 * t)).length = (σ.1 (201 + 3 * t)).length
theorem EqF.rf {t : Nat} {σ : KS} : EqF t σ σ := ⟨EqK.rf, rfl, rfl, rfl, rfl⟩
theorem EqF.tr {t : Nat} {x y z : KS} (h : EqF t x y) (k : EqF t y z) : EqF t x z := ⟨h.1.tr k.1, h.2.1.trans k.2.1, h.2.2.1.trans k.2.2.1, h.2.2.2.1.trans k.2.2.2.1, h.2.2.2.2.trans k.2.2.2.2⟩
theorem EqS.f {t : Nat} {x y : KS} (h : EqS t x y) : EqF t x y := ⟨h.1.wd (by simp) (by simp), by rw [h.1.1 33 (by simp; omega)], by rw [h.1.1 44 (by simp; omega)], by rw [h.1.1 45 (by simp; omega)], h.2⟩
theorem EqF.row {t k : Nat} {σ : KS} {l : List Int32} (hk : k = 33 ∨ k = 44 ∨ k = 45) (hl : l.length = (σ.1 k).length) : EqF t (ksR σ k l) σ := by
  have e : ∀ j, ((ksR σ k l).1 j).length = (σ.1 j).length := fun j => by
    show (if j = k then l else σ.1 j).length = _
    by_cases q : j = k
    · rw [if_pos q, q]; exact hl
    · rw [if_neg q]
  refine ⟨EqK.rf.sR ?_, e _, e _, e _, e _⟩
  rcases hk with rfl | rfl | rfl <;> simp
section KFILL
variable {g : Gl} {a m tx n t : Nat} {ρ : MS} {cd : Nat → List Int32} {Lf : Nat → Nat}
theorem KTie.f {σ σ' : KS} (h : KTie ρ n t tx cd Lf m σ) (e : EqF t σ' σ) (ht : t < tx) : KTie ρ n t tx cd Lf m σ' := by
  obtain ⟨⟨r, i, d⟩, l33, l44, l45, lS⟩ := e
  have hB0 := h.bs
  obtain ⟨x1, x2, x3, x4, x5, x6, x7, x8⟩ := h.t8
  have er : ∀ k, k ≠ 33 → k ≠ 44 → k ≠ 45 → k ≠ 201 + 3 * t → σ'.1 k = σ.1 k := fun k h1 h2 h3 h4 => r k (by simp [h1, h2, h3, h4])
  have ei : ∀ o k, kI σ' o k = kI σ o k := fun o k => i o (by simp) k
  have eD : kD σ' = kD σ := by show σ'.2.2.1 = _; rw [d]
  refine KT8.tie ⟨fun q hq => ?_, by rw [er 3 (by decide) (by decide) (by decide) (by omega)]; exact x2, ⟨x3.1, (ei _ _).trans x3.2.1, fun x hx => ?_⟩, fun j hj => ?_, ⟨(ei _ _).trans x5.1, fun j c hj hc => ?_⟩, ⟨(ei _ _).trans x6.1, (ei _ _).trans x6.2.1, fun q hq => ?_⟩, fun s hs => ?_, ?_⟩ ?_
  · have hb : ∀ q ∈ kLen, q.1 < 57 := by decide
    have := hb q hq
    by_cases q1 : q.1 = 33
    · rw [q1, l33, ← q1]; exact x1 q hq
    by_cases q2 : q.1 = 44
    · rw [q2, l44, ← q2]; exact x1 q hq
    by_cases q3 : q.1 = 45
    · rw [q3, l45, ← q3]; exact x1 q hq
    rw [er _ q1 q2 q3 (by omega)]; exact x1 q hq
  · obtain ⟨w1, w2, w3⟩ := x3.2.2 x hx
    exact ⟨by rw [eD]; exact w1, (ei _ _).trans w2, fun k hk => (ei _ _).trans (w3 k hk)⟩
  · rw [er 2 (by decide) (by decide) (by decide) (by omega)]; exact x4 j hj
  · rw [er 5 (by decide) (by decide) (by decide) (by omega)]; exact x5.2 j c hj hc
  · obtain ⟨w1, w2, w3, w4, w5⟩ := x6.2.2 q hq
    refine ⟨by rw [er _ (by omega) (by omega) (by omega) (by omega)]; exact w1, (ei _ _).trans w2, (ei _ _).trans w3, ?_, w5⟩
    by_cases e : q = t
    · subst e; rw [lS]; exact w4
    · rw [er _ (by omega) (by omega) (by omega) (by omega)]; exact w4
  · obtain ⟨w1, w2, w3⟩ := x7 s hs
    exact ⟨(ei _ _).trans w1, (ei _ _).trans w2, fun j hj => by rw [er _ (by omega) (by omega) (by omega) (by omega)]; exact w3 j hj⟩
  · unfold KKp
    rw [ei, ei, er 46 (by decide) (by decide) (by decide) (by omega), er 47 (by decide) (by decide) (by decide) (by omega), er 48 (by decide) (by decide) (by decide) (by omega)]
    exact x8
  · intro so hso
    rw [ei, ei, ei, er _ (by omega) (by omega) (by omega) (by omega)]
    exact hB0 so hso
/-- gifts and hopes of the houses below h, and of h from minute l on -/
def GF (ρ : MS) (t : Nat) (cd : Nat → List Int32) (h l : Nat) (σ : KS) : Prop := ∀ x y, y ≤ 107 → (x < h ∨ (x = h ∧ l ≤ y)) → (σ.1 44).getD (108 * x + y) 0 = gfT (Fc ρ) (Se ρ) (cdt t cd) x y ∧ (σ.1 45).getD (108 * x + y) 0 = hpT (Fc ρ) (Se ρ) (cdt t cd) x y
def GW (ρ : MS) (t : Nat) (cd : Nat → List Int32) (h : Nat) (σ : KS) : Prop := ∀ x, x < h → (σ.1 33)[x]? = some (byv (Fc ρ) (Se ρ) (cdt t cd) x)
end KFILL
