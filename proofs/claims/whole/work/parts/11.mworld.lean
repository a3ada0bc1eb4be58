/-! ===== the reference's world: one object and its rows ===== -/
section KCALL
variable {g : Gl} {d d' : Nat} {Y : Md} {pc : Nat} {ls : List (Option Value)} {st : List Value} {μ : Mm} {Q : Option Value → Mm → Prop}
theorem k_s {Yc : Md} {idx n : Nat} {av stk : List Value} {Qc : Option Value → Mm → Prop} (hM : Mt g d' Yc av μ Qc) (hdd : d' ≤ d) (hd : decode (mC Y) pc = .ok (.invokestatic idx, 3)) (hb : CB Yc n) (hl : Cond.methodLink (mY Y).cls idx (mY Yc) ∈ GT) (hs : Cond.static (mY Yc) ∈ GT) (hst : stk = av.reverse ++ st) (hn : av.length = n) (hc : (st.map fun v => v.category).sum ≤ 8) (kk : ∀ v μ1, Qc v μ1 → Ev g (d + 1) Y (pc + 3) ls (v.toList ++ st) μ1 Q) : Ev g (d + 1) Y pc ls stk μ Q := ev_calls hd hb hl hs hst hn hc (hM.mono hdd) kk
theorem k_v {Yc : Md} {idx n b ci : Nat} {fs av stk : List Value} {C : String} {T : u_T} {N : Nat} {Qc : Option Value → Mm → Prop} (hM : Mt g d' Yc (.ref b :: av) μ Qc) (hdd : d' ≤ d) (hd : decode (mC Y) pc = .ok (.invokevirtual idx, 3)) (hb : CB Yc n) (hl : Cond.methodLink (mY Y).cls idx (mY Yc) ∈ GT) (hi : Cond.instanceMethod (mY Yc) ∈ GT) (hsel : Cond.selects C (mY Yc) (mY Yc) ∈ GT) (hcl : vwCl[ci]? = some (C, T, N)) (hm : μ.1 b = some (obj ci fs)) (hst : stk = av.reverse ++ .ref b :: st) (hn : av.length = n) (hc : (st.map fun v => v.category).sum ≤ 8) (kk : ∀ v μ1, Qc v μ1 → Ev g (d + 1) Y (pc + 3) ls (v.toList ++ st) μ1 Q) : Ev g (d + 1) Y pc ls stk μ Q := ev_callv hd hb hl hi hsel hcl hm hst hn hc (hM.mono hdd) kk
end KCALL
theorem Mt.of0 {g : Gl} {d : Nat} {Y : Md} {av : List Value} {ls0 : List (Option Value)} {μ : Mm} {Q : Option Value → Mm → Prop} (hy : plainName (mY Y).cls = true) (hav : ∀ v ∈ av, v.category = 1) (hn : av.length ≤ mN Y) (hl : av.map some ++ List.replicate (mN Y - av.length) none = ls0) (h : Ev g d Y 0 ls0 [] μ Q) : Mt g d Y av μ Q := Mt.of hy hav hn (by rw [hl]; exact h)
theorem mupd_eq {μ : Mm} {a : Nat} {e : MC} : (mupd μ a e).1 a = some e := by simp [mupd]
theorem mupd_ne {μ : Mm} {a c : Nat} {e : MC} (h : c ≠ a) : (mupd μ a e).1 c = μ.1 c := by simp [mupd, h]
/-- the reference's state: its rows of ints, its ints, both by the numbers of its fields -/
abbrev MS : Type := (Nat → List Int32) × (Nat → Int32)
def setA (ρ : MS) (k : Nat) (l : List Int32) : MS := (fun j => if j = k then l else ρ.1 j, ρ.2)
theorem setA_u (ρ : MS) (k : Nat) (l : List Int32) : setA ρ k l = (fun j => if j = k then l else ρ.1 j, ρ.2) := rfl
def setI (ρ : MS) (k : Nat) (v : Int32) : MS := (ρ.1, fun j => if j = k then v else ρ.2 j)
def mF (b : Nat) (ρ : MS) : List Value := [.ref (b + 1), .ref (b + 2), .ref (b + 3), .ref (b + 4), .ref (b + 5), .ref (b + 6), .ref (b + 7), .int (ρ.2 7), .int (ρ.2 8), .ref (b + 8), .ref (b + 21), .ref (b + 22), .ref (b + 23), .ref (b + 24), .ref (b + 25), .int (ρ.2 15), .int (ρ.2 16), .int (ρ.2 17), .int (ρ.2 18), .int (ρ.2 19), .int (ρ.2 20), .int (ρ.2 21), .int (ρ.2 22), .int (ρ.2 23), .ref (b + 26), .ref (b + 27), .int (ρ.2 26), .int (ρ.2 27), .ref (b + 28), .ref (b + 29), .int (ρ.2 30), .int (ρ.2 31), .int (ρ.2 32), .ref (b + 30), .ref (b + 31), .ref (b + 32), .ref (b + 33)]
/-- field, offset -/
def mA : List (Nat × Nat) := [(0, 1), (1, 2), (2, 3), (3, 4), (4, 5), (5, 6), (6, 7), (10, 21), (11, 22), (12, 23), (13, 24), (14, 25), (24, 26), (25, 27), (28, 28), (29, 29), (33, 30), (34, 31), (35, 32), (36, 33)]
def mI : List Nat := [7, 8, 15, 16, 17, 18, 19, 20, 21, 22, 23, 26, 27, 30, 31, 32]
def mWd : List (List Int32) := [[112, 108, 97, 99, 101], [115, 105, 100, 101], [115, 111, 114, 116], [108, 97, 116, 101], [114, 97, 105, 110], [104, 111, 117, 115, 101], [98, 121], [114, 105, 110, 103, 115], [116, 105, 112, 115], [111, 114], [97, 110, 100], [110, 111, 116]]
def mWr (b : Nat) : List (Option Nat) := [some (b + 9), some (b + 10), some (b + 11), some (b + 12), some (b + 13), some (b + 14), some (b + 15), some (b + 16), some (b + 17), some (b + 18), some (b + 19), some (b + 20)]
def RM (b : Nat) (ρ : MS) (μ : Mm) : Prop := μ.1 b = some (obj 12 (mF b ρ)) ∧ (∀ q ∈ mA, μ.1 (b + q.2) = some (iar (ρ.1 q.1))) ∧ μ.1 (b + 8) = some (rar 5 (mWr b)) ∧ ∀ (i : Nat) (w : List Int32), mWd[i]? = some w → μ.1 (b + (9 + i)) = some (iar w)
theorem RM.a {b : Nat} {ρ : MS} {μ : Mm} (h : RM b ρ μ) (k o : Nat) (hq : (k, o) ∈ mA) : μ.1 (b + o) = some (iar (ρ.1 k)) := h.2.1 (k, o) hq
/-- nothing else has changed -/
def FM (b : Nat) (μ μ' : Mm) : Prop := μ'.2 = μ.2 ∧ ∀ q, q < b ∨ b + 34 ≤ q → μ'.1 q = μ.1 q
theorem FM.rf {b : Nat} {μ : Mm} : FM b μ μ := ⟨rfl, fun _ _ => rfl⟩
theorem FM.tr {b : Nat} {μ μ1 μ2 : Mm} (h : FM b μ μ1) (k : FM b μ1 μ2) : FM b μ μ2 := ⟨k.1.trans h.1, fun q hq => (k.2 q hq).trans (h.2 q hq)⟩
theorem mA_ok : ∀ p ∈ mA, ∀ q ∈ mA, ((p.1 = q.1 ↔ p.2 = q.2) ∧ 0 < p.2 ∧ p.2 ≠ 8 ∧ (p.2 < 9 ∨ 21 ≤ p.2) ∧ p.2 < 34) := by decide
theorem mWd_len {i : Nat} {w : List Int32} (h : mWd[i]? = some w) : i < 12 := (List.getElem?_eq_some_iff.mp h).1
theorem RM.setA {b : Nat} {ρ : MS} {μ : Mm} (h : RM b ρ μ) {k o : Nat} (hq : (k, o) ∈ mA) (l : List Int32) : RM b (setA ρ k l) (mupd μ (b + o) (iar l)) := by
  obtain ⟨h1, h2, h3, h4⟩ := h
  have ho := mA_ok (k, o) hq (k, o) hq
  dsimp only at ho
  refine ⟨?_, fun q hq' => ?_, ?_, fun i w hi => ?_⟩
  · rw [mupd_ne (by omega)]; exact h1
  · have hz := mA_ok (k, o) hq q hq'
    dsimp only at hz
    by_cases he : q.2 = o
    · have hk : q.1 = k := (hz.1.mpr he.symm).symm
      rw [he, mupd_eq]
      simp [setA_u, hk]
    · have hk : ¬ q.1 = k := fun e => he (hz.1.mp e.symm).symm
      rw [mupd_ne (by omega), h2 q hq']
      simp [setA_u, hk]
  · rw [mupd_ne (by omega)]; exact h3
  · have := mWd_len hi
    rw [mupd_ne (by omega)]; exact h4 i w hi
theorem mF_set {b : Nat} {ρ : MS} {v : Int32} : ∀ k ∈ mI, mF b (setI ρ k v) = (mF b ρ).set k (.int v) := by
  intro k hk
  simp only [mI, List.mem_cons, List.not_mem_nil, or_false] at hk
  rcases hk with rfl | rfl | rfl | rfl | rfl | rfl | rfl | rfl | rfl | rfl | rfl | rfl | rfl | rfl | rfl | rfl <;> rfl
theorem RM.setI {b : Nat} {ρ : MS} {μ : Mm} (h : RM b ρ μ) {k : Nat} (hk : k ∈ mI) (v : Int32) : RM b (setI ρ k v) (mupd μ b (obj 12 ((mF b ρ).set k (.int v)))) := by
  obtain ⟨h1, h2, h3, h4⟩ := h
  refine ⟨by rw [mupd_eq, mF_set k hk], fun q hq' => ?_, ?_, fun i w hi => ?_⟩
  · have hz := mA_ok q hq' q hq'
    rw [mupd_ne (by omega)]; exact h2 q hq'
  · rw [mupd_ne (by omega)]; exact h3
  · rw [mupd_ne (by omega)]; exact h4 i w hi
theorem FM.upd {b o : Nat} {μ μ1 : Mm} {e : MC} (h : FM b μ μ1) (ho : o < 34) : FM b μ (mupd μ1 (b + o) e) := ⟨h.1, fun q hq => by rw [mupd_ne (by omega)]; exact h.2 q hq⟩
theorem mI_lt : ∀ k ∈ mI, k < 37 := by decide
section EVM
variable {g : Gl} {d : Nat} {Y : Md} {pc : Nat} {ls : List (Option Value)} {st : List Value} {μ μ0 : Mm} {Q : Option Value → Mm → Prop} {b : Nat} {ρ : MS}
theorem evM_iast {k o j : Nat} {i x : Int32} (hM : RM b ρ μ) (hF : FM b μ0 μ) (hq : (k, o) ∈ mA) (hd : decode (mC Y) pc = .ok (.iastore, 1)) (hx : ix i j) (hj : j < (ρ.1 k).length) (kk : ∀ μ1, RM b (setA ρ k ((ρ.1 k).set j x)) μ1 → FM b μ0 μ1 → Ev g d Y (pc + 1) ls st μ1 Q) : Ev g d Y pc ls (.int x :: .int i :: .ref (b + o) :: st) μ Q :=
  ev_iast hd (hM.2.1 (k, o) hq) hx hj (kk _ (hM.setA hq _) (hF.upd (mA_ok _ hq _ hq).2.2.2.2))
theorem evM_put {k idx : Nat} {ty : FieldType} {v : Int32} (hM : RM b ρ μ) (hF : FM b μ0 μ) (hk : k ∈ mI) (hd : decode (mC Y) pc = .ok (.putfield idx, 3)) (hf : FP (mY Y).cls idx 12 k ty false) (hn : narrow ty (.int v) = .int v) (hfit : fits ty (.int v) = true) (kk : ∀ μ1, RM b (setI ρ k v) μ1 → FM b μ0 μ1 → Ev g d Y (pc + 3) ls st μ1 Q) : Ev g d Y pc ls (.int v :: .ref b :: st) μ Q :=
  ev_put hd hf hM.1 (mI_lt k hk) hn hfit (kk _ (hM.setI hk _) (hF.upd (o := 0) (by decide)))
end EVM
