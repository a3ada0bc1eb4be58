/-! ===== a row of deeds by levels: what is held, and how high the stack stands ===== -/
theorem ltP_ltP {a b : Int32} (h : a ≤ b) : ∀ (H C : List Int32) (o : Int32), ltP a (ltF b H C o) = ltF a H C o := by
  intro H
  induction H with
  | nil => intro C o; rfl
  | cons x H ih =>
    intro C o
    rw [ltF]
    split
    · rename_i q
      rw [ih, ltF, if_pos (Int32.le_trans h q)]
    · rfl
/-- alike for all that lets go of what binds no less than h -/
def Rd (h : Int32) (P' P : PS) : Prop := ∀ k, k ≤ h → ltP k P' = ltP k P
theorem Rd.rf {h : Int32} {P : PS} : Rd h P P := fun _ _ => rfl
theorem Rd.mono {h h' : Int32} {P' P : PS} (q : Rd h P' P) (hh : h' ≤ h) : Rd h' P' P := fun k hk => q k (Int32.le_trans hk hh)
theorem Rd.lt {h : Int32} {P' P : PS} (q : Rd h P' P) {a b : Int32} (ha : a ≤ h) (hab : a ≤ b) : ltP a (ltP b P') = ltP a P := (ltP_ltP hab P'.1 P'.2.1 P'.2.2).trans (q a ha)
theorem Rd.push {h x : Int32} {P' : PS} {H C : List Int32} {o : Int32} (q : Rd h P' (x :: H, C, o)) (hh : h ≤ hgt x) : Rd h P' (H, C ++ [30000 + x], if x = 8 ∨ x = 9 then o - 1 else o) := fun k hk => (q k hk).trans (by
  show ltF k (x :: H) C o = ltF k H _ _
  rw [ltF, if_pos (Int32.le_trans hk hh)])
/-- what is on top of what is held -/
def Tp (L H : List Int32) : Prop := H = [] ∨ tpH H ∈ L
theorem Tp.stop {L H : List Int32} (h : Tp L H) {a : Int32} (hL : ∀ x ∈ L, ¬ a ≤ hgt x) (C : List Int32) (o : Int32) : ltP a (H, C, o) = (H, C, o) := by
  cases H with
  | nil => rfl
  | cons x H =>
    have hx : x ∈ L := h.elim (fun q => by cases q) id
    show ltF a (x :: H) C o = _
    rw [ltF, if_neg (hL x hx)]
theorem Tp.sub {L L' H : List Int32} (h : Tp L H) (hs : ∀ x ∈ L, x ∈ L') : Tp L' H := h.elim Or.inl (fun q => Or.inr (hs _ q))
theorem Tp.cons {L H : List Int32} {x : Int32} (hx : x ∈ L) : Tp L (x :: H) := Or.inr hx
theorem rw_fail {s : List Int32} {P : PS} (h : (bhd (tkK s) P).1 < 0) : (rowR false s P).1 = false ∧ (rowR false s P).2.1 = s := by
  have e : (stT false s P).1 < 0 := h
  rw [rowR_eq, if_pos e]
  exact ⟨rfl, rfl⟩
theorem rw_failT {s : List Int32} {P : PS} (h : (ahd (tkK s) (tkV s) P).1 < 0) : (rowR true s P).1 = false ∧ (rowR true s P).2.1 = s := by
  have e : (stT true s P).1 < 0 := h
  rw [rowR_eq, if_pos e]
  exact ⟨rfl, rfl⟩
theorem rw_go {w : Bool} {s : List Int32} {P P' : PS} {x : Int32} (e : stT w s P = (x, P')) (h1 : ¬ x < 0) (h2 : ¬ (w = false ∧ x = 2)) : rowR w s P = rowR (wNx w x) (nxT s) P' := by
  rw [rowR_eq, e, if_neg h1, if_neg h2]
theorem rw_op {s : List Int32} {P' : PS} {H C L : List Int32} {o d h : Int32} (hd : bhD (tkK s) = d) (h0 : ¬ d = 0) (h45 : ¬ (d = 4 ∨ d = 5)) (hr : Rd h P' (H, C, o)) (hh : hgt d = h) (h7 : h ≤ 7) (hT : Tp L H) (hL : ∀ x ∈ L, ¬ h ≤ hgt x) : rowR false s P' = rowR true (nxT s) (d :: H, C, o) := by
  have e : stT false s P' = (1, (d :: H, C, o)) := by
    show bhd (tkK s) P' = _
    rw [bhd, hd, if_pos h0, if_neg h45, hh, hr.lt (Int32.le_refl _) h7, hT.stop hL]
    rfl
  rw [rw_go e (by decide) (fun q => absurd q.2 (by decide))]
  rfl
theorem rw_cmp {s : List Int32} {P' : PS} {H C : List Int32} {o d : Int32} (hd : bhD (tkK s) = d) (h45 : d = 4 ∨ d = 5) (hr : Rd 5 P' (H, C, o)) (hT : Tp [10, 7, 6, 8] H) : rowR false s P' = rowR true (nxT s) (d :: H, C, o) := by
  have hq : ltP 5 (ltP 7 P') = (H, C, o) := by rw [hr.lt (Int32.le_refl _) (by decide), hT.stop (by decide)]
  have ht : ¬ (tpH H = 4 ∨ tpH H = 5) := by
    rcases hT with rfl | hT
    · decide
    · revert hT
      generalize tpH H = x
      revert x
      have k : ∀ x ∈ ([10, 7, 6, 8] : List Int32), ¬ (x = 4 ∨ x = 5) := by decide
      exact k
  have h0 : ¬ d = 0 := by rcases h45 with rfl | rfl <;> decide
  have e : stT false s P' = (1, (d :: H, C, o)) := by
    show bhd (tkK s) P' = _
    rw [bhd, hd, if_pos h0, if_pos h45, hq, if_neg ht]
    rfl
  rw [rw_go e (by decide) (fun q => absurd q.2 (by decide))]
  rfl
theorem bh_cmpF {k : Int32} {P' : PS} {H C : List Int32} {o d : Int32} (hk : k = 60 ∨ k = 61) (hd : d = 4 ∨ d = 5) (hr : Rd 5 P' (d :: H, C, o)) : (bhd k P').1 < 0 := by
  have hq : ltP 5 (ltP 7 P') = (d :: H, C, o) := by
    rw [hr.lt (Int32.le_refl _) (by decide)]
    show ltF 5 (d :: H) C o = _
    rw [ltF, if_neg (by rcases hd with rfl | rfl <;> decide)]
  have h45 : bhD k = 4 ∨ bhD k = 5 := by rcases hk with rfl | rfl <;> decide
  have h0 : ¬ bhD k = 0 := by rcases hk with rfl | rfl <;> decide
  rw [bhd, if_pos h0, if_pos h45, hq, if_pos (show tpH (d :: H) = 4 ∨ tpH (d :: H) = 5 from hd)]
  exact (by decide : (-1 : Int32) < 0)
theorem rw_num {s : List Int32} {H C : List Int32} {o : Int32} (hk : tkK s = 2) : rowR true s (H, C, o) = rowR false (nxT s) (H, C ++ [tkV s], o) := by
  have e : stT true s (H, C, o) = (1, (H, C ++ [tkV s], o)) := by
    show ahd (tkK s) (tkV s) (H, C, o) = _
    rw [ahd, if_pos hk]
  rw [rw_go e (by decide) (fun q => absurd q.1 (by decide))]
  rfl
theorem rw_nam {s : List Int32} {H C : List Int32} {o : Int32} (hk : 10 ≤ tkK s ∧ tkK s ≤ 15) : rowR true s (H, C, o) = rowR false (nxT s) (H, C ++ [20000 + (tkK s - 10)], o) := by
  have n2 : ¬ tkK s = 2 := fun q => by rw [q] at hk; exact absurd hk (by decide)
  have e : stT true s (H, C, o) = (1, (H, C ++ [20000 + (tkK s - 10)], o)) := by
    show ahd (tkK s) (tkV s) (H, C, o) = _
    rw [ahd, if_neg n2, if_pos hk]
  rw [rw_go e (by decide) (fun q => absurd q.1 (by decide))]
  rfl
theorem rw_opn {s : List Int32} {H C : List Int32} {o d : Int32} (hd : ahD (tkK s) H = d) (h0 : ¬ d = 0) (n2 : ¬ tkK s = 2) (n10 : ¬ (10 ≤ tkK s ∧ tkK s ≤ 15)) (ho : ¬ o = 5) : rowR true s (H, C, o) = rowR true (nxT s) (d :: H, C, o + 1) := by
  have e : stT true s (H, C, o) = (0, (d :: H, C, o + 1)) := by
    show ahd (tkK s) (tkV s) (H, C, o) = _
    rw [ahd, if_neg n2, if_neg n10, if_neg (fun q => q.elim (fun q => h0 (hd.symm.trans q)) ho), hd]
  rw [rw_go e (by decide) (fun q => absurd q.1 (by decide))]
  rfl
theorem rw_bad {s : List Int32} {H C : List Int32} {o : Int32} (n2 : ¬ tkK s = 2) (n10 : ¬ (10 ≤ tkK s ∧ tkK s ≤ 15)) (h : ahD (tkK s) H = 0 ∨ o = 5) : (rowR true s (H, C, o)).1 = false ∧ (rowR true s (H, C, o)).2.1 = s := by
  refine rw_failT ?_
  rw [ahd, if_neg n2, if_neg n10, if_pos h]
  exact (by decide : (-1 : Int32) < 0)
theorem rw_end {s : List Int32} {P' : PS} {C : List Int32} {o : Int32} (hk : tkK s = 59) (hr : Rd 1 P' ([], C, o)) : rowR false s P' = (true, nxT s, ([], C, o)) := by
  have hq : ltP 1 (ltP 7 P') = ([], C, o) := by rw [hr.lt (Int32.le_refl _) (by decide)]; rfl
  have e : stT false s P' = (2, ([], C, o)) := by
    show bhd (tkK s) P' = _
    rw [hk, bhd, if_neg (by decide), if_pos rfl, hq, if_pos (show (([], C, o) : PS).1.length = 0 from rfl)]
  rw [rowR_eq, e, if_neg (show ¬ (2 : Int32) < 0 by decide), if_pos ⟨rfl, rfl⟩]
theorem rw_shut {s : List Int32} {P' : PS} {H C : List Int32} {o : Int32} (hk : tkK s = 41) (hr : Rd 1 P' (10 :: H, C, o)) : rowR false s P' = rowR false (nxT s) (H, C, o - 1) := by
  have hq : ltP 1 (ltP 7 P') = (10 :: H, C, o) := by
    rw [hr.lt (Int32.le_refl _) (by decide)]
    show ltF 1 (10 :: H) C o = _
    rw [ltF, if_neg (by decide)]
  have e : stT false s P' = (0, (H, C, o - 1)) := by
    show bhd (tkK s) P' = _
    rw [hk, bhd, if_neg (by decide), if_neg (by decide), if_pos rfl, hq, if_neg (by simp)]
    rfl
  rw [rw_go e (by decide) (fun q => absurd q.2 (by decide))]
  rfl
def NxO (_ : Int32) (_ : PS) : Prop := True
def NxT (k : Int32) (_ : PS) : Prop := ¬ k = 42
def NxS (k : Int32) (_ : PS) : Prop := ¬ k = 42 ∧ ¬ k = 43 ∧ ¬ k = 45
def NxC (k : Int32) (P : PS) : Prop := NxS k P ∧ ((k = 60 ∨ k = 61) → (bhd k P).1 < 0)
def NxB (k : Int32) (P : PS) : Prop := NxC k P ∧ ¬ k = 7
def NxE (k : Int32) (P : PS) : Prop := NxB k P ∧ ¬ k = 6
theorem bhD_0 : ∀ K ∈ kinds, (¬ (K = 60 ∨ K = 61) ∧ ¬ K = 42 ∧ ¬ K = 43 ∧ ¬ K = 45 ∧ ¬ K = 7 ∧ ¬ K = 6) → bhD K = 0 := by decide
theorem nxE_0 {k : Int32} {P : PS} (hk : k ∈ kinds) (h : NxE k P) (n : ¬ (k = 60 ∨ k = 61)) : bhD k = 0 := bhD_0 k hk ⟨n, h.1.1.1.1, h.1.1.1.2.1, h.1.1.1.2.2, h.1.2, h.2⟩
/-- at the end of a row, no ; -/
theorem nxE_endF {k : Int32} {P' : PS} {C : List Int32} {o : Int32} (hk : k ∈ kinds) (h : NxE k P') (hr : Rd 1 P' ([], C, o)) (n59 : ¬ k = 59) : (bhd k P').1 < 0 := by
  by_cases n : k = 60 ∨ k = 61
  · exact h.1.1.2 n
  · have hq : ltP 1 (ltP 7 P') = ([], C, o) := by rw [hr.lt (Int32.le_refl _) (by decide)]; rfl
    rw [bhd, if_neg (fun q => q (nxE_0 hk h n)), if_neg n59]
    by_cases n41 : k = 41
    · rw [if_pos n41, hq, if_pos (show (([], C, o) : PS).1.length = 0 from rfl)]; exact (by decide : (-1 : Int32) < 0)
    · rw [if_neg n41]; exact (by decide : (-1 : Int32) < 0)
/-- behind an open one, no shut one -/
theorem nxE_shutF {k : Int32} {P' : PS} {H C : List Int32} {o : Int32} (hk : k ∈ kinds) (h : NxE k P') (hr : Rd 1 P' (10 :: H, C, o)) (n41 : ¬ k = 41) : (bhd k P').1 < 0 := by
  by_cases n : k = 60 ∨ k = 61
  · exact h.1.1.2 n
  · have hq : ltP 1 (ltP 7 P') = (10 :: H, C, o) := by
      rw [hr.lt (Int32.le_refl _) (by decide)]
      show ltF 1 (10 :: H) C o = _
      rw [ltF, if_neg (by decide)]
    rw [bhd, if_neg (fun q => q (nxE_0 hk h n))]
    by_cases n59 : k = 59
    · rw [if_pos n59, hq, if_neg (by simp)]; exact (by decide : (-1 : Int32) < 0)
    · rw [if_neg n59, if_neg n41]; exact (by decide : (-1 : Int32) < 0)
/-- heights -/
def Hk (k : Nat) (E : List Int32) : Prop := (∀ n, hLt (n + k) E n = some (n + 1)) ∧ ∀ x ∈ E, vc x
theorem hLt_mono {L L' : Nat} (hL : L ≤ L') : ∀ (E : List Int32) (n m : Nat), hLt L E n = some m → hLt L' E n = some m := by
  intro E
  induction E with
  | nil => intro n m h; exact h
  | cons c E ih =>
    intro n m h
    rw [hLt] at h ⊢
    split
    · rename_i q
      rw [if_pos q] at h
      split at h
      · rename_i q2
        rw [if_pos (Nat.lt_of_lt_of_le q2 hL)]
        exact ih _ _ h
      · cases h
    · rename_i q
      rw [if_neg q] at h
      split
      · rename_i q2
        rw [if_pos q2] at h
        split at h
        · rename_i q3; rw [if_pos q3]; exact ih _ _ h
        · cases h
      · rename_i q2
        rw [if_neg q2] at h
        split at h
        · rename_i q3; rw [if_pos q3]; exact ih _ _ h
        · cases h
theorem hLt_app {L : Nat} : ∀ (E E' : List Int32) (n m : Nat), hLt L E n = some m → hLt L (E ++ E') n = hLt L E' m := by
  intro E
  induction E with
  | nil => intro E' n m h; cases h; rfl
  | cons c E ih =>
    intro E' n m h
    rw [List.cons_append, hLt]
    rw [hLt] at h
    split
    · rename_i q
      rw [if_pos q] at h
      split at h
      · rename_i q2; rw [if_pos q2]; exact ih _ _ _ h
      · cases h
    · rename_i q
      rw [if_neg q] at h
      split
      · rename_i q2
        rw [if_pos q2] at h
        split at h
        · rename_i q3; rw [if_pos q3]; exact ih _ _ _ h
        · cases h
      · rename_i q2
        rw [if_neg q2] at h
        split at h
        · rename_i q3; rw [if_pos q3]; exact ih _ _ _ h
        · cases h
theorem Hk.mono {k k' : Nat} {E : List Int32} (h : Hk k E) (hk : k ≤ k') : Hk k' E := ⟨fun n => hLt_mono (by omega) _ _ _ (h.1 n), h.2⟩
theorem Hk.one {c : Int32} (h : c < 30000) (hv : vc c) : Hk 1 [c] := by
  refine ⟨fun n => ?_, fun x hx => by rw [List.mem_singleton.mp hx]; exact hv⟩
  rw [hLt, if_pos h, if_pos (Nat.lt_succ_self n), hLt]
theorem bops_ok : ∀ d ∈ bops, ¬ d < 30000 ∧ ¬ (d = 30008 ∨ d = 30009) := by decide
theorem Hk.bin {k k2 : Nat} {E1 E2 : List Int32} {d : Int32} (h1 : Hk k E1) (h2 : Hk k2 E2) (hk : k2 + 1 ≤ k) (hd : d ∈ bops) : Hk k (E1 ++ E2 ++ [d]) := by
  have hb := bops_ok d hd
  refine ⟨fun n => ?_, fun x hx => ?_⟩
  · rw [List.append_assoc, hLt_app _ _ _ _ (h1.1 n), hLt_app _ _ _ _ (hLt_mono (by omega) _ _ _ (h2.1 (n + 1))), hLt, if_neg hb.1, if_neg hb.2, if_pos (by omega), hLt]
    rfl
  · rcases List.mem_append.mp hx with q | q
    · exact (List.mem_append.mp q).elim (h1.2 x) (h2.2 x)
    · rw [List.mem_singleton.mp q]; exact Or.inr (Or.inr (Or.inl hd))
theorem Hk.un {k : Nat} {E : List Int32} {d : Int32} (h : Hk k E) (hd : d = 30008 ∨ d = 30009) : Hk k (E ++ [d]) := by
  refine ⟨fun n => ?_, fun x hx => ?_⟩
  · rw [hLt_app _ _ _ _ (h.1 n), hLt, if_neg (by rcases hd with rfl | rfl <;> decide), if_pos hd, if_pos (by omega), hLt]
  · rcases List.mem_append.mp hx with q | q
    · exact h.2 x q
    · rw [List.mem_singleton.mp q]; exact Or.inr (Or.inr (Or.inr hd))
theorem Hk.hb {k : Nat} {E : List Int32} (h : Hk k E) (hk : k ≤ 32) : HB E := ⟨hLt_mono (by omega) _ _ _ (h.1 0), h.2⟩
/-- numbers -/
theorem tw_all {P : Int32 → Bool} : ∀ (l : List Int32), ∀ c ∈ l.takeWhile P, P c = true := by
  intro l
  induction l with
  | nil => intro c hc; simp at hc
  | cons a l ih =>
    intro c hc
    by_cases h : P a = true
    · rw [List.takeWhile_cons_of_pos h] at hc
      rcases List.mem_cons.mp hc with rfl | hc
      · exact h
      · exact ih c hc
    · rw [List.takeWhile_cons_of_neg h] at hc
      simp at hc
theorem dg_of {c : Int32} (h : isDg c = true) : ∃ d, d < 10 ∧ c = nI (48 + d) := by
  rw [isDg_spec] at h
  obtain ⟨j, hj, rfl⟩ := nI_of (x := c) (fun q => absurd (Int32.lt_of_le_of_lt h.1 q) (by decide))
  have h1 := (nI_leI (a := 48) (b := j) (by decide) hj).mp h.1
  have h2 := (nI_leI (a := j) (b := 57) hj (by decide)).mp h.2
  exact ⟨j - 48, by omega, by congr 1; omega⟩
theorem dvl_lt : ∀ (l : List Int32) (a : Nat), (∀ c ∈ l, isDg c = true) → ∃ b, b < (a + 1) * 10 ^ l.length ∧ dvl (nI a) l = nI b := by
  intro l
  induction l with
  | nil => intro a _; exact ⟨a, by simp, rfl⟩
  | cons c l ih =>
    intro a h
    obtain ⟨d, hd, rfl⟩ := dg_of (h c List.mem_cons_self)
    have e : nI a * 10 + nI (48 + d) - 48 = nI (10 * a + d) := by
      have e1 : nI a * 10 = nI (10 * a) := by rw [Int32.mul_comm]; exact (Int32.ofNat_mul 10 a).symm
      rw [e1, nI_add]
      show nI (10 * a + (48 + d)) - nI 48 = _
      rw [nI_sub (by omega)]
      congr 1
      omega
    obtain ⟨b, hb, hb2⟩ := ih (10 * a + d) (fun c hc => h c (List.mem_cons_of_mem _ hc))
    refine ⟨b, Nat.lt_of_lt_of_le hb ?_, by rw [dvl, e]; exact hb2⟩
    rw [List.length_cons, Nat.pow_succ, Nat.mul_comm (10 ^ l.length) 10, ← Nat.mul_assoc]
    exact Nat.mul_le_mul_right _ (by omega)
theorem tkV_ok {s : List Int32} (h : tkK s = 2) : ∃ v, v < 10000 ∧ tkV s = nI v := by
  have hl : (s.takeWhile isDg).length ≤ 4 := by
    cases s with
    | nil => simp
    | cons c r =>
      rw [tkK] at h
      split at h
      · have k12 : ∀ i, i ≤ 12 → ¬ wKd i = 2 := by decide
        exact absurd h (k12 _ (wIx_12 _))
      · split at h
        · split at h
          · assumption
          · exact absurd h (by decide)
        · rename_i q
          rw [List.takeWhile_cons_of_neg q]
          simp
  obtain ⟨b, h1, h2⟩ := dvl_lt (s.takeWhile isDg) 0 (tw_all s)
  refine ⟨b, Nat.lt_of_lt_of_le h1 ?_, h2⟩
  rw [Nat.zero_add, Nat.one_mul]
  exact Nat.pow_le_pow_right (by decide) hl
theorem en_nam : ∀ K ∈ kinds, 10 ≤ K ∧ K ≤ 15 → (en (20000 + (K - 10)) = K ∧ 20000 + (K - 10) < 30000 ∧ (K = 10 ∨ K = 11 ∨ K = 12 ∨ K = 13 ∨ K = 14 ∨ K = 15)) := by decide
theorem vc_nam {K : Int32} (hk : K ∈ kinds) (h : 10 ≤ K ∧ K ≤ 15) : vc (20000 + (K - 10)) := by
  rcases (en_nam K hk h).2.2 with rfl | rfl | rfl | rfl | rfl | rfl
  · exact Or.inr (Or.inl ⟨0, by decide, rfl⟩)
  · exact Or.inr (Or.inl ⟨1, by decide, rfl⟩)
  · exact Or.inr (Or.inl ⟨2, by decide, rfl⟩)
  · exact Or.inr (Or.inl ⟨3, by decide, rfl⟩)
  · exact Or.inr (Or.inl ⟨4, by decide, rfl⟩)
  · exact Or.inr (Or.inl ⟨5, by decide, rfl⟩)
theorem en_v {s : List Int32} (h : tkK s = 2) : en (tkV s) = 2 + (tkV s <<< ((6 : Int32) &&& 31)) ∧ tkV s < 30000 ∧ vc (tkV s) := by
  obtain ⟨v, hv, e⟩ := tkV_ok h
  rw [e]
  have h1 := (en_num hv).1
  refine ⟨?_, Int32.lt_trans h1 (by decide), Or.inl ⟨v, hv, rfl⟩⟩
  rw [en, if_pos h1]
  rfl
