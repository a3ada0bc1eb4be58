/-! ===== texts: a row of deeds out of tokens, with what is held (as the reference goes) ===== -/
/-- what is held (the newest first), the deeds that are written, how many are open -/
abbrev PS : Type := List Int32 × (List Int32 × Int32)
def hgt (x : Int32) : Int32 := if x = 7 then 1 else if x = 6 then 2 else if x = 8 then 3 else if x = 4 then 4 else if x = 5 then 4 else if x = 1 then 5 else if x = 2 then 5 else if x = 3 then 6 else if x = 9 then 7 else 0
def dOf (x : Int32) : Int32 := if x = 43 then 1 else if x = 45 then 2 else if x = 42 then 3 else if x = 60 then 4 else if x = 61 then 5 else 0
def ltF (h : Int32) : List Int32 → List Int32 → Int32 → PS
  | [], C, o => ([], C, o)
  | x :: H, C, o => if h ≤ hgt x then ltF h H (C ++ [30000 + x]) (if x = 8 ∨ x = 9 then o - 1 else o) else (x :: H, C, o)
def ltP (h : Int32) (P : PS) : PS := ltF h P.1 P.2.1 P.2.2
def tpH (H : List Int32) : Int32 := H.headD 0
def mayB (H : List Int32) : Bool := decide (H = [] ∨ tpH H = 10 ∨ tpH H = 7 ∨ tpH H = 6 ∨ tpH H = 8)
def ahD (k : Int32) (H : List Int32) : Int32 := if k = 8 ∧ mayB H = true then 8 else if k = 45 then 9 else if k = 40 then 10 else 0
def ahd (k v : Int32) (P : PS) : Int32 × PS :=
  if k = 2 then (1, (P.1, P.2.1 ++ [v], P.2.2)) else if 10 ≤ k ∧ k ≤ 15 then (1, (P.1, P.2.1 ++ [20000 + (k - 10)], P.2.2)) else
  if ahD k P.1 = 0 ∨ P.2.2 = 5 then (-1, P) else (0, (ahD k P.1 :: P.1, P.2.1, P.2.2 + 1))
def bhD (k : Int32) : Int32 := if k = 6 then 7 else if k = 7 then 6 else dOf k
def psh (d : Int32) (P : PS) : PS := (d :: P.1, P.2)
def bhd (k : Int32) (P : PS) : Int32 × PS :=
  if ¬ bhD k = 0 then
    (if bhD k = 4 ∨ bhD k = 5 then
      (if tpH (ltP 5 (ltP 7 P)).1 = 4 ∨ tpH (ltP 5 (ltP 7 P)).1 = 5 then (-1, ltP 5 (ltP 7 P)) else (1, psh (bhD k) (ltP 5 (ltP 7 P))))
    else (1, psh (bhD k) (ltP (hgt (bhD k)) (ltP 7 P))))
  else if k = 59 then (if (ltP 1 (ltP 7 P)).1.length = 0 then (2, ltP 1 (ltP 7 P)) else (-1, ltP 1 (ltP 7 P)))
  else if k = 41 then (if (ltP 1 (ltP 7 P)).1.length = 0 then (-1, ltP 1 (ltP 7 P)) else (0, ((ltP 1 (ltP 7 P)).1.tail, (ltP 1 (ltP 7 P)).2.1, (ltP 1 (ltP 7 P)).2.2 - 1)))
  else (-1, ltP 7 P)
def stT (w : Bool) (s : List Int32) (P : PS) : Int32 × PS := if w = true then ahd (tkK s) (tkV s) P else bhd (tkK s) P
def wNx (w : Bool) (x : Int32) : Bool := if w = true then decide (x = 0) else decide (x = 1)
/-- a row: whether it can stand, where one is then, what is held and written -/
def rowP : Nat → Bool → List Int32 → PS → Bool × (List Int32 × PS)
  | 0, _, s, P => (false, s, P)
  | f + 1, w, s, P => if (stT w s P).1 < 0 then (false, s, (stT w s P).2) else if w = false ∧ (stT w s P).1 = 2 then (true, nxT s, (stT w s P).2) else rowP f (wNx w (stT w s P).1) (nxT s) (stT w s P).2
theorem stT_ok {w : Bool} {s : List Int32} {P : PS} (h : ¬ (stT w s P).1 < 0) : ¬ tkK s = 0 ∧ ¬ tkK s = 1 := by
  have key : ∀ k : Int32, k = 0 ∨ k = 1 → (stT w s P).1 = (if w = true then (ahd (tkK s) (tkV s) P).1 else (bhd (tkK s) P).1) := fun k _ => by unfold stT; split <;> rfl
  have a0 : ∀ k v : Int32, k = 0 ∨ k = 1 → (ahd k v P).1 = -1 := by
    intro k v hk
    have e1 : ahD k P.1 = 0 := by
      unfold ahD
      rw [if_neg, if_neg, if_neg] <;> rcases hk with rfl | rfl <;> first | decide | exact fun q => absurd q.1 (by decide)
    unfold ahd
    rw [if_neg, if_neg, if_pos (Or.inl e1)] <;> rcases hk with rfl | rfl <;> decide
  have b0 : ∀ k : Int32, k = 0 ∨ k = 1 → (bhd k P).1 = -1 := by
    intro k hk
    have e1 : bhD k = 0 := by rcases hk with rfl | rfl <;> decide
    unfold bhd
    rw [if_neg (fun q => q e1), if_neg, if_neg] <;> rcases hk with rfl | rfl <;> decide
  constructor
  · intro q
    refine h ?_
    rw [key 0 (Or.inl rfl), q]
    split
    · rw [a0 0 _ (Or.inl rfl)]; decide
    · rw [b0 0 (Or.inl rfl)]; decide
  · intro q
    refine h ?_
    rw [key 0 (Or.inl rfl), q]
    split
    · rw [a0 1 _ (Or.inr rfl)]; decide
    · rw [b0 1 (Or.inr rfl)]; decide
theorem rowP_f : ∀ (f f' : Nat) (w : Bool) (s : List Int32) (P : PS), s.length < f → s.length < f' → rowP f w s P = rowP f' w s P := by
  intro f
  induction f with
  | zero => intro f' w s P h; omega
  | succ f ih =>
    intro f' w s P h h'
    cases f' with
    | zero => omega
    | succ f' =>
      rw [rowP, rowP]
      split
      · rfl
      · rename_i q
        have hk := stT_ok q
        split
        · rfl
        · have hl := nxT_lt hk.1
          exact ih f' _ _ _ (by omega) (by omega)
/-- a row, with steps enough -/
def rowR (w : Bool) (s : List Int32) (P : PS) : Bool × (List Int32 × PS) := rowP (s.length + 1) w s P
theorem rowR_eq (w : Bool) (s : List Int32) (P : PS) : rowR w s P = if (stT w s P).1 < 0 then (false, s, (stT w s P).2) else if w = false ∧ (stT w s P).1 = 2 then (true, nxT s, (stT w s P).2) else rowR (wNx w (stT w s P).1) (nxT s) (stT w s P).2 := by
  unfold rowR
  rw [rowP]
  split
  · rfl
  · rename_i q
    have hk := stT_ok q
    have hl := nxT_lt hk.1
    split
    · rfl
    · exact rowP_f _ _ _ _ _ (by omega) (by omega)
/-- what is held and what is written, together -/
def szP (P : PS) : Nat := P.1.length + P.2.1.length
theorem ltF_sz {h : Int32} : ∀ (H C : List Int32) (o : Int32), szP (ltF h H C o) = H.length + C.length := by
  intro H
  induction H with
  | nil => intro C o; rfl
  | cons x H ih =>
    intro C o
    rw [ltF]
    split
    · rw [ih]; simp; omega
    · rfl
theorem ltP_sz {h : Int32} {P : PS} : szP (ltP h P) = szP P := ltF_sz _ _ _
theorem stT_sz {w : Bool} {s : List Int32} {P : PS} : szP (stT w s P).2 ≤ szP P + 1 := by
  have e7 : ∀ h, szP (ltP h (ltP 7 P)) = szP P := fun h => ltP_sz.trans ltP_sz
  unfold stT
  split
  · unfold ahd
    repeat' split
    all_goals simp [szP]
    all_goals omega
  · unfold bhd
    split
    · split
      · split
        · rw [e7]; omega
        · have := e7 5; simp only [psh, szP, List.length_cons] at this ⊢; omega
      · have := e7 (hgt (bhD (tkK s))); simp only [psh, szP, List.length_cons] at this ⊢; omega
    · split
      · split <;> (rw [e7]; omega)
      · split
        · split
          · rw [e7]; omega
          · have := e7 1; simp only [szP, List.length_tail] at this ⊢; omega
        · rw [ltP_sz]; omega
