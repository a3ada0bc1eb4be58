/-! ===== texts: bytes to tokens ===== -/
def isBl (c : Int32) : Bool := decide (c = 32 ∨ c = 10)
def isDg (c : Int32) : Bool := decide (48 ≤ c ∧ c ≤ 57)
def isLt (c : Int32) : Bool := decide (97 ≤ c ∧ c ≤ 122)
def isSg (c : Int32) : Bool := decide (c = 40 ∨ c = 41 ∨ c = 59 ∨ c = 43 ∨ c = 45 ∨ c = 42 ∨ c = 60 ∨ c = 61)
/-- without the blanks ahead -/
def skp (s : List Int32) : List Int32 := s.dropWhile isBl
def wIxL : List (List Int32) → Nat → List Int32 → Nat
  | [], i, _ => i
  | w :: ws, i, l => if l = w then i else wIxL ws (i + 1) l
/-- a word's number; 12: none -/
def wIx (l : List Int32) : Nat := wIxL mWd 0 l
/-- a word's kind, as the class has it -/
def wKd (i : Nat) : Int32 := if i = 0 then 10 else if i = 1 then 11 else if i = 2 then 12 else if i = 3 then 13 else if i = 4 then 14 else if i = 5 then 15 else if i = 6 then 3 else if i = 7 then 4 else if i = 8 then 5 else if i = 9 then 6 else if i = 10 then 7 else if i = 11 then 8 else 1
/-- the token's kind: 0 the end, 1 wrong, 2 a number, 3 .. 15 words, a sign by itself -/
def tkK : List Int32 → Int32
  | [] => 0
  | c :: r => if isLt c then wKd (wIx ((c :: r).takeWhile isLt)) else if isDg c then (if ((c :: r).takeWhile isDg).length ≤ 4 then 2 else 1) else if isSg c then c else 1
def dvl (v : Int32) : List Int32 → Int32
  | [] => v
  | c :: r => dvl (v * 10 + c - 48) r
def tkV (s : List Int32) : Int32 := dvl 0 (s.takeWhile isDg)
def tkR : List Int32 → List Int32
  | [] => []
  | c :: r => if isLt c then (c :: r).dropWhile isLt else if isDg c then (c :: r).dropWhile isDg else r
/-- what stands behind a place -/
def Sfx (tp s : List Int32) : Prop := ∃ pre, tp = pre ++ s
abbrev psn (tp s : List Int32) : Nat := tp.length - s.length
theorem Sfx.rf {tp : List Int32} : Sfx tp tp := ⟨[], rfl⟩
theorem Sfx.nil {tp : List Int32} : Sfx tp [] := ⟨tp, by simp⟩
theorem Sfx.le {tp s : List Int32} (h : Sfx tp s) : s.length ≤ tp.length := by
  obtain ⟨p, rfl⟩ := h
  simp
theorem Sfx.tl {tp r : List Int32} {c : Int32} (h : Sfx tp (c :: r)) : Sfx tp r := by
  obtain ⟨p, rfl⟩ := h
  exact ⟨p ++ [c], by simp⟩
theorem Sfx.tr {tp s s' : List Int32} (h : Sfx tp s) (k : Sfx s s') : Sfx tp s' := by
  obtain ⟨p, rfl⟩ := h
  obtain ⟨q, rfl⟩ := k
  exact ⟨p ++ q, by simp⟩
theorem Sfx.dw {s : List Int32} {P : Int32 → Bool} : Sfx s (s.dropWhile P) := ⟨s.takeWhile P, List.takeWhile_append_dropWhile.symm⟩
theorem Sfx.hd {tp r : List Int32} {c : Int32} (h : Sfx tp (c :: r)) : tp[psn tp (c :: r)]? = some c := by
  obtain ⟨p, rfl⟩ := h
  rw [List.getElem?_append_right (by simp [psn])]
  simp [psn]
theorem Sfx.ps {tp r : List Int32} {c : Int32} (h : Sfx tp (c :: r)) : psn tp (c :: r) + 1 = psn tp r ∧ psn tp (c :: r) < tp.length := by
  have := h.le
  simp only [psn, List.length_cons] at *
  omega
theorem skp_sfx {s : List Int32} : Sfx s (skp s) := Sfx.dw
theorem tkR_sfx {s : List Int32} : Sfx s (tkR s) := by
  cases s with
  | nil => exact Sfx.rf
  | cons c r =>
    rw [tkR]
    split
    · exact Sfx.dw
    · split
      · exact Sfx.dw
      · exact Sfx.rf.tl
theorem dw_len {P : Int32 → Bool} {c : Int32} {r : List Int32} (h : P c = true) : ((c :: r).dropWhile P).length ≤ r.length := by
  rw [List.dropWhile_cons_of_pos h]
  exact (Sfx.dw (s := r) (P := P)).le
/-- each token takes a byte at least -/
theorem tkR_lt {s : List Int32} (h : s ≠ []) : (tkR s).length < s.length := by
  cases s with
  | nil => exact absurd rfl h
  | cons c r =>
    rw [tkR]
    simp only [List.length_cons]
    split
    · rename_i q; have := dw_len (r := r) q; omega
    · split
      · rename_i q; have := dw_len (r := r) q; omega
      · omega
theorem skp_skp {s : List Int32} : skp (skp s) = skp s := by
  unfold skp
  induction s with
  | nil => rfl
  | cons c r ih =>
    by_cases h : isBl c = true
    · rw [List.dropWhile_cons_of_pos h, ih]
    · rw [List.dropWhile_cons_of_neg h, List.dropWhile_cons_of_neg h]
/-- the next token's place -/
def nxT (s : List Int32) : List Int32 := skp (tkR s)
theorem nxT_sfx {s : List Int32} : Sfx s (nxT s) := tkR_sfx.tr skp_sfx
theorem nxT_lt {s : List Int32} (h : tkK s ≠ 0) : (nxT s).length < s.length := by
  have h1 := (skp_sfx (s := tkR s)).le
  have h2 := tkR_lt (s := s) (fun e => h (by rw [e]; rfl))
  exact Nat.lt_of_le_of_lt h1 h2
/-- tokens as the reference names them -/
def rkT (k : Int32) : Int32 := if k = 0 then 103 else if k = 1 then 104 else if k = 2 then 100 else if k ≤ 15 then 101 else 102
def rkV (k v : Int32) : Int32 := if k = 2 then v else if k = 3 then 6 else if k = 4 then 7 else if k = 5 then 8 else if k = 6 then 9 else if k = 7 then 10 else if k = 8 then 11 else if k = 10 then 0 else if k = 11 then 1 else if k = 12 then 2 else if k = 13 then 3 else if k = 14 then 4 else if k = 15 then 5 else k
theorem wIxL_le : ∀ (ws : List (List Int32)) (i : Nat) (l : List Int32), i ≤ wIxL ws i l ∧ wIxL ws i l ≤ i + ws.length := by
  intro ws
  induction ws with
  | nil => intro i l; simp [wIxL]
  | cons w ws ih =>
    intro i l
    rw [wIxL, List.length_cons]
    split
    · omega
    · have := ih (i + 1) l; omega
theorem wIx_12 (l : List Int32) : wIx l ≤ 12 := (wIxL_le mWd 0 l).2
theorem wIxL_at : ∀ (ws : List (List Int32)) (i j : Nat) (l : List Int32), wIxL ws i l = i + j → j < ws.length → ws[j]? = some l := by
  intro ws
  induction ws with
  | nil => intro i j l _ h; simp at h
  | cons w ws ih =>
    intro i j l h hj
    rw [wIxL] at h
    split at h
    · rename_i q
      have : j = 0 := by omega
      subst this
      rw [q]; rfl
    · have h2 := wIxL_le ws (i + 1) l
      cases j with
      | zero => omega
      | succ j =>
        rw [List.getElem?_cons_succ]
        exact ih (i + 1) j l (by omega) (by simpa using hj)
theorem wKd_ok : ∀ i, i < 12 → (rkT (wKd i) = 101 ∧ rkV (wKd i) 0 = nI i ∧ ¬ wKd i = 2 ∧ ¬ wKd i = 1) := by decide
theorem rkV_v {k v : Int32} (h : ¬ k = 2) : rkV k v = rkV k 0 := by
  unfold rkV
  rw [if_neg h, if_neg h]
/-- the words by their numbers -/
theorem mWd_ix {l : List Int32} {i : Nat} {w : List Int32} (hw : mWd[i]? = some w) : l = w ↔ wIx l = i := by
  have hi := mWd_len hw
  have key : ∀ j, j < 12 → ∀ w', mWd[j]? = some w' → wIx w' = j := by
    intro j hj w' h'
    have k2 : ∀ j, j < 12 → (mWd[j]?).map wIx = some j := by decide +kernel
    have := k2 j hj
    rw [h'] at this
    exact Option.some.inj this
  constructor
  · rintro rfl
    exact key i hi _ hw
  · intro e
    have := wIxL_at mWd 0 i l (by rw [Nat.zero_add]; exact e) hi
    exact Option.some.inj (this.symm.trans hw)
theorem isDg_spec {c : Int32} : isDg c = true ↔ 48 ≤ c ∧ c ≤ 57 := by simp [isDg]
theorem isLt_spec {c : Int32} : isLt c = true ↔ 97 ≤ c ∧ c ≤ 122 := by simp [isLt]
theorem isBl_spec {c : Int32} : isBl c = true ↔ c = 32 ∨ c = 10 := by simp [isBl]
theorem isSg_spec {c : Int32} : isSg c = true ↔ (c = 40 ∨ c = 41 ∨ c = 59 ∨ c = 43 ∨ c = 45 ∨ c = 42 ∨ c = 60 ∨ c = 61) := by simp [isSg]
/-- a sign's kind -/
theorem sg_ok {c : Int32} (h : isSg c = true) : rkT c = 102 ∧ ∀ v, rkV c v = c := by
  rw [isSg_spec] at h
  rcases h with rfl | rfl | rfl | rfl | rfl | rfl | rfl | rfl <;> exact ⟨by decide, fun v => rfl⟩
theorem dvl_app : ∀ (l : List Int32) (v c : Int32), dvl v (l ++ [c]) = dvl v l * 10 + c - 48 := by
  intro l
  induction l with
  | nil => intro v c; rfl
  | cons a l ih => intro v c; exact ih _ c
