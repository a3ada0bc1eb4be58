/-! ===== the class's reader: its object, the next token ===== -/
abbrev rdF (r : Nat) (f : Nat → Int32) : List Value := [.int (f 0), .int (f 1), .ref (r + 1), .ref (r + 2), .int (f 4), .int (f 5), .int (f 6), .int (f 7)]
def rset (f : Nat → Int32) (k : Nat) (v : Int32) : Nat → Int32 := fun j => if j = k then v else f j
def RDo (r : Nat) (f : Nat → Int32) (T C : List Int32) (μ : Mm) : Prop := μ.1 r = some (obj 4 (rdF r f)) ∧ μ.1 (r + 1) = some (iar T) ∧ μ.1 (r + 2) = some (iar C)
/-- only the reader's cells have changed -/
def FR (r : Nat) (μ0 μ : Mm) : Prop := μ.2 = μ0.2 ∧ ∀ q, q < r ∨ r + 3 ≤ q → μ.1 q = μ0.1 q
theorem FR.rf {r : Nat} {μ : Mm} : FR r μ μ := ⟨rfl, fun _ _ => rfl⟩
theorem FR.tr {r : Nat} {μ μ1 μ2 : Mm} (h : FR r μ μ1) (k : FR r μ1 μ2) : FR r μ μ2 := ⟨k.1.trans h.1, fun q hq => (k.2 q hq).trans (h.2 q hq)⟩
theorem FR.upd {r c : Nat} {μ μ1 : Mm} {e : MC} (h : FR r μ μ1) (ho : r ≤ c ∧ c < r + 3) : FR r μ (mupd μ1 c e) := ⟨h.1, fun q hq => by rw [mupd_ne (by omega)]; exact h.2 q hq⟩
theorem rdF_set {r k : Nat} {f : Nat → Int32} {v : Int32} (hk : k ∈ [0, 1, 4, 5, 6, 7]) : (rdF r f).set k (.int v) = rdF r (rset f k v) := by
  simp only [List.mem_cons, List.not_mem_nil, or_false] at hk
  rcases hk with rfl | rfl | rfl | rfl | rfl | rfl <;> rfl
section EVR
variable {g : Gl} {d : Nat} {Y : Md} {pc : Nat} {ls : List (Option Value)} {st : List Value} {μ μ0 : Mm} {Q : Option Value → Mm → Prop} {r : Nat} {f : Nat → Int32} {T C : List Int32}
theorem evR_put {k idx : Nat} {v : Int32} (hO : RDo r f T C μ) (hF : FR r μ0 μ) (hk : k ∈ [0, 1, 4, 5, 6, 7]) (hd : decode (mC Y) pc = .ok (.putfield idx, 3)) (hf : FP (mY Y).cls idx 4 k .int false) (kk : ∀ μ1, RDo r (rset f k v) T C μ1 → FR r μ0 μ1 → Ev g d Y (pc + 3) ls st μ1 Q) : Ev g d Y pc ls (.int v :: .ref r :: st) μ Q := by
  refine ev_put hd hf hO.1 (by simp only [List.mem_cons, List.not_mem_nil, or_false] at hk; simp only [List.length_cons, List.length_nil]; omega) rfl rfl (kk _ ⟨?_, ?_, ?_⟩ (hF.upd (by omega)))
  · rw [mupd_eq, rdF_set hk]
  · rw [mupd_ne (by omega)]; exact hO.2.1
  · rw [mupd_ne (by omega)]; exact hO.2.2
theorem evR_iastC {j : Nat} {i x : Int32} (hO : RDo r f T C μ) (hF : FR r μ0 μ) (hd : decode (mC Y) pc = .ok (.iastore, 1)) (hx : ix i j) (hj : j < C.length) (kk : ∀ μ1, RDo r f T (C.set j x) μ1 → FR r μ0 μ1 → Ev g d Y (pc + 1) ls st μ1 Q) : Ev g d Y pc ls (.int x :: .int i :: .ref (r + 2) :: st) μ Q :=
  ev_iast hd hO.2.2 hx hj (kk _ ⟨by rw [mupd_ne (by omega)]; exact hO.1, by rw [mupd_ne (by omega)]; exact hO.2.1, mupd_eq⟩ (hF.upd (by omega)))
theorem evR_iastT {j : Nat} {i x : Int32} (hO : RDo r f T C μ) (hF : FR r μ0 μ) (hd : decode (mC Y) pc = .ok (.iastore, 1)) (hx : ix i j) (hj : j < T.length) (kk : ∀ μ1, RDo r f (T.set j x) C μ1 → FR r μ0 μ1 → Ev g d Y (pc + 1) ls st μ1 Q) : Ev g d Y pc ls (.int x :: .int i :: .ref (r + 1) :: st) μ Q :=
  ev_iast hd hO.2.1 hx hj (kk _ ⟨by rw [mupd_ne (by omega)]; exact hO.1, mupd_eq, by rw [mupd_ne (by omega)]; exact hO.2.2⟩ (hF.upd (by omega)))
end EVR
/-- the tape -/
def RT (T tp : List Int32) : Prop := tp.length ≤ 160 ∧ ∀ (i : Nat) (c : Int32), tp[i]? = some c → T[i]? = some c
/-- the token that is looked at -/
def RTok (f : Nat → Int32) (tp s : List Int32) : Prop := Sfx tp s ∧ f 1 = nI (psn tp s) ∧ f 6 = tkK s ∧ (tkK s = 2 → f 7 = tkV s) ∧ f 5 = nI (psn tp (tkR s))
section KLEX
variable {g : Gl} {r : Nat} {T C tp : List Int32} {f : Nat → Int32}
theorem c_kLetter {μ : Mm} (x : Int32) : Pu g 0 mX4_isLetter [.int x] μ (b2i (97 ≤ x ∧ x ≤ 122)) := by
  refine Mt.of0 (ls0 := [some (.int x)]) (by decide) (by simp [Value.category]) (Nat.le_of_ble_eq_true rfl) rfl ?_
  refine ev_iload_n dX4_isLetter_0 rfl ?_
  refine ev_bipush (v := 97) dX4_isLetter_1 (by decide) ?_
  refine ev_icmp_lt (tgt := 16) dX4_isLetter_3 (by decide) (fun h3 => ?_) (fun h3 => ?_)
  · refine ev_iconst (v := 0) dX4_isLetter_16 (by decide) ?_
    refine ev_zret dX4_isLetter_17 rfl (by decide) ?_
    refine ⟨?_, rfl⟩
    first | (rw [b2i_t (by (simp only [Fc, Se, Nat.reduceLT, ↓reduceIte, ← Int32.toInt_inj, Int32.le_iff_toInt_le, Int32.lt_iff_toInt_lt, Int32.reduceToInt] at *; omega))]; done) | (rw [b2i_f (by (simp only [Fc, Se, Nat.reduceLT, ↓reduceIte, ← Int32.toInt_inj, Int32.le_iff_toInt_le, Int32.lt_iff_toInt_lt, Int32.reduceToInt] at *; omega))]; done) | (exfalso; (simp only [Fc, Se, Nat.reduceLT, ↓reduceIte, ← Int32.toInt_inj, Int32.le_iff_toInt_le, Int32.lt_iff_toInt_lt, Int32.reduceToInt] at *; omega))
  · refine ev_iload_n dX4_isLetter_6 rfl ?_
    refine ev_bipush (v := 122) dX4_isLetter_7 (by decide) ?_
    refine ev_icmp_gt (tgt := 16) dX4_isLetter_9 (by decide) (fun h9 => ?_) (fun h9 => ?_)
    · refine ev_iconst (v := 0) dX4_isLetter_16 (by decide) ?_
      refine ev_zret dX4_isLetter_17 rfl (by decide) ?_
      refine ⟨?_, rfl⟩
      first | (rw [b2i_t (by (simp only [Fc, Se, Nat.reduceLT, ↓reduceIte, ← Int32.toInt_inj, Int32.le_iff_toInt_le, Int32.lt_iff_toInt_lt, Int32.reduceToInt] at *; omega))]; done) | (rw [b2i_f (by (simp only [Fc, Se, Nat.reduceLT, ↓reduceIte, ← Int32.toInt_inj, Int32.le_iff_toInt_le, Int32.lt_iff_toInt_lt, Int32.reduceToInt] at *; omega))]; done) | (exfalso; (simp only [Fc, Se, Nat.reduceLT, ↓reduceIte, ← Int32.toInt_inj, Int32.le_iff_toInt_le, Int32.lt_iff_toInt_lt, Int32.reduceToInt] at *; omega))
    · refine ev_iconst (v := 1) dX4_isLetter_12 (by decide) ?_
      refine ev_goto (tgt := 17) dX4_isLetter_13 (by decide) ?_
      refine ev_zret dX4_isLetter_17 rfl (by decide) ?_
      refine ⟨?_, rfl⟩
      first | (rw [b2i_t (by (simp only [Fc, Se, Nat.reduceLT, ↓reduceIte, ← Int32.toInt_inj, Int32.le_iff_toInt_le, Int32.lt_iff_toInt_lt, Int32.reduceToInt] at *; omega))]; done) | (rw [b2i_f (by (simp only [Fc, Se, Nat.reduceLT, ↓reduceIte, ← Int32.toInt_inj, Int32.le_iff_toInt_le, Int32.lt_iff_toInt_lt, Int32.reduceToInt] at *; omega))]; done) | (exfalso; (simp only [Fc, Se, Nat.reduceLT, ↓reduceIte, ← Int32.toInt_inj, Int32.le_iff_toInt_le, Int32.lt_iff_toInt_lt, Int32.reduceToInt] at *; omega))
theorem c_kDigit {μ : Mm} (x : Int32) : Pu g 0 mX4_isDigit [.int x] μ (b2i (48 ≤ x ∧ x ≤ 57)) := by
  refine Mt.of0 (ls0 := [some (.int x)]) (by decide) (by simp [Value.category]) (Nat.le_of_ble_eq_true rfl) rfl ?_
  refine ev_iload_n dX4_isDigit_0 rfl ?_
  refine ev_bipush (v := 48) dX4_isDigit_1 (by decide) ?_
  refine ev_icmp_lt (tgt := 16) dX4_isDigit_3 (by decide) (fun h3 => ?_) (fun h3 => ?_)
  · refine ev_iconst (v := 0) dX4_isDigit_16 (by decide) ?_
    refine ev_zret dX4_isDigit_17 rfl (by decide) ?_
    refine ⟨?_, rfl⟩
    first | (rw [b2i_t (by (simp only [Fc, Se, Nat.reduceLT, ↓reduceIte, ← Int32.toInt_inj, Int32.le_iff_toInt_le, Int32.lt_iff_toInt_lt, Int32.reduceToInt] at *; omega))]; done) | (rw [b2i_f (by (simp only [Fc, Se, Nat.reduceLT, ↓reduceIte, ← Int32.toInt_inj, Int32.le_iff_toInt_le, Int32.lt_iff_toInt_lt, Int32.reduceToInt] at *; omega))]; done) | (exfalso; (simp only [Fc, Se, Nat.reduceLT, ↓reduceIte, ← Int32.toInt_inj, Int32.le_iff_toInt_le, Int32.lt_iff_toInt_lt, Int32.reduceToInt] at *; omega))
  · refine ev_iload_n dX4_isDigit_6 rfl ?_
    refine ev_bipush (v := 57) dX4_isDigit_7 (by decide) ?_
    refine ev_icmp_gt (tgt := 16) dX4_isDigit_9 (by decide) (fun h9 => ?_) (fun h9 => ?_)
    · refine ev_iconst (v := 0) dX4_isDigit_16 (by decide) ?_
      refine ev_zret dX4_isDigit_17 rfl (by decide) ?_
      refine ⟨?_, rfl⟩
      first | (rw [b2i_t (by (simp only [Fc, Se, Nat.reduceLT, ↓reduceIte, ← Int32.toInt_inj, Int32.le_iff_toInt_le, Int32.lt_iff_toInt_lt, Int32.reduceToInt] at *; omega))]; done) | (rw [b2i_f (by (simp only [Fc, Se, Nat.reduceLT, ↓reduceIte, ← Int32.toInt_inj, Int32.le_iff_toInt_le, Int32.lt_iff_toInt_lt, Int32.reduceToInt] at *; omega))]; done) | (exfalso; (simp only [Fc, Se, Nat.reduceLT, ↓reduceIte, ← Int32.toInt_inj, Int32.le_iff_toInt_le, Int32.lt_iff_toInt_lt, Int32.reduceToInt] at *; omega))
    · refine ev_iconst (v := 1) dX4_isDigit_12 (by decide) ?_
      refine ev_goto (tgt := 17) dX4_isDigit_13 (by decide) ?_
      refine ev_zret dX4_isDigit_17 rfl (by decide) ?_
      refine ⟨?_, rfl⟩
      first | (rw [b2i_t (by (simp only [Fc, Se, Nat.reduceLT, ↓reduceIte, ← Int32.toInt_inj, Int32.le_iff_toInt_le, Int32.lt_iff_toInt_lt, Int32.reduceToInt] at *; omega))]; done) | (rw [b2i_f (by (simp only [Fc, Se, Nat.reduceLT, ↓reduceIte, ← Int32.toInt_inj, Int32.le_iff_toInt_le, Int32.lt_iff_toInt_lt, Int32.reduceToInt] at *; omega))]; done) | (exfalso; (simp only [Fc, Se, Nat.reduceLT, ↓reduceIte, ← Int32.toInt_inj, Int32.le_iff_toInt_le, Int32.lt_iff_toInt_lt, Int32.reduceToInt] at *; omega))
theorem c_kSign {μ : Mm} (x : Int32) : Pu g 0 mX4_signKind [.int x] μ (if isSg x = true then x else 1) := by
  refine Mt.of0 (ls0 := [some (.int x), none]) (by decide) (by simp [Value.category]) (Nat.le_of_ble_eq_true rfl) rfl ?_
  refine ev_iload_n dX4_signKind_0 rfl ?_
  refine ev_bipush (v := 40) dX4_signKind_1 (by decide) ?_
  refine ev_icmp_eq (tgt := 48) dX4_signKind_3 (by decide) (fun h3 => ?_) (fun h3 => ?_)
  · refine ev_iconst (v := 1) dX4_signKind_48 (by decide) ?_
    refine ev_goto (tgt := 53) dX4_signKind_49 (by decide) ?_
    refine ev_istore_n dX4_signKind_53 (by decide) ?_
    dsimp only [List.set]
    refine ev_iload_n dX4_signKind_54 rfl ?_
    refine ev_if_eq (tgt := 62) dX4_signKind_55 (by decide) (fun h55 => ?_) (fun h55 => ?_)
    · refine ev_iconst (v := 1) dX4_signKind_62 (by decide) ?_
      refine ev_iret dX4_signKind_63 rfl ?_
      first
        | exact absurd rfl ‹¬ (1 : Int32) = 0›
        | exact absurd ‹(1 : Int32) = 0› (by decide)
        | exact absurd rfl ‹¬ (0 : Int32) = 0›
        | (rw [if_pos (isSg_spec.mpr (by first | exact Or.inl ‹_› | exact Or.inr (Or.inl ‹_›) | exact Or.inr (Or.inr (Or.inl ‹_›)) | exact Or.inr (Or.inr (Or.inr (Or.inl ‹_›))) | exact Or.inr (Or.inr (Or.inr (Or.inr (Or.inl ‹_›)))) | exact Or.inr (Or.inr (Or.inr (Or.inr (Or.inr (Or.inl ‹_›))))) | exact Or.inr (Or.inr (Or.inr (Or.inr (Or.inr (Or.inr (Or.inl ‹_›)))))) | exact Or.inr (Or.inr (Or.inr (Or.inr (Or.inr (Or.inr (Or.inr ‹_›))))))))]; exact ⟨rfl, rfl⟩)
        | (rw [if_neg (fun q => by rw [isSg_spec] at q; rcases q with q | q | q | q | q | q | q | q <;> contradiction)]; exact ⟨rfl, rfl⟩)
    · refine ev_iload_n dX4_signKind_58 rfl ?_
      refine ev_goto (tgt := 63) dX4_signKind_59 (by decide) ?_
      refine ev_iret dX4_signKind_63 rfl ?_
      first
        | exact absurd rfl ‹¬ (1 : Int32) = 0›
        | exact absurd ‹(1 : Int32) = 0› (by decide)
        | exact absurd rfl ‹¬ (0 : Int32) = 0›
        | (rw [if_pos (isSg_spec.mpr (by first | exact Or.inl ‹_› | exact Or.inr (Or.inl ‹_›) | exact Or.inr (Or.inr (Or.inl ‹_›)) | exact Or.inr (Or.inr (Or.inr (Or.inl ‹_›))) | exact Or.inr (Or.inr (Or.inr (Or.inr (Or.inl ‹_›)))) | exact Or.inr (Or.inr (Or.inr (Or.inr (Or.inr (Or.inl ‹_›))))) | exact Or.inr (Or.inr (Or.inr (Or.inr (Or.inr (Or.inr (Or.inl ‹_›)))))) | exact Or.inr (Or.inr (Or.inr (Or.inr (Or.inr (Or.inr (Or.inr ‹_›))))))))]; exact ⟨rfl, rfl⟩)
        | (rw [if_neg (fun q => by rw [isSg_spec] at q; rcases q with q | q | q | q | q | q | q | q <;> contradiction)]; exact ⟨rfl, rfl⟩)
  · refine ev_iload_n dX4_signKind_6 rfl ?_
    refine ev_bipush (v := 41) dX4_signKind_7 (by decide) ?_
    refine ev_icmp_eq (tgt := 48) dX4_signKind_9 (by decide) (fun h9 => ?_) (fun h9 => ?_)
    · refine ev_iconst (v := 1) dX4_signKind_48 (by decide) ?_
      refine ev_goto (tgt := 53) dX4_signKind_49 (by decide) ?_
      refine ev_istore_n dX4_signKind_53 (by decide) ?_
      dsimp only [List.set]
      refine ev_iload_n dX4_signKind_54 rfl ?_
      refine ev_if_eq (tgt := 62) dX4_signKind_55 (by decide) (fun h55 => ?_) (fun h55 => ?_)
      · refine ev_iconst (v := 1) dX4_signKind_62 (by decide) ?_
        refine ev_iret dX4_signKind_63 rfl ?_
        first
          | exact absurd rfl ‹¬ (1 : Int32) = 0›
          | exact absurd ‹(1 : Int32) = 0› (by decide)
          | exact absurd rfl ‹¬ (0 : Int32) = 0›
          | (rw [if_pos (isSg_spec.mpr (by first | exact Or.inl ‹_› | exact Or.inr (Or.inl ‹_›) | exact Or.inr (Or.inr (Or.inl ‹_›)) | exact Or.inr (Or.inr (Or.inr (Or.inl ‹_›))) | exact Or.inr (Or.inr (Or.inr (Or.inr (Or.inl ‹_›)))) | exact Or.inr (Or.inr (Or.inr (Or.inr (Or.inr (Or.inl ‹_›))))) | exact Or.inr (Or.inr (Or.inr (Or.inr (Or.inr (Or.inr (Or.inl ‹_›)))))) | exact Or.inr (Or.inr (Or.inr (Or.inr (Or.inr (Or.inr (Or.inr ‹_›))))))))]; exact ⟨rfl, rfl⟩)
          | (rw [if_neg (fun q => by rw [isSg_spec] at q; rcases q with q | q | q | q | q | q | q | q <;> contradiction)]; exact ⟨rfl, rfl⟩)
      · refine ev_iload_n dX4_signKind_58 rfl ?_
        refine ev_goto (tgt := 63) dX4_signKind_59 (by decide) ?_
        refine ev_iret dX4_signKind_63 rfl ?_
        first
          | exact absurd rfl ‹¬ (1 : Int32) = 0›
          | exact absurd ‹(1 : Int32) = 0› (by decide)
          | exact absurd rfl ‹¬ (0 : Int32) = 0›
          | (rw [if_pos (isSg_spec.mpr (by first | exact Or.inl ‹_› | exact Or.inr (Or.inl ‹_›) | exact Or.inr (Or.inr (Or.inl ‹_›)) | exact Or.inr (Or.inr (Or.inr (Or.inl ‹_›))) | exact Or.inr (Or.inr (Or.inr (Or.inr (Or.inl ‹_›)))) | exact Or.inr (Or.inr (Or.inr (Or.inr (Or.inr (Or.inl ‹_›))))) | exact Or.inr (Or.inr (Or.inr (Or.inr (Or.inr (Or.inr (Or.inl ‹_›)))))) | exact Or.inr (Or.inr (Or.inr (Or.inr (Or.inr (Or.inr (Or.inr ‹_›))))))))]; exact ⟨rfl, rfl⟩)
          | (rw [if_neg (fun q => by rw [isSg_spec] at q; rcases q with q | q | q | q | q | q | q | q <;> contradiction)]; exact ⟨rfl, rfl⟩)
    · refine ev_iload_n dX4_signKind_12 rfl ?_
      refine ev_bipush (v := 59) dX4_signKind_13 (by decide) ?_
      refine ev_icmp_eq (tgt := 48) dX4_signKind_15 (by decide) (fun h15 => ?_) (fun h15 => ?_)
      · refine ev_iconst (v := 1) dX4_signKind_48 (by decide) ?_
        refine ev_goto (tgt := 53) dX4_signKind_49 (by decide) ?_
        refine ev_istore_n dX4_signKind_53 (by decide) ?_
        dsimp only [List.set]
        refine ev_iload_n dX4_signKind_54 rfl ?_
        refine ev_if_eq (tgt := 62) dX4_signKind_55 (by decide) (fun h55 => ?_) (fun h55 => ?_)
        · refine ev_iconst (v := 1) dX4_signKind_62 (by decide) ?_
          refine ev_iret dX4_signKind_63 rfl ?_
          first
            | exact absurd rfl ‹¬ (1 : Int32) = 0›
            | exact absurd ‹(1 : Int32) = 0› (by decide)
            | exact absurd rfl ‹¬ (0 : Int32) = 0›
            | (rw [if_pos (isSg_spec.mpr (by first | exact Or.inl ‹_› | exact Or.inr (Or.inl ‹_›) | exact Or.inr (Or.inr (Or.inl ‹_›)) | exact Or.inr (Or.inr (Or.inr (Or.inl ‹_›))) | exact Or.inr (Or.inr (Or.inr (Or.inr (Or.inl ‹_›)))) | exact Or.inr (Or.inr (Or.inr (Or.inr (Or.inr (Or.inl ‹_›))))) | exact Or.inr (Or.inr (Or.inr (Or.inr (Or.inr (Or.inr (Or.inl ‹_›)))))) | exact Or.inr (Or.inr (Or.inr (Or.inr (Or.inr (Or.inr (Or.inr ‹_›))))))))]; exact ⟨rfl, rfl⟩)
            | (rw [if_neg (fun q => by rw [isSg_spec] at q; rcases q with q | q | q | q | q | q | q | q <;> contradiction)]; exact ⟨rfl, rfl⟩)
        · refine ev_iload_n dX4_signKind_58 rfl ?_
          refine ev_goto (tgt := 63) dX4_signKind_59 (by decide) ?_
          refine ev_iret dX4_signKind_63 rfl ?_
          first
            | exact absurd rfl ‹¬ (1 : Int32) = 0›
            | exact absurd ‹(1 : Int32) = 0› (by decide)
            | exact absurd rfl ‹¬ (0 : Int32) = 0›
            | (rw [if_pos (isSg_spec.mpr (by first | exact Or.inl ‹_› | exact Or.inr (Or.inl ‹_›) | exact Or.inr (Or.inr (Or.inl ‹_›)) | exact Or.inr (Or.inr (Or.inr (Or.inl ‹_›))) | exact Or.inr (Or.inr (Or.inr (Or.inr (Or.inl ‹_›)))) | exact Or.inr (Or.inr (Or.inr (Or.inr (Or.inr (Or.inl ‹_›))))) | exact Or.inr (Or.inr (Or.inr (Or.inr (Or.inr (Or.inr (Or.inl ‹_›)))))) | exact Or.inr (Or.inr (Or.inr (Or.inr (Or.inr (Or.inr (Or.inr ‹_›))))))))]; exact ⟨rfl, rfl⟩)
            | (rw [if_neg (fun q => by rw [isSg_spec] at q; rcases q with q | q | q | q | q | q | q | q <;> contradiction)]; exact ⟨rfl, rfl⟩)
      · refine ev_iload_n dX4_signKind_18 rfl ?_
        refine ev_bipush (v := 43) dX4_signKind_19 (by decide) ?_
        refine ev_icmp_eq (tgt := 48) dX4_signKind_21 (by decide) (fun h21 => ?_) (fun h21 => ?_)
        · refine ev_iconst (v := 1) dX4_signKind_48 (by decide) ?_
          refine ev_goto (tgt := 53) dX4_signKind_49 (by decide) ?_
          refine ev_istore_n dX4_signKind_53 (by decide) ?_
          dsimp only [List.set]
          refine ev_iload_n dX4_signKind_54 rfl ?_
          refine ev_if_eq (tgt := 62) dX4_signKind_55 (by decide) (fun h55 => ?_) (fun h55 => ?_)
          · refine ev_iconst (v := 1) dX4_signKind_62 (by decide) ?_
            refine ev_iret dX4_signKind_63 rfl ?_
            first
              | exact absurd rfl ‹¬ (1 : Int32) = 0›
              | exact absurd ‹(1 : Int32) = 0› (by decide)
              | exact absurd rfl ‹¬ (0 : Int32) = 0›
              | (rw [if_pos (isSg_spec.mpr (by first | exact Or.inl ‹_› | exact Or.inr (Or.inl ‹_›) | exact Or.inr (Or.inr (Or.inl ‹_›)) | exact Or.inr (Or.inr (Or.inr (Or.inl ‹_›))) | exact Or.inr (Or.inr (Or.inr (Or.inr (Or.inl ‹_›)))) | exact Or.inr (Or.inr (Or.inr (Or.inr (Or.inr (Or.inl ‹_›))))) | exact Or.inr (Or.inr (Or.inr (Or.inr (Or.inr (Or.inr (Or.inl ‹_›)))))) | exact Or.inr (Or.inr (Or.inr (Or.inr (Or.inr (Or.inr (Or.inr ‹_›))))))))]; exact ⟨rfl, rfl⟩)
              | (rw [if_neg (fun q => by rw [isSg_spec] at q; rcases q with q | q | q | q | q | q | q | q <;> contradiction)]; exact ⟨rfl, rfl⟩)
          · refine ev_iload_n dX4_signKind_58 rfl ?_
            refine ev_goto (tgt := 63) dX4_signKind_59 (by decide) ?_
            refine ev_iret dX4_signKind_63 rfl ?_
            first
              | exact absurd rfl ‹¬ (1 : Int32) = 0›
              | exact absurd ‹(1 : Int32) = 0› (by decide)
              | exact absurd rfl ‹¬ (0 : Int32) = 0›
              | (rw [if_pos (isSg_spec.mpr (by first | exact Or.inl ‹_› | exact Or.inr (Or.inl ‹_›) | exact Or.inr (Or.inr (Or.inl ‹_›)) | exact Or.inr (Or.inr (Or.inr (Or.inl ‹_›))) | exact Or.inr (Or.inr (Or.inr (Or.inr (Or.inl ‹_›)))) | exact Or.inr (Or.inr (Or.inr (Or.inr (Or.inr (Or.inl ‹_›))))) | exact Or.inr (Or.inr (Or.inr (Or.inr (Or.inr (Or.inr (Or.inl ‹_›)))))) | exact Or.inr (Or.inr (Or.inr (Or.inr (Or.inr (Or.inr (Or.inr ‹_›))))))))]; exact ⟨rfl, rfl⟩)
              | (rw [if_neg (fun q => by rw [isSg_spec] at q; rcases q with q | q | q | q | q | q | q | q <;> contradiction)]; exact ⟨rfl, rfl⟩)
        · refine ev_iload_n dX4_signKind_24 rfl ?_
          refine ev_bipush (v := 45) dX4_signKind_25 (by decide) ?_
          refine ev_icmp_eq (tgt := 48) dX4_signKind_27 (by decide) (fun h27 => ?_) (fun h27 => ?_)
          · refine ev_iconst (v := 1) dX4_signKind_48 (by decide) ?_
            refine ev_goto (tgt := 53) dX4_signKind_49 (by decide) ?_
            refine ev_istore_n dX4_signKind_53 (by decide) ?_
            dsimp only [List.set]
            refine ev_iload_n dX4_signKind_54 rfl ?_
            refine ev_if_eq (tgt := 62) dX4_signKind_55 (by decide) (fun h55 => ?_) (fun h55 => ?_)
            · refine ev_iconst (v := 1) dX4_signKind_62 (by decide) ?_
              refine ev_iret dX4_signKind_63 rfl ?_
              first
                | exact absurd rfl ‹¬ (1 : Int32) = 0›
                | exact absurd ‹(1 : Int32) = 0› (by decide)
                | exact absurd rfl ‹¬ (0 : Int32) = 0›
                | (rw [if_pos (isSg_spec.mpr (by first | exact Or.inl ‹_› | exact Or.inr (Or.inl ‹_›) | exact Or.inr (Or.inr (Or.inl ‹_›)) | exact Or.inr (Or.inr (Or.inr (Or.inl ‹_›))) | exact Or.inr (Or.inr (Or.inr (Or.inr (Or.inl ‹_›)))) | exact Or.inr (Or.inr (Or.inr (Or.inr (Or.inr (Or.inl ‹_›))))) | exact Or.inr (Or.inr (Or.inr (Or.inr (Or.inr (Or.inr (Or.inl ‹_›)))))) | exact Or.inr (Or.inr (Or.inr (Or.inr (Or.inr (Or.inr (Or.inr ‹_›))))))))]; exact ⟨rfl, rfl⟩)
                | (rw [if_neg (fun q => by rw [isSg_spec] at q; rcases q with q | q | q | q | q | q | q | q <;> contradiction)]; exact ⟨rfl, rfl⟩)
            · refine ev_iload_n dX4_signKind_58 rfl ?_
              refine ev_goto (tgt := 63) dX4_signKind_59 (by decide) ?_
              refine ev_iret dX4_signKind_63 rfl ?_
              first
                | exact absurd rfl ‹¬ (1 : Int32) = 0›
                | exact absurd ‹(1 : Int32) = 0› (by decide)
                | exact absurd rfl ‹¬ (0 : Int32) = 0›
                | (rw [if_pos (isSg_spec.mpr (by first | exact Or.inl ‹_› | exact Or.inr (Or.inl ‹_›) | exact Or.inr (Or.inr (Or.inl ‹_›)) | exact Or.inr (Or.inr (Or.inr (Or.inl ‹_›))) | exact Or.inr (Or.inr (Or.inr (Or.inr (Or.inl ‹_›)))) | exact Or.inr (Or.inr (Or.inr (Or.inr (Or.inr (Or.inl ‹_›))))) | exact Or.inr (Or.inr (Or.inr (Or.inr (Or.inr (Or.inr (Or.inl ‹_›)))))) | exact Or.inr (Or.inr (Or.inr (Or.inr (Or.inr (Or.inr (Or.inr ‹_›))))))))]; exact ⟨rfl, rfl⟩)
                | (rw [if_neg (fun q => by rw [isSg_spec] at q; rcases q with q | q | q | q | q | q | q | q <;> contradiction)]; exact ⟨rfl, rfl⟩)
          · refine ev_iload_n dX4_signKind_30 rfl ?_
            refine ev_bipush (v := 42) dX4_signKind_31 (by decide) ?_
            refine ev_icmp_eq (tgt := 48) dX4_signKind_33 (by decide) (fun h33 => ?_) (fun h33 => ?_)
            · refine ev_iconst (v := 1) dX4_signKind_48 (by decide) ?_
              refine ev_goto (tgt := 53) dX4_signKind_49 (by decide) ?_
              refine ev_istore_n dX4_signKind_53 (by decide) ?_
              dsimp only [List.set]
              refine ev_iload_n dX4_signKind_54 rfl ?_
              refine ev_if_eq (tgt := 62) dX4_signKind_55 (by decide) (fun h55 => ?_) (fun h55 => ?_)
              · refine ev_iconst (v := 1) dX4_signKind_62 (by decide) ?_
                refine ev_iret dX4_signKind_63 rfl ?_
                first
                  | exact absurd rfl ‹¬ (1 : Int32) = 0›
                  | exact absurd ‹(1 : Int32) = 0› (by decide)
                  | exact absurd rfl ‹¬ (0 : Int32) = 0›
                  | (rw [if_pos (isSg_spec.mpr (by first | exact Or.inl ‹_› | exact Or.inr (Or.inl ‹_›) | exact Or.inr (Or.inr (Or.inl ‹_›)) | exact Or.inr (Or.inr (Or.inr (Or.inl ‹_›))) | exact Or.inr (Or.inr (Or.inr (Or.inr (Or.inl ‹_›)))) | exact Or.inr (Or.inr (Or.inr (Or.inr (Or.inr (Or.inl ‹_›))))) | exact Or.inr (Or.inr (Or.inr (Or.inr (Or.inr (Or.inr (Or.inl ‹_›)))))) | exact Or.inr (Or.inr (Or.inr (Or.inr (Or.inr (Or.inr (Or.inr ‹_›))))))))]; exact ⟨rfl, rfl⟩)
                  | (rw [if_neg (fun q => by rw [isSg_spec] at q; rcases q with q | q | q | q | q | q | q | q <;> contradiction)]; exact ⟨rfl, rfl⟩)
              · refine ev_iload_n dX4_signKind_58 rfl ?_
                refine ev_goto (tgt := 63) dX4_signKind_59 (by decide) ?_
                refine ev_iret dX4_signKind_63 rfl ?_
                first
                  | exact absurd rfl ‹¬ (1 : Int32) = 0›
                  | exact absurd ‹(1 : Int32) = 0› (by decide)
                  | exact absurd rfl ‹¬ (0 : Int32) = 0›
                  | (rw [if_pos (isSg_spec.mpr (by first | exact Or.inl ‹_› | exact Or.inr (Or.inl ‹_›) | exact Or.inr (Or.inr (Or.inl ‹_›)) | exact Or.inr (Or.inr (Or.inr (Or.inl ‹_›))) | exact Or.inr (Or.inr (Or.inr (Or.inr (Or.inl ‹_›)))) | exact Or.inr (Or.inr (Or.inr (Or.inr (Or.inr (Or.inl ‹_›))))) | exact Or.inr (Or.inr (Or.inr (Or.inr (Or.inr (Or.inr (Or.inl ‹_›)))))) | exact Or.inr (Or.inr (Or.inr (Or.inr (Or.inr (Or.inr (Or.inr ‹_›))))))))]; exact ⟨rfl, rfl⟩)
                  | (rw [if_neg (fun q => by rw [isSg_spec] at q; rcases q with q | q | q | q | q | q | q | q <;> contradiction)]; exact ⟨rfl, rfl⟩)
            · refine ev_iload_n dX4_signKind_36 rfl ?_
              refine ev_bipush (v := 60) dX4_signKind_37 (by decide) ?_
              refine ev_icmp_eq (tgt := 48) dX4_signKind_39 (by decide) (fun h39 => ?_) (fun h39 => ?_)
              · refine ev_iconst (v := 1) dX4_signKind_48 (by decide) ?_
                refine ev_goto (tgt := 53) dX4_signKind_49 (by decide) ?_
                refine ev_istore_n dX4_signKind_53 (by decide) ?_
                dsimp only [List.set]
                refine ev_iload_n dX4_signKind_54 rfl ?_
                refine ev_if_eq (tgt := 62) dX4_signKind_55 (by decide) (fun h55 => ?_) (fun h55 => ?_)
                · refine ev_iconst (v := 1) dX4_signKind_62 (by decide) ?_
                  refine ev_iret dX4_signKind_63 rfl ?_
                  first
                    | exact absurd rfl ‹¬ (1 : Int32) = 0›
                    | exact absurd ‹(1 : Int32) = 0› (by decide)
                    | exact absurd rfl ‹¬ (0 : Int32) = 0›
                    | (rw [if_pos (isSg_spec.mpr (by first | exact Or.inl ‹_› | exact Or.inr (Or.inl ‹_›) | exact Or.inr (Or.inr (Or.inl ‹_›)) | exact Or.inr (Or.inr (Or.inr (Or.inl ‹_›))) | exact Or.inr (Or.inr (Or.inr (Or.inr (Or.inl ‹_›)))) | exact Or.inr (Or.inr (Or.inr (Or.inr (Or.inr (Or.inl ‹_›))))) | exact Or.inr (Or.inr (Or.inr (Or.inr (Or.inr (Or.inr (Or.inl ‹_›)))))) | exact Or.inr (Or.inr (Or.inr (Or.inr (Or.inr (Or.inr (Or.inr ‹_›))))))))]; exact ⟨rfl, rfl⟩)
                    | (rw [if_neg (fun q => by rw [isSg_spec] at q; rcases q with q | q | q | q | q | q | q | q <;> contradiction)]; exact ⟨rfl, rfl⟩)
                · refine ev_iload_n dX4_signKind_58 rfl ?_
                  refine ev_goto (tgt := 63) dX4_signKind_59 (by decide) ?_
                  refine ev_iret dX4_signKind_63 rfl ?_
                  first
                    | exact absurd rfl ‹¬ (1 : Int32) = 0›
                    | exact absurd ‹(1 : Int32) = 0› (by decide)
                    | exact absurd rfl ‹¬ (0 : Int32) = 0›
                    | (rw [if_pos (isSg_spec.mpr (by first | exact Or.inl ‹_› | exact Or.inr (Or.inl ‹_›) | exact Or.inr (Or.inr (Or.inl ‹_›)) | exact Or.inr (Or.inr (Or.inr (Or.inl ‹_›))) | exact Or.inr (Or.inr (Or.inr (Or.inr (Or.inl ‹_›)))) | exact Or.inr (Or.inr (Or.inr (Or.inr (Or.inr (Or.inl ‹_›))))) | exact Or.inr (Or.inr (Or.inr (Or.inr (Or.inr (Or.inr (Or.inl ‹_›)))))) | exact Or.inr (Or.inr (Or.inr (Or.inr (Or.inr (Or.inr (Or.inr ‹_›))))))))]; exact ⟨rfl, rfl⟩)
                    | (rw [if_neg (fun q => by rw [isSg_spec] at q; rcases q with q | q | q | q | q | q | q | q <;> contradiction)]; exact ⟨rfl, rfl⟩)
              · refine ev_iload_n dX4_signKind_42 rfl ?_
                refine ev_bipush (v := 61) dX4_signKind_43 (by decide) ?_
                refine ev_icmp_ne (tgt := 52) dX4_signKind_45 (by decide) (fun h45 => ?_) (fun h45 => ?_)
                · refine ev_iconst (v := 0) dX4_signKind_52 (by decide) ?_
                  refine ev_istore_n dX4_signKind_53 (by decide) ?_
                  dsimp only [List.set]
                  refine ev_iload_n dX4_signKind_54 rfl ?_
                  refine ev_if_eq (tgt := 62) dX4_signKind_55 (by decide) (fun h55 => ?_) (fun h55 => ?_)
                  · refine ev_iconst (v := 1) dX4_signKind_62 (by decide) ?_
                    refine ev_iret dX4_signKind_63 rfl ?_
                    first
                      | exact absurd rfl ‹¬ (1 : Int32) = 0›
                      | exact absurd ‹(1 : Int32) = 0› (by decide)
                      | exact absurd rfl ‹¬ (0 : Int32) = 0›
                      | (rw [if_pos (isSg_spec.mpr (by first | exact Or.inl ‹_› | exact Or.inr (Or.inl ‹_›) | exact Or.inr (Or.inr (Or.inl ‹_›)) | exact Or.inr (Or.inr (Or.inr (Or.inl ‹_›))) | exact Or.inr (Or.inr (Or.inr (Or.inr (Or.inl ‹_›)))) | exact Or.inr (Or.inr (Or.inr (Or.inr (Or.inr (Or.inl ‹_›))))) | exact Or.inr (Or.inr (Or.inr (Or.inr (Or.inr (Or.inr (Or.inl ‹_›)))))) | exact Or.inr (Or.inr (Or.inr (Or.inr (Or.inr (Or.inr (Or.inr ‹_›))))))))]; exact ⟨rfl, rfl⟩)
                      | (rw [if_neg (fun q => by rw [isSg_spec] at q; rcases q with q | q | q | q | q | q | q | q <;> contradiction)]; exact ⟨rfl, rfl⟩)
                  · refine ev_iload_n dX4_signKind_58 rfl ?_
                    refine ev_goto (tgt := 63) dX4_signKind_59 (by decide) ?_
                    refine ev_iret dX4_signKind_63 rfl ?_
                    first
                      | exact absurd rfl ‹¬ (1 : Int32) = 0›
                      | exact absurd ‹(1 : Int32) = 0› (by decide)
                      | exact absurd rfl ‹¬ (0 : Int32) = 0›
                      | (rw [if_pos (isSg_spec.mpr (by first | exact Or.inl ‹_› | exact Or.inr (Or.inl ‹_›) | exact Or.inr (Or.inr (Or.inl ‹_›)) | exact Or.inr (Or.inr (Or.inr (Or.inl ‹_›))) | exact Or.inr (Or.inr (Or.inr (Or.inr (Or.inl ‹_›)))) | exact Or.inr (Or.inr (Or.inr (Or.inr (Or.inr (Or.inl ‹_›))))) | exact Or.inr (Or.inr (Or.inr (Or.inr (Or.inr (Or.inr (Or.inl ‹_›)))))) | exact Or.inr (Or.inr (Or.inr (Or.inr (Or.inr (Or.inr (Or.inr ‹_›))))))))]; exact ⟨rfl, rfl⟩)
                      | (rw [if_neg (fun q => by rw [isSg_spec] at q; rcases q with q | q | q | q | q | q | q | q <;> contradiction)]; exact ⟨rfl, rfl⟩)
                · refine ev_iconst (v := 1) dX4_signKind_48 (by decide) ?_
                  refine ev_goto (tgt := 53) dX4_signKind_49 (by decide) ?_
                  refine ev_istore_n dX4_signKind_53 (by decide) ?_
                  dsimp only [List.set]
                  refine ev_iload_n dX4_signKind_54 rfl ?_
                  refine ev_if_eq (tgt := 62) dX4_signKind_55 (by decide) (fun h55 => ?_) (fun h55 => ?_)
                  · refine ev_iconst (v := 1) dX4_signKind_62 (by decide) ?_
                    refine ev_iret dX4_signKind_63 rfl ?_
                    first
                      | exact absurd rfl ‹¬ (1 : Int32) = 0›
                      | exact absurd ‹(1 : Int32) = 0› (by decide)
                      | exact absurd rfl ‹¬ (0 : Int32) = 0›
                      | (rw [if_pos (isSg_spec.mpr (by first | exact Or.inl ‹_› | exact Or.inr (Or.inl ‹_›) | exact Or.inr (Or.inr (Or.inl ‹_›)) | exact Or.inr (Or.inr (Or.inr (Or.inl ‹_›))) | exact Or.inr (Or.inr (Or.inr (Or.inr (Or.inl ‹_›)))) | exact Or.inr (Or.inr (Or.inr (Or.inr (Or.inr (Or.inl ‹_›))))) | exact Or.inr (Or.inr (Or.inr (Or.inr (Or.inr (Or.inr (Or.inl ‹_›)))))) | exact Or.inr (Or.inr (Or.inr (Or.inr (Or.inr (Or.inr (Or.inr ‹_›))))))))]; exact ⟨rfl, rfl⟩)
                      | (rw [if_neg (fun q => by rw [isSg_spec] at q; rcases q with q | q | q | q | q | q | q | q <;> contradiction)]; exact ⟨rfl, rfl⟩)
                  · refine ev_iload_n dX4_signKind_58 rfl ?_
                    refine ev_goto (tgt := 63) dX4_signKind_59 (by decide) ?_
                    refine ev_iret dX4_signKind_63 rfl ?_
                    first
                      | exact absurd rfl ‹¬ (1 : Int32) = 0›
                      | exact absurd ‹(1 : Int32) = 0› (by decide)
                      | exact absurd rfl ‹¬ (0 : Int32) = 0›
                      | (rw [if_pos (isSg_spec.mpr (by first | exact Or.inl ‹_› | exact Or.inr (Or.inl ‹_›) | exact Or.inr (Or.inr (Or.inl ‹_›)) | exact Or.inr (Or.inr (Or.inr (Or.inl ‹_›))) | exact Or.inr (Or.inr (Or.inr (Or.inr (Or.inl ‹_›)))) | exact Or.inr (Or.inr (Or.inr (Or.inr (Or.inr (Or.inl ‹_›))))) | exact Or.inr (Or.inr (Or.inr (Or.inr (Or.inr (Or.inr (Or.inl ‹_›)))))) | exact Or.inr (Or.inr (Or.inr (Or.inr (Or.inr (Or.inr (Or.inr ‹_›))))))))]; exact ⟨rfl, rfl⟩)
                      | (rw [if_neg (fun q => by rw [isSg_spec] at q; rcases q with q | q | q | q | q | q | q | q <;> contradiction)]; exact ⟨rfl, rfl⟩)
theorem l_spells {μ : Mm} (hO : RDo r f T C μ) (hT : RT T tp) {run rest : List Int32} (hs : Sfx tp (run ++ rest)) (h1 : f 1 = nI (psn tp (run ++ rest))) {k : Nat} (hk : k < 13) (hl : run.length = scN.getD k 0) : ∀ (m j : Nat), j + m = scN.getD k 0 → (∀ i, i < j → run[i]? = (scB.getD k [])[i]?) → Ev g 4 mX4_spells 20 [some (.ref r), some (.ref (gS g (10 + k))), some (.int (nI j))] [] μ (fun v μ' => v = some (.int (b2i (run = scB.getD k []))) ∧ μ' = μ) := by
  have h160 := hT.1
  have hle := hs.le
  have hbl := scN_len k hk
  have h60 := scN_lt k hk
  simp only [List.length_append] at hle
  intro m
  induction m with
  | zero =>
    intro j hj hi
    refine ev_iload_n dX4_spells_20 rfl ?_
    refine ev_aload_n dX4_spells_21 rfl ?_
    refine ev_callS ((c_sLen hk).mono (by decide)) hk dX4_spells_22 cbJ0_length_8abf5 (mt2 7 rfl rfl) (mt1 176 rfl rfl) (mt1 177 rfl rfl) rfl rfl (Nat.le_of_ble_eq_true rfl) (fun v μ1 hq ↦ ?_)
    obtain ⟨rfl, hμ⟩ := hq
    have hμ := hμ.symm
    subst hμ
    simp only [Option.toList, List.cons_append, List.nil_append]
    refine ev_icmp_ge (tgt := 55) dX4_spells_25 (by decide) (fun _ => ?_) (fun h25 => absurd ((show nI (scN.getD k 0) ≤ nI j from nI_le (by omega) (by omega))) h25)
    refine ev_iconst (v := 1) dX4_spells_55 (by decide) ?_
    refine ev_zret dX4_spells_56 rfl (by decide) ?_
    refine ⟨?_, rfl⟩
    rw [b2i_t]
    apply List.ext_getElem?
    intro i
    by_cases q : i < j
    · exact hi i q
    · rw [List.getElem?_eq_none (by omega), List.getElem?_eq_none (by omega)]
  | succ m ih =>
    intro j hj hi
    have hjr : run[j]? = some (run.getD j 0) := gd (by omega)
    have hjw : (scB.getD k [])[j]? = some (scb k j) := gd (by omega)
    have ht : tp[psn tp (run ++ rest) + j]? = some (run.getD j 0) := by
      rw [hs.at, List.getElem?_append_left (by omega)]
      exact hjr
    refine ev_iload_n dX4_spells_20 rfl ?_
    refine ev_aload_n dX4_spells_21 rfl ?_
    refine ev_callS ((c_sLen hk).mono (by decide)) hk dX4_spells_22 cbJ0_length_8abf5 (mt2 7 rfl rfl) (mt1 176 rfl rfl) (mt1 177 rfl rfl) rfl rfl (Nat.le_of_ble_eq_true rfl) (fun v μ1 hq ↦ ?_)
    obtain ⟨rfl, hμ⟩ := hq
    have hμ := hμ.symm
    subst hμ
    simp only [Option.toList, List.cons_append, List.nil_append]
    refine ev_icmp_ge (tgt := 55) dX4_spells_25 (by decide) (fun h25 => absurd h25 ((show ¬ nI (scN.getD k 0) ≤ nI j from nI_ge (by omega) (by omega)))) (fun _ => ?_)
    refine ev_aload_n dX4_spells_28 rfl ?_
    refine ev_get dX4_spells_29 flX4_18_4 hO.1 rfl ?_
    refine ev_aload_n dX4_spells_32 rfl ?_
    refine ev_get dX4_spells_33 flX4_15_4 hO.1 rfl ?_
    refine ev_iload_n dX4_spells_36 rfl ?_
    refine ev_iadd dX4_spells_37 ?_
    rw [h1, nI_add]
    refine ev_iald dX4_spells_38 hO.2.1 (ix_n (by simp only [psn, List.length_append]; omega)) (hT.2 _ _ ht) ?_
    refine ev_aload_n dX4_spells_39 rfl ?_
    refine ev_iload_n dX4_spells_40 rfl ?_
    refine ev_callS (c_chr hk (j := j) (by omega)) hk dX4_spells_41 cbJ0_charAt_5068e (mt2 8 rfl rfl) (mt1 186 rfl rfl) (mt1 187 rfl rfl) rfl rfl (Nat.le_of_ble_eq_true rfl) (fun v μ1 hq ↦ ?_)
    obtain ⟨rfl, hμ⟩ := hq
    have hμ := hμ.symm
    subst hμ
    simp only [Option.toList, List.cons_append, List.nil_append]
    refine ev_icmp_eq (tgt := 49) dX4_spells_44 (by decide) (fun h44 => ?_) (fun h44 => ?_)
    · refine ev_iinc dX4_spells_49 rfl (by decide) ?_
      dsimp only [List.set]
      refine ev_goto (tgt := 20) dX4_spells_52 (by decide) ?_
      rw [nI_inc]
      refine ih (j + 1) (by omega) (fun i q => ?_)
      by_cases q2 : i < j
      · exact hi i q2
      · rw [show i = j by omega, hjr, hjw, h44]
    · refine ev_iconst (v := 0) dX4_spells_47 (by decide) ?_
      refine ev_zret dX4_spells_48 rfl (by decide) ?_
      refine ⟨?_, rfl⟩
      rw [b2i_f (fun q => h44 (by have e := hjw; rw [← q, hjr] at e; exact Option.some.inj e))]
theorem c_spells {μ : Mm} (hO : RDo r f T C μ) (hT : RT T tp) {run rest : List Int32} (hs : Sfx tp (run ++ rest)) (h1 : f 1 = nI (psn tp (run ++ rest))) (h5 : f 5 = nI (psn tp rest)) {k : Nat} (hk : k < 13) : Pu g 4 mX4_spells [.ref r, .ref (gS g (10 + k))] μ (b2i (run = scB.getD k [])) := by
  refine Mt.of0 (ls0 := [some (.ref r), some (.ref (gS g (10 + k))), none]) (by decide) (by simp [Value.category]) (Nat.le_of_ble_eq_true rfl) rfl ?_
  have h160 := hT.1
  have hle := hs.le
  have hbl := scN_len k hk
  have h60 := scN_lt k hk
  simp only [List.length_append] at hle
  have e1 : f 5 - f 1 = nI run.length := by
    rw [h5, h1, nI_sub (by simp only [psn, List.length_append]; omega)]
    congr 1
    simp only [psn, List.length_append]
    omega
  refine ev_aload_n dX4_spells_0 rfl ?_
  refine ev_get dX4_spells_1 flX4_28_4 hO.1 rfl ?_
  refine ev_aload_n dX4_spells_4 rfl ?_
  refine ev_get dX4_spells_5 flX4_15_4 hO.1 rfl ?_
  refine ev_isub dX4_spells_8 ?_
  rw [e1]
  refine ev_aload_n dX4_spells_9 rfl ?_
  refine ev_callS ((c_sLen hk).mono (by decide)) hk dX4_spells_10 cbJ0_length_8abf5 (mt2 7 rfl rfl) (mt1 176 rfl rfl) (mt1 177 rfl rfl) rfl rfl (Nat.le_of_ble_eq_true rfl) (fun v μ1 hq ↦ ?_)
  obtain ⟨rfl, hμ⟩ := hq
  have hμ := hμ.symm
  subst hμ
  simp only [Option.toList, List.cons_append, List.nil_append]
  refine ev_icmp_eq (tgt := 18) dX4_spells_13 (by decide) (fun h13 => ?_) (fun h13 => ?_)
  · refine ev_iconst (v := 0) dX4_spells_18 (by decide) ?_
    refine ev_istore_n dX4_spells_19 (by decide) ?_
    dsimp only [List.set]
    exact l_spells hO hT hs h1 hk ((nI_eq (by omega) (by omega)).mp h13) (scN.getD k 0) 0 (by omega) (fun i q => absurd q (by omega))
  · refine ev_iconst (v := 0) dX4_spells_16 (by decide) ?_
    refine ev_zret dX4_spells_17 rfl (by decide) ?_
    refine ⟨?_, rfl⟩
    rw [b2i_f (fun q => h13 (by rw [q, hbl]))]
end KLEX
