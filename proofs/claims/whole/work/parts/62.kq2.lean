/-! ===== the class: told, count, taken, drop, away, thrownBy, chance ===== -/
section INST
variable {g : Gl} {d : Nat} {Y : Md} {pc : Nat} {ls : List (Option Value)} {st : List Value} {μ : Mm} {Q : Option Value → Mm → Prop}
theorem ev_instS {idx a ci : Nat} {fs : List Value} {C : String} {T : u_T} {N : Nat} (hd : decode (mC Y) pc = .ok (.instanceof idx, 3)) (hl : Cond.classLink (mY Y).cls idx C ∈ GT) (hm : μ.1 a = some (obj ci fs)) (hc : vwCl[ci]? = some (C, T, N)) (kk : Ev g d Y (pc + 3) ls (.int 1 :: st) μ Q) : Ev g d Y pc ls (.ref a :: st) μ Q := by
  refine ev_w (fun p e s m args below meth c R H locs cells slots Q' la X hR hS hL kk => ?_) kk
  exact va_instS X.1.1 X.1.2.1 X.1.2.2.2.2.2.2 (X.2.1 _ hl) (X.2.2.1.1.1 ci _ hc).2 (rcv_of X.2.2.1 hR hm hc) hd kk
end INST
section KQ2
variable {g : Gl} {a m tx n t : Nat} {ρ : MS} {cd : Nat → List Int32} {Lf : Nat → Nat} {σ : KS} {μ : Mm}
abbrev und (K k : Int32) : Int32 := b2i (K = k ∨ k = 0 ∨ (k = 1 ∧ (K = 3 ∨ K = 5)) ∨ (k = 2 ∧ K = 4))
theorem c_kOfKind0 {w : Nat} {fs : List Value} (hm : μ.1 w = some (obj 0 fs)) {k : Int32} (h0 : 0 ≤ k) (h5 : k ≤ 5) : Pu g 0 mX11_isOfKind [.ref w, .int k] μ (und (kdC 0) k) := by
  refine Mt.of0 (ls0 := [some (.ref w), some (.int k)]) (by decide) (by simp [Value.category]) (Nat.le_of_ble_eq_true rfl) rfl ?_
  refine ev_iload_n dX11_isOfKind_0 rfl ?_
  by_cases hs1 : (k).toInt < 0 ∨ 5 < (k).toInt
  · refine ev_tout (tgt := 67) dX11_isOfKind_1 hs1 (by decide) ?_
    have hn1_0 : ¬ (k) = 0 := fun q => by rw [q] at hs1; revert hs1; decide
    have hn1_1 : ¬ (k) = 1 := fun q => by rw [q] at hs1; revert hs1; decide
    have hn1_2 : ¬ (k) = 2 := fun q => by rw [q] at hs1; revert hs1; decide
    have hn1_3 : ¬ (k) = 3 := fun q => by rw [q] at hs1; revert hs1; decide
    have hn1_4 : ¬ (k) = 4 := fun q => by rw [q] at hs1; revert hs1; decide
    have hn1_5 : ¬ (k) = 5 := fun q => by rw [q] at hs1; revert hs1; decide
    refine ev_iconst (v := 0) dX11_isOfKind_67 (by decide) ?_
    refine ev_zret dX11_isOfKind_68 rfl (by decide) ?_
    first
      | (rw [he1]; exact ⟨rfl, rfl⟩)
      | (exfalso; rw [Int32.le_iff_toInt_le] at h0 h5; simp only [Int32.reduceToInt] at h0 h5; omega)
  have hs1 : (k).toInt = 0 ∨ (k).toInt = 1 ∨ (k).toInt = 2 ∨ (k).toInt = 3 ∨ (k).toInt = 4 ∨ (k).toInt = 5 := by omega
  rcases hs1 with hs1 | hs1 | hs1 | hs1 | hs1 | hs1
  · refine ev_tin (off := 39) (tgt := 40) dX11_isOfKind_1 (by omega) (by omega) (by rw [hs1]; rfl) (by decide) ?_
    have he1 : (k) = 0 := Int32.toInt_inj.mp (hs1.trans (by decide))
    refine ev_iconst (v := 1) dX11_isOfKind_40 (by decide) ?_
    refine ev_zret dX11_isOfKind_41 rfl (by decide) ?_
    first
      | (rw [he1]; exact ⟨rfl, rfl⟩)
      | (exfalso; rw [Int32.le_iff_toInt_le] at h0 h5; simp only [Int32.reduceToInt] at h0 h5; omega)
  · refine ev_tin (off := 41) (tgt := 42) dX11_isOfKind_1 (by omega) (by omega) (by rw [hs1]; rfl) (by decide) ?_
    have he1 : (k) = 1 := Int32.toInt_inj.mp (hs1.trans (by decide))
    refine ev_aload_n dX11_isOfKind_42 rfl ?_
    refine ev_instNo dX11_isOfKind_43 (mt2 183 rfl rfl) hm (ci := 0) rfl (List.mem_of_getElem? (i := 16) rfl) ?_
    refine ev_zret dX11_isOfKind_46 rfl (by decide) ?_
    first
      | (rw [he1]; exact ⟨rfl, rfl⟩)
      | (exfalso; rw [Int32.le_iff_toInt_le] at h0 h5; simp only [Int32.reduceToInt] at h0 h5; omega)
  · refine ev_tin (off := 46) (tgt := 47) dX11_isOfKind_1 (by omega) (by omega) (by rw [hs1]; rfl) (by decide) ?_
    have he1 : (k) = 2 := Int32.toInt_inj.mp (hs1.trans (by decide))
    refine ev_aload_n dX11_isOfKind_47 rfl ?_
    refine ev_instY dX11_isOfKind_48 (mt2 227 rfl rfl) hm (ci := 0) rfl (List.mem_of_getElem? (i := 3) rfl) ?_
    refine ev_zret dX11_isOfKind_51 rfl (by decide) ?_
    first
      | (rw [he1]; exact ⟨rfl, rfl⟩)
      | (exfalso; rw [Int32.le_iff_toInt_le] at h0 h5; simp only [Int32.reduceToInt] at h0 h5; omega)
  · refine ev_tin (off := 51) (tgt := 52) dX11_isOfKind_1 (by omega) (by omega) (by rw [hs1]; rfl) (by decide) ?_
    have he1 : (k) = 3 := Int32.toInt_inj.mp (hs1.trans (by decide))
    refine ev_aload_n dX11_isOfKind_52 rfl ?_
    refine ev_instNo dX11_isOfKind_53 (mt2 239 rfl rfl) hm (ci := 0) rfl (List.mem_of_getElem? (i := 17) rfl) ?_
    refine ev_zret dX11_isOfKind_56 rfl (by decide) ?_
    first
      | (rw [he1]; exact ⟨rfl, rfl⟩)
      | (exfalso; rw [Int32.le_iff_toInt_le] at h0 h5; simp only [Int32.reduceToInt] at h0 h5; omega)
  · refine ev_tin (off := 56) (tgt := 57) dX11_isOfKind_1 (by omega) (by omega) (by rw [hs1]; rfl) (by decide) ?_
    have he1 : (k) = 4 := Int32.toInt_inj.mp (hs1.trans (by decide))
    refine ev_aload_n dX11_isOfKind_57 rfl ?_
    refine ev_instS dX11_isOfKind_58 (mt3 11 rfl rfl) hm (ci := 0) rfl ?_
    refine ev_zret dX11_isOfKind_61 rfl (by decide) ?_
    first
      | (rw [he1]; exact ⟨rfl, rfl⟩)
      | (exfalso; rw [Int32.le_iff_toInt_le] at h0 h5; simp only [Int32.reduceToInt] at h0 h5; omega)
  · refine ev_tin (off := 61) (tgt := 62) dX11_isOfKind_1 (by omega) (by omega) (by rw [hs1]; rfl) (by decide) ?_
    have he1 : (k) = 5 := Int32.toInt_inj.mp (hs1.trans (by decide))
    refine ev_aload_n dX11_isOfKind_62 rfl ?_
    refine ev_instNo dX11_isOfKind_63 (mt3 23 rfl rfl) hm (ci := 0) rfl (List.mem_of_getElem? (i := 18) rfl) ?_
    refine ev_zret dX11_isOfKind_66 rfl (by decide) ?_
    first
      | (rw [he1]; exact ⟨rfl, rfl⟩)
      | (exfalso; rw [Int32.le_iff_toInt_le] at h0 h5; simp only [Int32.reduceToInt] at h0 h5; omega)
theorem c_kOfKind1 {w : Nat} {fs : List Value} (hm : μ.1 w = some (obj 1 fs)) {k : Int32} (h0 : 0 ≤ k) (h5 : k ≤ 5) : Pu g 0 mX11_isOfKind [.ref w, .int k] μ (und (kdC 1) k) := by
  refine Mt.of0 (ls0 := [some (.ref w), some (.int k)]) (by decide) (by simp [Value.category]) (Nat.le_of_ble_eq_true rfl) rfl ?_
  refine ev_iload_n dX11_isOfKind_0 rfl ?_
  by_cases hs1 : (k).toInt < 0 ∨ 5 < (k).toInt
  · refine ev_tout (tgt := 67) dX11_isOfKind_1 hs1 (by decide) ?_
    have hn1_0 : ¬ (k) = 0 := fun q => by rw [q] at hs1; revert hs1; decide
    have hn1_1 : ¬ (k) = 1 := fun q => by rw [q] at hs1; revert hs1; decide
    have hn1_2 : ¬ (k) = 2 := fun q => by rw [q] at hs1; revert hs1; decide
    have hn1_3 : ¬ (k) = 3 := fun q => by rw [q] at hs1; revert hs1; decide
    have hn1_4 : ¬ (k) = 4 := fun q => by rw [q] at hs1; revert hs1; decide
    have hn1_5 : ¬ (k) = 5 := fun q => by rw [q] at hs1; revert hs1; decide
    refine ev_iconst (v := 0) dX11_isOfKind_67 (by decide) ?_
    refine ev_zret dX11_isOfKind_68 rfl (by decide) ?_
    first
      | (rw [he1]; exact ⟨rfl, rfl⟩)
      | (exfalso; rw [Int32.le_iff_toInt_le] at h0 h5; simp only [Int32.reduceToInt] at h0 h5; omega)
  have hs1 : (k).toInt = 0 ∨ (k).toInt = 1 ∨ (k).toInt = 2 ∨ (k).toInt = 3 ∨ (k).toInt = 4 ∨ (k).toInt = 5 := by omega
  rcases hs1 with hs1 | hs1 | hs1 | hs1 | hs1 | hs1
  · refine ev_tin (off := 39) (tgt := 40) dX11_isOfKind_1 (by omega) (by omega) (by rw [hs1]; rfl) (by decide) ?_
    have he1 : (k) = 0 := Int32.toInt_inj.mp (hs1.trans (by decide))
    refine ev_iconst (v := 1) dX11_isOfKind_40 (by decide) ?_
    refine ev_zret dX11_isOfKind_41 rfl (by decide) ?_
    first
      | (rw [he1]; exact ⟨rfl, rfl⟩)
      | (exfalso; rw [Int32.le_iff_toInt_le] at h0 h5; simp only [Int32.reduceToInt] at h0 h5; omega)
  · refine ev_tin (off := 41) (tgt := 42) dX11_isOfKind_1 (by omega) (by omega) (by rw [hs1]; rfl) (by decide) ?_
    have he1 : (k) = 1 := Int32.toInt_inj.mp (hs1.trans (by decide))
    refine ev_aload_n dX11_isOfKind_42 rfl ?_
    refine ev_instNo dX11_isOfKind_43 (mt2 183 rfl rfl) hm (ci := 1) rfl (List.mem_of_getElem? (i := 9) rfl) ?_
    refine ev_zret dX11_isOfKind_46 rfl (by decide) ?_
    first
      | (rw [he1]; exact ⟨rfl, rfl⟩)
      | (exfalso; rw [Int32.le_iff_toInt_le] at h0 h5; simp only [Int32.reduceToInt] at h0 h5; omega)
  · refine ev_tin (off := 46) (tgt := 47) dX11_isOfKind_1 (by omega) (by omega) (by rw [hs1]; rfl) (by decide) ?_
    have he1 : (k) = 2 := Int32.toInt_inj.mp (hs1.trans (by decide))
    refine ev_aload_n dX11_isOfKind_47 rfl ?_
    refine ev_instS dX11_isOfKind_48 (mt2 227 rfl rfl) hm (ci := 1) rfl ?_
    refine ev_zret dX11_isOfKind_51 rfl (by decide) ?_
    first
      | (rw [he1]; exact ⟨rfl, rfl⟩)
      | (exfalso; rw [Int32.le_iff_toInt_le] at h0 h5; simp only [Int32.reduceToInt] at h0 h5; omega)
  · refine ev_tin (off := 51) (tgt := 52) dX11_isOfKind_1 (by omega) (by omega) (by rw [hs1]; rfl) (by decide) ?_
    have he1 : (k) = 3 := Int32.toInt_inj.mp (hs1.trans (by decide))
    refine ev_aload_n dX11_isOfKind_52 rfl ?_
    refine ev_instNo dX11_isOfKind_53 (mt2 239 rfl rfl) hm (ci := 1) rfl (List.mem_of_getElem? (i := 10) rfl) ?_
    refine ev_zret dX11_isOfKind_56 rfl (by decide) ?_
    first
      | (rw [he1]; exact ⟨rfl, rfl⟩)
      | (exfalso; rw [Int32.le_iff_toInt_le] at h0 h5; simp only [Int32.reduceToInt] at h0 h5; omega)
  · refine ev_tin (off := 56) (tgt := 57) dX11_isOfKind_1 (by omega) (by omega) (by rw [hs1]; rfl) (by decide) ?_
    have he1 : (k) = 4 := Int32.toInt_inj.mp (hs1.trans (by decide))
    refine ev_aload_n dX11_isOfKind_57 rfl ?_
    refine ev_instNo dX11_isOfKind_58 (mt3 11 rfl rfl) hm (ci := 1) rfl (List.mem_of_getElem? (i := 11) rfl) ?_
    refine ev_zret dX11_isOfKind_61 rfl (by decide) ?_
    first
      | (rw [he1]; exact ⟨rfl, rfl⟩)
      | (exfalso; rw [Int32.le_iff_toInt_le] at h0 h5; simp only [Int32.reduceToInt] at h0 h5; omega)
  · refine ev_tin (off := 61) (tgt := 62) dX11_isOfKind_1 (by omega) (by omega) (by rw [hs1]; rfl) (by decide) ?_
    have he1 : (k) = 5 := Int32.toInt_inj.mp (hs1.trans (by decide))
    refine ev_aload_n dX11_isOfKind_62 rfl ?_
    refine ev_instNo dX11_isOfKind_63 (mt3 23 rfl rfl) hm (ci := 1) rfl (List.mem_of_getElem? (i := 12) rfl) ?_
    refine ev_zret dX11_isOfKind_66 rfl (by decide) ?_
    first
      | (rw [he1]; exact ⟨rfl, rfl⟩)
      | (exfalso; rw [Int32.le_iff_toInt_le] at h0 h5; simp only [Int32.reduceToInt] at h0 h5; omega)
theorem c_kOfKind2 {w : Nat} {fs : List Value} (hm : μ.1 w = some (obj 2 fs)) {k : Int32} (h0 : 0 ≤ k) (h5 : k ≤ 5) : Pu g 0 mX11_isOfKind [.ref w, .int k] μ (und (kdC 2) k) := by
  refine Mt.of0 (ls0 := [some (.ref w), some (.int k)]) (by decide) (by simp [Value.category]) (Nat.le_of_ble_eq_true rfl) rfl ?_
  refine ev_iload_n dX11_isOfKind_0 rfl ?_
  by_cases hs1 : (k).toInt < 0 ∨ 5 < (k).toInt
  · refine ev_tout (tgt := 67) dX11_isOfKind_1 hs1 (by decide) ?_
    have hn1_0 : ¬ (k) = 0 := fun q => by rw [q] at hs1; revert hs1; decide
    have hn1_1 : ¬ (k) = 1 := fun q => by rw [q] at hs1; revert hs1; decide
    have hn1_2 : ¬ (k) = 2 := fun q => by rw [q] at hs1; revert hs1; decide
    have hn1_3 : ¬ (k) = 3 := fun q => by rw [q] at hs1; revert hs1; decide
    have hn1_4 : ¬ (k) = 4 := fun q => by rw [q] at hs1; revert hs1; decide
    have hn1_5 : ¬ (k) = 5 := fun q => by rw [q] at hs1; revert hs1; decide
    refine ev_iconst (v := 0) dX11_isOfKind_67 (by decide) ?_
    refine ev_zret dX11_isOfKind_68 rfl (by decide) ?_
    first
      | (rw [he1]; exact ⟨rfl, rfl⟩)
      | (exfalso; rw [Int32.le_iff_toInt_le] at h0 h5; simp only [Int32.reduceToInt] at h0 h5; omega)
  have hs1 : (k).toInt = 0 ∨ (k).toInt = 1 ∨ (k).toInt = 2 ∨ (k).toInt = 3 ∨ (k).toInt = 4 ∨ (k).toInt = 5 := by omega
  rcases hs1 with hs1 | hs1 | hs1 | hs1 | hs1 | hs1
  · refine ev_tin (off := 39) (tgt := 40) dX11_isOfKind_1 (by omega) (by omega) (by rw [hs1]; rfl) (by decide) ?_
    have he1 : (k) = 0 := Int32.toInt_inj.mp (hs1.trans (by decide))
    refine ev_iconst (v := 1) dX11_isOfKind_40 (by decide) ?_
    refine ev_zret dX11_isOfKind_41 rfl (by decide) ?_
    first
      | (rw [he1]; exact ⟨rfl, rfl⟩)
      | (exfalso; rw [Int32.le_iff_toInt_le] at h0 h5; simp only [Int32.reduceToInt] at h0 h5; omega)
  · refine ev_tin (off := 41) (tgt := 42) dX11_isOfKind_1 (by omega) (by omega) (by rw [hs1]; rfl) (by decide) ?_
    have he1 : (k) = 1 := Int32.toInt_inj.mp (hs1.trans (by decide))
    refine ev_aload_n dX11_isOfKind_42 rfl ?_
    refine ev_instNo dX11_isOfKind_43 (mt2 183 rfl rfl) hm (ci := 2) rfl (List.mem_of_getElem? (i := 0) rfl) ?_
    refine ev_zret dX11_isOfKind_46 rfl (by decide) ?_
    first
      | (rw [he1]; exact ⟨rfl, rfl⟩)
      | (exfalso; rw [Int32.le_iff_toInt_le] at h0 h5; simp only [Int32.reduceToInt] at h0 h5; omega)
  · refine ev_tin (off := 46) (tgt := 47) dX11_isOfKind_1 (by omega) (by omega) (by rw [hs1]; rfl) (by decide) ?_
    have he1 : (k) = 2 := Int32.toInt_inj.mp (hs1.trans (by decide))
    refine ev_aload_n dX11_isOfKind_47 rfl ?_
    refine ev_instNo dX11_isOfKind_48 (mt2 227 rfl rfl) hm (ci := 2) rfl (List.mem_of_getElem? (i := 1) rfl) ?_
    refine ev_zret dX11_isOfKind_51 rfl (by decide) ?_
    first
      | (rw [he1]; exact ⟨rfl, rfl⟩)
      | (exfalso; rw [Int32.le_iff_toInt_le] at h0 h5; simp only [Int32.reduceToInt] at h0 h5; omega)
  · refine ev_tin (off := 51) (tgt := 52) dX11_isOfKind_1 (by omega) (by omega) (by rw [hs1]; rfl) (by decide) ?_
    have he1 : (k) = 3 := Int32.toInt_inj.mp (hs1.trans (by decide))
    refine ev_aload_n dX11_isOfKind_52 rfl ?_
    refine ev_instNo dX11_isOfKind_53 (mt2 239 rfl rfl) hm (ci := 2) rfl (List.mem_of_getElem? (i := 2) rfl) ?_
    refine ev_zret dX11_isOfKind_56 rfl (by decide) ?_
    first
      | (rw [he1]; exact ⟨rfl, rfl⟩)
      | (exfalso; rw [Int32.le_iff_toInt_le] at h0 h5; simp only [Int32.reduceToInt] at h0 h5; omega)
  · refine ev_tin (off := 56) (tgt := 57) dX11_isOfKind_1 (by omega) (by omega) (by rw [hs1]; rfl) (by decide) ?_
    have he1 : (k) = 4 := Int32.toInt_inj.mp (hs1.trans (by decide))
    refine ev_aload_n dX11_isOfKind_57 rfl ?_
    refine ev_instNo dX11_isOfKind_58 (mt3 11 rfl rfl) hm (ci := 2) rfl (List.mem_of_getElem? (i := 3) rfl) ?_
    refine ev_zret dX11_isOfKind_61 rfl (by decide) ?_
    first
      | (rw [he1]; exact ⟨rfl, rfl⟩)
      | (exfalso; rw [Int32.le_iff_toInt_le] at h0 h5; simp only [Int32.reduceToInt] at h0 h5; omega)
  · refine ev_tin (off := 61) (tgt := 62) dX11_isOfKind_1 (by omega) (by omega) (by rw [hs1]; rfl) (by decide) ?_
    have he1 : (k) = 5 := Int32.toInt_inj.mp (hs1.trans (by decide))
    refine ev_aload_n dX11_isOfKind_62 rfl ?_
    refine ev_instNo dX11_isOfKind_63 (mt3 23 rfl rfl) hm (ci := 2) rfl (List.mem_of_getElem? (i := 4) rfl) ?_
    refine ev_zret dX11_isOfKind_66 rfl (by decide) ?_
    first
      | (rw [he1]; exact ⟨rfl, rfl⟩)
      | (exfalso; rw [Int32.le_iff_toInt_le] at h0 h5; simp only [Int32.reduceToInt] at h0 h5; omega)
theorem c_kOfKind3 {w : Nat} {fs : List Value} (hm : μ.1 w = some (obj 3 fs)) {k : Int32} (h0 : 0 ≤ k) (h5 : k ≤ 5) : Pu g 0 mX11_isOfKind [.ref w, .int k] μ (und (kdC 3) k) := by
  refine Mt.of0 (ls0 := [some (.ref w), some (.int k)]) (by decide) (by simp [Value.category]) (Nat.le_of_ble_eq_true rfl) rfl ?_
  refine ev_iload_n dX11_isOfKind_0 rfl ?_
  by_cases hs1 : (k).toInt < 0 ∨ 5 < (k).toInt
  · refine ev_tout (tgt := 67) dX11_isOfKind_1 hs1 (by decide) ?_
    have hn1_0 : ¬ (k) = 0 := fun q => by rw [q] at hs1; revert hs1; decide
    have hn1_1 : ¬ (k) = 1 := fun q => by rw [q] at hs1; revert hs1; decide
    have hn1_2 : ¬ (k) = 2 := fun q => by rw [q] at hs1; revert hs1; decide
    have hn1_3 : ¬ (k) = 3 := fun q => by rw [q] at hs1; revert hs1; decide
    have hn1_4 : ¬ (k) = 4 := fun q => by rw [q] at hs1; revert hs1; decide
    have hn1_5 : ¬ (k) = 5 := fun q => by rw [q] at hs1; revert hs1; decide
    refine ev_iconst (v := 0) dX11_isOfKind_67 (by decide) ?_
    refine ev_zret dX11_isOfKind_68 rfl (by decide) ?_
    first
      | (rw [he1]; exact ⟨rfl, rfl⟩)
      | (exfalso; rw [Int32.le_iff_toInt_le] at h0 h5; simp only [Int32.reduceToInt] at h0 h5; omega)
  have hs1 : (k).toInt = 0 ∨ (k).toInt = 1 ∨ (k).toInt = 2 ∨ (k).toInt = 3 ∨ (k).toInt = 4 ∨ (k).toInt = 5 := by omega
  rcases hs1 with hs1 | hs1 | hs1 | hs1 | hs1 | hs1
  · refine ev_tin (off := 39) (tgt := 40) dX11_isOfKind_1 (by omega) (by omega) (by rw [hs1]; rfl) (by decide) ?_
    have he1 : (k) = 0 := Int32.toInt_inj.mp (hs1.trans (by decide))
    refine ev_iconst (v := 1) dX11_isOfKind_40 (by decide) ?_
    refine ev_zret dX11_isOfKind_41 rfl (by decide) ?_
    first
      | (rw [he1]; exact ⟨rfl, rfl⟩)
      | (exfalso; rw [Int32.le_iff_toInt_le] at h0 h5; simp only [Int32.reduceToInt] at h0 h5; omega)
  · refine ev_tin (off := 41) (tgt := 42) dX11_isOfKind_1 (by omega) (by omega) (by rw [hs1]; rfl) (by decide) ?_
    have he1 : (k) = 1 := Int32.toInt_inj.mp (hs1.trans (by decide))
    refine ev_aload_n dX11_isOfKind_42 rfl ?_
    refine ev_instS dX11_isOfKind_43 (mt2 183 rfl rfl) hm (ci := 3) rfl ?_
    refine ev_zret dX11_isOfKind_46 rfl (by decide) ?_
    first
      | (rw [he1]; exact ⟨rfl, rfl⟩)
      | (exfalso; rw [Int32.le_iff_toInt_le] at h0 h5; simp only [Int32.reduceToInt] at h0 h5; omega)
  · refine ev_tin (off := 46) (tgt := 47) dX11_isOfKind_1 (by omega) (by omega) (by rw [hs1]; rfl) (by decide) ?_
    have he1 : (k) = 2 := Int32.toInt_inj.mp (hs1.trans (by decide))
    refine ev_aload_n dX11_isOfKind_47 rfl ?_
    refine ev_instNo dX11_isOfKind_48 (mt2 227 rfl rfl) hm (ci := 3) rfl (List.mem_of_getElem? (i := 5) rfl) ?_
    refine ev_zret dX11_isOfKind_51 rfl (by decide) ?_
    first
      | (rw [he1]; exact ⟨rfl, rfl⟩)
      | (exfalso; rw [Int32.le_iff_toInt_le] at h0 h5; simp only [Int32.reduceToInt] at h0 h5; omega)
  · refine ev_tin (off := 51) (tgt := 52) dX11_isOfKind_1 (by omega) (by omega) (by rw [hs1]; rfl) (by decide) ?_
    have he1 : (k) = 3 := Int32.toInt_inj.mp (hs1.trans (by decide))
    refine ev_aload_n dX11_isOfKind_52 rfl ?_
    refine ev_instNo dX11_isOfKind_53 (mt2 239 rfl rfl) hm (ci := 3) rfl (List.mem_of_getElem? (i := 6) rfl) ?_
    refine ev_zret dX11_isOfKind_56 rfl (by decide) ?_
    first
      | (rw [he1]; exact ⟨rfl, rfl⟩)
      | (exfalso; rw [Int32.le_iff_toInt_le] at h0 h5; simp only [Int32.reduceToInt] at h0 h5; omega)
  · refine ev_tin (off := 56) (tgt := 57) dX11_isOfKind_1 (by omega) (by omega) (by rw [hs1]; rfl) (by decide) ?_
    have he1 : (k) = 4 := Int32.toInt_inj.mp (hs1.trans (by decide))
    refine ev_aload_n dX11_isOfKind_57 rfl ?_
    refine ev_instNo dX11_isOfKind_58 (mt3 11 rfl rfl) hm (ci := 3) rfl (List.mem_of_getElem? (i := 7) rfl) ?_
    refine ev_zret dX11_isOfKind_61 rfl (by decide) ?_
    first
      | (rw [he1]; exact ⟨rfl, rfl⟩)
      | (exfalso; rw [Int32.le_iff_toInt_le] at h0 h5; simp only [Int32.reduceToInt] at h0 h5; omega)
  · refine ev_tin (off := 61) (tgt := 62) dX11_isOfKind_1 (by omega) (by omega) (by rw [hs1]; rfl) (by decide) ?_
    have he1 : (k) = 5 := Int32.toInt_inj.mp (hs1.trans (by decide))
    refine ev_aload_n dX11_isOfKind_62 rfl ?_
    refine ev_instNo dX11_isOfKind_63 (mt3 23 rfl rfl) hm (ci := 3) rfl (List.mem_of_getElem? (i := 8) rfl) ?_
    refine ev_zret dX11_isOfKind_66 rfl (by decide) ?_
    first
      | (rw [he1]; exact ⟨rfl, rfl⟩)
      | (exfalso; rw [Int32.le_iff_toInt_le] at h0 h5; simp only [Int32.reduceToInt] at h0 h5; omega)
theorem c_kOfKind8 {w : Nat} {fs : List Value} (hm : μ.1 w = some (obj 8 fs)) {k : Int32} (h0 : 0 ≤ k) (h5 : k ≤ 5) : Pu g 0 mX11_isOfKind [.ref w, .int k] μ (und (kdC 8) k) := by
  refine Mt.of0 (ls0 := [some (.ref w), some (.int k)]) (by decide) (by simp [Value.category]) (Nat.le_of_ble_eq_true rfl) rfl ?_
  refine ev_iload_n dX11_isOfKind_0 rfl ?_
  by_cases hs1 : (k).toInt < 0 ∨ 5 < (k).toInt
  · refine ev_tout (tgt := 67) dX11_isOfKind_1 hs1 (by decide) ?_
    have hn1_0 : ¬ (k) = 0 := fun q => by rw [q] at hs1; revert hs1; decide
    have hn1_1 : ¬ (k) = 1 := fun q => by rw [q] at hs1; revert hs1; decide
    have hn1_2 : ¬ (k) = 2 := fun q => by rw [q] at hs1; revert hs1; decide
    have hn1_3 : ¬ (k) = 3 := fun q => by rw [q] at hs1; revert hs1; decide
    have hn1_4 : ¬ (k) = 4 := fun q => by rw [q] at hs1; revert hs1; decide
    have hn1_5 : ¬ (k) = 5 := fun q => by rw [q] at hs1; revert hs1; decide
    refine ev_iconst (v := 0) dX11_isOfKind_67 (by decide) ?_
    refine ev_zret dX11_isOfKind_68 rfl (by decide) ?_
    first
      | (rw [he1]; exact ⟨rfl, rfl⟩)
      | (exfalso; rw [Int32.le_iff_toInt_le] at h0 h5; simp only [Int32.reduceToInt] at h0 h5; omega)
  have hs1 : (k).toInt = 0 ∨ (k).toInt = 1 ∨ (k).toInt = 2 ∨ (k).toInt = 3 ∨ (k).toInt = 4 ∨ (k).toInt = 5 := by omega
  rcases hs1 with hs1 | hs1 | hs1 | hs1 | hs1 | hs1
  · refine ev_tin (off := 39) (tgt := 40) dX11_isOfKind_1 (by omega) (by omega) (by rw [hs1]; rfl) (by decide) ?_
    have he1 : (k) = 0 := Int32.toInt_inj.mp (hs1.trans (by decide))
    refine ev_iconst (v := 1) dX11_isOfKind_40 (by decide) ?_
    refine ev_zret dX11_isOfKind_41 rfl (by decide) ?_
    first
      | (rw [he1]; exact ⟨rfl, rfl⟩)
      | (exfalso; rw [Int32.le_iff_toInt_le] at h0 h5; simp only [Int32.reduceToInt] at h0 h5; omega)
  · refine ev_tin (off := 41) (tgt := 42) dX11_isOfKind_1 (by omega) (by omega) (by rw [hs1]; rfl) (by decide) ?_
    have he1 : (k) = 1 := Int32.toInt_inj.mp (hs1.trans (by decide))
    refine ev_aload_n dX11_isOfKind_42 rfl ?_
    refine ev_instY dX11_isOfKind_43 (mt2 183 rfl rfl) hm (ci := 8) rfl (List.mem_of_getElem? (i := 1) rfl) ?_
    refine ev_zret dX11_isOfKind_46 rfl (by decide) ?_
    first
      | (rw [he1]; exact ⟨rfl, rfl⟩)
      | (exfalso; rw [Int32.le_iff_toInt_le] at h0 h5; simp only [Int32.reduceToInt] at h0 h5; omega)
  · refine ev_tin (off := 46) (tgt := 47) dX11_isOfKind_1 (by omega) (by omega) (by rw [hs1]; rfl) (by decide) ?_
    have he1 : (k) = 2 := Int32.toInt_inj.mp (hs1.trans (by decide))
    refine ev_aload_n dX11_isOfKind_47 rfl ?_
    refine ev_instNo dX11_isOfKind_48 (mt2 227 rfl rfl) hm (ci := 8) rfl (List.mem_of_getElem? (i := 19) rfl) ?_
    refine ev_zret dX11_isOfKind_51 rfl (by decide) ?_
    first
      | (rw [he1]; exact ⟨rfl, rfl⟩)
      | (exfalso; rw [Int32.le_iff_toInt_le] at h0 h5; simp only [Int32.reduceToInt] at h0 h5; omega)
  · refine ev_tin (off := 51) (tgt := 52) dX11_isOfKind_1 (by omega) (by omega) (by rw [hs1]; rfl) (by decide) ?_
    have he1 : (k) = 3 := Int32.toInt_inj.mp (hs1.trans (by decide))
    refine ev_aload_n dX11_isOfKind_52 rfl ?_
    refine ev_instNo dX11_isOfKind_53 (mt2 239 rfl rfl) hm (ci := 8) rfl (List.mem_of_getElem? (i := 20) rfl) ?_
    refine ev_zret dX11_isOfKind_56 rfl (by decide) ?_
    first
      | (rw [he1]; exact ⟨rfl, rfl⟩)
      | (exfalso; rw [Int32.le_iff_toInt_le] at h0 h5; simp only [Int32.reduceToInt] at h0 h5; omega)
  · refine ev_tin (off := 56) (tgt := 57) dX11_isOfKind_1 (by omega) (by omega) (by rw [hs1]; rfl) (by decide) ?_
    have he1 : (k) = 4 := Int32.toInt_inj.mp (hs1.trans (by decide))
    refine ev_aload_n dX11_isOfKind_57 rfl ?_
    refine ev_instNo dX11_isOfKind_58 (mt3 11 rfl rfl) hm (ci := 8) rfl (List.mem_of_getElem? (i := 21) rfl) ?_
    refine ev_zret dX11_isOfKind_61 rfl (by decide) ?_
    first
      | (rw [he1]; exact ⟨rfl, rfl⟩)
      | (exfalso; rw [Int32.le_iff_toInt_le] at h0 h5; simp only [Int32.reduceToInt] at h0 h5; omega)
  · refine ev_tin (off := 61) (tgt := 62) dX11_isOfKind_1 (by omega) (by omega) (by rw [hs1]; rfl) (by decide) ?_
    have he1 : (k) = 5 := Int32.toInt_inj.mp (hs1.trans (by decide))
    refine ev_aload_n dX11_isOfKind_62 rfl ?_
    refine ev_instS dX11_isOfKind_63 (mt3 23 rfl rfl) hm (ci := 8) rfl ?_
    refine ev_zret dX11_isOfKind_66 rfl (by decide) ?_
    first
      | (rw [he1]; exact ⟨rfl, rfl⟩)
      | (exfalso; rw [Int32.le_iff_toInt_le] at h0 h5; simp only [Int32.reduceToInt] at h0 h5; omega)
theorem c_kOfKind9 {w : Nat} {fs : List Value} (hm : μ.1 w = some (obj 9 fs)) {k : Int32} (h0 : 0 ≤ k) (h5 : k ≤ 5) : Pu g 0 mX11_isOfKind [.ref w, .int k] μ (und (kdC 9) k) := by
  refine Mt.of0 (ls0 := [some (.ref w), some (.int k)]) (by decide) (by simp [Value.category]) (Nat.le_of_ble_eq_true rfl) rfl ?_
  refine ev_iload_n dX11_isOfKind_0 rfl ?_
  by_cases hs1 : (k).toInt < 0 ∨ 5 < (k).toInt
  · refine ev_tout (tgt := 67) dX11_isOfKind_1 hs1 (by decide) ?_
    have hn1_0 : ¬ (k) = 0 := fun q => by rw [q] at hs1; revert hs1; decide
    have hn1_1 : ¬ (k) = 1 := fun q => by rw [q] at hs1; revert hs1; decide
    have hn1_2 : ¬ (k) = 2 := fun q => by rw [q] at hs1; revert hs1; decide
    have hn1_3 : ¬ (k) = 3 := fun q => by rw [q] at hs1; revert hs1; decide
    have hn1_4 : ¬ (k) = 4 := fun q => by rw [q] at hs1; revert hs1; decide
    have hn1_5 : ¬ (k) = 5 := fun q => by rw [q] at hs1; revert hs1; decide
    refine ev_iconst (v := 0) dX11_isOfKind_67 (by decide) ?_
    refine ev_zret dX11_isOfKind_68 rfl (by decide) ?_
    first
      | (rw [he1]; exact ⟨rfl, rfl⟩)
      | (exfalso; rw [Int32.le_iff_toInt_le] at h0 h5; simp only [Int32.reduceToInt] at h0 h5; omega)
  have hs1 : (k).toInt = 0 ∨ (k).toInt = 1 ∨ (k).toInt = 2 ∨ (k).toInt = 3 ∨ (k).toInt = 4 ∨ (k).toInt = 5 := by omega
  rcases hs1 with hs1 | hs1 | hs1 | hs1 | hs1 | hs1
  · refine ev_tin (off := 39) (tgt := 40) dX11_isOfKind_1 (by omega) (by omega) (by rw [hs1]; rfl) (by decide) ?_
    have he1 : (k) = 0 := Int32.toInt_inj.mp (hs1.trans (by decide))
    refine ev_iconst (v := 1) dX11_isOfKind_40 (by decide) ?_
    refine ev_zret dX11_isOfKind_41 rfl (by decide) ?_
    first
      | (rw [he1]; exact ⟨rfl, rfl⟩)
      | (exfalso; rw [Int32.le_iff_toInt_le] at h0 h5; simp only [Int32.reduceToInt] at h0 h5; omega)
  · refine ev_tin (off := 41) (tgt := 42) dX11_isOfKind_1 (by omega) (by omega) (by rw [hs1]; rfl) (by decide) ?_
    have he1 : (k) = 1 := Int32.toInt_inj.mp (hs1.trans (by decide))
    refine ev_aload_n dX11_isOfKind_42 rfl ?_
    refine ev_instY dX11_isOfKind_43 (mt2 183 rfl rfl) hm (ci := 9) rfl (List.mem_of_getElem? (i := 2) rfl) ?_
    refine ev_zret dX11_isOfKind_46 rfl (by decide) ?_
    first
      | (rw [he1]; exact ⟨rfl, rfl⟩)
      | (exfalso; rw [Int32.le_iff_toInt_le] at h0 h5; simp only [Int32.reduceToInt] at h0 h5; omega)
  · refine ev_tin (off := 46) (tgt := 47) dX11_isOfKind_1 (by omega) (by omega) (by rw [hs1]; rfl) (by decide) ?_
    have he1 : (k) = 2 := Int32.toInt_inj.mp (hs1.trans (by decide))
    refine ev_aload_n dX11_isOfKind_47 rfl ?_
    refine ev_instNo dX11_isOfKind_48 (mt2 227 rfl rfl) hm (ci := 9) rfl (List.mem_of_getElem? (i := 13) rfl) ?_
    refine ev_zret dX11_isOfKind_51 rfl (by decide) ?_
    first
      | (rw [he1]; exact ⟨rfl, rfl⟩)
      | (exfalso; rw [Int32.le_iff_toInt_le] at h0 h5; simp only [Int32.reduceToInt] at h0 h5; omega)
  · refine ev_tin (off := 51) (tgt := 52) dX11_isOfKind_1 (by omega) (by omega) (by rw [hs1]; rfl) (by decide) ?_
    have he1 : (k) = 3 := Int32.toInt_inj.mp (hs1.trans (by decide))
    refine ev_aload_n dX11_isOfKind_52 rfl ?_
    refine ev_instS dX11_isOfKind_53 (mt2 239 rfl rfl) hm (ci := 9) rfl ?_
    refine ev_zret dX11_isOfKind_56 rfl (by decide) ?_
    first
      | (rw [he1]; exact ⟨rfl, rfl⟩)
      | (exfalso; rw [Int32.le_iff_toInt_le] at h0 h5; simp only [Int32.reduceToInt] at h0 h5; omega)
  · refine ev_tin (off := 56) (tgt := 57) dX11_isOfKind_1 (by omega) (by omega) (by rw [hs1]; rfl) (by decide) ?_
    have he1 : (k) = 4 := Int32.toInt_inj.mp (hs1.trans (by decide))
    refine ev_aload_n dX11_isOfKind_57 rfl ?_
    refine ev_instNo dX11_isOfKind_58 (mt3 11 rfl rfl) hm (ci := 9) rfl (List.mem_of_getElem? (i := 14) rfl) ?_
    refine ev_zret dX11_isOfKind_61 rfl (by decide) ?_
    first
      | (rw [he1]; exact ⟨rfl, rfl⟩)
      | (exfalso; rw [Int32.le_iff_toInt_le] at h0 h5; simp only [Int32.reduceToInt] at h0 h5; omega)
  · refine ev_tin (off := 61) (tgt := 62) dX11_isOfKind_1 (by omega) (by omega) (by rw [hs1]; rfl) (by decide) ?_
    have he1 : (k) = 5 := Int32.toInt_inj.mp (hs1.trans (by decide))
    refine ev_aload_n dX11_isOfKind_62 rfl ?_
    refine ev_instNo dX11_isOfKind_63 (mt3 23 rfl rfl) hm (ci := 9) rfl (List.mem_of_getElem? (i := 15) rfl) ?_
    refine ev_zret dX11_isOfKind_66 rfl (by decide) ?_
    first
      | (rw [he1]; exact ⟨rfl, rfl⟩)
      | (exfalso; rw [Int32.le_iff_toInt_le] at h0 h5; simp only [Int32.reduceToInt] at h0 h5; omega)
theorem c_kOfKind {w ci : Nat} (hci : ci ∈ dks) {fs : List Value} (hm : μ.1 w = some (obj ci fs)) {k : Int32} (h0 : 0 ≤ k) (h5 : k ≤ 5) : Pu g 0 mX11_isOfKind [.ref w, .int k] μ (und (kdC ci) k) := by
  simp only [dks, List.mem_cons, List.not_mem_nil, or_false] at hci
  rcases hci with rfl | rfl | rfl | rfl | rfl | rfl
  · exact c_kOfKind0 hm h0 h5
  · exact c_kOfKind1 hm h0 h5
  · exact c_kOfKind2 hm h0 h5
  · exact c_kOfKind3 hm h0 h5
  · exact c_kOfKind8 hm h0 h5
  · exact c_kOfKind9 hm h0 h5
theorem c_kTaken (hI : IM ρ n t tx cd Lf) (hM : KM a m tx σ μ) (hT : KTie ρ n t tx cd Lf m σ) (h k : Int32) : Mt g 2 mX11_taken [.ref a, .int h, .int k] μ (fun v μ' => v = some (.int (ansTaken ρ n h k)) ∧ KV a ρ n t tx cd Lf m μ' ∧ FC a μ μ') := by
  refine Mt.of0 (ls0 := [some (.ref a), some (.int h), some (.int k), none]) (by decide) (by simp [Value.category]) (Nat.le_of_ble_eq_true rfl) rfl ?_
  have hn7 := hI.2.2.1.2
  rw [ansTaken]
  by_cases hh : 0 ≤ h ∧ h < nI n
  · obtain ⟨hl, eh⟩ := house_n hn7 hh.1 hh.2
    generalize h.toInt.toNat = h' at hl eh ⊢
    subst eh
    obtain ⟨hd, hkc⟩ := hT.door hM hl
    have e0 : (ρ.1 0).getD h' 0 = kdC (kD σ h').2 := hkc.2.symm
    refine ev_iload_n dX11_taken_0 rfl ?_
    refine ev_if_lt (tgt := 9) dX11_taken_1 (by decide) (fun h1 => ?_) (fun h1 => ?_)
    · refine ev_bipush (v := (-2)) dX11_taken_9 (by decide) ?_
      refine ev_iret dX11_taken_11 rfl ?_
      rw [if_neg (fun q => by first | exact Int32.not_lt.mpr q.1 h1 | exact h6 q.2)]
      exact ⟨rfl, ⟨σ, hM, hT⟩, FC.rf⟩
    · refine ev_iload_n dX11_taken_4 rfl ?_
      refine ev_iconst (v := 5) dX11_taken_5 (by decide) ?_
      refine ev_icmp_le (tgt := 12) dX11_taken_6 (by decide) (fun h6 => ?_) (fun h6 => ?_)
      · rw [if_pos ⟨Int32.not_lt.mp h1, h6⟩, if_pos hh]
        refine ev_aload_n dX11_taken_12 rfl ?_
        refine ev_iload_n dX11_taken_13 rfl ?_
        refine k_v (c_doorOf hM hT.hc hT.nm hl) (by decide) dX11_taken_14 cbX11_doorOf (mt3 61 rfl rfl) (mt3 63 rfl rfl) (ms0 17 rfl rfl) (ci := 11) rfl (hM.o 0 11 (by decide)) rfl rfl (Nat.le_of_ble_eq_true rfl) (fun v μ1 hq => ?_)
        obtain ⟨rfl, hμ⟩ := hq; have hμ := hμ.symm; subst hμ
        simp only [Option.toList, List.cons_append, List.nil_append]
        refine ev_astore_n dX11_taken_17 (by decide) ?_
        dsimp only [List.set]
        refine ev_aload_n dX11_taken_18 rfl ?_
        refine ev_ifnonnull (tgt := 25) dX11_taken_19 (by decide) ?_
        refine ev_aload_n dX11_taken_25 rfl ?_
        refine ev_iload_n dX11_taken_26 rfl ?_
        refine k_s (c_kOfKind hkc.1 hd (Int32.not_lt.mp h1) h6) (by decide) dX11_taken_27 cbX11_isOfKind (mt4 228 rfl rfl) (mt4 229 rfl rfl) rfl rfl (Nat.le_of_ble_eq_true rfl) (fun v μ1 hq => ?_)
        obtain ⟨rfl, hμ⟩ := hq
        have hμ := hμ.symm
        subst hμ
        simp only [Option.toList, List.cons_append, List.nil_append]
        refine ev_if_eq (tgt := 40) dX11_taken_30 (by decide) (fun h30 => ?_) (fun h30 => ?_)
        · refine ev_bipush (v := (-13)) dX11_taken_40 (by decide) ?_
          refine ev_iret dX11_taken_42 rfl ?_
          rw [e0]
          first
            | (rw [if_pos (b2i_ne h30)]; exact ⟨rfl, ⟨σ, hM, hT⟩, FC.rf⟩)
            | (rw [if_neg (b2i_eq h30)]; exact ⟨rfl, ⟨σ, hM, hT⟩, FC.rf⟩)
        · refine ev_aload_n dX11_taken_33 rfl ?_
          refine ev_get dX11_taken_34 (glX11_295 hkc.1) hd rfl ?_
          refine ev_goto (tgt := 42) dX11_taken_37 (by decide) ?_
          refine ev_iret dX11_taken_42 rfl ?_
          rw [e0]
          first
            | (rw [if_pos (b2i_ne h30)]; exact ⟨rfl, ⟨σ, hM, hT⟩, FC.rf⟩)
            | (rw [if_neg (b2i_eq h30)]; exact ⟨rfl, ⟨σ, hM, hT⟩, FC.rf⟩)
      · refine ev_bipush (v := (-2)) dX11_taken_9 (by decide) ?_
        refine ev_iret dX11_taken_11 rfl ?_
        rw [if_neg (fun q => by first | exact Int32.not_lt.mpr q.1 h1 | exact h6 q.2)]
        exact ⟨rfl, ⟨σ, hM, hT⟩, FC.rf⟩
  · skip
    refine ev_iload_n dX11_taken_0 rfl ?_
    refine ev_if_lt (tgt := 9) dX11_taken_1 (by decide) (fun h1 => ?_) (fun h1 => ?_)
    · refine ev_bipush (v := (-2)) dX11_taken_9 (by decide) ?_
      refine ev_iret dX11_taken_11 rfl ?_
      rw [if_neg (fun q => by first | exact Int32.not_lt.mpr q.1 h1 | exact h6 q.2)]
      exact ⟨rfl, ⟨σ, hM, hT⟩, FC.rf⟩
    · refine ev_iload_n dX11_taken_4 rfl ?_
      refine ev_iconst (v := 5) dX11_taken_5 (by decide) ?_
      refine ev_icmp_le (tgt := 12) dX11_taken_6 (by decide) (fun h6 => ?_) (fun h6 => ?_)
      · rw [if_pos ⟨Int32.not_lt.mp h1, h6⟩, if_neg hh]
        refine ev_aload_n dX11_taken_12 rfl ?_
        refine ev_iload_n dX11_taken_13 rfl ?_
        refine k_v (c_doorNo hM hT.hc hh) (by decide) dX11_taken_14 cbX11_doorOf (mt3 61 rfl rfl) (mt3 63 rfl rfl) (ms0 17 rfl rfl) (ci := 11) rfl (hM.o 0 11 (by decide)) rfl rfl (Nat.le_of_ble_eq_true rfl) (fun v μ1 hq => ?_)
        obtain ⟨rfl, hμ⟩ := hq; have hμ := hμ.symm; subst hμ
        simp only [Option.toList, List.cons_append, List.nil_append]
        refine ev_astore_nN dX11_taken_17 (by decide) ?_
        dsimp only [List.set]
        refine ev_aload_nN dX11_taken_18 rfl ?_
        refine ev_ifnonnullN dX11_taken_19 ?_
        refine ev_bipush (v := (-11)) dX11_taken_22 (by decide) ?_
        refine ev_iret dX11_taken_24 rfl ?_
        exact ⟨rfl, ⟨σ, hM, hT⟩, FC.rf⟩
      · refine ev_bipush (v := (-2)) dX11_taken_9 (by decide) ?_
        refine ev_iret dX11_taken_11 rfl ?_
        rw [if_neg (fun q => by first | exact Int32.not_lt.mpr q.1 h1 | exact h6 q.2)]
        exact ⟨rfl, ⟨σ, hM, hT⟩, FC.rf⟩
theorem l_kPlace (hI : IM ρ n t tx cd Lf) (hM : KM a m tx σ μ) (hT : KTie ρ n t tx cd Lf m σ) {h : Nat} (hh : h < 7) : ∀ (k i : Nat), i + k = n → (∃ j, i ≤ j ∧ j < n ∧ Lf j = h) → Ev g 0 mX11_placeInList 2 [some (.ref a), some (.int (nI h)), some (.int (nI i))] [] μ (fun v μ' => v = some (.int (nI (plc Lf h k i))) ∧ μ' = μ) := by
  have hn7 := hI.2.2.1.2
  intro k
  induction k with
  | zero => intro i hi ⟨j, q1, q2, q3⟩; omega
  | succ k ih =>
    intro i hi ⟨j, q1, q2, q3⟩
    have hLi := (hI.2.2.2.2.2.2.1 i (by omega)).2
    rw [plc]
    refine ev_iload_n dX11_placeInList_2 rfl ?_
    refine ev_aload_n dX11_placeInList_3 rfl ?_
    refine ev_get dX11_placeInList_4 flX11_15_11 (hM.o 0 11 (by decide)) rfl ?_
    rw [hT.hc]
    refine ev_icmp_ge (tgt := 28) dX11_placeInList_7 (by decide) (fun h7 => absurd h7 ((nI_ge (by omega) (by omega)))) (fun _ => ?_)
    refine ev_aload_n dX11_placeInList_10 rfl ?_
    refine ev_get dX11_placeInList_11 flX11_19_11 (hM.o 0 11 (by decide)) rfl ?_
    refine ev_iload_n dX11_placeInList_14 rfl ?_
    refine ev_iald dX11_placeInList_15 (hM.r 2 (by decide)) (ix_n (by omega)) (hT.ls i (by omega)) ?_
    refine ev_iload_n dX11_placeInList_16 rfl ?_
    refine ev_icmp_ne (tgt := 22) dX11_placeInList_17 (by decide) (fun h17 => ?_) (fun h17 => ?_)
    · refine ev_iinc dX11_placeInList_22 rfl (by decide) ?_
      dsimp only [List.set]
      refine ev_goto (tgt := 2) dX11_placeInList_25 (by decide) ?_
      have hne : ¬ Lf i = h := fun q => h17 (by rw [q])
      rw [nI_inc, if_neg hne]
      refine ih (i + 1) (by omega) ⟨j, ?_, q2, q3⟩
      by_cases q : j = i
      · subst q; exact absurd q3 hne
      · omega
    · refine ev_iload_n dX11_placeInList_20 rfl ?_
      refine ev_iret dX11_placeInList_21 rfl ?_
      rw [if_pos ((nI_eq (by omega) (by omega)).mp h17)]
      exact ⟨rfl, rfl⟩
theorem c_kPlace (hI : IM ρ n t tx cd Lf) (hM : KM a m tx σ μ) (hT : KTie ρ n t tx cd Lf m σ) {h : Nat} (hh : h < n) : Pu g 0 mX11_placeInList [.ref a, .int (nI h)] μ (nI (plc Lf h n 0)) := by
  refine Mt.of0 (ls0 := [some (.ref a), some (.int (nI h)), none]) (by decide) (by simp [Value.category]) (Nat.le_of_ble_eq_true rfl) rfl ?_
  have hn7 := hI.2.2.1.2
  obtain ⟨i, hi, e⟩ := hI.2.2.2.2.2.2.2 h hh
  refine ev_iconst (v := 0) dX11_placeInList_0 (by decide) ?_
  refine ev_istore_n dX11_placeInList_1 (by decide) ?_
  dsimp only [List.set]
  exact l_kPlace hI hM hT (by omega) n 0 (by omega) ⟨i, Nat.zero_le _, hi, e⟩
theorem c_kTold (hI : IM ρ n t tx cd Lf) (hM : KM a m tx σ μ) (hT : KTie ρ n t tx cd Lf m σ) (h w : Int32) : Mt g 5 mX11_told [.ref a, .int h, .int w] μ (fun v μ' => v = some (.int (ansTold ρ n t cd Lf h w)) ∧ KV a ρ n t tx cd Lf m μ' ∧ FC a μ μ') := by
  refine Mt.of0 (ls0 := [some (.ref a), some (.int h), some (.int w), none]) (by decide) (by simp [Value.category]) (Nat.le_of_ble_eq_true rfl) rfl ?_
  have hn7 := hI.2.2.1.2
  have ht := hI.2.2.2.1.2
  have e3 : σ.1 3 = ρ.1 6 := hT.tm
  have hl3 : (σ.1 3).length = 10 := hT.ln (k := 3) (by decide)
  rw [ansTold]
  by_cases hh : 0 ≤ h ∧ h < nI n
  · obtain ⟨hl, eh⟩ := house_n hn7 hh.1 hh.2
    rw [if_pos hh]
    generalize h.toInt.toNat = h' at hl eh ⊢
    subst eh
    obtain ⟨hd, hkc⟩ := hT.door hM hl
    have h6 := hM.ad.2.2.2.2.2.2.2
    have hR := hT.rw1 hM ht
    have hVh := hI.1 h' (by omega)
    refine ev_aload_n dX11_told_0 rfl ?_
    refine ev_iload_n dX11_told_1 rfl ?_
    refine k_v (c_doorOf hM hT.hc hT.nm hl) (by decide) dX11_told_2 cbX11_doorOf (mt3 61 rfl rfl) (mt3 63 rfl rfl) (ms0 17 rfl rfl) (ci := 11) rfl (hM.o 0 11 (by decide)) rfl rfl (Nat.le_of_ble_eq_true rfl) (fun v μ1 hq => ?_)
    obtain ⟨rfl, hμ⟩ := hq; have hμ := hμ.symm; subst hμ
    simp only [Option.toList, List.cons_append, List.nil_append]
    refine ev_astore_n dX11_told_5 (by decide) ?_
    dsimp only [List.set]
    refine ev_aload_n dX11_told_6 rfl ?_
    refine ev_ifnonnull (tgt := 13) dX11_told_7 (by decide) ?_
    refine ev_iload_n dX11_told_13 rfl ?_
    by_cases hs14 : (w).toInt < 0 ∨ 7 < (w).toInt
    · refine ev_tout (tgt := 119) dX11_told_14 hs14 (by decide) ?_
      have hn14_0 : ¬ (w) = 0 := fun q => by rw [q] at hs14; revert hs14; decide
      have hn14_1 : ¬ (w) = 1 := fun q => by rw [q] at hs14; revert hs14; decide
      have hn14_2 : ¬ (w) = 2 := fun q => by rw [q] at hs14; revert hs14; decide
      have hn14_3 : ¬ (w) = 3 := fun q => by rw [q] at hs14; revert hs14; decide
      have hn14_4 : ¬ (w) = 4 := fun q => by rw [q] at hs14; revert hs14; decide
      have hn14_5 : ¬ (w) = 5 := fun q => by rw [q] at hs14; revert hs14; decide
      have hn14_6 : ¬ (w) = 6 := fun q => by rw [q] at hs14; revert hs14; decide
      have hn14_7 : ¬ (w) = 7 := fun q => by rw [q] at hs14; revert hs14; decide
      refine ev_bipush (v := (-2)) dX11_told_119 (by decide) ?_
      refine ev_iret dX11_told_121 rfl ?_
      rw [if_neg hn14_0, if_neg hn14_1, if_neg hn14_2, if_neg hn14_3, if_neg hn14_4, if_neg hn14_5, if_neg hn14_6, if_neg hn14_7]
      exact ⟨rfl, ⟨σ, hM, hT⟩, FC.rf⟩
    have hs14 : (w).toInt = 0 ∨ (w).toInt = 1 ∨ (w).toInt = 2 ∨ (w).toInt = 3 ∨ (w).toInt = 4 ∨ (w).toInt = 5 ∨ (w).toInt = 6 ∨ (w).toInt = 7 := by omega
    rcases hs14 with hs14 | hs14 | hs14 | hs14 | hs14 | hs14 | hs14 | hs14
    · refine ev_tin (off := 46) (tgt := 60) dX11_told_14 (by omega) (by omega) (by rw [hs14]; rfl) (by decide) ?_
      have he14 : (w) = 0 := Int32.toInt_inj.mp (hs14.trans (by decide))
      refine ev_aload_n dX11_told_60 rfl ?_
      refine ev_iload_n dX11_told_61 rfl ?_
      refine u_fact dX11_told_62 (mt3 69 rfl rfl) hkc.1 hd (Nat.le_of_ble_eq_true rfl) ?_
      refine ev_iret dX11_told_65 rfl ?_
      refine ⟨?_, ⟨σ, hM, hT⟩, FC.rf⟩
      rw [he14]
      rfl
    · refine ev_tin (off := 46) (tgt := 60) dX11_told_14 (by omega) (by omega) (by rw [hs14]; rfl) (by decide) ?_
      have he14 : (w) = 1 := Int32.toInt_inj.mp (hs14.trans (by decide))
      refine ev_aload_n dX11_told_60 rfl ?_
      refine ev_iload_n dX11_told_61 rfl ?_
      refine u_fact dX11_told_62 (mt3 69 rfl rfl) hkc.1 hd (Nat.le_of_ble_eq_true rfl) ?_
      refine ev_iret dX11_told_65 rfl ?_
      refine ⟨?_, ⟨σ, hM, hT⟩, FC.rf⟩
      rw [he14]
      rfl
    · refine ev_tin (off := 46) (tgt := 60) dX11_told_14 (by omega) (by omega) (by rw [hs14]; rfl) (by decide) ?_
      have he14 : (w) = 2 := Int32.toInt_inj.mp (hs14.trans (by decide))
      refine ev_aload_n dX11_told_60 rfl ?_
      refine ev_iload_n dX11_told_61 rfl ?_
      refine u_fact dX11_told_62 (mt3 69 rfl rfl) hkc.1 hd (Nat.le_of_ble_eq_true rfl) ?_
      refine ev_iret dX11_told_65 rfl ?_
      refine ⟨?_, ⟨σ, hM, hT⟩, FC.rf⟩
      rw [he14]
      rfl
    · refine ev_tin (off := 46) (tgt := 60) dX11_told_14 (by omega) (by omega) (by rw [hs14]; rfl) (by decide) ?_
      have he14 : (w) = 3 := Int32.toInt_inj.mp (hs14.trans (by decide))
      refine ev_aload_n dX11_told_60 rfl ?_
      refine ev_iload_n dX11_told_61 rfl ?_
      refine u_fact dX11_told_62 (mt3 69 rfl rfl) hkc.1 hd (Nat.le_of_ble_eq_true rfl) ?_
      refine ev_iret dX11_told_65 rfl ?_
      refine ⟨?_, ⟨σ, hM, hT⟩, FC.rf⟩
      rw [he14]
      rfl
    · refine ev_tin (off := 52) (tgt := 66) dX11_told_14 (by omega) (by omega) (by rw [hs14]; rfl) (by decide) ?_
      have he14 : (w) = 4 := Int32.toInt_inj.mp (hs14.trans (by decide))
      refine ev_aload_n dX11_told_66 rfl ?_
      refine u_kind dX11_told_67 (mt3 91 rfl rfl) hkc.1 hd (Nat.le_of_ble_eq_true rfl) ?_
      refine ev_iret dX11_told_70 rfl ?_
      refine ⟨?_, ⟨σ, hM, hT⟩, FC.rf⟩
      rw [he14, hkc.2]
      rfl
    · refine ev_tin (off := 57) (tgt := 71) dX11_told_14 (by omega) (by omega) (by rw [hs14]; rfl) (by decide) ?_
      have he14 : (w) = 5 := Int32.toInt_inj.mp (hs14.trans (by decide))
      refine ev_aload_n dX11_told_71 rfl ?_
      refine ev_iload_n dX11_told_72 rfl ?_
      refine k_v (c_kPlace hI hM hT hl) (by decide) dX11_told_73 cbX11_placeInList (mt3 111 rfl rfl) (mt3 113 rfl rfl) (ms0 19 rfl rfl) (ci := 11) rfl (hM.o 0 11 (by decide)) rfl rfl (Nat.le_of_ble_eq_true rfl) (fun v μ1 hq => ?_)
      obtain ⟨rfl, hμ⟩ := hq
      have hμ := hμ.symm
      subst hμ
      simp only [Option.toList, List.cons_append, List.nil_append]
      refine ev_iret dX11_told_76 rfl ?_
      refine ⟨?_, ⟨σ, hM, hT⟩, FC.rf⟩
      rw [he14]
      rfl
    · refine ev_tin (off := 63) (tgt := 77) dX11_told_14 (by omega) (by omega) (by rw [hs14]; rfl) (by decide) ?_
      have he14 : (w) = 6 := Int32.toInt_inj.mp (hs14.trans (by decide))
      refine ev_aload_n dX11_told_77 rfl ?_
      refine ev_aload_n dX11_told_78 rfl ?_
      refine ev_get dX11_told_79 flX11_31_11 (hM.o 0 11 (by decide)) rfl ?_
      refine ev_aload_n dX11_told_82 rfl ?_
      refine ev_get dX11_told_83 (glX11_157 hkc.1) hd rfl ?_
      refine k_s (c_kThick (hM.r 3 (by decide)) hl3 hVh.2.2.2.2) (by decide) dX11_told_86 cbX11_thickOf (mt3 115 rfl rfl) (mt3 116 rfl rfl) rfl rfl (Nat.le_of_ble_eq_true rfl) (fun v μ1 hq => ?_)
      obtain ⟨rfl, hμ⟩ := hq
      have hμ := hμ.symm
      subst hμ
      simp only [Option.toList, List.cons_append, List.nil_append]
      refine ev_aload_n dX11_told_89 rfl ?_
      refine ev_get dX11_told_90 flX11_31_11 (hM.o 0 11 (by decide)) rfl ?_
      refine ev_iconst (v := 5) dX11_told_93 (by decide) ?_
      refine ev_iald dX11_told_94 (hM.r 3 (by decide)) ixl5 (gd (by omega)) ?_
      refine u_takes dX11_told_95 (mt3 118 rfl rfl) hkc.1 hd (Nat.le_of_ble_eq_true rfl) ?_
      refine ev_iret dX11_told_98 rfl ?_
      refine ⟨?_, ⟨σ, hM, hT⟩, FC.rf⟩
      rw [he14, e3, show (ρ.1 6).getD (6 + (Fc ρ 4 h').toInt.toNat) 0 = thk (Fc ρ) (Se ρ) h' from rfl, show (ρ.1 6).getD 5 0 = Se ρ 5 from rfl, hkc.tk]
      rfl
    · refine ev_tin (off := 85) (tgt := 99) dX11_told_14 (by omega) (by omega) (by rw [hs14]; rfl) (by decide) ?_
      have he14 : (w) = 7 := Int32.toInt_inj.mp (hs14.trans (by decide))
      refine ev_aload_n dX11_told_99 rfl ?_
      refine ev_get dX11_told_100 flX11_43_11 (hM.o 0 11 (by decide)) rfl ?_
      refine ev_aload_n dX11_told_103 rfl ?_
      refine ev_get dX11_told_104 flX11_50_11 (hM.o 0 11 (by decide)) rfl ?_
      rw [hT.ru.2.1]
      refine ev_aald dX11_told_107 hM.ul (by decide) (by decide) (ix_n (by omega)) (kUl_at ht h6) ?_
      refine ev_aload_n dX11_told_108 rfl ?_
      refine ev_aload_n dX11_told_109 rfl ?_
      refine ev_get dX11_told_110 flX11_31_11 (hM.o 0 11 (by decide)) rfl ?_
      refine ev_iconst (v := 5) dX11_told_113 (by decide) ?_
      refine ev_iald dX11_told_114 (hM.r 3 (by decide)) ixl5 (gd (by omega)) ?_
      rw [show (σ.1 3).getD 5 0 = Se ρ 5 by rw [e3]]
      refine k_v (c_kWanted hM hT ht hl) (by decide) dX11_told_115 cbX5_wantedBy (mt3 143 rfl rfl) (mt3 144 rfl rfl) (mt3 145 rfl rfl) (ci := 5) rfl hR.1 rfl rfl (Nat.le_of_ble_eq_true rfl) (fun v μ1 hq => ?_)
      obtain ⟨rfl, ⟨σ2, hM2, hE2⟩, hF2⟩ := hq
      simp only [Option.toList, List.cons_append, List.nil_append]
      refine ev_iret dX11_told_118 rfl ?_
      refine ⟨?_, ⟨σ2, hM2, hT.sc hE2.sc⟩, hF2⟩
      rw [he14]
      rfl
  · rw [if_neg hh]
    refine ev_aload_n dX11_told_0 rfl ?_
    refine ev_iload_n dX11_told_1 rfl ?_
    refine k_v (c_doorNo hM hT.hc hh) (by decide) dX11_told_2 cbX11_doorOf (mt3 61 rfl rfl) (mt3 63 rfl rfl) (ms0 17 rfl rfl) (ci := 11) rfl (hM.o 0 11 (by decide)) rfl rfl (Nat.le_of_ble_eq_true rfl) (fun v μ1 hq => ?_)
    obtain ⟨rfl, hμ⟩ := hq; have hμ := hμ.symm; subst hμ
    simp only [Option.toList, List.cons_append, List.nil_append]
    refine ev_astore_nN dX11_told_5 (by decide) ?_
    dsimp only [List.set]
    refine ev_aload_nN dX11_told_6 rfl ?_
    refine ev_ifnonnullN dX11_told_7 ?_
    refine ev_bipush (v := (-2)) dX11_told_10 (by decide) ?_
    refine ev_iret dX11_told_12 rfl ?_
    exact ⟨rfl, ⟨σ, hM, hT⟩, FC.rf⟩
theorem c_kCount (hI : IM ρ n t tx cd Lf) (hM : KM a m tx σ μ) (hT : KTie ρ n t tx cd Lf m σ) (w : Int32) : Mt g 0 mX11_count [.ref a, .int w] μ (fun v μ' => v = some (.int (ansCount ρ w)) ∧ KV a ρ n t tx cd Lf m μ' ∧ FC a μ μ') := by
  refine Mt.of0 (ls0 := [some (.ref a), some (.int w)]) (by decide) (by simp [Value.category]) (Nat.le_of_ble_eq_true rfl) rfl ?_
  have hl3 : (σ.1 3).length = 10 := hT.ln (k := 3) (by decide)
  have e3 : σ.1 3 = ρ.1 6 := hT.tm
  have i7 := hI.2.2.1.1
  have i8 := hI.2.2.2.1.1
  have i16 := hI.2.2.2.2.1.1
  have r1 := hT.ru.1
  have r2 := hT.ru.2.1
  have r4 : kI σ 4 0 = ρ.2 15 := hT.2.2.2.2.1.1
  have hw : 4 ≤ w → w < 14 → ix (w - 4) (w.toInt.toNat - 4) ∧ w.toInt.toNat - 4 < 10 ∧ w ≤ 13 := by
    intro q1 q2
    rw [Int32.le_iff_toInt_le] at q1
    rw [Int32.lt_iff_toInt_lt] at q2
    simp only [Int32.reduceToInt] at q1 q2
    have e : (w - 4).toInt = w.toInt - 4 := by rw [sub_i (by simp only [Int32.reduceToInt]; omega) (by simp only [Int32.reduceToInt]; omega)]; rfl
    refine ⟨?_, by omega, by rw [Int32.le_iff_toInt_le]; simp only [Int32.reduceToInt]; omega⟩
    have h2 := ix_of (x := w - 4) (by rw [e]; omega)
    rw [e] at h2
    rw [show (w.toInt - 4).toNat = w.toInt.toNat - 4 by omega] at h2
    exact h2
  rw [ansCount]
  refine ev_iload_n dX11_count_0 rfl ?_
  by_cases hs1 : (w).toInt < 0 ∨ 3 < (w).toInt
  · refine ev_tout (tgt := 55) dX11_count_1 hs1 (by decide) ?_
    have hn1_0 : ¬ (w) = 0 := fun q => by rw [q] at hs1; revert hs1; decide
    have hn1_1 : ¬ (w) = 1 := fun q => by rw [q] at hs1; revert hs1; decide
    have hn1_2 : ¬ (w) = 2 := fun q => by rw [q] at hs1; revert hs1; decide
    have hn1_3 : ¬ (w) = 3 := fun q => by rw [q] at hs1; revert hs1; decide
    refine ev_iload_n dX11_count_55 rfl ?_
    refine ev_iconst (v := 4) dX11_count_56 (by decide) ?_
    refine ev_icmp_lt (tgt := 77) dX11_count_57 (by decide) (fun h57 => ?_) (fun h57 => ?_)
    · refine ev_bipush (v := (-2)) dX11_count_77 (by decide) ?_
      refine ev_iret dX11_count_79 rfl ?_
      first
        | (rw [if_pos ⟨Int32.not_lt.mp h57, (hw (Int32.not_lt.mp h57) (Int32.not_le.mp h63)).2.2⟩, e3]; exact ⟨rfl, ⟨σ, hM, hT⟩, FC.rf⟩)
        | (have q : ¬ (4 ≤ w ∧ w ≤ 13) := by
             intro q
             first
               | exact Int32.not_lt.mpr q.1 h57
               | exact absurd (Int32.le_trans h63 q.2) (by decide)
           rw [if_neg q, if_neg hn1_0, if_neg hn1_1, if_neg hn1_2, if_neg hn1_3]
           exact ⟨rfl, ⟨σ, hM, hT⟩, FC.rf⟩)
    · refine ev_iload_n dX11_count_60 rfl ?_
      refine ev_bipush (v := 14) dX11_count_61 (by decide) ?_
      refine ev_icmp_ge (tgt := 77) dX11_count_63 (by decide) (fun h63 => ?_) (fun h63 => ?_)
      · refine ev_bipush (v := (-2)) dX11_count_77 (by decide) ?_
        refine ev_iret dX11_count_79 rfl ?_
        first
          | (rw [if_pos ⟨Int32.not_lt.mp h57, (hw (Int32.not_lt.mp h57) (Int32.not_le.mp h63)).2.2⟩, e3]; exact ⟨rfl, ⟨σ, hM, hT⟩, FC.rf⟩)
          | (have q : ¬ (4 ≤ w ∧ w ≤ 13) := by
               intro q
               first
                 | exact Int32.not_lt.mpr q.1 h57
                 | exact absurd (Int32.le_trans h63 q.2) (by decide)
             rw [if_neg q, if_neg hn1_0, if_neg hn1_1, if_neg hn1_2, if_neg hn1_3]
             exact ⟨rfl, ⟨σ, hM, hT⟩, FC.rf⟩)
      · refine ev_aload_n dX11_count_66 rfl ?_
        refine ev_get dX11_count_67 flX11_31_11 (hM.o 0 11 (by decide)) rfl ?_
        refine ev_iload_n dX11_count_70 rfl ?_
        refine ev_iconst (v := 4) dX11_count_71 (by decide) ?_
        refine ev_isub dX11_count_72 ?_
        refine ev_iald dX11_count_73 (hM.r 3 (by decide)) (hw (Int32.not_lt.mp h57) (Int32.not_le.mp h63)).1 (gd (by rw [hl3]; exact (hw (Int32.not_lt.mp h57) (Int32.not_le.mp h63)).2.1)) ?_
        refine ev_goto (tgt := 79) dX11_count_74 (by decide) ?_
        refine ev_iret dX11_count_79 rfl ?_
        first
          | (rw [if_pos ⟨Int32.not_lt.mp h57, (hw (Int32.not_lt.mp h57) (Int32.not_le.mp h63)).2.2⟩, e3]; exact ⟨rfl, ⟨σ, hM, hT⟩, FC.rf⟩)
          | (have q : ¬ (4 ≤ w ∧ w ≤ 13) := by
               intro q
               first
                 | exact Int32.not_lt.mpr q.1 h57
                 | exact absurd (Int32.le_trans h63 q.2) (by decide)
             rw [if_neg q, if_neg hn1_0, if_neg hn1_1, if_neg hn1_2, if_neg hn1_3]
             exact ⟨rfl, ⟨σ, hM, hT⟩, FC.rf⟩)
  have hs1 : (w).toInt = 0 ∨ (w).toInt = 1 ∨ (w).toInt = 2 ∨ (w).toInt = 3 := by omega
  rcases hs1 with hs1 | hs1 | hs1 | hs1
  · refine ev_tin (off := 31) (tgt := 32) dX11_count_1 (by omega) (by omega) (by rw [hs1]; rfl) (by decide) ?_
    have he1 : (w) = 0 := Int32.toInt_inj.mp (hs1.trans (by decide))
    refine ev_aload_n dX11_count_32 rfl ?_
    refine ev_get dX11_count_33 flX11_15_11 (hM.o 0 11 (by decide)) rfl ?_
    refine ev_iret dX11_count_36 rfl ?_
    rw [he1, if_neg (by decide), if_pos rfl, hT.hc, i7]
    exact ⟨rfl, ⟨σ, hM, hT⟩, FC.rf⟩
  · refine ev_tin (off := 36) (tgt := 37) dX11_count_1 (by omega) (by omega) (by rw [hs1]; rfl) (by decide) ?_
    have he1 : (w) = 1 := Int32.toInt_inj.mp (hs1.trans (by decide))
    refine ev_aload_n dX11_count_37 rfl ?_
    refine ev_get dX11_count_38 flX11_47_11 (hM.o 0 11 (by decide)) rfl ?_
    refine ev_iret dX11_count_41 rfl ?_
    rw [he1, if_neg (by decide), if_neg (by decide), if_pos rfl, r1, i16]
    exact ⟨rfl, ⟨σ, hM, hT⟩, FC.rf⟩
  · refine ev_tin (off := 41) (tgt := 42) dX11_count_1 (by omega) (by omega) (by rw [hs1]; rfl) (by decide) ?_
    have he1 : (w) = 2 := Int32.toInt_inj.mp (hs1.trans (by decide))
    refine ev_aload_n dX11_count_42 rfl ?_
    refine ev_get dX11_count_43 flX11_37_11 (hM.o 0 11 (by decide)) rfl ?_
    refine ev_get dX11_count_46 flX11_176_4 (hM.o 4 4 (by decide)) rfl ?_
    refine ev_iret dX11_count_49 rfl ?_
    rw [he1, if_neg (by decide), if_neg (by decide), if_neg (by decide), if_pos rfl, r4]
    exact ⟨rfl, ⟨σ, hM, hT⟩, FC.rf⟩
  · refine ev_tin (off := 49) (tgt := 50) dX11_count_1 (by omega) (by omega) (by rw [hs1]; rfl) (by decide) ?_
    have he1 : (w) = 3 := Int32.toInt_inj.mp (hs1.trans (by decide))
    refine ev_aload_n dX11_count_50 rfl ?_
    refine ev_get dX11_count_51 flX11_50_11 (hM.o 0 11 (by decide)) rfl ?_
    refine ev_iret dX11_count_54 rfl ?_
    rw [he1, if_neg (by decide), if_neg (by decide), if_neg (by decide), if_neg (by decide), if_pos rfl, r2, i8]
    exact ⟨rfl, ⟨σ, hM, hT⟩, FC.rf⟩
end KQ2
