/-! ===== System.arraycopy over rows of ints ===== -/
def cpyL (l0 l1 : List Int32) (s d n : Nat) : List Int32 := (List.range l1.length).map (fun j => if d ≤ j ∧ j < d + n then l0.getD (s + (j - d)) 0 else l1.getD j 0)
theorem cpyL_len {l0 l1 : List Int32} {s d n : Nat} : (cpyL l0 l1 s d n).length = l1.length := by simp [cpyL]
theorem cpyL_D {l0 l1 : List Int32} {s d n j : Nat} (hj : j < l1.length) : (cpyL l0 l1 s d n).getD j 0 = if d ≤ j ∧ j < d + n then l0.getD (s + (j - d)) 0 else l1.getD j 0 := by
  unfold cpyL
  rw [List.getD_eq_getElem?_getD, List.getElem?_map, List.getElem?_range hj]
  rfl
theorem cpyL_full {l0 l1 : List Int32} {n : Nat} (h0 : l0.length = n) (h1 : l1.length = n) : cpyL l0 l1 0 0 n = l0 := by
  apply List.ext_getElem?
  intro i
  by_cases hi : i < n
  · rw [gd (by rw [cpyL_len]; omega), gd (by omega), cpyL_D (by omega), if_pos ⟨Nat.zero_le _, by omega⟩]
    simp
  · rw [List.getElem?_eq_none (by rw [cpyL_len]; omega), List.getElem?_eq_none (by omega)]
theorem xw_arrV {cI : ClassId} {N : Nat} {f f' : Nat → Value} (h : ∀ j, j < N → f j = f' j) : arrV cI N f = arrV cI N f' := by
  unfold arrV
  have e : (fun j : Fin N => f j.val) = fun j => f' j.val := funext fun j => h _ j.isLt
  rw [e]
section EVCOPY
variable {g : Gl} {d : Nat} {Y : Md} {pc : Nat} {ls : List (Option Value)} {st : List Value} {μ : Mm} {Q : Option Value → Mm → Prop}
theorem ev_copyi {idx a0 a1 s' d' n' : Nat} {l0 l1 : List Int32} {sp dp n : Int32} (hd : decode (mC Y) pc = .ok (.invokestatic idx, 3)) (hl : Cond.methodLink (mY Y).cls idx arraycopyName ∈ GT) (hm0 : μ.1 a0 = some (iar l0)) (hm1 : μ.1 a1 = some (iar l1)) (hs : ix sp s') (hdp : ix dp d') (hn : ix n n') (h4 : s' + n' ≤ l0.length) (h5 : d' + n' ≤ l1.length) (hc : (st.map fun v => v.category).sum ≤ 8) (kk : Ev g (d + 1) Y (pc + 3) ls st (mupd μ a1 (iar (cpyL l0 l1 s' d' n'))) Q) : Ev g (d + 1) Y pc ls (.int n :: .int dp :: .ref a1 :: .int sp :: .ref a0 :: st) μ Q := by
  obtain ⟨v', μ', hQ, hG, hE⟩ := kk
  refine ⟨v', μ', hQ, hG, fun p e s m args below meth c R H locs k0 la X0 h1 h2 h3 h4' hR hS hL => ?_⟩
  have hts := X0.2.1
  have hf := X0.2.2.2.1
  have hlo := X0.2.2.2.2
  have hG1 := hG.1
  have hG2 := hG.2
  have hG1' : μ.2.1 ≤ μ'.2.1 := hG1
  have hG2' : μ.2.2 ≤ μ'.2.2 := hG2
  have nn : ∀ (z : Int32) (k : Nat), ix z k → z.toInt = (k : Int) := by
    intro z k hz
    have hz0 : (0 : Int) ≤ z.toInt := by
      have := Int32.not_lt.mp hz.1
      simpa using Int32.le_iff_toInt_le.mp this
    have : z.toInt.toNat = k := hz.2
    omega
  intro T hT X
  have hc0 : H[a0]? = some (vp_cell (gA g 0) (l0.length, .inl (fun j => l0.getD j 0))) := hR.at hm0
  have hc1 : H[a1]? = some (vp_cell (gA g 0) (l1.length, .inl (fun j => l1.getD j 0))) := hR.at hm1
  obtain ⟨-, kA0, hk0, cm0, hkk0⟩ := (X0.2.2.1.1.2 0 _ rfl).1 l0.length (fun j => .int (l0.getD j 0))
  obtain ⟨-, kA1, hk1, cm1, hkk1⟩ := (X0.2.2.1.1.2 0 _ rfl).1 l1.length (fun j => .int (l1.getD j 0))
  obtain ⟨vm', X', step⟩ := X.arraycopy X0.1.1 X0.1.2.2.2.2.2.2 (hts _ hl) (hts _ (show Cond.native arraycopyName ∈ GT from (mt2 90 rfl rfl))) (hts _ (show Cond.static arraycopyName ∈ GT from (mt2 89 rfl rfl))) (hts _ (mt1 13 rfl rfl)) (src := a0) (dst := a1) (cs := vp_cell (gA g 0) (l0.length, .inl (fun j => l0.getD j 0))) (cd := vp_cell (gA g 0) (l1.length, .inl (fun j => l1.getD j 0))) (srcPos := sp) (destPos := dp) (n := n) (by rw [hT]; exact hc0) (by rw [hT]; exact hc1)
    (fun _ h => by cases h) (fun _ h => by cases h) (fun h => by cases h) (fun h => by cases h) hk0 hk1 hkk0 hkk1 (by simp [refKind]) hs.1 hdp.1 hn.1
    (by rw [nn sp _ hs, nn n _ hn]; show ¬ _ > ((arrV (gA g 0) l0.length (fun j => .int (l0.getD j 0))).slots.size : Int); rw [arrV_size]; omega)
    (by rw [nn dp _ hdp, nn n _ hn]; show ¬ _ > ((arrV (gA g 0) l1.length (fun j => .int (l1.getD j 0))).slots.size : Int); rw [arrV_size]; omega)
    (fun vm₁ _ i hi => by
      have hi' : i < n' := by rw [← hn.2]; exact hi
      have e : (vp_cell (gA g 0) (l0.length, .inl (fun j => l0.getD j 0))).slots.getD (sp.toNatClampNeg + i) .null = .int (l0.getD (sp.toNatClampNeg + i) 0) := by
        show (arrV (gA g 0) l0.length (fun j => .int (l0.getD j 0))).slots.getD _ _ = _
        rw [Array.getD_eq_getD_getElem?, arrV_read _ _ (by rw [hs.2]; omega)]
        rfl
      refine ⟨?_, ?_⟩
      · rw [e]; rfl
      · rw [e]; exact trivial)
    (g := F0 m pc la (.int n :: .int dp :: .ref a1 :: .int sp :: .ref a0 :: st)) rfl (hL.2.1.trans X0.1.2.2.1.symm) (rest := st) rfl (by rw [X0.1.2.1]; exact hd) (by omega) (by
      have hk : nativeFrameWords "java/lang/System" "arraycopy" 5 + 11 ≤ 50 := by decide
      show 2 * 0 + _ + _ ≤ _; omega)
  have e1 : copied (vp_cell (gA g 0) (l0.length, .inl (fun j => l0.getD j 0))) (vp_cell (gA g 0) (l1.length, .inl (fun j => l1.getD j 0))) sp dp n = vp_cell (gA g 0) (l1.length, .inl (va_cpy (fun j => l0.getD j 0) (fun j => l1.getD j 0) sp.toNatClampNeg dp.toNatClampNeg n.toNatClampNeg)) := va_copied (fun z => .int z) (gA g 0) (gA g 0) (fun j => l0.getD j 0) (fun j => l1.getD j 0) (by rw [hs.2, hn.2]; exact h4)
  rw [e1, hs.2, hdp.2, hn.2] at X' step
  have hlt : a1 < H.size := (Array.getElem?_eq_some_iff.mp hc1).1
  have hhi := hR.hi hm1
  have hheap : ((T.setVm vm').setCell a1 (vp_cell (gA g 0) (l1.length, .inl (va_cpy (fun j => l0.getD j 0) (fun j => l1.getD j 0) s' d' n')))).heap = H.setIfInBounds a1 (vp_cell (gA g 0) (l1.length, .inl (va_cpy (fun j => l0.getD j 0) (fun j => l1.getD j 0) s' d' n'))) := by rw [← hT]; rfl
  have oq : ∀ q : Nat, q ≠ a1 → (H.setIfInBounds a1 (vp_cell (gA g 0) (l1.length, .inl (va_cpy (fun j => l0.getD j 0) (fun j => l1.getD j 0) s' d' n'))))[q]? = H[q]? := fun q hq => by simp [Array.getElem?_setIfInBounds, Ne.symm hq]
  have hR1 : Rl g (mupd μ a1 (iar (cpyL l0 l1 s' d' n'))) (H.setIfInBounds a1 (vp_cell (gA g 0) (l1.length, .inl (va_cpy (fun j => l0.getD j 0) (fun j => l1.getD j 0) s' d' n')))) := by
    refine hR.upd hm1 (by simp) oq ?_
    show (H.setIfInBounds a1 _)[a1]? = some (vp_cell _ _)
    rw [Array.getElem?_setIfInBounds_self_of_lt hlt]
    congr 1
    rw [vp_cell_i, vp_cell_i]
    dsimp only
    rw [cpyL_len]
    refine xw_arrV (fun j hj => ?_)
    rw [cpyL_D hj]
    rfl
  obtain ⟨t, a1', b1⟩ := hE p e s m args below meth c R _ _ k0 la X0 h1 h2 h3 h4' hR1 ⟨by simp; exact hS.1, fun q g1 g2 => by
      rw [oq q (fun e => g2 (by rw [e]; exact hhi))]
      exact hS.2.1 q g1 g2, fun q hq => by
      rcases List.mem_append.mp hq with h | h
      · exact hS.2.2 q h
      · obtain ⟨z, -, hz⟩ := List.mem_map.mp h
        rw [← hz]
        exact hhi⟩ hL _ hheap X'
  exact ⟨t, step t a1', b1⟩
end EVCOPY
