/-! ===== rules: new, rows of references, statics, texts, casts ===== -/
def AK (own : String) (idx t : Nat) (E : String) : Prop := Cond.classLink own idx E ∈ GT ∧ E ∈ aoN ∧ (∀ g : Gl, (tysG g)[t]? = some (gA g t, .object E))
section MORE
variable {g : Gl} {d : Nat} {Y : Md} {pc : Nat} {ls : List (Option Value)} {st : List Value} {μ : Mm} {Q : Option Value → Mm → Prop}
theorem ev_new {idx ci N : Nat} {C : String} {T : u_T} {ty : Nat → FieldType} {fs : List Value} (hd : decode (mC Y) pc = .ok (.new idx, 3)) (hc : vwCl[ci]? = some (C, T, N)) (hin : ∀ w ∈ u_ws C T N, w ∈ GT) (hty : ∀ k, k < N → parseFieldDescriptor (T k).2.2.1 = some (ty k)) (hcl : Cond.classLink (mY Y).cls idx C ∈ GT) (hinst : Cond.instantiable C N ∈ GT) (hini : Cond.initialized C ∈ GT) (hfs : ∀ j, j < N → defaultValue (ty j) = vp_V fs j) (kk : Ev g d Y (pc + 3) ls (.ref μ.2.1 :: st) (mnew μ (obj ci fs) N) Q) : Ev g d Y pc ls st μ Q := by
  obtain ⟨v', μ', hQ, hG, hE⟩ := kk
  have hG1 : μ.2.1 + 1 ≤ μ'.2.1 := hG.1
  have hG2 : μ.2.2 + N ≤ μ'.2.2 := hG.2
  refine ⟨v', μ', hQ, ⟨by omega, by omega⟩, fun p e s m args below meth c R H locs k0 la X h1 h2 h3 h4 hR hS hL => ?_⟩
  have hts := X.2.1
  have hK := X.2.2.1.1
  have hB : gB g ≤ H.size := Nat.le_trans X.2.2.1.2.1 hS.1
  have hsz := hR.1
  have hKn := hK.1 ci _ hc
  refine W.newcK X.1.1 X.1.2.1 X.1.2.2.2.2.2.2 (hts _ hcl) (hts _ hinst) (hts _ hini) rfl hd (by omega) (by omega) hKn.2.1 rfl fun H1 kC hkC e1 z1 o1 => ?_
  have hz := hE p e s m args below meth c R H1 locs k0 la X (by show _ ≤ μ.2.1 + 1; omega) (by show _ ≤ μ.2.2 + N; omega) h3 h4 (hR.new hB z1 o1 ⟨_, hc, (u_born ty hts hin hKn hkC e1 hty).to hfs⟩) (hS.new z1 o1) hL
  rw [show (mnew μ (obj ci fs) N).2.1 - s.heap.size = μ.2.1 - s.heap.size + 1 by show μ.2.1 + 1 - _ = _; omega, show (mnew μ (obj ci fs) N).2.2 - k0 = μ.2.2 - k0 + N by show μ.2.2 + N - _ = _; omega] at hz
  rw [hsz]
  exact hz
theorem ev_anew {idx t N : Nat} {E : String} {n : Int32} (hd : decode (mC Y) pc = .ok (.anewarray idx, 3)) (hk : AK (mY Y).cls idx t E) (hn : ix n N) (hN : N ≤ 4000000) (kk : Ev g d Y (pc + 3) ls (.ref μ.2.1 :: st) (mnew μ (rar t (List.replicate N none)) N) Q) : Ev g d Y pc ls (.int n :: st) μ Q := by
  obtain ⟨v', μ', hQ, hG, hE⟩ := kk
  have hG1 : μ.2.1 + 1 ≤ μ'.2.1 := hG.1
  have hG2 : μ.2.2 + N ≤ μ'.2.2 := hG.2
  refine ⟨v', μ', hQ, ⟨by omega, by omega⟩, fun p e s m args below meth c R H locs k0 la X h1 h2 h3 h4 hR hS hL => ?_⟩
  have hts := X.2.1
  have hK := X.2.2.1.1
  have hB : gB g ≤ H.size := Nat.le_trans X.2.2.1.2.1 hS.1
  have hsz := hR.1
  obtain ⟨hcl, hao, hty⟩ := hk
  refine W.anew (C := E) X.1.1 X.1.2.1 X.1.2.2.2.2.2.2 (hts _ hcl) (va_AO.use (X.2.2.1.2.2.2.2.2.2.1 _ hao)) rfl hd rfl hn.1 (by rw [hn.2]; omega) (by omega) (by rw [hn.2]; omega) fun cA kA comp f1 f2 f3 f4 => ?_
  obtain ⟨kA', comp', k1, k2, k3, k4⟩ := (hK.2 t _ (hty g)).2
  have hcA : gA g t = cA := Option.some.inj (k4.symm.trans f1)
  have hz := hE p e s m args below meth c R (H.push { cls := cA, slots := Array.replicate n.toNatClampNeg .null, vm := .none }) locs k0 la X (by show _ ≤ μ.2.1 + 1; omega) (by show _ ≤ μ.2.2 + N; omega) h3 h4 (hR.new hB (by simp) (fun q hq => by rw [Array.getElem?_push, if_neg (Nat.ne_of_lt hq)]) (by
    show (H.push _)[H.size]? = some (vp_cell _ _)
    rw [← hcA, hn.2]
    dsimp only
    rw [vp_cell_q, List.length_replicate]
    have hv : (fun j => va_rf ((List.replicate N (none : Option Nat)).getD j none)) = fun _ => Value.null := by
      funext q
      simp only [List.getD_eq_getElem?_getD, List.getElem?_replicate]
      split <;> rfl
    rw [hv, ← arrV_new]; simp)) (hS.new (by simp) (fun q hq => by rw [Array.getElem?_push, if_neg (Nat.ne_of_lt hq)])) hL
  rw [show (mnew μ (rar t (List.replicate N none)) N).2.1 - s.heap.size = μ.2.1 - s.heap.size + 1 by show μ.2.1 + 1 - _ = _; omega, show (mnew μ (rar t (List.replicate N none)) N).2.2 - k0 = μ.2.2 - k0 + N by show μ.2.2 + N - _ = _; omega] at hz
  rw [hn.2, hsz]
  rw [hn.2] at hz
  exact hz
theorem ev_objInit {idx b : Nat} (hd : decode (mC Y) pc = .ok (.invokespecial idx, 3)) (hl : Cond.methodLink (mY Y).cls idx objectInit ∈ GT) (hi : Cond.instanceMethod objectInit ∈ GT) (hco : Cond.code objectInit ⟨#[0xb1]⟩ 1 none ∈ GT) (hst : (st.map fun v => v.category).sum ≤ 8) (kk : Ev g (d + 1) Y (pc + 3) ls st μ Q) : Ev g (d + 1) Y pc ls (.ref b :: st) μ Q := by
  refine ev_w (fun p e s m args below meth c R H locs cells slots Q' la X hR hS hL kk => ?_) kk
  have hts := X.2.1
  have h1 := X.2.2.2.1
  have h2 := X.2.2.2.2
  refine W.objInit X.1.1 X.1.2.1 X.1.2.2.2.2.2.2 (hts _ hl) (hts _ hi) (hts _ hco) rfl (by rw [X.1.2.2.1]; exact hL.2.1) rfl hd (by omega) (Nat.le_trans (Nat.add_le_add_right (room_st hst) 12) (by omega)) ?_
  exact kk
theorem ev_gets {idx k : Nat} {q : String × String × List Int32} (hd : decode (mC Y) pc = .ok (.getstatic idx, 3)) (hq : saT[k]? = some q) (hl : Cond.fieldLink (mY Y).cls idx q.1 q.2.1 "[I" ∈ GT) (kk : Ev g d Y (pc + 3) ls (.ref (gS g k) :: st) μ Q) : Ev g d Y pc ls st μ Q := by
  refine ev_w (fun p e s m args below meth c R H locs cells slots Q' la X hR hS hL kk => ?_) kk
  exact va_gets X.1.1 X.1.2.1 (X.2.2.1.2.2.2.2.2.2.2.2.1 k q hq).1 hS X.1.2.2.2.2.2.2 (X.2.1 _ hl) (fun _ h => h) hd kk
theorem ev_stald {k j : Nat} {i v : Int32} {q : String × String × List Int32} (hd : decode (mC Y) pc = .ok (.iaload, 1)) (hq : saT[k]? = some q) (hx : ix i j) (hv : q.2.2[j]? = some v) (kk : Ev g d Y (pc + 1) ls (.int v :: st) μ Q) : Ev g d Y pc ls (.int i :: .ref (gS g k) :: st) μ Q := by
  refine ev_w (fun p e s m args below meth c R H locs cells slots Q' la X hR hS hL kk => ?_) kk
  obtain ⟨cell, t1, t2, t3, t4, t5, t6, t7⟩ := ((X.2.2.1.2.2.2.2.2.2.2.2.1 k q hq).2.kept (fun a x y => hS.2.1 a x y))
  have hj := (List.getElem?_eq_some_iff.mp hv).1
  refine W.iald X.1.1 X.1.2.1 (v := .int v) t1 t2 t3 (fun h => h.elim hx.1 (fun h => by rw [hx.2] at h; omega)) ?_ rfl rfl hd kk
  rw [hx.2, t6 j hj]
  dsimp only
  rw [List.getD_eq_getElem?_getD, hv]
  rfl
theorem ev_ldcS {idx k : Nat} {q : String × Nat × String} (hd : decode (mC Y) pc = .ok (.ldc idx, 2)) (hq : scT[k]? = some q) (h1 : q.1 = (mY Y).cls) (h2 : q.2.1 = idx) (kk : Ev g d Y (pc + 2) ls (.ref (gS g (10 + k)) :: st) μ Q) : Ev g d Y pc ls st μ Q := by
  refine ev_w (fun p e s m args below meth c R H locs cells slots Q' la X hR hS hL kk => ?_) kk
  have hz := X.2.2.1.2.2.2.2.2.2.2.2.2.2.2.1 k q hq
  rw [h1, h2] at hz
  exact va_ldcS X.1.1 X.1.2.1 X.1.2.2.2.2.2.2 hz hd kk
theorem ev_instY {idx a ci : Nat} {fs : List Value} {C nm : String} {T : u_T} {N : Nat} (hd : decode (mC Y) pc = .ok (.instanceof idx, 3)) (hl : Cond.classLink (mY Y).cls idx nm ∈ GT) (hm : μ.1 a = some (obj ci fs)) (hc : vwCl[ci]? = some (C, T, N)) (hct : (C, nm) ∈ ctN) (kk : Ev g d Y (pc + 3) ls (.int 1 :: st) μ Q) : Ev g d Y pc ls (.ref a :: st) μ Q := by
  refine ev_w (fun p e s m args below meth c R H locs cells slots Q' la X hR hS hL kk => ?_) kk
  exact va_instY X.1.1 X.1.2.1 X.1.2.2.2.2.2.2 (X.2.1 _ hl) (X.2.2.1.2.2.2.1 _ hct) (rcv_of X.2.2.1 hR hm hc) hd kk
theorem ev_instNo {idx a ci : Nat} {fs : List Value} {C nm : String} {T : u_T} {N : Nat} (hd : decode (mC Y) pc = .ok (.instanceof idx, 3)) (hl : Cond.classLink (mY Y).cls idx nm ∈ GT) (hm : μ.1 a = some (obj ci fs)) (hc : vwCl[ci]? = some (C, T, N)) (hct : (C, nm) ∈ ncN) (kk : Ev g d Y (pc + 3) ls (.int 0 :: st) μ Q) : Ev g d Y pc ls (.ref a :: st) μ Q := by
  refine ev_w (fun p e s m args below meth c R H locs cells slots Q' la X hR hS hL kk => ?_) kk
  exact va_instNo X.1.1 X.1.2.1 X.1.2.2.2.2.2.2 (X.2.1 _ hl) (X.2.2.1.2.2.2.2.2.1 _ hct) (rcv_of X.2.2.1 hR hm hc) hd kk
theorem ev_slen {i : Nat} (hd : decode (mC Y) pc = .ok (.arraylength, 1)) (hi : i = gS g 9) (kk : Ev g d Y (pc + 1) ls (.int (nI (gX g).length) :: st) μ Q) : Ev g d Y pc ls (.ref i :: st) μ Q := by
  subst hi
  refine ev_w (fun p e s m args below meth c R H locs cells slots Q' la X hR hS hL kk => ?_) kk
  obtain ⟨hX, hlt, -⟩ := X.2.2.1.2.2.2.2.2.2.2.2.2.2.2.2
  exact va_slen (A := Hi g) X.1.1 X.1.2.1 hX (Nat.lt_of_lt_of_le hlt X.2.2.1.2.1) (by show ¬ gB g ≤ _; omega) hS hd kk
theorem ev_sld {j : Nat} {i v : Int32} (hd : decode (mC Y) pc = .ok (.iaload, 1)) (hx : ix i j) (hv : (gX g)[j]? = some v) (kk : Ev g d Y (pc + 1) ls (.int v :: st) μ Q) : Ev g d Y pc ls (.int i :: .ref (gS g 9) :: st) μ Q := by
  refine ev_w (fun p e s m args below meth c R H locs cells slots Q' la X hR hS hL kk => ?_) kk
  obtain ⟨hX, hlt, -⟩ := X.2.2.1.2.2.2.2.2.2.2.2.2.2.2.2
  obtain ⟨scr, t1, t2, t3, t4, t5⟩ := hX
  have hj := (List.getElem?_eq_some_iff.mp hv).1
  refine W.iald X.1.1 X.1.2.1 (v := .int v) (by rw [hS.2.1 _ (Nat.lt_of_lt_of_le hlt X.2.2.1.2.1) (by show ¬ gB g ≤ _; omega)]; exact t1) t2 t3 (fun h => h.elim hx.1 (fun h => by rw [hx.2, t4] at h; omega)) ?_ rfl rfl hd kk
  rw [hx.2, t5 j hj]
  dsimp only
  rw [List.getD_eq_getElem?_getD, hv]
  rfl
end MORE
