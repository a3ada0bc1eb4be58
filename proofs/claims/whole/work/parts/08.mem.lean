/-! ===== rules of the memory ===== -/
abbrev obj (ci : Nat) (fs : List Value) : MC := .inr (.inr (ci, fs))
abbrev rar (t : Nat) (l : List (Option Nat)) : MC := .inr (.inl (t, l))
abbrev iar (l : List Int32) : MC := .inl l
theorem Rl.at {g : Gl} {μ : Mm} {H : Heap} (h : Rl g μ H) {a : Nat} {e : MC} (ha : μ.1 a = some e) : va_at (gD g) vwCl (a, mE g e) H := (h.2 a e ha).2
theorem Rl.hi {g : Gl} {μ : Mm} {H : Heap} (h : Rl g μ H) {a : Nat} {e : MC} (ha : μ.1 a = some e) : gB g ≤ a := (h.2 a e ha).1
theorem Rl.upd {g : Gl} {μ : Mm} {H H1 : Heap} (h : Rl g μ H) {a : Nat} {e0 e : MC} (ha : μ.1 a = some e0) (hz : H1.size = H.size) (ho : ∀ q : Nat, q ≠ a → H1[q]? = H[q]?) (he : va_at (gD g) vwCl (a, mE g e) H1) : Rl g (mupd μ a e) H1 := by
  refine ⟨hz.trans h.1, fun b x hb => ?_⟩
  simp only [mupd] at hb
  split at hb
  · rename_i hba
    subst hba
    cases hb
    exact ⟨h.hi ha, he⟩
  · rename_i hba
    exact ⟨h.hi hb, (h.at hb).kept (ho b hba)⟩
theorem Rl.new {g : Gl} {μ : Mm} {H H1 : Heap} (h : Rl g μ H) {e : MC} {k : Nat} (hB : gB g ≤ H.size) (hz : H1.size = H.size + 1) (ho : ∀ q : Nat, q < H.size → H1[q]? = H[q]?) (he : va_at (gD g) vwCl (H.size, mE g e) H1) : Rl g (mnew μ e k) H1 := by
  refine ⟨by rw [hz, h.1]; rfl, fun b x hb => ?_⟩
  simp only [mnew] at hb
  split at hb
  · rename_i hba
    cases hb
    rw [hba, ← h.1]
    exact ⟨hB, he⟩
  · exact ⟨h.hi hb, (h.at hb).kept (ho b (h.at hb).lt)⟩
theorem va_S.new {A : Nat → Prop} {H0 H H1 : Heap} {locs : List Loc} (h : va_S A H0 H locs) (hz : H1.size = H.size + 1) (ho : ∀ q : Nat, q < H.size → H1[q]? = H[q]?) : va_S A H0 H1 locs :=
  ⟨Nat.le_trans h.1 (by omega), fun q h1 h2 => (ho q (Nat.lt_of_lt_of_le h1 h.1)).trans (h.2.1 q h1 h2), h.2.2⟩
/-- a field's link: by which pool entry of which class the k-th field of class ci is read -/
def FL (own : String) (idx ci k : Nat) : Prop := ∃ (C : String) (T : u_T) (N : Nat) (ref : String), vwCl[ci]? = some (C, T, N) ∧ k < N ∧ (∀ w ∈ u_ws C T N, w ∈ GT) ∧ Cond.fieldLink own idx ref (T k).2.1 (T k).2.2.1 ∈ GT ∧ (ref = (T k).1 ∨ Cond.sameField ref (T k).1 (T k).2.1 (T k).2.2.1 ∈ GT)
/-- and written -/
def FP (own : String) (idx ci k : Nat) (ty : FieldType) (fin : Bool) : Prop := ∃ (C : String) (T : u_T) (N : Nat) (ref : String) (ty0 : Nat → FieldType), vwCl[ci]? = some (C, T, N) ∧ k < N ∧ (∀ w ∈ u_ws C T N, w ∈ GT) ∧ Cond.fieldLink own idx ref (T k).2.1 (T k).2.2.1 ∈ GT ∧ (ref = (T k).1 ∨ Cond.sameField ref (T k).1 (T k).2.1 (T k).2.2.1 ∈ GT) ∧
  (∀ k, k < N → parseFieldDescriptor (T k).2.2.1 = some (ty0 k)) ∧ (∀ a, a < N → ∀ b, b < N → a ≠ b → (T a).2.1 ≠ (T b).2.1) ∧ parseFieldDescriptor (T k).2.2.1 = some ty ∧ (T k).2.2.2 = fin ∧ (fin = true → (T k).1 = own)
/-- an int as an index -/
def ix (i : Int32) (k : Nat) : Prop := ¬ i < 0 ∧ i.toNatClampNeg = k
theorem ix_n {k : Nat} (h : k < 2 ^ 31) : ix (nI k) k := ⟨nI_pos h, nI_clamp h⟩
theorem ix.in {i : Int32} {k n : Nat} (h : ix i k) (hk : k < n) : vp_in i n := by
  rintro (q | q)
  · exact h.1 q
  · rw [h.2] at q; omega
section MEM
variable {g : Gl} {d : Nat} {Y : Md} {pc : Nat} {ls : List (Option Value)} {st : List Value} {μ : Mm} {Q : Option Value → Mm → Prop}
theorem hsame_of {own ref : String} {T : u_T} {k : Nat} {args : Array Value} {s : State} (hts : ∀ w ∈ GT, w.before args s = true) (h : ref = (T k).1 ∨ Cond.sameField ref (T k).1 (T k).2.1 (T k).2.2.1 ∈ GT) : ∀ x, s.fieldFound? (T k).1 (T k).2.1 (T k).2.2.1 = some x → s.fieldFound? ref (T k).2.1 (T k).2.2.1 = some x := by
  rcases h with h | h
  · subst h; exact fun _ h => h
  · exact fun x hx => u_same (hts _ h) x hx
theorem ev_get {a idx ci k : Nat} {fs : List Value} {v : Value} (hd : decode (mC Y) pc = .ok (.getfield idx, 3)) (hf : FL (mY Y).cls idx ci k) (hm : μ.1 a = some (obj ci fs)) (hv : fs[k]? = some v) (kk : Ev g d Y (pc + 3) ls (v :: st) μ Q) : Ev g d Y pc ls (.ref a :: st) μ Q := by
  obtain ⟨C, T, N, ref, hc, hk, hin, hw, hsm⟩ := hf
  refine ev_w (fun p e s m args below meth c R H locs cells slots Q' la X hR hS hL kk => ?_) kk
  have hP : va_P (gD g) vwCl [(a, .inr (ci, fs))] H := fun j q hj => by
    cases j with
    | zero => cases hj; exact hR.at hm
    | succ j => simp at hj
  exact va_get X.1.1 X.1.2.1 X.2.1 hin X.1.2.2.2.2.2.2 X.2.2.1.1 hP 0 rfl hc k hk (X.2.1 _ hw) (hsame_of (own := C) X.2.1 hsm) hv hd kk
theorem ev_put {a idx ci k : Nat} {fs : List Value} {v : Value} {ty : FieldType} (hd : decode (mC Y) pc = .ok (.putfield idx, 3)) (hf : FP (mY Y).cls idx ci k ty false) (hm : μ.1 a = some (obj ci fs)) (hl : k < fs.length) (hn : narrow ty v = v) (hfit : fits ty v = true) (kk : Ev g d Y (pc + 3) ls st (mupd μ a (obj ci (fs.set k v))) Q) : Ev g d Y pc ls (v :: .ref a :: st) μ Q := by
  obtain ⟨C, T, N, ref, ty0, hc, hk, hin, hw, hsm, hty, hnm, hpd, hfin, -⟩ := hf
  obtain ⟨v', μ', hQ, hG, hE⟩ := kk
  refine ⟨v', μ', hQ, hG, fun p e s m args below meth c R H locs k0 la X h1 h2 h3 h4 hR hS hL => ?_⟩
  have hts := X.2.1
  have hK := X.2.2.1.1
  have hown := X.1.2.2.2.2.2.2
  have hap := va_apart (own := (mY Y).cls) hts hin ty0 hty hnm hK hc
  obtain ⟨r, hr1, cell, q1, q2, q3, q4⟩ := hR.at hm
  have hr : r = (C, T, N) := Option.some.inj (hr1.symm.trans hc)
  subst hr
  obtain ⟨hSl, hfc, kC, hkC, hkind⟩ := hK.1 ci _ hc
  obtain ⟨cf, kf, fi, f, hi, hsl⟩ := hSl k hk
  have hlay := hts _ (hin _ (u_in_lay hk))
  unfold u_lay at hlay
  rw [if_neg (by rw [hfin]; decide)] at hlay
  have hst := (u_facts hfc hkC (u_lays hts hin hk) hi).1
  have h6 := u_store hfc hkC hkind hlay hi hpd hn hfit
  refine W.putK X.1.1 X.1.2.1 (f := f) ⟨hown, hts _ hw, ⟨_, _, _, hsame_of (own := C) hts hsm _ hi⟩, hst⟩ (by rw [q2]; exact h6) q1 q3 (by rw [hsl]; exact k2_hasslot (q4 k hk)) rfl rfl hd fun H' e1 e2 e3 => ?_
  rw [hsl] at e1 ⊢
  have he : va_at (gD g) vwCl (a, mE g (obj ci (fs.set k v))) H' := ⟨_, hc, t_OB.to (V := updV (vp_V fs) k v) ⟨_, e1, q2, q3, t_set q4 hap hk v⟩ (fun j _ => vp_updV_set hl v j)⟩
  exact hE p e s m args below meth c R H' _ k0 la X h1 h2 h3 h4 (hR.upd hm e2 e3 he) (hS.put e2 e3 (hR.hi hm)) hL
theorem ev_putF {a idx ci k : Nat} {fs : List Value} {v : Value} {ty : FieldType} (hd : decode (mC Y) pc = .ok (.putfield idx, 3)) (hf : FP (mY Y).cls idx ci k ty true) (hin2 : (mY Y).name = "<init>") (hm : μ.1 a = some (obj ci fs)) (hl : k < fs.length) (hn : narrow ty v = v) (hfit : fits ty v = true) (kk : Ev g d Y (pc + 3) ls st (mupd μ a (obj ci (fs.set k v))) Q) : Ev g d Y pc ls (v :: .ref a :: st) μ Q := by
  obtain ⟨C, T, N, ref, ty0, hc, hk, hin, hw, hsm, hty, hnm, hpd, hfin, hdecl⟩ := hf
  have hdecl := hdecl rfl
  obtain ⟨v', μ', hQ, hG, hE⟩ := kk
  refine ⟨v', μ', hQ, hG, fun p e s m args below meth c R H locs k0 la X h1 h2 h3 h4 hR hS hL => ?_⟩
  have hts := X.2.1
  have hK := X.2.2.1.1
  have hown := X.1.2.2.2.2.2.2
  have hap := va_apart (own := (mY Y).cls) hts hin ty0 hty hnm hK hc
  obtain ⟨r, hr1, cell, q1, q2, q3, q4⟩ := hR.at hm
  have hr : r = (C, T, N) := Option.some.inj (hr1.symm.trans hc)
  subst hr
  obtain ⟨hSl, hfc, kC, hkC, hkind⟩ := hK.1 ci _ hc
  obtain ⟨cf, kf, fi, f, hi, hsl⟩ := hSl k hk
  have hlay := hts _ (hin _ (u_in_lay hk))
  unfold u_lay at hlay
  rw [if_pos hfin] at hlay
  have hst := (u_facts hfc hkC (u_lays hts hin hk) hi).1
  have hcf : m.cls = cf := by
    obtain ⟨_, _, c', _, _, _, -, -, hf', -, -, -, hown2, -⟩ := Cond.laysFinal_spec hlay
    have e1 : c' = cf := by have := hi.symm.trans hf'; simp at this; exact this.1.symm
    rw [hdecl] at hown2
    rw [← e1]; exact Option.some.inj (hown.symm.trans hown2)
  have h6 := u_fits hfc hkC hkind (Or.inr hlay) hi hpd hn hfit
  refine W.putFinK X.1.1 X.1.2.1 hown (hts _ hw) (hsame_of (own := C) hts hsm _ hi) hst hcf (X.1.2.2.2.2.2.1.trans hin2) (by rw [q2]; exact h6) q1 q3 (by rw [hsl]; exact k2_hasslot (q4 k hk)) rfl rfl hd fun H' e1 e2 e3 => ?_
  rw [hsl] at e1 ⊢
  have he : va_at (gD g) vwCl (a, mE g (obj ci (fs.set k v))) H' := ⟨_, hc, t_OB.to (V := updV (vp_V fs) k v) ⟨_, e1, q2, q3, t_set q4 hap hk v⟩ (fun j _ => vp_updV_set hl v j)⟩
  exact hE p e s m args below meth c R H' _ k0 la X h1 h2 h3 h4 (hR.upd hm e2 e3 he) (hS.put e2 e3 (hR.hi hm)) hL
theorem ev_iald {a k : Nat} {l : List Int32} {i v : Int32} (hd : decode (mC Y) pc = .ok (.iaload, 1)) (hm : μ.1 a = some (iar l)) (hx : ix i k) (hv : l[k]? = some v) (kk : Ev g d Y (pc + 1) ls (.int v :: st) μ Q) : Ev g d Y pc ls (.int i :: .ref a :: st) μ Q := by
  refine ev_w (fun p e s m args below meth c R H locs cells slots Q' la X hR hS hL kk => ?_) kk
  have hP : va_P (gD g) vwCl [(a, mE g (iar l))] H := fun j q hj => by
    cases j with
    | zero => cases hj; exact hR.at hm
    | succ j => simp at hj
  refine va_iald X.1.1 X.1.2.1 X.2.2.1.1 hP 0 0 rfl rfl (hx.in (List.getElem?_eq_some_iff.mp hv).1) hd ?_
  rw [hx.2, List.getD_eq_getElem?_getD, hv]
  exact kk
theorem ev_alen {a : Nat} {l : List Int32} (hd : decode (mC Y) pc = .ok (.arraylength, 1)) (hm : μ.1 a = some (iar l)) (kk : Ev g d Y (pc + 1) ls (.int (nI l.length) :: st) μ Q) : Ev g d Y pc ls (.ref a :: st) μ Q := by
  refine ev_w (fun p e s m args below meth c R H locs cells slots Q' la X hR hS hL kk => ?_) kk
  exact W.alen X.1.1 X.1.2.1 (hR.at hm) ((X.2.2.1.1.2 0 _ rfl).1 _ _) (by show (arrV _ _ _).slots.size.toInt32 = _; rw [arrV_size]; rfl) rfl rfl hd kk
theorem ev_alenR {a t : Nat} {l : List (Option Nat)} (hd : decode (mC Y) pc = .ok (.arraylength, 1)) (hm : μ.1 a = some (rar t l)) (ht : t < 6) (kk : Ev g d Y (pc + 1) ls (.int (nI l.length) :: st) μ Q) : Ev g d Y pc ls (.ref a :: st) μ Q := by
  refine ev_w (fun p e s m args below meth c R H locs cells slots Q' la X hR hS hL kk => ?_) kk
  have hz : ∃ ty, (tysG g)[t]? = some (gA g t, ty) := by
    match t, ht with
    | 0, _ => exact ⟨_, rfl⟩
    | 1, _ => exact ⟨_, rfl⟩
    | 2, _ => exact ⟨_, rfl⟩
    | 3, _ => exact ⟨_, rfl⟩
    | 4, _ => exact ⟨_, rfl⟩
    | 5, _ => exact ⟨_, rfl⟩
  obtain ⟨ty, hty⟩ := hz
  exact W.alen X.1.1 X.1.2.1 (hR.at hm) ((X.2.2.1.1.2 t _ hty).1 _ _) (by show (arrV _ _ _).slots.size.toInt32 = _; rw [arrV_size]; rfl) rfl rfl hd kk
theorem getD_set {α : Type} {l : List α} {k : Nat} {x z : α} (hk : k < l.length) (q : Nat) : (l.set k x).getD q z = if q = k then x else l.getD q z := by
  simp only [List.getD_eq_getElem?_getD, List.getElem?_set]
  by_cases h : k = q
  · subst h; simp [hk]
  · simp [h, Ne.symm h]
theorem ev_iast {a k : Nat} {l : List Int32} {i x : Int32} (hd : decode (mC Y) pc = .ok (.iastore, 1)) (hm : μ.1 a = some (iar l)) (hx : ix i k) (hk : k < l.length) (kk : Ev g d Y (pc + 1) ls st (mupd μ a (iar (l.set k x))) Q) : Ev g d Y pc ls (.int x :: .int i :: .ref a :: st) μ Q := by
  obtain ⟨v', μ', hQ, hG, hE⟩ := kk
  refine ⟨v', μ', hQ, hG, fun p e s m args below meth c R H locs k0 la X h1 h2 h3 h4 hR hS hL => ?_⟩
  refine W.iast X.1.1 X.1.2.1 (hR.at hm) ((X.2.2.1.1.2 0 _ rfl).1 l.length (fun j => .int (l.getD j 0))) (fun q => by cases q) (by show ¬ (i < 0 ∨ (arrV _ _ _).slots.size ≤ _); rw [arrV_size]; exact hx.in hk) rfl rfl hd fun H1 e1 z oq => ?_
  refine hE p e s m args below meth c R H1 _ k0 la X h1 h2 h3 h4 (hR.upd hm z oq ?_) (hS.put z oq (hR.hi hm)) hL
  show H1[a]? = some (vp_cell _ _)
  rw [e1]
  dsimp only
  rw [vp_cell_i, vp_cell_i, arrV_store, List.length_set, hx.2]
  congr 2
  funext q
  rw [getD_set hk]
  by_cases hq : q = k
  · subst hq; simp [updV]
  · simp [updV, hq]
theorem tyR {g : Gl} {t : Nat} (h1 : 0 < t) (ht : t < 6) : ∃ ty, (tysG g)[t]? = some (gA g t, ty) ∧ ty.isReference = true := by
  match t, h1, ht with
  | 1, _, _ => exact ⟨_, rfl, rfl⟩
  | 2, _, _ => exact ⟨_, rfl, rfl⟩
  | 3, _, _ => exact ⟨_, rfl, rfl⟩
  | 4, _, _ => exact ⟨_, rfl, rfl⟩
  | 5, _, _ => exact ⟨_, rfl, rfl⟩
theorem ev_aald {a t k : Nat} {l : List (Option Nat)} {i : Int32} {v : Option Nat} (hd : decode (mC Y) pc = .ok (.aaload, 1)) (hm : μ.1 a = some (rar t l)) (h1 : 0 < t) (ht : t < 6) (hx : ix i k) (hv : l[k]? = some v) (kk : Ev g d Y (pc + 1) ls (va_rf v :: st) μ Q) : Ev g d Y pc ls (.int i :: .ref a :: st) μ Q := by
  refine ev_w (fun p e s m args below meth c R H locs cells slots Q' la X hR hS hL kk => ?_) kk
  obtain ⟨ty, hty, hrf⟩ := tyR (g := g) h1 ht
  have hlt := (List.getElem?_eq_some_iff.mp hv).1
  refine W.aald (v := va_rf v) (ty := ty) X.1.1 X.1.2.1 (hR.at hm) ((X.2.2.1.1.2 t _ hty).1 l.length (fun j => va_rf (l.getD j none))) hrf (fun q => by cases q) (by show ¬ (i < 0 ∨ (arrV _ _ _).slots.size ≤ _); rw [arrV_size]; exact hx.in hlt) ?_ rfl rfl hd kk
  show (arrV _ _ _).slots[_]? = _
  rw [hx.2, arrV_read _ _ hlt]
  dsimp only
  rw [List.getD_eq_getElem?_getD, hv]
  rfl
/-- which class may be put into which row of references -/
def AOK (g : Gl) (t ci : Nat) : Prop := ∃ (C E : String) (T : u_T) (N cj : Nat) (T' : u_T) (N' : Nat), vwCl[ci]? = some (C, T, N) ∧ vwCl[cj]? = some (E, T', N') ∧ (tysG g)[t]? = some (gA g t, .object E) ∧ (C = E ∨ (C, E) ∈ ctN)
theorem ev_aast {a b t ci k : Nat} {l : List (Option Nat)} {fs : List Value} {i : Int32} (hd : decode (mC Y) pc = .ok (.aastore, 1)) (hm : μ.1 a = some (rar t l)) (hb : μ.1 b = some (obj ci fs)) (hok : AOK g t ci) (hx : ix i k) (hk : k < l.length) (kk : Ev g d Y (pc + 1) ls st (mupd μ a (rar t (l.set k (some b)))) Q) : Ev g d Y pc ls (.ref b :: .int i :: .ref a :: st) μ Q := by
  obtain ⟨C, E, T, N, cj, T', N', hc, hcE, hty, hCE⟩ := hok
  obtain ⟨v', μ', hQ, hG, hE⟩ := kk
  refine ⟨v', μ', hQ, hG, fun p e s m args below meth c R H locs k0 la X h1 h2 h3 h4 hR hS hL => ?_⟩
  have hK := X.2.2.1.1
  obtain ⟨r', hr', cellV, g1, g2, g3, -⟩ := hR.at hb
  have hcls := (hK.1 ci _ hc).2
  obtain ⟨kA, comp, k1, k2, k3, -⟩ := (hK.2 t _ hty).2
  obtain ⟨kC, hkC, hkind⟩ := hcls.2
  have hasg : s.vm.assignable (gD g |>.1 ci) comp = true ∧ ∃ kk', s.vm.classes[comp]? = some kk' := by
    rcases hCE with h | h
    · subst h
      have hcomp : comp = (gD g).1 ci := Option.some.inj (k3.symm.trans hcls.1)
      subst hcomp
      exact ⟨va_assign hcls, _, hkC⟩
    · obtain ⟨c0, t1, f1, f2, f3⟩ := Cond.castable_spec (va_Nw.use (A := args) rfl (X.2.2.1.2.2.2.1 _ h))
      have e1 : c0 = (gD g).1 ci := Option.some.inj (f1.symm.trans hcls.1)
      have e2 : t1 = comp := Option.some.inj (f2.symm.trans k3)
      subst e1; subst e2
      obtain ⟨kE, hkE, -⟩ := (hK.1 cj _ hcE).2.2
      have e3 : t1 = (gD g).1 cj := Option.some.inj (k3.symm.trans (hK.1 cj _ hcE).2.1)
      exact ⟨f3, kE, by rw [e3]; exact hkE⟩
  obtain ⟨hasg, kcmp, hkcmp⟩ := hasg
  refine W.aast X.1.1 X.1.2.1 (hR.at hm) (fun q h => by cases h) (fun h => by cases h) k1 k2 rfl hkcmp ⟨hx.1, by show _ < (arrV _ _ _).slots.size; rw [arrV_size, hx.2]; exact hk⟩ g1 (fun q h => by rw [g3] at h; cases h) (by rw [g2]; exact hkC) (by rw [g2]; exact hasg) rfl rfl hd fun H1 e1 z oq => ?_
  refine hE p e s m args below meth c R H1 _ k0 la X h1 h2 h3 h4 (hR.upd hm z oq ?_) (hS.put z oq (hR.hi hm)) hL
  show H1[a]? = some (vp_cell _ _)
  rw [e1]
  dsimp only
  rw [vp_cell_q, vp_cell_q, arrV_store, List.length_set, hx.2]
  congr 2
  funext q
  rw [getD_set hk]
  by_cases hq : q = k
  · subst hq; simp [updV, va_rf]
  · simp [updV, hq]
theorem ev_newa {n : Int32} {N : Nat} (hd : decode (mC Y) pc = .ok (.newarray .int, 2)) (hn : ix n N) (hN : N ≤ 4000000) (kk : Ev g d Y (pc + 2) ls (.ref μ.2.1 :: st) (mnew μ (iar (List.replicate N 0)) N) Q) : Ev g d Y pc ls (.int n :: st) μ Q := by
  obtain ⟨v', μ', hQ, hG, hE⟩ := kk
  have hG1 : μ.2.1 + 1 ≤ μ'.2.1 := hG.1
  have hG2 : μ.2.2 + N ≤ μ'.2.2 := hG.2
  refine ⟨v', μ', hQ, ⟨by omega, by omega⟩, fun p e s m args below meth c R H locs k0 la X h1 h2 h3 h4 hR hS hL => ?_⟩
  have hK := X.2.2.1.1
  have hB : gB g ≤ H.size := Nat.le_trans X.2.2.1.2.1 hS.1
  have hsz := hR.1
  refine va_newaK (atype := .int) (N := N) X.1.1 X.1.2.1 (X.2.1 _ wI) rfl hd rfl hn.1 hn.2 (by show N * 4 ≤ _; omega) (by omega) (by omega) rfl fun H1 cA e1 z1 o1 hAr hNm => ?_
  have hcA : gA g 0 = cA := Option.some.inj ((hK.2 0 _ rfl).2.symm.trans hNm)
  have hz := hE p e s m args below meth c R H1 locs k0 la X (by show _ ≤ μ.2.1 + 1; omega) (by show _ ≤ μ.2.2 + N; omega) h3 h4 (hR.new hB z1 o1 (by
    show H1[H.size]? = some (vp_cell _ _)
    rw [e1, ← hcA]
    dsimp only
    rw [vp_cell_i, List.length_replicate]
    congr 2
    funext q
    simp only [List.getD_eq_getElem?_getD, List.getElem?_replicate]
    split <;> rfl)) (hS.new z1 o1) hL
  rw [show (mnew μ (iar (List.replicate N 0)) N).2.1 - s.heap.size = μ.2.1 - s.heap.size + 1 by show μ.2.1 + 1 - _ = _; omega, show (mnew μ (iar (List.replicate N 0)) N).2.2 - k0 = μ.2.2 - k0 + N by show μ.2.2 + N - _ = _; omega] at hz
  rw [hsz]
  exact hz
end MEM
