/-! ===== the class's search: an order's worth is the reference's ===== -/
def s32 : List Int32 → Int32
  | [] => 0
  | x :: l => x + s32 l
theorem s32_erase {g : Nat → Int32} {h : Nat} : ∀ (l : List Nat), h ∈ l → s32 (l.map g) = g h + s32 ((l.erase h).map g) := by
  intro l
  induction l with
  | nil => intro q; simp at q
  | cons x l ih =>
    intro q
    by_cases e : x = h
    · subst e; rw [List.erase_cons_head]; rfl
    · rw [List.erase_cons_tail (by simpa using e)]
      have := ih ((List.mem_cons.mp q).resolve_left (Ne.symm e))
      show g x + s32 (l.map g) = g h + (g x + s32 ((l.erase h).map g))
      rw [this, ← Int32.add_assoc, ← Int32.add_assoc, Int32.add_comm (g x) (g h)]
theorem s32_pm {g : Nat → Int32} : ∀ (m : Nat) (av os : List Nat), av.length = m → os ∈ pmK m av → s32 (os.map g) = s32 (av.map g) := by
  intro m
  induction m with
  | zero =>
    intro av os hl ho
    have : av = [] := List.length_eq_zero_iff.mp hl
    subst this
    simp [pmK] at ho
    subst ho; rfl
  | succ m ih =>
    intro av os hl ho
    rw [pmK, List.mem_flatMap] at ho
    obtain ⟨h, hh, ho⟩ := ho
    obtain ⟨r, hr, rfl⟩ := List.mem_map.mp ho
    rw [s32_erase av hh, ← ih (av.erase h) r (by rw [List.length_erase_of_mem hh, hl]; rfl) hr]
    rfl
theorem pmK_nd : ∀ (m : Nat) (av os : List Nat), av.length = m → av.Nodup → os ∈ pmK m av → os.Nodup := by
  intro m
  induction m with
  | zero =>
    intro av os hl _ ho
    have : av = [] := List.length_eq_zero_iff.mp hl
    subst this
    simp [pmK] at ho
    subst ho; exact List.nodup_nil
  | succ m ih =>
    intro av os hl hn ho
    rw [pmK, List.mem_flatMap] at ho
    obtain ⟨h, hh, ho⟩ := ho
    obtain ⟨r, hr, rfl⟩ := List.mem_map.mp ho
    have hel : (av.erase h).length = m := by rw [List.length_erase_of_mem hh, hl]; rfl
    obtain ⟨-, q2⟩ := pmK_mem m (av.erase h) hel r hr
    refine List.nodup_cons.mpr ⟨fun q => ?_, ih _ r hel (hn.erase h) hr⟩
    exact (List.Nodup.not_mem_erase hn) ((q2 h).mp q)
theorem kwl_out {F : Nat → Nat → Int32} {S : Nat → Int32} : ∀ (r : List Nat) (z : W6) (th : List Int32) (q : Nat), q ∉ r → (kwl F S r z th).2.getD q 0 = th.getD q 0 := by
  intro r
  induction r with
  | nil => intro z th q _; rfl
  | cons h r ih =>
    intro z th q hq
    rw [kwl, ih _ _ q (fun e => hq (List.mem_cons_of_mem _ e)), setD_ne (fun (e : q = h) => hq (by rw [e]; exact List.mem_cons_self))]
theorem vlK_sum {F : Nat → Nat → Int32} {S : Nat → Int32} {W : Nat → Int32 → Int32} {so : Int32} (hso : ¬ so = 0) : ∀ (r : List Nat) (z : W6) (th : List Int32) (p : Int32), r.Nodup → th.length = 7 → (∀ h ∈ r, h < 7) → vlK F S W so r z p = p + s32 (r.map (fun h => W h ((kwl F S r z th).2.getD h 0))) := by
  intro r
  induction r with
  | nil => intro z th p _ _ _; rw [vlK, if_neg hso]; exact (Int32.add_zero p).symm
  | cons h r ih =>
    intro z th p hn hl hr
    obtain ⟨n1, n2⟩ := List.nodup_cons.mp hn
    have hh := hr h List.mem_cons_self
    rw [vlK, ih (stW F S z h).1 (th.set h (stW F S z h).2) _ n2 (by rw [List.length_set]; exact hl) (fun x hx => hr x (List.mem_cons_of_mem _ hx)), Int32.add_assoc]
    have e : (kwl F S (h :: r) z th).2 = (kwl F S r (stW F S z h).1 (th.set h (stW F S z h).2)).2 := rfl
    rw [e]
    have e2 : (kwl F S r (stW F S z h).1 (th.set h (stW F S z h).2)).2.getD h 0 = (stW F S z h).2 := by
      rw [kwl_out _ _ _ h n1, setD_eq (by omega)]
    show _ = p + (W h ((kwl F S r (stW F S z h).1 (th.set h (stW F S z h).2)).2.getD h 0) + s32 (r.map _))
    rw [e2]
theorem vlK_end {F : Nat → Nat → Int32} {S : Nat → Int32} {W : Nat → Int32 → Int32} : ∀ (r : List Nat) (z : W6) (th : List Int32) (p : Int32), vlK F S W 0 r z p = 0 - (kwl F S r z th).1.1 := by
  intro r
  induction r with
  | nil => intro z th p; rw [vlK, if_pos rfl]; rfl
  | cons h r ih => intro z th p; rw [vlK, ih _ (th.set h (stW F S z h).2)]; rfl
/-- seven bits -/
def rb (b0 b1 b2 b3 b4 b5 b6 : Bool) : Int32 := ((((((0 ||| (if b0 then (1 : Int32) <<< (nI 0 &&& 31) else 0)) ||| (if b1 then (1 : Int32) <<< (nI 1 &&& 31) else 0)) ||| (if b2 then (1 : Int32) <<< (nI 2 &&& 31) else 0)) ||| (if b3 then (1 : Int32) <<< (nI 3 &&& 31) else 0)) ||| (if b4 then (1 : Int32) <<< (nI 4 &&& 31) else 0)) ||| (if b5 then (1 : Int32) <<< (nI 5 &&& 31) else 0)) ||| (if b6 then (1 : Int32) <<< (nI 6 &&& 31) else 0)
theorem rb_at : ∀ (b0 b1 b2 b3 b4 b5 b6 : Bool), ((rb b0 b1 b2 b3 b4 b5 b6 >>> (nI 0 &&& 31)) &&& 1 = if b0 then 1 else 0) ∧ ((rb b0 b1 b2 b3 b4 b5 b6 >>> (nI 1 &&& 31)) &&& 1 = if b1 then 1 else 0) ∧ ((rb b0 b1 b2 b3 b4 b5 b6 >>> (nI 2 &&& 31)) &&& 1 = if b2 then 1 else 0) ∧ ((rb b0 b1 b2 b3 b4 b5 b6 >>> (nI 3 &&& 31)) &&& 1 = if b3 then 1 else 0) ∧ ((rb b0 b1 b2 b3 b4 b5 b6 >>> (nI 4 &&& 31)) &&& 1 = if b4 then 1 else 0) ∧ ((rb b0 b1 b2 b3 b4 b5 b6 >>> (nI 5 &&& 31)) &&& 1 = if b5 then 1 else 0) ∧ ((rb b0 b1 b2 b3 b4 b5 b6 >>> (nI 6 &&& 31)) &&& 1 = if b6 then 1 else 0) := by decide +kernel
theorem or0 (x : Int32) : x ||| 0 = x := Int32.or_zero
def rgB (F : Nat → Nat → Int32) (S : Nat → Int32) (cd : Nat → List Int32) (th : List Int32) (n k : Nat) : Bool := decide (k < n ∧ ¬ vl F S k (ltv F S cd th k) (cd 1) = 0)
theorem rgB_i {F : Nat → Nat → Int32} {S : Nat → Int32} {cd : Nat → List Int32} {th : List Int32} {n k : Nat} (h : k < n) {x : Int32} : (if rgB F S cd th n k then x else 0) = if vl F S k (ltv F S cd th k) (cd 1) = 0 then 0 else x := by
  unfold rgB
  by_cases q : vl F S k (ltv F S cd th k) (cd 1) = 0
  · rw [if_pos q, if_neg (by simp [q])]
  · rw [if_neg q, if_pos (by simp [q, h])]
theorem rgB_n {F : Nat → Nat → Int32} {S : Nat → Int32} {cd : Nat → List Int32} {th : List Int32} {n k : Nat} (h : ¬ k < n) {x : Int32} : (if rgB F S cd th n k then x else 0) = 0 := by
  unfold rgB
  rw [if_neg (by simp [h])]
theorem rngK_rb {F : Nat → Nat → Int32} {S : Nat → Int32} {cd : Nat → List Int32} {th : List Int32} {n : Nat} (hn : n ≤ 7) : rngK F S cd th n 0 0 = rb (rgB F S cd th n 0) (rgB F S cd th n 1) (rgB F S cd th n 2) (rgB F S cd th n 3) (rgB F S cd th n 4) (rgB F S cd th n 5) (rgB F S cd th n 6) := by
  have e : n = 0 ∨ n = 1 ∨ n = 2 ∨ n = 3 ∨ n = 4 ∨ n = 5 ∨ n = 6 ∨ n = 7 := by omega
  unfold rb
  rcases e with rfl | rfl | rfl | rfl | rfl | rfl | rfl | rfl
  all_goals
    simp only [rngK, Nat.zero_add]
    repeat (first | rw [rgB_i (by decide)] | rw [rgB_n (by decide)])
    repeat rw [or0]
  all_goals rfl
theorem rngK_bit {F : Nat → Nat → Int32} {S : Nat → Int32} {cd : Nat → List Int32} {th : List Int32} {n : Nat} (hn : n ≤ 7) {k : Nat} (hk : k < n) : (rngK F S cd th n 0 0 >>> (nI k &&& 31)) &&& 1 = if vl F S k (ltv F S cd th k) (cd 1) = 0 then 0 else 1 := by
  rw [rngK_rb hn, ← rgB_i hk]
  obtain ⟨q0, q1, q2, q3, q4, q5, q6⟩ := rb_at (rgB F S cd th n 0) (rgB F S cd th n 1) (rgB F S cd th n 2) (rgB F S cd th n 3) (rgB F S cd th n 4) (rgB F S cd th n 5) (rgB F S cd th n 6)
  have e : k = 0 ∨ k = 1 ∨ k = 2 ∨ k = 3 ∨ k = 4 ∨ k = 5 ∨ k = 6 := by omega
  rcases e with rfl | rfl | rfl | rfl | rfl | rfl | rfl
  · exact q0
  · exact q1
  · exact q2
  · exact q3
  · exact q4
  · exact q5
  · exact q6
def ix0 : Nat → Nat → List Nat
  | 0, _ => []
  | m + 1, k => k :: ix0 m (k + 1)
theorem ix0_range : ∀ m k, ix0 m k = List.range' k m := by
  intro m
  induction m with
  | zero => intro k; rfl
  | succ m ih => intro k; rw [ix0, ih, List.range'_succ]
theorem prsK_sum {F : Nat → Nat → Int32} {S : Nat → Int32} {cd : Nat → List Int32} {th : List Int32} {n : Nat} (hn : n ≤ 7) : ∀ (m k : Nat) (s : Int32), k + m = n → prsK F S cd th (rngK F S cd th n 0 0) m k s = s + s32 ((ix0 m k).map (fun h => gfv F S cd h (ltv F S cd th h))) := by
  intro m
  induction m with
  | zero => intro k s _; exact (Int32.add_zero s).symm
  | succ m ih =>
    intro k s hk
    rw [prsK, ih (k + 1) _ (by omega), rngK_bit hn (by omega), Int32.add_assoc]
    show _ = s + (gfv F S cd k (ltv F S cd th k) + _)
    congr 2
    unfold gfv
    by_cases q : vl F S k (ltv F S cd th k) (cd 1) = 0
    · rw [if_pos q, if_neg (by decide)]
      rw [if_pos q]
    · rw [if_neg q, if_pos rfl, if_neg q]
section KVAL
variable {ρ : MS} {n t tx : Nat} {cd : Nat → List Int32} {Lf : Nat → Nat}
/-- where a round begins -/
def zS (S : Nat → Int32) : W6 := (S 2, 0, S 1, 0, S 0, 1)
abbrev VlR (ρ : MS) (t : Nat) (cd : Nat → List Int32) (so : Int32) (os : List Nat) : Int32 := vlK (Fc ρ) (Se ρ) (WTs (Fc ρ) (Se ρ) (cdt t cd) so) so os (zS (Se ρ)) 0
theorem eB_vl (hV : VF (Fc ρ)) (hS : VS (Se ρ)) (hn : n ≤ 7) {so : Int32} {os : List Nat} (ho : os ∈ pm n) : VlR ρ t cd so os = if so = 0 then 0 - eB ρ n t cd so os else eB ρ n t cd so os := by
  obtain ⟨q1, q2⟩ := pm_mem ho
  have hr : ∀ h ∈ os, h < 7 := fun h hh => by have := (q2 h).mp hh; omega
  have hrd := kwl_rd hV hS hr (List.replicate 7 0)
  have e1 : (rd0 (Fc ρ) (Se ρ) os).1 = (kwl (Fc ρ) (Se ρ) os (zS (Se ρ)) (List.replicate 7 0)).1.1 := congrArg (·.1) hrd
  have e2 : (rd0 (Fc ρ) (Se ρ) os).2.2 = (kwl (Fc ρ) (Se ρ) os (zS (Se ρ)) (List.replicate 7 0)).2 := congrArg (·.2.2) hrd
  have hrg := rd0_rg hV hS hr (by omega)
  unfold eB VlR
  by_cases hso : so = 0
  · rw [if_pos hso, if_pos hso, hso, vlK_end os (zS (Se ρ)) (List.replicate 7 0), e1]
  · rw [if_neg hso, if_neg hso, prsK_sum hn n 0 0 (by omega)]
    have nd : os.Nodup := pmK_nd n (List.range n) os (by simp) List.nodup_range ho
    rw [vlK_sum hso os (zS (Se ρ)) (List.replicate 7 0) 0 nd (by simp) hr]
    congr 1
    have er : ix0 n 0 = List.range n := by rw [ix0_range, List.range_eq_range']
    rw [er, ← s32_pm n (List.range n) os (by simp) ho, ← e2]
    congr 1
    apply List.map_congr_left
    intro h hh
    obtain ⟨t0, t1⟩ := hrg.2.2 h hh
    have hs2 := hS.2.2.1.1
    have hh7 := hr h hh
    obtain ⟨b0, b1⟩ := byv_r (F := Fc ρ) (S := Se ρ) (cd := cdt t cd) (h := h)
    have hle := lte_i b0 b1 (t := (rd0 (Fc ρ) (Se ρ) os).2.2.getD h 0) (by omega)
    have hs2b := hS.2.2.1.2
    have el : ltv (Fc ρ) (Se ρ) (cdt t cd) (rd0 (Fc ρ) (Se ρ) os).2.2 h = lte (byv (Fc ρ) (Se ρ) (cdt t cd) h) ((rd0 (Fc ρ) (Se ρ) os).2.2.getD h 0) := rfl
    rw [el]
    unfold WTs
    rw [if_neg hso]
    unfold wrt
    generalize lte (byv (Fc ρ) (Se ρ) (cdt t cd) h) ((rd0 (Fc ρ) (Se ρ) os).2.2.getD h 0) = l at *
    have hl0 : 0 ≤ l.toInt ∧ l.toInt ≤ 3000 := by rw [hle]; split <;> omega
    have c : (108 : Int32).toInt = 108 := by decide
    by_cases q : 108 ≤ l
    · rw [if_pos q]
      rw [Int32.le_iff_toInt_le, c] at q
      unfold gfv
      rw [(tpv_rg (cd := cdt t cd) hV hS hh7 hl0.1 (by omega)).2.2 q]
      split <;> rfl
    · rw [if_neg q]
      have e : nI l.toInt.toNat = l := by
        apply Int32.toInt_inj.mp
        rw [nI_i (by omega)]; omega
      unfold gfT
      rw [e]
theorem srK_fb {so : Int32} {E V : List Nat → Int32} (hE : ∀ os, V os = if so = 0 then 0 - E os else E os) : ∀ (Ps : List (List Nat)) (best : Int32) (bo : List Nat), (so = 0 → 0 ≤ best.toInt ∧ ∀ os ∈ Ps, 0 ≤ (E os).toInt) → srK V [] Ps ((if so = 0 then 0 - best else best), bo) = ((if so = 0 then 0 - (fbK so E Ps best bo).1 else (fbK so E Ps best bo).1), (fbK so E Ps best bo).2) := by
  intro Ps
  induction Ps with
  | nil => intro best bo _; rfl
  | cons os Ps ih =>
    intro best bo h
    rw [srK, fbK, hE]
    by_cases hso : so = 0
    · obtain ⟨h0, h1⟩ := h hso
      have hE0 := h1 os List.mem_cons_self
      have n1 := neg_i hE0
      have n2 := neg_i h0
      subst hso
      rw [if_pos rfl, if_pos rfl] 
      by_cases q : E os < best
      · rw [if_pos (Or.inl ⟨rfl, q⟩)]
        rw [Int32.lt_iff_toInt_lt] at q
        have q2 : 0 - best < 0 - E os := by rw [Int32.lt_iff_toInt_lt, n1, n2]; omega
        have := ih (E os) os (fun _ => ⟨hE0, fun x hx => h1 x (List.mem_cons_of_mem _ hx)⟩)
        rw [if_pos rfl] at this
        have q3 : (0 - best, bo).1 < 0 - E os := q2
        rw [if_pos q3]; exact this
      · have nq : ¬ (((0 : Int32) = 0 ∧ E os < best) ∨ (¬ (0 : Int32) = 0 ∧ best < E os)) := fun z => z.elim (fun y => q y.2) (fun y => y.1 rfl)
        rw [if_neg nq]
        rw [Int32.lt_iff_toInt_lt] at q
        have q2 : ¬ 0 - best < 0 - E os := by rw [Int32.lt_iff_toInt_lt, n1, n2]; omega
        have := ih best bo (fun _ => ⟨h0, fun x hx => h1 x (List.mem_cons_of_mem _ hx)⟩)
        rw [if_pos rfl] at this
        have q3 : ¬ (0 - best, bo).1 < 0 - E os := q2
        rw [if_neg q3]; exact this
    · rw [if_neg hso, if_neg hso]
      by_cases q : best < E os
      · rw [if_pos (Or.inr ⟨hso, q⟩)]
        have := ih (E os) os (fun z => absurd z hso)
        rw [if_neg hso] at this
        have q3 : (best, bo).1 < E os := q
        rw [if_pos q3]; exact this
      · have nq : ¬ ((so = 0 ∧ E os < best) ∨ (¬ so = 0 ∧ best < E os)) := fun z => z.elim (fun y => hso y.1) (fun y => q y.2)
        rw [if_neg nq]
        have := ih best bo (fun z => absurd z hso)
        rw [if_neg hso] at this
        have q3 : ¬ (best, bo).1 < E os := q
        rw [if_neg q3]; exact this
end KVAL
