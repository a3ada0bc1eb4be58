/-! ===== the class: by, rings, tips of a rule ===== -/
theorem exe_hL {L : Nat} {F : Nat → Nat → Int32} {S : Nat → Int32} {h : Nat} {late : Int32} : ∀ (cs st : List Int32) (n' : Nat), (∀ c ∈ cs, vc c) → hLt L cs st.length = some n' → ∃ st', exe F S h late cs st = some st' ∧ st'.length = n' := by
  intro cs
  induction cs with
  | nil => intro st n' _ hh; rw [hLt] at hh; exact ⟨st, rfl, by cases hh; rfl⟩
  | cons c cs ih =>
    intro st n' hv hh
    have hv' : ∀ c ∈ cs, vc c := fun c hm => hv c (List.mem_cons_of_mem _ hm)
    rw [hLt] at hh
    rcases hv c List.mem_cons_self with ⟨v, hv1, rfl⟩ | ⟨k, hk, rfl⟩ | hb | rfl | rfl
    · obtain ⟨e1, e2, e3⟩ := en_num hv1
      rw [if_pos (Int32.lt_trans e1 (by decide))] at hh
      split at hh
      · obtain ⟨st', q1, q2⟩ := ih (nI v :: st) n' hv' hh
        exact ⟨st', by rw [exe]; unfold stp; rw [if_pos e1]; exact q1, q2⟩
      · cases hh
    · obtain ⟨e1, e2, e3, e4⟩ := en_name k hk
      rw [if_pos e2] at hh
      split at hh
      · obtain ⟨st', q1, q2⟩ := ih (nmd F S h late (nI (20000 + k) - 20000) :: st) n' hv' hh
        exact ⟨st', by rw [exe]; unfold stp; rw [if_neg e1, if_pos e2]; exact q1, q2⟩
      · cases hh
    · obtain ⟨e1, e2, e3, e4, e5, e6, e7, e8⟩ := en_bop c hb
      rw [if_neg e2, if_neg (fun q => q.elim e3 e4)] at hh
      split at hh
      · rename_i hge
        rcases st with _ | ⟨y, _ | ⟨z, st⟩⟩
        · exact absurd hge (by simp)
        · exact absurd hge (by simp)
        · obtain ⟨st', q1, q2⟩ := ih (don (c - 30000) z y :: st) n' hv' hh
          exact ⟨st', by rw [exe]; unfold stp; rw [if_neg e1, if_neg e2, if_neg e3, if_neg e4]; exact q1, q2⟩
      · cases hh
    · rw [if_neg (by decide), if_pos (Or.inl rfl)] at hh
      split at hh
      · rename_i hge
        rcases st with _ | ⟨y, st⟩
        · exact absurd hge (by simp)
        · obtain ⟨st', q1, q2⟩ := ih (b2i (y = 0) :: st) n' hv' hh
          exact ⟨st', by rw [exe]; unfold stp; rw [if_neg (by decide), if_neg (by decide), if_pos rfl]; exact q1, q2⟩
      · cases hh
    · rw [if_neg (by decide), if_pos (Or.inr rfl)] at hh
      split at hh
      · rename_i hge
        rcases st with _ | ⟨y, st⟩
        · exact absurd hge (by simp)
        · obtain ⟨st', q1, q2⟩ := ih (-y :: st) n' hv' hh
          exact ⟨st', by rw [exe]; unfold stp; rw [if_neg (by decide), if_neg (by decide), if_neg (by decide), if_pos rfl]; exact q1, q2⟩
      · cases hh
theorem HB.wf {c : List Int32} (h : HB c) : WF c := by
  intro F S k late
  obtain ⟨st', q1, q2⟩ := exe_hL (F := F) (S := S) (h := k) (late := late) c [] 1 h.2 h.1
  rcases st' with _ | ⟨x, _ | ⟨y, st⟩⟩
  · cases q2
  · exact ⟨x, q1⟩
  · simp at q2
theorem max0 {x : Int32} : (if (0 : Int32) < x then x else 0) = if x < 0 then 0 else x := by
  split <;> split <;> rename_i q1 q2
  · exact absurd (Int32.lt_trans q1 q2) (by decide)
  · rfl
  · rfl
  · exact Int32.le_antisymm (Int32.not_lt.mp q2) (Int32.not_lt.mp q1)
/-- the class of a kind -/
def KC (ci : Nat) (k : Int32) : Prop := ci ∈ dks ∧ kdC ci = k
theorem KC.gv {ci h : Nat} {F : Nat → Nat → Int32} {S : Nat → Int32} (hk : KC ci (F 0 h)) (bs la : Int32) : gvC ci (F 1 h) bs la (S 5) = tpq F S h la (bs - la) := by
  obtain ⟨h1, h2⟩ := hk
  simp only [dks, List.mem_cons, List.not_mem_nil, or_false] at h1
  unfold tpq
  rw [← h2]
  rcases h1 with rfl | rfl | rfl | rfl | rfl | rfl <;> rfl
theorem KC.tk {ci h : Nat} {F : Nat → Nat → Int32} {S : Nat → Int32} (hk : KC ci (F 0 h)) : tkC ci (F 1 h) (thk F S h) (S 5) = tks F S h := by
  obtain ⟨h1, h2⟩ := hk
  simp only [dks, List.mem_cons, List.not_mem_nil, or_false] at h1
  unfold tks
  rw [← h2]
  rcases h1 with rfl | rfl | rfl | rfl | rfl | rfl <;> rfl
section KSAYS
variable {g : Gl} {μ : Mm} {u dd ci h : Nat} {F : Nat → Nat → Int32} {S : Nat → Int32} {c0 c1 c2 L : List Int32} {n : Int32}
abbrev StQ (u : Nat) (μ : Mm) (μ' : Mm) : Prop := ∃ L', L'.length = 32 ∧ μ' = mupd μ (u + 2) (iar L')
theorem c_answer (hR : RW u c0 c1 c2 L μ) (hci : ci ∈ dks) (hd : DoorF μ dd ci h n F) (hdu : dd ≠ u + 2) {pre cs post : List Int32} (hs : c0 ++ c1 ++ c2 = pre ++ (cs ++ post)) (hB : HB cs) (late : Int32) : Mt g 2 mX5_answer [.ref u, .int (nI pre.length), .int (nI (pre.length + cs.length)), .ref dd, .int late, .int (S 5)] μ (fun v μ' => v = some (.int (vl F S h late cs)) ∧ StQ u μ μ') := by
  refine Mt.of0 (ls0 := [some (.ref u), some (.int (nI pre.length)), some (.int (nI (pre.length + cs.length))), some (.ref dd), some (.int late), some (.int (S 5)), none, none, none, none]) (by decide) (by simp [Value.category]) (Nat.le_of_ble_eq_true rfl) rfl ?_
  obtain ⟨h1, h2, h3, h4, h5⟩ := hR
  have hlen : (pre ++ (cs ++ post)).length ≤ 160 := by rw [← hs]; simp only [List.length_append]; omega
  simp only [List.length_append] at hlen
  refine ev_own h3 ?_
  refine ev_iconst (v := 0) dX5_answer_0 (by decide) ?_
  refine ev_istore dX5_answer_1 (by decide) ?_
  dsimp only [List.set]
  refine ev_iload_n dX5_answer_3 rfl ?_
  refine ev_istore dX5_answer_4 (by decide) ?_
  dsimp only [List.set]
  refine l_answer (C := (c0 ++ c1 ++ c2).map en) hci hd hdu rfl h1 h2 (by rw [hs]; simp only [List.length_map, List.length_append]; omega) (by omega) cs pre.length [] L _ _ rfl (fun k c hk => ?_) h4 (fun i x hx => by simp at hx) hB.2 hB.1 (hB.wf.ex F S h late)
  have hkl := (List.getElem?_eq_some_iff.mp hk).1
  rw [hs, List.getElem?_map, List.getElem?_append_right (by omega), show pre.length + k - pre.length = k by omega, List.getElem?_append_left hkl, hk]
  rfl
theorem c_kBy (hR : RW u c0 c1 c2 L μ) (hci : ci ∈ dks) (hd : DoorF μ dd ci h n F) (hdu : dd ≠ u + 2) (hB : HB c0) : Mt g 3 mX5_wantedBy [.ref u, .ref dd, .int (S 5)] μ (fun v μ' => v = some (.int (bnd (vl F S h 0 c0) 0 999)) ∧ StQ u μ μ') := by
  refine Mt.of0 (ls0 := [some (.ref u), some (.ref dd), some (.int (S 5))]) (by decide) (by simp [Value.category]) (Nat.le_of_ble_eq_true rfl) rfl ?_
  refine ev_aload_n dX5_wantedBy_0 rfl ?_
  refine ev_iconst (v := 0) dX5_wantedBy_1 (by decide) ?_
  refine ev_aload_n dX5_wantedBy_2 rfl ?_
  refine ev_get dX5_wantedBy_3 flX5_18_5 hR.1 rfl ?_
  refine ev_aload_n dX5_wantedBy_6 rfl ?_
  refine ev_iconst (v := 0) dX5_wantedBy_7 (by decide) ?_
  refine ev_iload_n dX5_wantedBy_8 rfl ?_
  refine k_v (show Mt g 2 mX5_answer [.ref u, .int (nI 0), .int (nI c0.length), .ref dd, .int 0, .int (S 5)] _ _ from by have hz := c_answer (g := g) (S := S) hR hci hd hdu (pre := []) (cs := c0) (post := c1 ++ c2) (by simp) hB 0; rw [List.length_nil, Nat.zero_add] at hz; exact hz) (by decide) dX5_wantedBy_9 cbX5_answer (mt3 147 rfl rfl) (mt3 149 rfl rfl) (ms0 20 rfl rfl) (ci := 5) rfl hR.1 rfl rfl (Nat.le_of_ble_eq_true rfl) (fun v μ1 hq => ?_)
  obtain ⟨rfl, hS⟩ := hq
  simp only [Option.toList, List.cons_append, List.nil_append]
  refine ev_sipush (v := 999) dX5_wantedBy_12 (by decide) ?_
  refine k_s (show Pu g 1 mX5_within [.int _, .int (nI 999)] _ _ from c_within (by decide) _) (by decide) dX5_wantedBy_15 cbX5_within (mt3 163 rfl rfl) (mt3 164 rfl rfl) rfl rfl (Nat.le_of_ble_eq_true rfl) (fun v μ1 hq => ?_)
  obtain ⟨rfl, hμ⟩ := hq
  have hμ := hμ.symm
  subst hμ
  simp only [Option.toList, List.cons_append, List.nil_append]
  refine ev_iret dX5_wantedBy_18 rfl ?_
  exact ⟨rfl, hS⟩
theorem c_kRings (hR : RW u c0 c1 c2 L μ) (hci : ci ∈ dks) (hd : DoorF μ dd ci h n F) (hdu : dd ≠ u + 2) (hB : HB c1) (late : Int32) : Mt g 3 mX5_rings [.ref u, .ref dd, .int late, .int (S 5)] μ (fun v μ' => v = some (.int (b2i (¬ vl F S h late c1 = 0))) ∧ StQ u μ μ') := by
  refine Mt.of0 (ls0 := [some (.ref u), some (.ref dd), some (.int late), some (.int (S 5))]) (by decide) (by simp [Value.category]) (Nat.le_of_ble_eq_true rfl) rfl ?_
  refine ev_aload_n dX5_rings_0 rfl ?_
  refine ev_aload_n dX5_rings_1 rfl ?_
  refine ev_get dX5_rings_2 flX5_18_5 hR.1 rfl ?_
  refine ev_aload_n dX5_rings_5 rfl ?_
  refine ev_get dX5_rings_6 flX5_22_5 hR.1 rfl ?_
  refine ev_aload_n dX5_rings_9 rfl ?_
  refine ev_iload_n dX5_rings_10 rfl ?_
  refine ev_iload_n dX5_rings_11 rfl ?_
  refine k_v (c_answer (S := S) hR hci hd hdu (pre := c0) (cs := c1) (post := c2) (by simp) hB late) (by decide) dX5_rings_12 cbX5_answer (mt3 147 rfl rfl) (mt3 149 rfl rfl) (ms0 20 rfl rfl) (ci := 5) rfl hR.1 rfl rfl (Nat.le_of_ble_eq_true rfl) (fun v μ1 hq => ?_)
  obtain ⟨rfl, hS⟩ := hq
  simp only [Option.toList, List.cons_append, List.nil_append]
  refine ev_if_eq (tgt := 22) dX5_rings_15 (by decide) (fun h15 => ?_) (fun h15 => ?_)
  · refine ev_iconst (v := 0) dX5_rings_22 (by decide) ?_
    refine ev_zret dX5_rings_23 rfl (by decide) ?_
    refine ⟨?_, hS⟩
    first | (rw [b2i_t h15]; done) | (rw [b2i_f (fun q => q h15)]; done)
  · refine ev_iconst (v := 1) dX5_rings_18 (by decide) ?_
    refine ev_goto (tgt := 23) dX5_rings_19 (by decide) ?_
    refine ev_zret dX5_rings_23 rfl (by decide) ?_
    refine ⟨?_, hS⟩
    first | (rw [b2i_t h15]; done) | (rw [b2i_f (fun q => q h15)]; done)
theorem c_kGift (hR : RW u c0 c1 c2 L μ) (hk : KC ci (F 0 h)) (hd : DoorF μ dd ci h (F 1 h) F) (hdu : dd ≠ u + 2) (hB : HB c2) (late : Int32) : Mt g 3 mX5_gift [.ref u, .ref dd, .int late, .int (S 5)] μ (fun v μ' => v = some (.int (if tpq F S h late (bnd (vl F S h late c2) 0 99 - late) < 0 then 0 else tpq F S h late (bnd (vl F S h late c2) 0 99 - late))) ∧ StQ u μ μ') := by
  refine Mt.of0 (ls0 := [some (.ref u), some (.ref dd), some (.int late), some (.int (S 5)), none]) (by decide) (by simp [Value.category]) (Nat.le_of_ble_eq_true rfl) rfl ?_
  have hl : nI ((c0 ++ c1 ++ c2).map en).length = nI ((c0 ++ c1).length + c2.length) := by rw [List.length_map, List.length_append]
  refine ev_aload_n dX5_gift_0 rfl ?_
  refine ev_aload_n dX5_gift_1 rfl ?_
  refine ev_get dX5_gift_2 flX5_22_5 hR.1 rfl ?_
  refine ev_aload_n dX5_gift_5 rfl ?_
  refine ev_get dX5_gift_6 flX5_15_5 hR.1 rfl ?_
  refine ev_alen dX5_gift_9 hR.2.1 ?_
  rw [hl]
  refine ev_aload_n dX5_gift_10 rfl ?_
  refine ev_iload_n dX5_gift_11 rfl ?_
  refine ev_iload_n dX5_gift_12 rfl ?_
  refine k_v (show Mt g 2 mX5_answer [.ref u, .int (nI (c0.length + c1.length)), .int (nI ((c0 ++ c1).length + c2.length)), .ref dd, .int late, .int (S 5)] _ _ from by have hz := c_answer (g := g) (S := S) hR hk.1 hd hdu (pre := c0 ++ c1) (cs := c2) (post := []) (by simp) hB late; rw [show nI (c0 ++ c1).length = nI (c0.length + c1.length) by rw [List.length_append]] at hz; exact hz) (by decide) dX5_gift_13 cbX5_answer (mt3 147 rfl rfl) (mt3 149 rfl rfl) (ms0 20 rfl rfl) (ci := 5) rfl hR.1 rfl rfl (Nat.le_of_ble_eq_true rfl) (fun v μ1 hq => ?_)
  obtain ⟨rfl, hS⟩ := hq
  obtain ⟨L', hL', hμe⟩ := id hS
  simp only [Option.toList, List.cons_append, List.nil_append]
  refine ev_bipush (v := 99) dX5_gift_16 (by decide) ?_
  refine k_s (show Pu g 1 mX5_within [.int _, .int (nI 99)] _ _ from c_within (by decide) _) (by decide) dX5_gift_18 cbX5_within (mt3 163 rfl rfl) (mt3 164 rfl rfl) rfl rfl (Nat.le_of_ble_eq_true rfl) (fun v μ1 hq => ?_)
  obtain ⟨rfl, hμ⟩ := hq
  have hμ := hμ.symm
  subst hμ
  simp only [Option.toList, List.cons_append, List.nil_append]
  refine ev_istore dX5_gift_21 (by decide) ?_
  dsimp only [List.set]
  refine ev_iconst (v := 0) dX5_gift_23 (by decide) ?_
  refine ev_aload_n dX5_gift_24 rfl ?_
  refine ev_iload dX5_gift_25 rfl ?_
  refine ev_iload_n dX5_gift_27 rfl ?_
  refine ev_iload_n dX5_gift_28 rfl ?_
  refine u_gives dX5_gift_29 (mt3 233 rfl rfl) hk.1 (by rw [hμe, mupd_ne hdu]; exact hd) (Nat.le_of_ble_eq_true rfl) ?_
  rw [hk.gv]
  refine ev_mmax dX5_gift_32 (mt3 167 rfl rfl) (Nat.le_of_ble_eq_true rfl) ?_
  refine ev_iret dX5_gift_35 rfl ?_
  exact ⟨by rw [max0]; rfl, hS⟩
end KSAYS
