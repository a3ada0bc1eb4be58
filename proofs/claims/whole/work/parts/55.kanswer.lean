/-! ===== the class: what a rule says ===== -/
/-- a rule at u, of three rows, with what lies on its stack -/
def RW (u : Nat) (c0 c1 c2 L : List Int32) (μ : Mm) : Prop := μ.1 u = some (obj 5 [.ref (u + 1), .int (nI c0.length), .int (nI (c0.length + c1.length)), .ref (u + 2)]) ∧ μ.1 (u + 1) = some (iar ((c0 ++ c1 ++ c2).map en)) ∧ μ.1 (u + 2) = some (iar L) ∧ L.length = 32 ∧ c0.length + c1.length + c2.length ≤ 160
section KANSWER
variable {g : Gl} {μ : Mm} {u dd ci h : Nat} {p s so ra : Int32} {F : Nat → Nat → Int32} {S : Nat → Int32}
/-- a door with its facts as F tells them -/
abbrev DoorF (μ : Mm) (dd ci h : Nat) (n : Int32) (F : Nat → Nat → Int32) : Prop := μ.1 dd = some (obj ci (dfs (nI h) n (F 2 h) (F 3 h) (F 4 h)))
theorem l_answer {C : List Int32} {n late x : Int32} {rf tf : Int32} (hci : ci ∈ dks) (hd : DoorF μ dd ci h n F) (hdu : dd ≠ u + 2) (hS5 : S 5 = ra) (h1 : μ.1 u = some (obj 5 [.ref (u + 1), .int rf, .int tf, .ref (u + 2)])) (h2 : μ.1 (u + 1) = some (iar C)) (hCl : C.length ≤ 160) {to : Nat} (hto : to ≤ 160) {fr : Int32} : ∀ (cs : List Int32) (i : Nat) (st L : List Int32) (o8 o9 : Option Value), i + cs.length = to → (∀ (k : Nat) (c : Int32), cs[k]? = some c → C[i + k]? = some (en c)) → L.length = 32 → SR L st → (∀ c ∈ cs, vc c) → hLt 32 cs st.length = some 1 → exe F S h late cs st = some [x] →
    Ev g 2 mX5_answer 6 [some (.ref u), some (.int fr), some (.int (nI to)), some (.ref dd), some (.int late), some (.int ra), some (.int (nI st.length)), some (.int (nI i)), o8, o9] [] (mupd μ (u + 2) (iar L)) (fun v μ' => v = some (.int x) ∧ ∃ L', L'.length = 32 ∧ μ' = mupd μ (u + 2) (iar L')) := by
  have fu : u ≠ u + 2 := by omega
  have fu1 : u + 1 ≠ u + 2 := by omega
  intro cs
  induction cs with
  | nil =>
    intro i st L o8 o9 hi hc hL hst hv hh he
    have he : st = [x] := by simpa [exe] using he
    subst he
    simp only [List.length_nil] at hi
    refine ev_iload dX5_answer_6 rfl ?_
    refine ev_iload_n dX5_answer_8 rfl ?_
    refine ev_icmp_ge (tgt := 195) dX5_answer_9 (by decide) (fun _ => ?_) (fun h9 => absurd ((show nI to ≤ nI i from nI_le (by omega) (by omega))) h9)
    refine ev_aload_n dX5_answer_195 rfl ?_
    refine ev_get dX5_answer_196 flX5_11_5 ((mupd_ne fu).trans h1) rfl ?_
    refine ev_iconst (v := 0) dX5_answer_199 (by decide) ?_
    refine ev_iald dX5_answer_200 mupd_eq ixl0 (show L[0]? = some x from hst 0 x rfl) ?_
    refine ev_iret dX5_answer_201 rfl ?_
    exact ⟨rfl, L, hL, rfl⟩
  | cons c cs ih =>
    intro i st L o8 o9 hi hc hL hst hv hh he
    simp only [List.length_cons] at hi
    have hc0 := hc 0 c rfl
    have hcv := hv c List.mem_cons_self
    have hc' : ∀ (k : Nat) (c : Int32), cs[k]? = some c → C[i + 1 + k]? = some (en c) := fun k c hk => by rw [show i + 1 + k = i + (k + 1) by omega]; exact hc (k + 1) c hk
    have hv' : ∀ c ∈ cs, vc c := fun c hm => hv c (List.mem_cons_of_mem _ hm)
    have hst32 : st.length ≤ 32 := by
      rcases st with _ | ⟨y, st⟩
      · simp
      · have := (List.getElem?_eq_some_iff.mp hst.top).1
        simp only [List.length_cons]; omega
    have go : ∀ (st' L' : List Int32) (o8 o9 : Option Value), L'.length = 32 → SR L' st' → hLt 32 cs st'.length = some 1 → exe F S h late cs st' = some [x] → Ev g 2 mX5_answer 189 [some (.ref u), some (.int fr), some (.int (nI to)), some (.ref dd), some (.int late), some (.int ra), some (.int (nI st'.length)), some (.int (nI i)), o8, o9] [] (mupd μ (u + 2) (iar L')) (fun v μ' => v = some (.int x) ∧ ∃ L', L'.length = 32 ∧ μ' = mupd μ (u + 2) (iar L')) := by
      intro st' L' o8 o9 hL' hst' hh' he'
      refine ev_iinc dX5_answer_189 rfl (by decide) ?_
      dsimp only [List.set]
      refine ev_goto (tgt := 6) dX5_answer_192 (by decide) ?_
      rw [nI_inc]
      exact ih (i + 1) st' L' o8 o9 (by omega) hc' hL' hst' hv' hh' he'
    have hstp : ∀ st', stp F S h late c st = some st' → exe F S h late cs st' = some [x] := fun st' q => by rw [exe, q] at he; exact he
    rcases hcv with ⟨v, hv1, rfl⟩ | ⟨k, hk, rfl⟩ | hb | rfl | rfl
    · obtain ⟨e1, e2, e3⟩ := en_num hv1
      have e30 : nI v < 30000 := Int32.lt_trans e1 (by decide)
      rw [hLt, if_pos e30] at hh
      have hlt : st.length < 32 := by
        by_cases q : st.length < 32
        · exact q
        · rw [if_neg q] at hh; cases hh
      rw [if_pos hlt] at hh
      refine ev_iload dX5_answer_6 rfl ?_
      refine ev_iload_n dX5_answer_8 rfl ?_
      refine ev_icmp_ge (tgt := 195) dX5_answer_9 (by decide) (fun h9 => absurd h9 ((show ¬ nI to ≤ nI i from nI_ge (by omega) (by omega)))) (fun _ => ?_)
      refine ev_aload_n dX5_answer_12 rfl ?_
      refine ev_get dX5_answer_13 flX5_15_5 ((mupd_ne fu).trans h1) rfl ?_
      refine ev_iload dX5_answer_16 rfl ?_
      refine ev_iald dX5_answer_18 ((mupd_ne fu1).trans h2) (ix_n (by omega)) hc0 ?_
      refine ev_bipush (v := 63) dX5_answer_19 (by decide) ?_
      refine ev_iand dX5_answer_21 ?_
      rw [e2]
      refine ev_istore dX5_answer_22 (by decide) ?_
      dsimp only [List.set]
      refine ev_iload dX5_answer_24 rfl ?_
      refine ev_bipush (v := 8) dX5_answer_26 (by decide) ?_
      refine ev_icmp_eq (tgt := 38) dX5_answer_28 (by decide) (fun h28 => absurd h28 ((show ¬ (2 : Int32) = 8 by decide))) (fun _ => ?_)
      refine ev_iload dX5_answer_31 rfl ?_
      refine ev_bipush (v := 9) dX5_answer_33 (by decide) ?_
      refine ev_icmp_ne (tgt := 93) dX5_answer_35 (by decide) (fun _ => ?_) (fun h35 => absurd h35 ((show ¬ (2 : Int32) = 9 by decide)))
      refine ev_iload dX5_answer_93 rfl ?_
      refine k_s (c_isJoint 2) (by decide) dX5_answer_95 cbX4_isJoint (mt3 154 rfl rfl) (mt3 155 rfl rfl) rfl rfl (Nat.le_of_ble_eq_true rfl) (fun v μ1 hq => ?_)
      obtain ⟨rfl, hμ⟩ := hq
      have hμ := hμ.symm
      subst hμ
      simp only [Option.toList, List.cons_append, List.nil_append]
      refine ev_if_eq (tgt := 143) dX5_answer_98 (by decide) (fun _ => ?_) (fun h98 => absurd ((by decide)) h98)
      refine ev_iload dX5_answer_143 rfl ?_
      refine ev_bipush (v := 32) dX5_answer_145 (by decide) ?_
      refine ev_icmp_ge (tgt := 189) dX5_answer_147 (by decide) (fun h147 => absurd h147 ((show ¬ (32 : Int32) ≤ nI st.length from nI_ge (b := 32) hlt (by decide)))) (fun _ => ?_)
      refine ev_aload_n dX5_answer_150 rfl ?_
      refine ev_get dX5_answer_151 flX5_11_5 ((mupd_ne fu).trans h1) rfl ?_
      refine ev_iload dX5_answer_154 rfl ?_
      refine ev_iload dX5_answer_156 rfl ?_
      refine ev_iconst (v := 2) dX5_answer_158 (by decide) ?_
      refine ev_icmp_ne (tgt := 175) dX5_answer_159 (by decide) (fun h159 => absurd (rfl) h159) (fun _ => ?_)
      refine ev_aload_n dX5_answer_162 rfl ?_
      refine ev_get dX5_answer_163 flX5_15_5 ((mupd_ne fu).trans h1) rfl ?_
      refine ev_iload dX5_answer_166 rfl ?_
      refine ev_iald dX5_answer_168 ((mupd_ne fu1).trans h2) (ix_n (by omega)) hc0 ?_
      refine ev_bipush (v := 6) dX5_answer_169 (by decide) ?_
      refine ev_ishr dX5_answer_171 ?_
      rw [e3]
      refine ev_goto (tgt := 185) dX5_answer_172 (by decide) ?_
      refine ev_iast dX5_answer_185 mupd_eq (ix_n (by omega)) (by omega) ?_
      rw [mupd_mupd]
      refine ev_iinc dX5_answer_186 rfl (by decide) ?_
      dsimp only [List.set]
      rw [nI_inc]
      exact go (nI v :: st) _ _ _ (by rw [List.length_set]; exact hL) (hst.push _ (by omega)) hh (hstp _ (by unfold stp; rw [if_pos e1]))
    · obtain ⟨e1, e2, e3, e4⟩ := en_name k hk
      rw [hLt, if_pos e2] at hh
      have hlt : st.length < 32 := by
        by_cases q : st.length < 32
        · exact q
        · rw [if_neg q] at hh; cases hh
      rw [if_pos hlt] at hh
      have k6 : ∀ k, k < 6 → (¬ nI (10 + k) = 8 ∧ ¬ nI (10 + k) = 9 ∧ ¬ nI (10 + k) = 2) ∧ b2i (nI (10 + k) = 6 ∨ nI (10 + k) = 7 ∨ nI (10 + k) = 60 ∨ nI (10 + k) = 61 ∨ nI (10 + k) = 43 ∨ nI (10 + k) = 45 ∨ nI (10 + k) = 42) = 0 := by decide
      have k6n : ∀ k, k < 6 → ∀ p s so late ra i : Int32, (if k = 0 then p else if k = 1 then s else if k = 2 then so else if k = 3 then late else if k = 4 then ra else i) = (if nI k = 0 then p else if nI k = 1 then s else if nI k = 2 then so else if nI k = 3 then late else if nI k = 4 then ra else i) := by
        intro k hk p s so late ra i
        have h6 : k = 0 ∨ k = 1 ∨ k = 2 ∨ k = 3 ∨ k = 4 ∨ k = 5 := by omega
        rcases h6 with rfl | rfl | rfl | rfl | rfl | rfl <;> rfl
      refine ev_iload dX5_answer_6 rfl ?_
      refine ev_iload_n dX5_answer_8 rfl ?_
      refine ev_icmp_ge (tgt := 195) dX5_answer_9 (by decide) (fun h9 => absurd h9 ((show ¬ nI to ≤ nI i from nI_ge (by omega) (by omega)))) (fun _ => ?_)
      refine ev_aload_n dX5_answer_12 rfl ?_
      refine ev_get dX5_answer_13 flX5_15_5 ((mupd_ne fu).trans h1) rfl ?_
      refine ev_iload dX5_answer_16 rfl ?_
      refine ev_iald dX5_answer_18 ((mupd_ne fu1).trans h2) (ix_n (by omega)) hc0 ?_
      refine ev_bipush (v := 63) dX5_answer_19 (by decide) ?_
      refine ev_iand dX5_answer_21 ?_
      rw [e3]
      refine ev_istore dX5_answer_22 (by decide) ?_
      dsimp only [List.set]
      refine ev_iload dX5_answer_24 rfl ?_
      refine ev_bipush (v := 8) dX5_answer_26 (by decide) ?_
      refine ev_icmp_eq (tgt := 38) dX5_answer_28 (by decide) (fun h28 => absurd h28 ((k6 k hk).1.1)) (fun _ => ?_)
      refine ev_iload dX5_answer_31 rfl ?_
      refine ev_bipush (v := 9) dX5_answer_33 (by decide) ?_
      refine ev_icmp_ne (tgt := 93) dX5_answer_35 (by decide) (fun _ => ?_) (fun h35 => absurd h35 ((k6 k hk).1.2.1))
      refine ev_iload dX5_answer_93 rfl ?_
      refine k_s (c_isJoint _) (by decide) dX5_answer_95 cbX4_isJoint (mt3 154 rfl rfl) (mt3 155 rfl rfl) rfl rfl (Nat.le_of_ble_eq_true rfl) (fun v μ1 hq => ?_)
      obtain ⟨rfl, hμ⟩ := hq
      have hμ := hμ.symm
      subst hμ
      simp only [Option.toList, List.cons_append, List.nil_append]
      refine ev_if_eq (tgt := 143) dX5_answer_98 (by decide) (fun _ => ?_) (fun h98 => absurd ((k6 k hk).2) h98)
      refine ev_iload dX5_answer_143 rfl ?_
      refine ev_bipush (v := 32) dX5_answer_145 (by decide) ?_
      refine ev_icmp_ge (tgt := 189) dX5_answer_147 (by decide) (fun h147 => absurd h147 ((show ¬ (32 : Int32) ≤ nI st.length from nI_ge (b := 32) hlt (by decide)))) (fun _ => ?_)
      refine ev_aload_n dX5_answer_150 rfl ?_
      refine ev_get dX5_answer_151 flX5_11_5 ((mupd_ne fu).trans h1) rfl ?_
      refine ev_iload dX5_answer_154 rfl ?_
      refine ev_iload dX5_answer_156 rfl ?_
      refine ev_iconst (v := 2) dX5_answer_158 (by decide) ?_
      refine ev_icmp_ne (tgt := 175) dX5_answer_159 (by decide) (fun _ => ?_) (fun h159 => absurd h159 ((k6 k hk).1.2.2))
      refine ev_iload dX5_answer_175 rfl ?_
      refine ev_aload_n dX5_answer_177 rfl ?_
      refine ev_iload dX5_answer_178 rfl ?_
      refine ev_iload dX5_answer_180 rfl ?_
      refine k_s (c_kNamed hci ((mupd_ne hdu).trans hd) late ra hk) (by decide) dX5_answer_182 cbX5_named (mt3 160 rfl rfl) (mt3 161 rfl rfl) rfl rfl (Nat.le_of_ble_eq_true rfl) (fun v μ1 hq => ?_)
      obtain ⟨rfl, hμ⟩ := hq
      have hμ := hμ.symm
      subst hμ
      simp only [Option.toList, List.cons_append, List.nil_append]
      rw [k6n k hk, ← e4, ← hS5, show (if nI (20000 + k) - 20000 = 0 then F 2 h else if nI (20000 + k) - 20000 = 1 then F 3 h else if nI (20000 + k) - 20000 = 2 then F 4 h else if nI (20000 + k) - 20000 = 3 then late else if nI (20000 + k) - 20000 = 4 then S 5 else nI h) = nmd F S h late (nI (20000 + k) - 20000) from rfl, hS5]
      refine ev_iast dX5_answer_185 mupd_eq (ix_n (by omega)) (by omega) ?_
      rw [mupd_mupd]
      refine ev_iinc dX5_answer_186 rfl (by decide) ?_
      dsimp only [List.set]
      rw [nI_inc]
      exact go (nmd F S h late (nI (20000 + k) - 20000) :: st) _ _ _ (by rw [List.length_set]; exact hL) (hst.push _ (by omega)) hh (hstp _ (by unfold stp; rw [if_neg e1, if_pos e2]))
    · obtain ⟨e1, e2, e3, e4, e5, e6, e7, e8⟩ := en_bop c hb
      rw [hLt, if_neg e2, if_neg (fun q => q.elim e3 e4)] at hh
      have hge : 2 ≤ st.length := by
        by_cases q : 2 ≤ st.length
        · exact q
        · rw [if_neg q] at hh; cases hh
      rw [if_pos hge] at hh
      rcases st with _ | ⟨y, _ | ⟨z, st⟩⟩
      · exact absurd hge (by simp)
      · exact absurd hge (by simp)
      · simp only [List.length_cons] at hh hst32 ⊢
        have hz : b2i (en c = 6 ∨ en c = 7 ∨ en c = 60 ∨ en c = 61 ∨ en c = 43 ∨ en c = 45 ∨ en c = 42) = 1 := b2i_t e8
        refine ev_iload dX5_answer_6 rfl ?_
        refine ev_iload_n dX5_answer_8 rfl ?_
        refine ev_icmp_ge (tgt := 195) dX5_answer_9 (by decide) (fun h9 => absurd h9 ((show ¬ nI to ≤ nI i from nI_ge (by omega) (by omega)))) (fun _ => ?_)
        refine ev_aload_n dX5_answer_12 rfl ?_
        refine ev_get dX5_answer_13 flX5_15_5 ((mupd_ne fu).trans h1) rfl ?_
        refine ev_iload dX5_answer_16 rfl ?_
        refine ev_iald dX5_answer_18 ((mupd_ne fu1).trans h2) (ix_n (by omega)) hc0 ?_
        refine ev_bipush (v := 63) dX5_answer_19 (by decide) ?_
        refine ev_iand dX5_answer_21 ?_
        rw [e5]
        refine ev_istore dX5_answer_22 (by decide) ?_
        dsimp only [List.set]
        refine ev_iload dX5_answer_24 rfl ?_
        refine ev_bipush (v := 8) dX5_answer_26 (by decide) ?_
        refine ev_icmp_eq (tgt := 38) dX5_answer_28 (by decide) (fun h28 => absurd h28 (e6)) (fun _ => ?_)
        refine ev_iload dX5_answer_31 rfl ?_
        refine ev_bipush (v := 9) dX5_answer_33 (by decide) ?_
        refine ev_icmp_ne (tgt := 93) dX5_answer_35 (by decide) (fun _ => ?_) (fun h35 => absurd h35 (e7))
        refine ev_iload dX5_answer_93 rfl ?_
        refine k_s (c_isJoint _) (by decide) dX5_answer_95 cbX4_isJoint (mt3 154 rfl rfl) (mt3 155 rfl rfl) rfl rfl (Nat.le_of_ble_eq_true rfl) (fun v μ1 hq => ?_)
        obtain ⟨rfl, hμ⟩ := hq
        have hμ := hμ.symm
        subst hμ
        simp only [Option.toList, List.cons_append, List.nil_append]
        rw [hz]
        refine ev_if_eq (tgt := 143) dX5_answer_98 (by decide) (fun h98 => absurd h98 ((show ¬ (1 : Int32) = 0 by decide))) (fun _ => ?_)
        refine ev_iload dX5_answer_101 rfl ?_
        refine ev_iconst (v := 2) dX5_answer_103 (by decide) ?_
        refine ev_icmp_lt (tgt := 189) dX5_answer_104 (by decide) (fun h104 => absurd h104 ((show ¬ nI (st.length + 1 + 1) < nI 2 from nI_nlt (by omega) (by omega)))) (fun _ => ?_)
        refine ev_iinc dX5_answer_107 rfl (by decide) ?_
        dsimp only [List.set]
        rw [nI_dec]
        refine ev_aload_n dX5_answer_110 rfl ?_
        refine ev_get dX5_answer_111 flX5_11_5 ((mupd_ne fu).trans h1) rfl ?_
        refine ev_iload dX5_answer_114 rfl ?_
        refine ev_iconst (v := 1) dX5_answer_116 (by decide) ?_
        refine ev_isub dX5_answer_117 ?_
        rw [nI_pred]
        refine ev_iload dX5_answer_118 rfl ?_
        refine ev_aload_n dX5_answer_120 rfl ?_
        refine ev_get dX5_answer_121 flX5_11_5 ((mupd_ne fu).trans h1) rfl ?_
        refine ev_iload dX5_answer_124 rfl ?_
        refine ev_iconst (v := 1) dX5_answer_126 (by decide) ?_
        refine ev_isub dX5_answer_127 ?_
        rw [nI_pred]
        refine ev_iald dX5_answer_128 mupd_eq (ix_n (by omega)) hst.pop.top ?_
        refine ev_aload_n dX5_answer_129 rfl ?_
        refine ev_get dX5_answer_130 flX5_11_5 ((mupd_ne fu).trans h1) rfl ?_
        refine ev_iload dX5_answer_133 rfl ?_
        refine ev_iald dX5_answer_135 mupd_eq (ix_n (by omega)) hst.top ?_
        refine k_s (c_joined hb z y) (by decide) dX5_answer_136 cbX5_joined (mt3 157 rfl rfl) (mt3 158 rfl rfl) rfl rfl (Nat.le_of_ble_eq_true rfl) (fun v μ1 hq => ?_)
        obtain ⟨rfl, hμ⟩ := hq
        have hμ := hμ.symm
        subst hμ
        simp only [Option.toList, List.cons_append, List.nil_append]
        refine ev_iast dX5_answer_139 mupd_eq (ix_n (by omega)) (by omega) ?_
        rw [mupd_mupd]
        refine ev_goto (tgt := 189) dX5_answer_140 (by decide) ?_
        exact go (don (c - 30000) z y :: st) _ _ _ (by rw [List.length_set]; exact hL) (hst.pop.pop.push _ (by omega)) hh (hstp _ (by rw [stp, if_neg e1, if_neg e2, if_neg e3, if_neg e4]))
    · rw [hLt, if_neg (by decide), if_pos (Or.inl rfl)] at hh
      rcases st with _ | ⟨y, st⟩
      · rw [if_neg (by simp)] at hh; cases hh
      · simp only [List.length_cons] at hh hst32 ⊢
        rw [if_pos (by omega)] at hh
        have hy : exe F S h late cs (b2i (y = 0) :: st) = some [x] := hstp _ (by rw [stp, if_neg (by decide), if_neg (by decide), if_pos rfl])
        refine ev_iload dX5_answer_6 rfl ?_
        refine ev_iload_n dX5_answer_8 rfl ?_
        refine ev_icmp_ge (tgt := 195) dX5_answer_9 (by decide) (fun h9 => absurd h9 ((show ¬ nI to ≤ nI i from nI_ge (by omega) (by omega)))) (fun _ => ?_)
        refine ev_aload_n dX5_answer_12 rfl ?_
        refine ev_get dX5_answer_13 flX5_15_5 ((mupd_ne fu).trans h1) rfl ?_
        refine ev_iload dX5_answer_16 rfl ?_
        refine ev_iald dX5_answer_18 ((mupd_ne fu1).trans h2) (ix_n (by omega)) hc0 ?_
        refine ev_bipush (v := 63) dX5_answer_19 (by decide) ?_
        refine ev_iand dX5_answer_21 ?_
        rw [show en 30008 &&& 63 = (8 : Int32) by decide]
        refine ev_istore dX5_answer_22 (by decide) ?_
        dsimp only [List.set]
        refine ev_iload dX5_answer_24 rfl ?_
        refine ev_bipush (v := 8) dX5_answer_26 (by decide) ?_
        refine ev_icmp_eq (tgt := 38) dX5_answer_28 (by decide) (fun _ => ?_) (fun h28 => absurd (rfl) h28)
        refine ev_iload dX5_answer_38 rfl ?_
        refine ev_iconst (v := 1) dX5_answer_40 (by decide) ?_
        refine ev_icmp_lt (tgt := 189) dX5_answer_41 (by decide) (fun h41 => absurd h41 ((show ¬ nI (st.length + 1) < nI 1 from nI_nlt (by omega) (by omega)))) (fun _ => ?_)
        refine ev_aload_n dX5_answer_44 rfl ?_
        refine ev_get dX5_answer_45 flX5_11_5 ((mupd_ne fu).trans h1) rfl ?_
        refine ev_iload dX5_answer_48 rfl ?_
        refine ev_iconst (v := 1) dX5_answer_50 (by decide) ?_
        refine ev_isub dX5_answer_51 ?_
        rw [nI_pred]
        refine ev_iald dX5_answer_52 mupd_eq (ix_n (by omega)) hst.top ?_
        refine ev_istore dX5_answer_53 (by decide) ?_
        dsimp only [List.set]
        refine ev_aload_n dX5_answer_55 rfl ?_
        refine ev_get dX5_answer_56 flX5_11_5 ((mupd_ne fu).trans h1) rfl ?_
        refine ev_iload dX5_answer_59 rfl ?_
        refine ev_iconst (v := 1) dX5_answer_61 (by decide) ?_
        refine ev_isub dX5_answer_62 ?_
        rw [nI_pred]
        refine ev_iload dX5_answer_63 rfl ?_
        refine ev_bipush (v := 9) dX5_answer_65 (by decide) ?_
        refine ev_icmp_ne (tgt := 76) dX5_answer_67 (by decide) (fun _ => ?_) (fun h67 => absurd h67 ((show ¬ (8 : Int32) = 9 by decide)))
        refine ev_iload dX5_answer_76 rfl ?_
        refine ev_if_ne (tgt := 85) dX5_answer_78 (by decide) (fun h78 => ?_) (fun h78 => ?_)
        · refine ev_iconst (v := 0) dX5_answer_85 (by decide) ?_
          refine k_s (c_bit _) (by decide) dX5_answer_86 cbX5_bit (mt3 151 rfl rfl) (mt3 152 rfl rfl) rfl rfl (Nat.le_of_ble_eq_true rfl) (fun v μ1 hq => ?_)
          obtain ⟨rfl, hμ⟩ := hq
          have hμ := hμ.symm
          subst hμ
          simp only [Option.toList, List.cons_append, List.nil_append]
          refine ev_iast dX5_answer_89 mupd_eq (ix_n (by omega)) (by omega) ?_
          rw [mupd_mupd]
          refine ev_goto (tgt := 189) dX5_answer_90 (by decide) ?_
          first
            | (rw [b2i_t h78] at hy
               exact go (1 :: st) _ _ _ (by rw [List.length_set]; exact hL) (hst.pop.push 1 (by omega)) hh hy)
            | (rw [b2i_f h78] at hy
               exact go (0 :: st) _ _ _ (by rw [List.length_set]; exact hL) (hst.pop.push 0 (by omega)) hh hy)
        · refine ev_iconst (v := 1) dX5_answer_81 (by decide) ?_
          refine ev_goto (tgt := 86) dX5_answer_82 (by decide) ?_
          refine k_s (c_bit _) (by decide) dX5_answer_86 cbX5_bit (mt3 151 rfl rfl) (mt3 152 rfl rfl) rfl rfl (Nat.le_of_ble_eq_true rfl) (fun v μ1 hq => ?_)
          obtain ⟨rfl, hμ⟩ := hq
          have hμ := hμ.symm
          subst hμ
          simp only [Option.toList, List.cons_append, List.nil_append]
          refine ev_iast dX5_answer_89 mupd_eq (ix_n (by omega)) (by omega) ?_
          rw [mupd_mupd]
          refine ev_goto (tgt := 189) dX5_answer_90 (by decide) ?_
          first
            | (rw [b2i_t h78] at hy
               exact go (1 :: st) _ _ _ (by rw [List.length_set]; exact hL) (hst.pop.push 1 (by omega)) hh hy)
            | (rw [b2i_f h78] at hy
               exact go (0 :: st) _ _ _ (by rw [List.length_set]; exact hL) (hst.pop.push 0 (by omega)) hh hy)
    · rw [hLt, if_neg (by decide), if_pos (Or.inr rfl)] at hh
      rcases st with _ | ⟨y, st⟩
      · rw [if_neg (by simp)] at hh; cases hh
      · simp only [List.length_cons] at hh hst32 ⊢
        rw [if_pos (by omega)] at hh
        have hy : exe F S h late cs (-y :: st) = some [x] := hstp _ (by rw [stp, if_neg (by decide), if_neg (by decide), if_neg (by decide), if_pos rfl])
        refine ev_iload dX5_answer_6 rfl ?_
        refine ev_iload_n dX5_answer_8 rfl ?_
        refine ev_icmp_ge (tgt := 195) dX5_answer_9 (by decide) (fun h9 => absurd h9 ((show ¬ nI to ≤ nI i from nI_ge (by omega) (by omega)))) (fun _ => ?_)
        refine ev_aload_n dX5_answer_12 rfl ?_
        refine ev_get dX5_answer_13 flX5_15_5 ((mupd_ne fu).trans h1) rfl ?_
        refine ev_iload dX5_answer_16 rfl ?_
        refine ev_iald dX5_answer_18 ((mupd_ne fu1).trans h2) (ix_n (by omega)) hc0 ?_
        refine ev_bipush (v := 63) dX5_answer_19 (by decide) ?_
        refine ev_iand dX5_answer_21 ?_
        rw [show en 30009 &&& 63 = (9 : Int32) by decide]
        refine ev_istore dX5_answer_22 (by decide) ?_
        dsimp only [List.set]
        refine ev_iload dX5_answer_24 rfl ?_
        refine ev_bipush (v := 8) dX5_answer_26 (by decide) ?_
        refine ev_icmp_eq (tgt := 38) dX5_answer_28 (by decide) (fun h28 => absurd h28 ((show ¬ (9 : Int32) = 8 by decide))) (fun _ => ?_)
        refine ev_iload dX5_answer_31 rfl ?_
        refine ev_bipush (v := 9) dX5_answer_33 (by decide) ?_
        refine ev_icmp_ne (tgt := 93) dX5_answer_35 (by decide) (fun h35 => absurd (rfl) h35) (fun _ => ?_)
        refine ev_iload dX5_answer_38 rfl ?_
        refine ev_iconst (v := 1) dX5_answer_40 (by decide) ?_
        refine ev_icmp_lt (tgt := 189) dX5_answer_41 (by decide) (fun h41 => absurd h41 ((show ¬ nI (st.length + 1) < nI 1 from nI_nlt (by omega) (by omega)))) (fun _ => ?_)
        refine ev_aload_n dX5_answer_44 rfl ?_
        refine ev_get dX5_answer_45 flX5_11_5 ((mupd_ne fu).trans h1) rfl ?_
        refine ev_iload dX5_answer_48 rfl ?_
        refine ev_iconst (v := 1) dX5_answer_50 (by decide) ?_
        refine ev_isub dX5_answer_51 ?_
        rw [nI_pred]
        refine ev_iald dX5_answer_52 mupd_eq (ix_n (by omega)) hst.top ?_
        refine ev_istore dX5_answer_53 (by decide) ?_
        dsimp only [List.set]
        refine ev_aload_n dX5_answer_55 rfl ?_
        refine ev_get dX5_answer_56 flX5_11_5 ((mupd_ne fu).trans h1) rfl ?_
        refine ev_iload dX5_answer_59 rfl ?_
        refine ev_iconst (v := 1) dX5_answer_61 (by decide) ?_
        refine ev_isub dX5_answer_62 ?_
        rw [nI_pred]
        refine ev_iload dX5_answer_63 rfl ?_
        refine ev_bipush (v := 9) dX5_answer_65 (by decide) ?_
        refine ev_icmp_ne (tgt := 76) dX5_answer_67 (by decide) (fun h67 => absurd (rfl) h67) (fun _ => ?_)
        refine ev_iload dX5_answer_70 rfl ?_
        refine ev_ineg dX5_answer_72 ?_
        refine ev_goto (tgt := 89) dX5_answer_73 (by decide) ?_
        refine ev_iast dX5_answer_89 mupd_eq (ix_n (by omega)) (by omega) ?_
        rw [mupd_mupd]
        refine ev_goto (tgt := 189) dX5_answer_90 (by decide) ?_
        exact go (-y :: st) _ _ _ (by rw [List.length_set]; exact hL) (hst.pop.push (-y) (by omega)) hh hy
end KANSWER
