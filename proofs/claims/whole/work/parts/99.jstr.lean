/-! ===== texts: length() and charAt() of constants ===== -/
/-- a byte of a constant text -/
abbrev scb (i j : Nat) : Int32 := (scB.getD i []).getD j 0
theorem scb_ok : ∀ i, i < 13 → ∀ j, j < scN.getD i 0 → (((scb i j) &&& 255).toUInt32 % 65536).toInt32 = scb i j := by decide
theorem scb_nc : ∀ i, i < 13 → ∀ j, j < scN.getD i 0 → (match narrow .char (.int (scb i j)) with | .int x => x | _ => -1) = scb i j := by decide
theorem scb_nar {i j : Nat} (hi : i < 13) (hj : j < scN.getD i 0) : narrow .char (.int (scb i j)) = .int (scb i j) := by
  have h := scb_nc i hi j hj
  have e : ∃ y, narrow .char (.int (scb i j)) = .int y := ⟨_, rfl⟩
  obtain ⟨y, e⟩ := e
  rw [e] at h ⊢
  exact congrArg Value.int h
theorem scN_lt : ∀ i, i < 13 → scN.getD i 0 < 60 := by decide
theorem scN_len : ∀ i, i < 13 → (scB.getD i []).length = scN.getD i 0 := by decide
theorem GS.sw {g : Gl} {U : State} (h : GS g U) : SW g U U.heap := h.2.2.2.2.2.2.2.2
section JSTR
variable {g : Gl} {d : Nat} {Y : Md} {pc : Nat} {ls : List (Option Value)} {st : List Value} {μ : Mm} {Q : Option Value → Mm → Prop}
theorem ev_strV {idx i : Nat} (hd : decode (mC Y) pc = .ok (.getfield idx, 3)) (hi : i < 13) (hl : Cond.fieldLink (mY Y).cls idx "java/lang/String" "value" "[B" ∈ GT) (kk : Ev g d Y (pc + 3) ls (.ref (gS g (30 + i)) :: st) μ Q) : Ev g d Y pc ls (.ref (gS g (10 + i)) :: st) μ Q := by
  refine ev_w (fun p e s m args below meth c R H locs cells slots Q' la X hR hS hL kk => ?_) kk
  exact vk_getf X.1.1 X.1.2.1 ((X.2.2.1.sw.2.2.1.1 i hi).2.2.1) hS X.1.2.2.2.2.2.2 (X.2.1 _ hl) (fun _ h => h) hd kk
theorem ev_strC {idx i : Nat} (hd : decode (mC Y) pc = .ok (.getfield idx, 3)) (hi : i < 13) (hl : Cond.fieldLink (mY Y).cls idx "java/lang/String" "coder" "B" ∈ GT) (kk : Ev g d Y (pc + 3) ls (.int 0 :: st) μ Q) : Ev g d Y pc ls (.ref (gS g (10 + i)) :: st) μ Q := by
  refine ev_w (fun p e s m args below meth c R H locs cells slots Q' la X hR hS hL kk => ?_) kk
  exact vk_getf X.1.1 X.1.2.1 ((X.2.2.1.sw.2.2.1.1 i hi).2.1) hS X.1.2.2.2.2.2.2 (X.2.1 _ hl) (fun _ h => h) hd kk
theorem ev_compact {idx : Nat} (hd : decode (mC Y) pc = .ok (.getstatic idx, 3)) (hl : Cond.fieldLink (mY Y).cls idx "java/lang/String" "COMPACT_STRINGS" "Z" ∈ GT) (kk : Ev g d Y (pc + 3) ls (.int 1 :: st) μ Q) : Ev g d Y pc ls st μ Q := by
  refine ev_w (fun p e s m args below meth c R H locs cells slots Q' la X hR hS hL kk => ?_) kk
  exact va_gets X.1.1 X.1.2.1 X.2.2.1.sw.2.1 hS X.1.2.2.2.2.2.2 (X.2.1 _ hl) (fun _ h => h) hd kk
theorem ev_fmt {idx : Nat} {v0 : Option Value} {μ1 : Mm} (hd : decode (mC Y) pc = .ok (.getstatic idx, 3)) (hl : Cond.fieldLink (mY Y).cls idx "jdk/internal/util/Preconditions" "SIOOBE_FORMATTER" "Ljava/util/function/BiFunction;" ∈ GT) (kk : ∀ v, (v = .null ∨ ∃ t, v = .ref t) → Ev g d Y (pc + 3) ls (v :: st) μ (fun w μ' => w = v0 ∧ μ' = μ1)) : Ev g d Y pc ls st μ (fun w μ' => w = v0 ∧ μ' = μ1) := by
  have key : ∀ v, (v = .null ∨ ∃ t, v = .ref t) → Gr μ μ1 ∧ Ew g d Y (pc + 3) ls (v :: st) μ v0 μ1 := fun v hv => by
    obtain ⟨w, m, ⟨rfl, rfl⟩, h2, h3⟩ := kk v hv
    exact ⟨h2, h3⟩
  refine ⟨v0, μ1, ⟨rfl, rfl⟩, (key .null (Or.inl rfl)).1, fun p e s m args below meth c R H locs k0 la X h1 h2 h3 h4 hR hS hL => ?_⟩
  rcases X.2.2.1.sw.2.2.2.2.2.2.1 with hZ | ⟨t, hZ⟩
  · exact va_gets X.1.1 X.1.2.1 hZ hS X.1.2.2.2.2.2.2 (X.2.1 _ hl) (fun _ h => h) hd ((key .null (Or.inl rfl)).2 p e s m args below meth c R H locs k0 la X h1 h2 h3 h4 hR hS hL)
  · exact va_gets X.1.1 X.1.2.1 hZ hS X.1.2.2.2.2.2.2 (X.2.1 _ hl) (fun _ h => h) hd ((key (.ref t) (Or.inr ⟨t, rfl⟩)).2 p e s m args below meth c R H locs k0 la X h1 h2 h3 h4 hR hS hL)
theorem ev_balen {i : Nat} (hd : decode (mC Y) pc = .ok (.arraylength, 1)) (hi : i < 13) (kk : Ev g d Y (pc + 1) ls (.int (nI (scN.getD i 0)) :: st) μ Q) : Ev g d Y pc ls (.ref (gS g (30 + i)) :: st) μ Q := by
  refine ev_w (fun p e s m args below meth c R H locs cells slots Q' la X hR hS hL kk => ?_) kk
  obtain ⟨cell, t1, t2, t3, t4, t5, t6, t7⟩ := ((X.2.2.1.sw.2.2.1.1 i hi).2.2.2).kept (fun a x y => hS.2.1 a x y)
  exact W.alen X.1.1 X.1.2.1 t1 t2 t5 rfl rfl hd kk
theorem ev_bald {i j : Nat} {x : Int32} (hd : decode (mC Y) pc = .ok (.baload, 1)) (hi : i < 13) (hx : ix x j) (hj : j < scN.getD i 0) (kk : Ev g d Y (pc + 1) ls (.int (scb i j) :: st) μ Q) : Ev g d Y pc ls (.int x :: .ref (gS g (30 + i)) :: st) μ Q := by
  refine ev_w (fun p e s m args below meth c R H locs cells slots Q' la X hR hS hL kk => ?_) kk
  exact va_tb X.1.1 X.1.2.1 ((X.2.2.1.sw.2.2.1.1 i hi).2.2.2) hS (v := .int (scb i j)) (hx.in hj) (by show Value.int ((scB.getD i []).getD x.toNatClampNeg 0) = _; rw [hx.2]) hd kk
theorem ev_callS {Yc : Md} {idx n i : Nat} {av stk : List Value} {Qc : Option Value → Mm → Prop} (hM : Mt g d Yc (.ref (gS g (10 + i)) :: av) μ Qc) (hi : i < 13) (hd : decode (mC Y) pc = .ok (.invokevirtual idx, 3)) (hb : CB Yc n) (hl : Cond.methodLink (mY Y).cls idx (mY Yc) ∈ GT) (hin : Cond.instanceMethod (mY Yc) ∈ GT) (hsel : Cond.selects "java/lang/String" (mY Yc) (mY Yc) ∈ GT)
    (hst : stk = av.reverse ++ .ref (gS g (10 + i)) :: st) (hn : av.length = n) (hc : (st.map fun v => v.category).sum ≤ 8) (kk : ∀ v μ1, Qc v μ1 → Ev g (d + 1) Y (pc + 3) ls (v.toList ++ st) μ1 Q) : Ev g (d + 1) Y pc ls stk μ Q := by
  refine ev_run hM (fun p e s m args below meth c R H locs cells slots la mc ms Qx X hR hS hL hMet hf => ?_) kk
  have hts := X.2.1
  obtain ⟨r1, r2⟩ := room_ok (mc := mc) (ms := ms) hb X.2.2.2.1 X.2.2.2.2
  exact va_runV (Ts := GT) (own := (mY Y).cls) (C := "java/lang/String") (nL := mN Y) ⟨X.1.1, X.1.2.1, X.1.2.2.1, X.1.2.2.2.2.2.2, hts⟩ hMet ⟨⟨rfl, rfl, r1, r2, mW_pay hb hts, List.mem_cons_self, hts _ hb.1, hts _ hb.2.1, hb.2.2.1, hb.len, hts _ hl⟩, hts _ hin, hts _ hsel⟩ ⟨Pz_blind, vk_recv (i := i) X.2.2.1.sw.2.2.1 hi hS, Pz_at X.2.2.1 hR hS⟩ rfl hn hL.2.1 hst (room_st hc) hd hf
end JSTR
section JSTR2
variable {g : Gl} {μ : Mm}
theorem c_coder {i : Nat} (hi : i < 13) : Pu g 0 mJ0_coder_7d493 [.ref (gS g (10 + i))] μ 0 := by
  refine Mt.of0 (ls0 := [some (.ref (gS g (10 + i)))]) (by decide) (by simp [Value.category]) (Nat.le_of_ble_eq_true rfl) rfl ?_
  refine ev_compact dJ0_coder_7d493_0 (mt1 183 rfl rfl) ?_
  refine ev_if_eq (tgt := 13) dJ0_coder_7d493_3 (by decide) (fun h3 => absurd h3 ((show ¬ (1 : Int32) = 0 by decide))) (fun _ => ?_)
  refine ev_aload_n dJ0_coder_7d493_6 rfl ?_
  refine ev_strC dJ0_coder_7d493_7 hi (mt6 212 rfl rfl) ?_
  refine ev_goto (tgt := 14) dJ0_coder_7d493_10 (by decide) ?_
  refine ev_zret dJ0_coder_7d493_14 rfl (by decide) ?_
  exact ⟨rfl, rfl⟩
theorem c_latin {i : Nat} (hi : i < 13) : Pu g 0 mJ0_isLatin1_aae02 [.ref (gS g (10 + i))] μ 1 := by
  refine Mt.of0 (ls0 := [some (.ref (gS g (10 + i)))]) (by decide) (by simp [Value.category]) (Nat.le_of_ble_eq_true rfl) rfl ?_
  refine ev_compact dJ0_isLatin1_aae02_0 (mt1 183 rfl rfl) ?_
  refine ev_if_eq (tgt := 17) dJ0_isLatin1_aae02_3 (by decide) (fun h3 => absurd h3 ((show ¬ (1 : Int32) = 0 by decide))) (fun _ => ?_)
  refine ev_aload_n dJ0_isLatin1_aae02_6 rfl ?_
  refine ev_strC dJ0_isLatin1_aae02_7 hi (mt6 212 rfl rfl) ?_
  refine ev_if_ne (tgt := 17) dJ0_isLatin1_aae02_10 (by decide) (fun h10 => absurd ((show (0 : Int32) = 0 from rfl)) h10) (fun _ => ?_)
  refine ev_iconst (v := 1) dJ0_isLatin1_aae02_13 (by decide) ?_
  refine ev_goto (tgt := 18) dJ0_isLatin1_aae02_14 (by decide) ?_
  refine ev_zret dJ0_isLatin1_aae02_18 rfl (by decide) ?_
  exact ⟨rfl, rfl⟩
theorem c_chkN {j n : Nat} (hj : j < n) (hn : n < 2 ^ 31) : Pu g 0 mJ3_checkIndex_8e157 [.int (nI j), .int (nI n), .null] μ (nI j) := by
  refine Mt.of0 (ls0 := [some (.int (nI j)), some (.int (nI n)), some (.null)]) (by decide) (by simp [Value.category]) (Nat.le_of_ble_eq_true rfl) rfl ?_
  refine ev_iload_n dJ3_checkIndex_8e157_0 rfl ?_
  refine ev_if_lt (tgt := 9) dJ3_checkIndex_8e157_1 (by decide) (fun h1 => absurd h1 ((show ¬ nI j < 0 from nI_pos (by omega)))) (fun _ => ?_)
  refine ev_iload_n dJ3_checkIndex_8e157_4 rfl ?_
  refine ev_iload_n dJ3_checkIndex_8e157_5 rfl ?_
  refine ev_icmp_lt (tgt := 16) dJ3_checkIndex_8e157_6 (by decide) (fun _ => ?_) (fun h6 => absurd ((show nI j < nI n from nI_lt hj hn)) h6)
  refine ev_iload_n dJ3_checkIndex_8e157_16 rfl ?_
  refine ev_iret dJ3_checkIndex_8e157_17 rfl ?_
  exact ⟨rfl, rfl⟩
theorem c_chkR {j n t : Nat} (hj : j < n) (hn : n < 2 ^ 31) : Pu g 0 mJ3_checkIndex_8e157 [.int (nI j), .int (nI n), .ref t] μ (nI j) := by
  refine Mt.of0 (ls0 := [some (.int (nI j)), some (.int (nI n)), some (.ref t)]) (by decide) (by simp [Value.category]) (Nat.le_of_ble_eq_true rfl) rfl ?_
  refine ev_iload_n dJ3_checkIndex_8e157_0 rfl ?_
  refine ev_if_lt (tgt := 9) dJ3_checkIndex_8e157_1 (by decide) (fun h1 => absurd h1 ((show ¬ nI j < 0 from nI_pos (by omega)))) (fun _ => ?_)
  refine ev_iload_n dJ3_checkIndex_8e157_4 rfl ?_
  refine ev_iload_n dJ3_checkIndex_8e157_5 rfl ?_
  refine ev_icmp_lt (tgt := 16) dJ3_checkIndex_8e157_6 (by decide) (fun _ => ?_) (fun h6 => absurd ((show nI j < nI n from nI_lt hj hn)) h6)
  refine ev_iload_n dJ3_checkIndex_8e157_16 rfl ?_
  refine ev_iret dJ3_checkIndex_8e157_17 rfl ?_
  exact ⟨rfl, rfl⟩
theorem c_chk0 {j n : Nat} (hj : j < n) (hn : n < 2 ^ 31) : Mt g 1 mJ0_checkIndex_df160 [.int (nI j), .int (nI n)] μ (fun v μ' => v = none ∧ μ' = μ) := by
  refine Mt.of0 (ls0 := [some (.int (nI j)), some (.int (nI n))]) (by decide) (by simp [Value.category]) (Nat.le_of_ble_eq_true rfl) rfl ?_
  refine ev_iload_n dJ0_checkIndex_df160_0 rfl ?_
  refine ev_iload_n dJ0_checkIndex_df160_1 rfl ?_
  refine ev_fmt dJ0_checkIndex_df160_2 (mt1 199 rfl rfl) (fun v hv => ?_)
  rcases hv with rfl | ⟨t, rfl⟩
  · skip
    refine k_s (c_chkN hj hn) (by decide) dJ0_checkIndex_df160_5 cbJ3_checkIndex_8e157 (mt1 201 rfl rfl) (mt1 202 rfl rfl) rfl rfl (Nat.le_of_ble_eq_true rfl) (fun v μ1 hq => ?_)
    obtain ⟨rfl, hμ⟩ := hq
    have hμ := hμ.symm
    subst hμ
    simp only [Option.toList, List.cons_append, List.nil_append]
    refine ev_pop dJ0_checkIndex_df160_8 rfl ?_
    refine ev_vret dJ0_checkIndex_df160_9 rfl ?_
    exact ⟨rfl, rfl⟩
  · skip
    refine k_s (c_chkR hj hn) (by decide) dJ0_checkIndex_df160_5 cbJ3_checkIndex_8e157 (mt1 201 rfl rfl) (mt1 202 rfl rfl) rfl rfl (Nat.le_of_ble_eq_true rfl) (fun v μ1 hq => ?_)
    obtain ⟨rfl, hμ⟩ := hq
    have hμ := hμ.symm
    subst hμ
    simp only [Option.toList, List.cons_append, List.nil_append]
    refine ev_pop dJ0_checkIndex_df160_8 rfl ?_
    refine ev_vret dJ0_checkIndex_df160_9 rfl ?_
    exact ⟨rfl, rfl⟩
theorem c_chr1 {i j : Nat} (hi : i < 13) (hj : j < scN.getD i 0) : Pu g 2 mJ1_charAt_3b067 [.ref (gS g (30 + i)), .int (nI j)] μ (scb i j) := by
  refine Mt.of0 (ls0 := [some (.ref (gS g (30 + i))), some (.int (nI j))]) (by decide) (by simp [Value.category]) (Nat.le_of_ble_eq_true rfl) rfl ?_
  have h60 := scN_lt i hi
  refine ev_iload_n dJ1_charAt_3b067_0 rfl ?_
  refine ev_aload_n dJ1_charAt_3b067_1 rfl ?_
  refine ev_balen dJ1_charAt_3b067_2 hi ?_
  refine k_s (c_chk0 hj (by omega)) (by decide) dJ1_charAt_3b067_3 cbJ0_checkIndex_df160 (mt1 196 rfl rfl) (mt1 197 rfl rfl) rfl rfl (Nat.le_of_ble_eq_true rfl) (fun v μ1 hq => ?_)
  obtain ⟨rfl, hμ⟩ := hq
  have hμ := hμ.symm
  subst hμ
  simp only [Option.toList, List.cons_append, List.nil_append]
  refine ev_aload_n dJ1_charAt_3b067_6 rfl ?_
  refine ev_iload_n dJ1_charAt_3b067_7 rfl ?_
  refine ev_bald dJ1_charAt_3b067_8 hi (ix_n (by omega)) hj ?_
  refine ev_sipush (v := 255) dJ1_charAt_3b067_9 (by decide) ?_
  refine ev_iand dJ1_charAt_3b067_12 ?_
  refine ev_i2c dJ1_charAt_3b067_13 ?_
  rw [show ((scb i j &&& 255).toUInt32 % 65536).toInt32 = scb i j from scb_ok i hi j hj]
  refine ev_zret dJ1_charAt_3b067_14 rfl (scb_nar hi hj) ?_
  exact ⟨rfl, rfl⟩
theorem c_sLen {i : Nat} (hi : i < 13) : Pu g 1 mJ0_length_8abf5 [.ref (gS g (10 + i))] μ (nI (scN.getD i 0)) := by
  refine Mt.of0 (ls0 := [some (.ref (gS g (10 + i)))]) (by decide) (by simp [Value.category]) (Nat.le_of_ble_eq_true rfl) rfl ?_
  have k0 : ∀ i, i < 13 → nI (scN.getD i 0) >>> ((0 : Int32) &&& 31) = nI (scN.getD i 0) := by decide
  refine ev_aload_n dJ0_length_8abf5_0 rfl ?_
  refine ev_strV dJ0_length_8abf5_1 hi (mt6 211 rfl rfl) ?_
  refine ev_balen dJ0_length_8abf5_4 hi ?_
  refine ev_aload_n dJ0_length_8abf5_5 rfl ?_
  refine ev_callS (c_coder hi) hi dJ0_length_8abf5_6 cbJ0_coder_7d493 (mt1 179 rfl rfl) (mt1 180 rfl rfl) (mt1 181 rfl rfl) rfl rfl (Nat.le_of_ble_eq_true rfl) (fun v μ1 hq ↦ ?_)
  obtain ⟨rfl, hμ⟩ := hq
  have hμ := hμ.symm
  subst hμ
  simp only [Option.toList, List.cons_append, List.nil_append]
  refine ev_ishr dJ0_length_8abf5_9 ?_
  rw [k0 i hi]
  refine ev_iret dJ0_length_8abf5_10 rfl ?_
  exact ⟨rfl, rfl⟩
theorem c_chr {i j : Nat} (hi : i < 13) (hj : j < scN.getD i 0) : Pu g 3 mJ0_charAt_5068e [.ref (gS g (10 + i)), .int (nI j)] μ (scb i j) := by
  refine Mt.of0 (ls0 := [some (.ref (gS g (10 + i))), some (.int (nI j))]) (by decide) (by simp [Value.category]) (Nat.le_of_ble_eq_true rfl) rfl ?_
  refine ev_aload_n dJ0_charAt_5068e_0 rfl ?_
  refine ev_callS ((c_latin hi).mono (Nat.zero_le 2)) hi dJ0_charAt_5068e_1 cbJ0_isLatin1_aae02 (mt1 189 rfl rfl) (mt1 190 rfl rfl) (mt1 191 rfl rfl) rfl rfl (Nat.le_of_ble_eq_true rfl) (fun v μ1 hq ↦ ?_)
  obtain ⟨rfl, hμ⟩ := hq
  have hμ := hμ.symm
  subst hμ
  simp only [Option.toList, List.cons_append, List.nil_append]
  refine ev_if_eq (tgt := 16) dJ0_charAt_5068e_4 (by decide) (fun h4 => absurd h4 ((show ¬ (1 : Int32) = 0 by decide))) (fun _ => ?_)
  refine ev_aload_n dJ0_charAt_5068e_7 rfl ?_
  refine ev_strV dJ0_charAt_5068e_8 hi (mt6 211 rfl rfl) ?_
  refine ev_iload_n dJ0_charAt_5068e_11 rfl ?_
  refine k_s (c_chr1 hi hj) (by decide) dJ0_charAt_5068e_12 cbJ1_charAt_3b067 (mt1 193 rfl rfl) (mt1 194 rfl rfl) rfl rfl (Nat.le_of_ble_eq_true rfl) (fun v μ1 hq => ?_)
  obtain ⟨rfl, hμ⟩ := hq
  have hμ := hμ.symm
  subst hμ
  simp only [Option.toList, List.cons_append, List.nil_append]
  refine ev_zret dJ0_charAt_5068e_15 rfl (scb_nar hi hj) ?_
  exact ⟨rfl, rfl⟩
end JSTR2
