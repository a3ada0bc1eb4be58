/-! ===== calls ===== -/
/-- what every kind of call asks of the callee -/
def CB (Y : Md) (n : Nat) : Prop := Cond.code (mY Y) (mC Y) (mN Y) (mR Y) ∈ GT ∧ Cond.initialized (mY Y).cls ∈ GT ∧ ((mY Y).cls ≠ "java/lang/invoke/MethodHandle" ∧ (mY Y).cls ≠ "java/lang/invoke/VarHandle") ∧ (parseMethodDescriptor (mY Y).desc).map (fun d => d.parameters.length) = some n ∧ mN Y ≤ 45
section CALLS
variable {g : Gl} {d : Nat} {Y : Md} {pc : Nat} {ls : List (Option Value)} {st : List Value} {μ : Mm} {Q : Option Value → Mm → Prop}
theorem CB.len {Y : Md} {n : Nat} (h : CB Y n) : ∀ sig, parseMethodDescriptor (mY Y).desc = some sig → n = sig.parameters.length := by
  intro sig hs
  have h2 := h.2.2.2.1
  rw [hs] at h2
  exact (Option.some.inj h2).symm
theorem mW_pay {Y : Md} {n : Nat} (h : CB Y n) {args : Array Value} {s : State} (hts : ∀ w ∈ GT, w.before args s = true) : ∀ w ∈ mW Y, ∀ (a' : Array Value) (U : State), s.WarmedH U.vm → w.before a' U = true := by
  have hG : GoodIn GT (mW Y) := fun w hw => by
    rcases List.mem_cons.mp hw with rfl | hw
    · exact ⟨h.1, GT_good _ h.1⟩
    · exact ⟨hw, GT_good _ hw⟩
  exact pay_in hts hG
theorem Pz_blind {av : List Value} : FrameBlind (Pz g av μ) := fun a U f mk h => ⟨h.1, h.2.1, h.2.2.blind f mk a⟩
theorem Pz_at {av : List Value} {s : State} {H : Heap} {locs : List Loc} (hG : GS g s) (hR : Rl g μ H) (hS : va_S (Hi g) s.heap H locs) : ∀ U : State, U.heap = H → s.WarmedH U.vm → Pz g av μ av.toArray U := fun U hU hW => ⟨rfl, by rw [hU]; exact hR, hG.to hW hU hS⟩
/-- a call of some kind, once the machine has been brought to the callee -/
theorem ev_run {Yc : Md} {av stk : List Value} {Qc : Option Value → Mm → Prop} (hM : Mt g d Yc av μ Qc)
    (hcall : ∀ (p : Program) (e : Env) (s : State) (m : MethodId) (args : Array Value) (below : List Frame) (meth : Method) (c : Code) (R : Room) (H : Heap) (locs : List Loc) (cells slots : Nat) (la : Array Slot) (mc ms : Nat) (Qx : Array Value → State → Outcome → State → Prop),
      Cx g (d + 1) Y p s m args meth c R → Rl g μ H → va_S (Hi g) s.heap H locs → Lr (mN Y) ls la → Met (gL g) (mY Yc) (mW Yc) (roomOf d mc ms) (Pz g av μ) Qx mc ms (Hi g) → cells + mc ≤ R.cells ∧ slots + ms ≤ R.slots →
      va_Run p (gL g) e R s m args below meth c H locs cells slots mc ms (F0 m pc la stk) st (Qx av.toArray) (Hi g))
    (kk : ∀ v μ1, Qc v μ1 → Ev g (d + 1) Y (pc + 3) ls (v.toList ++ st) μ1 Q) : Ev g (d + 1) Y pc ls stk μ Q := by
  obtain ⟨v1, μ1, hQ1, hG1, hMet⟩ := hM
  obtain ⟨v', μ', hQ, hG, hE⟩ := kk v1 μ1 hQ1
  refine ⟨v', μ', hQ, hG1.tr hG, fun p e s m args below meth c R H locs k0 la X h1 h2 h3 h4 hR hS hL => ?_⟩
  have q1 := hG1.1
  have q2 := hG1.2
  have q3 := hG.1
  have q4 := hG.2
  have hrun := hcall p e s m args below meth c R H locs (μ.2.1 - s.heap.size) (μ.2.2 - k0) la _ _ _ X hR hS hL (hMet d (Nat.le_refl d)) ⟨by omega, by omega⟩
  intro T hT XT
  obtain ⟨v, st₀, t, T', L, h0, X', hL', e1, e2, hq, stp⟩ := hrun T hT XT
  obtain ⟨hv, hR1, hF⟩ := hq
  cases hv
  rw [← e1] at hR1
  have hS1 : va_S (Hi g) s.heap T'.heap (locs ++ L) := by
    refine ⟨Nat.le_trans hS.1 ?_, fun q hq hn => ?_, fun q hq => ?_⟩
    · rw [e1, ← h0]; exact hF.1
    · have hlt : q < st₀.heap.size := by rw [h0]; exact Nat.lt_of_lt_of_le hq hS.1
      rw [e1, hF.2 q hlt hn, h0]
      exact hS.2.1 q hq hn
    · rcases List.mem_append.mp hq with h | h
      · exact hS.2.2 q h
      · exact hL' q h
  have hz := hE p e s m args below meth c R T'.heap (locs ++ L) k0 la X (by omega) (by omega) h3 h4 hR1 hS1 hL
  rw [show μ1.2.1 - s.heap.size = μ.2.1 - s.heap.size + (μ1.2.1 - μ.2.1) by omega, show μ1.2.2 - k0 = μ.2.2 - k0 + (μ1.2.2 - μ.2.2) by omega] at hz
  obtain ⟨t2, a1, b1⟩ := hz T' rfl X'
  exact ⟨t2, stp t2 a1, b1⟩
theorem room_ok {Yc : Md} {n mc ms : Nat} {R : Room} (h : CB Yc n) (h1 : d + 1 ≤ R.frames) (h2 : 64 * (d + 1) ≤ R.locals) : (roomOf d mc ms).frames + 1 ≤ R.frames ∧ 8 + (mN Yc + 11) + (roomOf d mc ms).locals ≤ R.locals := by
  have := h.2.2.2.2
  exact ⟨h1, by show 8 + (mN Yc + 11) + 64 * d ≤ _; omega⟩
theorem room_st {m : MethodId} {la : Array Slot} {stk st : List Value} (h : (st.map fun v => v.category).sum ≤ 8) : 2 * (F0 m pc la stk).monitorRoom + (st.map fun v => v.category).sum ≤ 8 := lv_room h
/-- a static method -/
theorem ev_calls {Yc : Md} {idx n : Nat} {av stk : List Value} {Qc : Option Value → Mm → Prop} (hd : decode (mC Y) pc = .ok (.invokestatic idx, 3)) (hb : CB Yc n) (hl : Cond.methodLink (mY Y).cls idx (mY Yc) ∈ GT) (hs : Cond.static (mY Yc) ∈ GT) (hst : stk = av.reverse ++ st) (hn : av.length = n) (hc : (st.map fun v => v.category).sum ≤ 8) (hM : Mt g d Yc av μ Qc) (kk : ∀ v μ1, Qc v μ1 → Ev g (d + 1) Y (pc + 3) ls (v.toList ++ st) μ1 Q) : Ev g (d + 1) Y pc ls stk μ Q := by
  refine ev_run hM (fun p e s m args below meth c R H locs cells slots la mc ms Qx X hR hS hL hMet hf => ?_) kk
  have hts := X.2.1
  obtain ⟨r1, r2⟩ := room_ok (mc := mc) (ms := ms) hb X.2.2.2.1 X.2.2.2.2
  exact va_runS (Ts := GT) (own := (mY Y).cls) (nL := mN Y) ⟨X.1.1, X.1.2.1, X.1.2.2.1, X.1.2.2.2.2.2.2, hts⟩ hMet ⟨⟨rfl, rfl, r1, r2, mW_pay hb hts, List.mem_cons_self, hts _ hb.1, hts _ hb.2.1, hb.2.2.1, hb.len, hts _ hl⟩, hts _ hs⟩ ⟨Pz_blind, Pz_at X.2.2.1 hR hS⟩ rfl hn hL.2.1 hst (room_st hc) hd hf
/-- a static method of a nest mate, private -/
theorem ev_callsN {Yc : Md} {idx n : Nat} {host : String} {av stk : List Value} {Qc : Option Value → Mm → Prop} (hd : decode (mC Y) pc = .ok (.invokestatic idx, 3)) (hb : CB Yc n) (hl : ((mY Y).cls, idx, mY Yc, host) ∈ mlN) (hs : Cond.static (mY Yc) ∈ GT) (hst : stk = av.reverse ++ st) (hn : av.length = n) (hc : (st.map fun v => v.category).sum ≤ 8) (hM : Mt g d Yc av μ Qc) (kk : ∀ v μ1, Qc v μ1 → Ev g (d + 1) Y (pc + 3) ls (v.toList ++ st) μ1 Q) : Ev g (d + 1) Y pc ls stk μ Q := by
  refine ev_run hM (fun p e s m args below meth c R H locs cells slots la mc ms Qx X hR hS hL hMet hf => ?_) kk
  have hts := X.2.1
  obtain ⟨r1, r2⟩ := room_ok (mc := mc) (ms := ms) hb X.2.2.2.1 X.2.2.2.2
  exact va_runSN (Ts := GT) (own := (mY Y).cls) (host := host) (nL := mN Y) ⟨X.1.1, X.1.2.1, X.1.2.2.1, X.1.2.2.2.2.2.2, hts⟩ hMet ⟨⟨⟨rfl, rfl, r1, r2, mW_pay hb hts, List.mem_cons_self⟩, hts _ hb.1, hts _ hb.2.1, hb.2.2.1, hb.len, va_Nw.use rfl (X.2.2.1.2.2.1 _ hl)⟩, hts _ hs, trivial⟩ ⟨Pz_blind, Pz_at X.2.2.1 hR hS⟩ rfl hn hL.2.1 hst (room_st hc) hd hf
theorem rcv_of {a ci : Nat} {fs : List Value} {C : String} {T : u_T} {N : Nat} {s : State} {H : Heap} (hG : GS g s) (hR : Rl g μ H) (hm : μ.1 a = some (obj ci fs)) (hc : vwCl[ci]? = some (C, T, N)) : ∃ cell : Cell, H[a]? = some cell ∧ cell.vm.isStatics = false ∧ s.vm.findClass C = some cell.cls := by
  obtain ⟨q', h1, cell, g1, g2, g3, -⟩ := hR.at hm
  exact ⟨cell, g1, by rw [g3]; rfl, by rw [g2]; exact (hG.1.1 ci _ hc).2.1⟩
/-- a method of an object, the one that is named -/
theorem ev_callv {Yc : Md} {idx n b ci : Nat} {fs av stk : List Value} {C : String} {T : u_T} {N : Nat} {Qc : Option Value → Mm → Prop} (hd : decode (mC Y) pc = .ok (.invokevirtual idx, 3)) (hb : CB Yc n) (hl : Cond.methodLink (mY Y).cls idx (mY Yc) ∈ GT) (hi : Cond.instanceMethod (mY Yc) ∈ GT) (hsel : Cond.selects C (mY Yc) (mY Yc) ∈ GT) (hcl : vwCl[ci]? = some (C, T, N)) (hm : μ.1 b = some (obj ci fs))
    (hst : stk = av.reverse ++ .ref b :: st) (hn : av.length = n) (hc : (st.map fun v => v.category).sum ≤ 8) (hM : Mt g d Yc (.ref b :: av) μ Qc) (kk : ∀ v μ1, Qc v μ1 → Ev g (d + 1) Y (pc + 3) ls (v.toList ++ st) μ1 Q) : Ev g (d + 1) Y pc ls stk μ Q := by
  refine ev_run hM (fun p e s m args below meth c R H locs cells slots la mc ms Qx X hR hS hL hMet hf => ?_) kk
  have hts := X.2.1
  obtain ⟨r1, r2⟩ := room_ok (mc := mc) (ms := ms) hb X.2.2.2.1 X.2.2.2.2
  exact va_runV (Ts := GT) (own := (mY Y).cls) (C := C) (nL := mN Y) ⟨X.1.1, X.1.2.1, X.1.2.2.1, X.1.2.2.2.2.2.2, hts⟩ hMet ⟨⟨rfl, rfl, r1, r2, mW_pay hb hts, List.mem_cons_self, hts _ hb.1, hts _ hb.2.1, hb.2.2.1, hb.len, hts _ hl⟩, hts _ hi, hts _ hsel⟩ ⟨Pz_blind, rcv_of X.2.2.1 hR hm hcl, Pz_at X.2.2.1 hR hS⟩ rfl hn hL.2.1 hst (room_st hc) hd hf
/-- a method of an object, chosen by its class -/
theorem ev_callu {Yc : Md} {x : MethodName} {idx n b ci : Nat} {fs av stk : List Value} {C owner : String} {T : u_T} {N : Nat} {b0 : ByteArray} {m0 : Nat} {r0 : Option FieldType} {Qc : Option Value → Mm → Prop} (hd : decode (mC Y) pc = .ok (.invokevirtual idx, 3)) (hb : CB Yc n) (hl : Cond.methodLink (mY Y).cls idx x ∈ GT) (hsm : Cond.sameMethod x.cls owner x.name x.desc ∈ GT) (hxi : Cond.instanceMethod ⟨owner, x.name, x.desc⟩ ∈ GT) (hxc : Cond.code ⟨owner, x.name, x.desc⟩ b0 m0 r0 ∈ GT)
    (hi : Cond.instanceMethod (mY Yc) ∈ GT) (hsel : Cond.selects C x (mY Yc) ∈ GT) (hown : owner ≠ "java/lang/invoke/MethodHandle" ∧ owner ≠ "java/lang/invoke/VarHandle") (hxd : (parseMethodDescriptor x.desc).map (fun d => d.parameters.length) = some n) (hcl : vwCl[ci]? = some (C, T, N)) (hm : μ.1 b = some (obj ci fs))
    (hst : stk = av.reverse ++ .ref b :: st) (hn : av.length = n) (hc : (st.map fun v => v.category).sum ≤ 8) (hM : Mt g d Yc (.ref b :: av) μ Qc) (kk : ∀ v μ1, Qc v μ1 → Ev g (d + 1) Y (pc + 3) ls (v.toList ++ st) μ1 Q) : Ev g (d + 1) Y pc ls stk μ Q := by
  refine ev_run hM (fun p e s m args below meth c R H locs cells slots la mc ms Qx X hR hS hL hMet hf => ?_) kk
  have hts := X.2.1
  obtain ⟨r1, r2⟩ := room_ok (mc := mc) (ms := ms) hb X.2.2.2.1 X.2.2.2.2
  have hlen : ∀ sig, parseMethodDescriptor x.desc = some sig → n = sig.parameters.length := fun sig hs => by
    rw [hs] at hxd
    exact (Option.some.inj hxd).symm
  exact va_runU (Ts := GT) (own := (mY Y).cls) (C := C) (owner := owner) (x := x) (nL := mN Y) ⟨X.1.1, X.1.2.1, X.1.2.2.1, X.1.2.2.2.2.2.2, hts⟩ hMet ⟨⟨rfl, rfl, r1, r2, mW_pay hb hts, List.mem_cons_self⟩, hts _ hb.1, hts _ hb.2.1, hown, hlen, hts _ hl, hts _ hsm, va_Decl.of (hts _ hxi) (hts _ hxc), hts _ hsel, hts _ hi⟩ ⟨Pz_blind, rcv_of X.2.2.1 hR hm hcl, Pz_at X.2.2.1 hR hS⟩ rfl hn hL.2.1 hst (room_st hc) hd hf
/-- a constructor -/
theorem ev_calli {Yc : Md} {idx n b : Nat} {av stk : List Value} {Qc : Option Value → Mm → Prop} (hd : decode (mC Y) pc = .ok (.invokespecial idx, 3)) (hb : CB Yc n) (hr : mR Yc = none) (hl : Cond.methodLink (mY Y).cls idx (mY Yc) ∈ GT) (hi : Cond.instanceMethod (mY Yc) ∈ GT) (hin : (mY Yc).name = "<init>")
    (hst : stk = av.reverse ++ .ref b :: st) (hn : av.length = n) (hc : (st.map fun v => v.category).sum ≤ 8) (hM : Mt g d Yc (.ref b :: av) μ Qc) (kk : ∀ v μ1, Qc v μ1 → Ev g (d + 1) Y (pc + 3) ls (v.toList ++ st) μ1 Q) : Ev g (d + 1) Y pc ls stk μ Q := by
  refine ev_run hM (fun p e s m args below meth c R H locs cells slots la mc ms Qx X hR hS hL hMet hf => ?_) kk
  have hts := X.2.1
  obtain ⟨r1, r2⟩ := room_ok (mc := mc) (ms := ms) hb X.2.2.2.1 X.2.2.2.2
  exact va_runI (Ts := GT) (own := (mY Y).cls) (nL := mN Y) ⟨X.1.1, X.1.2.1, X.1.2.2.1, X.1.2.2.2.2.2.2, hts⟩ hMet ⟨⟨rfl, rfl, r1, r2, mW_pay hb hts, by rw [← hr]; exact List.mem_cons_self, by rw [← hr]; exact hts _ hb.1, hts _ hb.2.1, hb.2.2.1, hb.len, hts _ hl⟩, hin, hts _ hi⟩ ⟨Pz_blind, Pz_at X.2.2.1 hR hS⟩ rfl hn hL.2.1 hst (room_st hc) hd hf
/-- a nest mate's constructor, private -/
theorem ev_calliN {Yc : Md} {idx n b : Nat} {host : String} {av stk : List Value} {Qc : Option Value → Mm → Prop} (hd : decode (mC Y) pc = .ok (.invokespecial idx, 3)) (hb : CB Yc n) (hr : mR Yc = none) (hl : ((mY Y).cls, idx, mY Yc, host) ∈ mlN) (hi : Cond.instanceMethod (mY Yc) ∈ GT) (hin : (mY Yc).name = "<init>")
    (hst : stk = av.reverse ++ .ref b :: st) (hn : av.length = n) (hc : (st.map fun v => v.category).sum ≤ 8) (hM : Mt g d Yc (.ref b :: av) μ Qc) (kk : ∀ v μ1, Qc v μ1 → Ev g (d + 1) Y (pc + 3) ls (v.toList ++ st) μ1 Q) : Ev g (d + 1) Y pc ls stk μ Q := by
  refine ev_run hM (fun p e s m args below meth c R H locs cells slots la mc ms Qx X hR hS hL hMet hf => ?_) kk
  have hts := X.2.1
  obtain ⟨r1, r2⟩ := room_ok (mc := mc) (ms := ms) hb X.2.2.2.1 X.2.2.2.2
  exact va_runIN (Ts := GT) (own := (mY Y).cls) (host := host) (nL := mN Y) ⟨X.1.1, X.1.2.1, X.1.2.2.1, X.1.2.2.2.2.2.2, hts⟩ hMet ⟨⟨⟨rfl, rfl, r1, r2, mW_pay hb hts, by rw [← hr]; exact List.mem_cons_self⟩, by rw [← hr]; exact hts _ hb.1, hts _ hb.2.1, hb.2.2.1, hb.len, va_Nw.use rfl (X.2.2.1.2.2.1 _ hl)⟩, hin, hts _ hi⟩ ⟨Pz_blind, Pz_at X.2.2.1 hR hS⟩ rfl hn hL.2.1 hst (room_st hc) hd hf
/-- super.m(..) -/
theorem ev_callsu {Yc : Md} {idx n b ci : Nat} {fs av stk : List Value} {C : String} {T : u_T} {N : Nat} {Qc : Option Value → Mm → Prop} (hd : decode (mC Y) pc = .ok (.invokespecial idx, 3)) (hb : CB Yc n) (hl : Cond.methodLink (mY Y).cls idx (mY Yc) ∈ GT) (hsm : Cond.sameMethod (mY Yc).cls (mY Yc).cls (mY Yc).name (mY Yc).desc ∈ GT) (hsu : Cond.superclass (mY Y).cls (mY Yc).cls ∈ GT) (hi : Cond.instanceMethod (mY Yc) ∈ GT) (hnin : (mY Yc).name ≠ "<init>") (hcl : vwCl[ci]? = some (C, T, N)) (hm : μ.1 b = some (obj ci fs))
    (hst : stk = av.reverse ++ .ref b :: st) (hn : av.length = n) (hc : (st.map fun v => v.category).sum ≤ 8) (hM : Mt g d Yc (.ref b :: av) μ Qc) (kk : ∀ v μ1, Qc v μ1 → Ev g (d + 1) Y (pc + 3) ls (v.toList ++ st) μ1 Q) : Ev g (d + 1) Y pc ls stk μ Q := by
  refine ev_run hM (fun p e s m args below meth c R H locs cells slots la mc ms Qx X hR hS hL hMet hf => ?_) kk
  have hts := X.2.1
  obtain ⟨r1, r2⟩ := room_ok (mc := mc) (ms := ms) hb X.2.2.2.1 X.2.2.2.2
  exact va_runSU (Ts := GT) (own := (mY Y).cls) (C := C) (nL := mN Y) (X.2.2.1.1.1 ci _ hcl).2 ⟨X.1.1, X.1.2.1, X.1.2.2.1, X.1.2.2.2.2.2.2, hts⟩ hMet ⟨⟨rfl, rfl, r1, r2, mW_pay hb hts, List.mem_cons_self⟩, hts _ hl, hts _ hsm, hts _ hsu, hts _ hi, hts _ hb.2.1, hts _ hb.1, hnin, hb.len⟩ ⟨Pz_blind, rcv_of X.2.2.1 hR hm hcl, Pz_at X.2.2.1 hR hS⟩ rfl hn hL.2.1 hst (room_st hc) hd hf
end CALLS
