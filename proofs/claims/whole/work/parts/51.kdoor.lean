/-! ===== more calls; the doors ===== -/
section SUPI
variable {p : Program} {l : Launch} {e : Env} {R : Room} {s : State} {m : MethodId} {args : Array Value} {below : List Frame} {meth : Method} {c : Code}
/-- super.m(..), where m stands above the superclass -/
theorem xw_callSI {T : State} {locs : List Loc} {cells slots : Nat} (X : Stand p l e R s m args below meth c T locs cells slots) (hexec : p.tables.exec = Jvm.exec) {own sup : String} {index : Nat} {y : MethodName} {bytes : ByteArray} {maxL : Nat} {ret : Option FieldType}
    (hown : s.vm.findClass own = some m.cls) (hlink : (Cond.methodLink own index ⟨sup, y.name, y.desc⟩).before args s = true) (hsame : (Cond.sameMethod sup y.cls y.name y.desc).before args s = true) (hsup : (Cond.superclass own sup).before args s = true) (hsup2 : (Cond.superclass sup y.cls).before args s = true)
    (hinst : (Cond.instanceMethod y).before args s = true) (hcode : (Cond.code y bytes maxL ret).before args s = true) (hno : y.name ≠ "<init>")
    {Wd : Nat} {Pre : Pt → Array Value → Prop} {Post : Pt → Array Value → Option Value → Pt → Prop} (hK : Back l R p e below s args y 3 Wd Pre Post)
    {b : Addr} {cellB : Cell} {kB : Class} (hcell : T.heap[b]? = some cellB) (hobj : cellB.vm.isStatics = false) (hkB : s.vm.classes[cellB.cls]? = some kB)
    {g : JFrame} (hg : g.method = m) (hsize : g.locals.size = c.maxLocals) {argsL rest : List Value} (hlen : ∀ sig, parseMethodDescriptor y.desc = some sig → argsL.length = sig.parameters.length)
    (hstack : g.stack = argsL.reverse ++ .ref b :: rest) (hW : 2 * g.monitorRoom + (rest.map fun v => v.category).sum ≤ Wd) (hdg : decode c.code g.pc = .ok (.invokespecial index, 3))
    (hpre : ∀ vm₁, s.WarmedH vm₁ → Pre ⟨T.setVm vm₁, locs, cells, slots⟩ (Value.ref b :: argsL).toArray) :
    ∃ (v : Option Value) (vm₁ : Vm) (B : Pt), s.WarmedH vm₁ ∧ Stand p l e R s m args below meth c B.U B.locs B.cells B.slots ∧ Post ⟨T.setVm vm₁, locs, cells, slots⟩ (Value.ref b :: argsL).toArray v B ∧
      ∀ target, Steps p.tables e below (B.U.setTop { g with pc := g.pc + 3, stack := v.toList ++ rest }) target → Steps p.tables e below (T.setTop g) target := by
  obtain ⟨mk, methM, hnamed, hmethM, hstM, habM⟩ := Cond.instanceMethod_spec hinst
  obtain ⟨methM', cM, hmethM', -, -, -, -, -, -, hsigM⟩ := Cond.code_spec hnamed hcode
  cases hmethM.symm.trans hmethM'
  obtain ⟨ps, dk, kp, hps, hdk, hkp, hsuper, -, -, hnid⟩ := Cond.superclass_spec hown hsup
  obtain ⟨ps2, dk2, kp2, hps2, hdk2, hkp2, hsuper2, -, -, hnid2⟩ := Cond.superclass_spec hps hsup2
  have hn : s.methodNamed? ⟨y.cls, y.name, y.desc⟩ = some mk := hnamed
  have hpm : ps2 = mk.cls := Option.some.inj (hps2.symm.trans (findClass_of_methodNamed hnamed))
  have hsz : 0 < s.vm.classes.size := Nat.lt_of_le_of_lt (Nat.zero_le _) (Array.getElem?_eq_some_iff.mp hdk2).1
  have hsub : s.vm.isSubclass ps mk.cls = true := by
    rw [← hpm]
    obtain ⟨z, hz⟩ := Nat.exists_eq_succ_of_ne_zero (Nat.pos_iff_ne_zero.mp hsz)
    simp [Vm.isSubclass, hz, Vm.isSubclassAux, hdk2, hsuper2]
  obtain ⟨vm₁, X₁, hstep₁⟩ := X.invokespecialUp (x := ⟨sup, y.name, y.desc⟩) (owner := y.cls) hexec hown hlink hsame hn hmethM hstM habM hno hdk hnid hps hsuper hsub (a := b) (cell := cellB) hcell
    (fun z h => by rw [h] at hobj; cases hobj) hkB (g := g) hg (argsL := argsL) (rest := rest) (hlen _ hsigM) hstack hdg
  obtain ⟨v, B, X', hpost, hsteps⟩ := hK m meth c ⟨T.setVm vm₁, locs, cells, slots⟩ { g with stack := rest } (.invokespecial index) mk (Value.ref b :: argsL).toArray X₁ hg hsize hdg hW (X₁.named hnamed) (hpre vm₁ X₁.warmed)
  exact ⟨v, vm₁, B, X₁.warmed, X', hpost, fun target h => hstep₁ _ (by rw [doInvoke_state]; exact hsteps.trans h)⟩
variable {H : Heap} {locs : List Loc} {cells slots : Nat}
theorem xw_runSI {y : MethodName} {bytes cc : ByteArray} {maxL nL mc ms n index : Nat} {ret : Option FieldType} {ws : List Cond} {rm : Room} {Pc : Array Value → State → Prop} {Qc : Array Value → State → Outcome → State → Prop} {free : Addr → Prop} {Ts : List Cond} {own sup C : String} {cC : ClassId} {b : Addr} {As rest : List Value} {g : JFrame}
    (hat : ClassAt s C cC) (S : CallFix p m c cc nL s args Ts own) (hM : Met l y ws rm Pc Qc mc ms free)
    (cw : (rm.cells = mc ∧ rm.slots = ms ∧ rm.frames + 1 ≤ R.frames ∧ 8 + (maxL + 11) + rm.locals ≤ R.locals ∧ (∀ w ∈ ws, ∀ (a' : Array Value) (U : State), s.WarmedH U.vm → w.before a' U = true) ∧ Cond.code y bytes maxL ret ∈ ws) ∧
      (Cond.methodLink own index ⟨sup, y.name, y.desc⟩).before args s = true ∧ (Cond.sameMethod sup y.cls y.name y.desc).before args s = true ∧ (Cond.superclass own sup).before args s = true ∧ (Cond.superclass sup y.cls).before args s = true ∧ (Cond.instanceMethod y).before args s = true ∧ (Cond.initialized y.cls).before args s = true ∧ (Cond.code y bytes maxL ret).before args s = true ∧ y.name ≠ "<init>" ∧ (∀ sig, parseMethodDescriptor y.desc = some sig → n = sig.parameters.length))
    (hp : PreV s H C b Pc As)
    (hg : g.method = m) (hn : As.length = n) (hsize : g.locals.size = nL) (hstack : g.stack = As.reverse ++ .ref b :: rest) (hW : 2 * g.monitorRoom + (rest.map fun v => v.category).sum ≤ 8) (hdg : decode cc g.pc = .ok (.invokespecial index, 3)) (hf : cells + mc ≤ R.cells ∧ slots + ms ≤ R.slots) :
    va_Run p l e R s m args below meth c H locs cells slots mc ms g rest (Qc (Value.ref b :: As).toArray) (free) := by
  obtain ⟨⟨hrc, hrs, hfr, hlo, hws, hcw⟩, hl1, hl2, hl3, hl3', hl4, hini, hcode, hno, hlen⟩ := cw
  have hK : Back l R p e below s args y 3 8 (PreOf R mc ms Pc) (PostOf Qc mc ms free) := back_of (bytes := bytes) (maxL := maxL) (ret := ret) hM hp.1 hrc hrs hfr hlo hws hcw (fun a' U hW => word_at hW (Or.inl (by first | rfl | simp [Cond.onTables, Cond.keeps, Cond.steady])) hini)
  obtain ⟨hx, hb, hml, ho, -⟩ := S
  obtain ⟨-, ⟨cellB, hcB, hoB, hclB⟩, hPc⟩ := hp
  obtain ⟨hfc, kB, hkB, -⟩ := hat
  cases hfc.symm.trans hclB
  intro T hT X
  obtain ⟨v, vm₁, ⟨U', l2, c2, s2⟩, hW₁, X', ⟨g', mk, t, L, e1, e2, hq, h1, hL, h2, h3⟩, st⟩ := xw_callSI X hx (bytes := bytes) (maxL := maxL) (ret := ret) ho hl1 hl2 hl3 hl3' hl4 hcode hno hK (by rw [hT]; exact hcB) hoB hkB hg (hsize.trans hml.symm) (argsL := As) (rest := rest) (fun sig h => hn.trans (hlen sig h)) hstack hW (by rw [hb]; exact hdg)
    (fun vm₁ hW₁ => ⟨hf.1, hf.2, hPc (T.setVm vm₁) hT hW₁⟩)
  dsimp only [Pt.U, Pt.locs, Pt.cells, Pt.slots] at X' e1 e2 h1 h2 h3 st
  subst h1; subst h2; subst h3
  exact ⟨v, (T.setVm vm₁).calling g' mk (Value.ref b :: As).toArray, t, U', L, hT, X', hL, e1, e2, hq, st⟩
end SUPI
section KCALL2
variable {g : Gl} {d d' : Nat} {Y : Md} {pc : Nat} {ls : List (Option Value)} {st : List Value} {μ : Mm} {Q : Option Value → Mm → Prop}
theorem k_su {Yc : Md} {idx n b ci : Nat} {fs av stk : List Value} {C : String} {T : u_T} {N : Nat} {Qc : Option Value → Mm → Prop} (hM : Mt g d' Yc (.ref b :: av) μ Qc) (hdd : d' ≤ d) (hd : decode (mC Y) pc = .ok (.invokespecial idx, 3)) (hb : CB Yc n) (hl : Cond.methodLink (mY Y).cls idx (mY Yc) ∈ GT) (hsm : Cond.sameMethod (mY Yc).cls (mY Yc).cls (mY Yc).name (mY Yc).desc ∈ GT) (hsu : Cond.superclass (mY Y).cls (mY Yc).cls ∈ GT) (hi : Cond.instanceMethod (mY Yc) ∈ GT) (hnin : (mY Yc).name ≠ "<init>") (hcl : vwCl[ci]? = some (C, T, N)) (hm : μ.1 b = some (obj ci fs))
    (hst : stk = av.reverse ++ .ref b :: st) (hn : av.length = n) (hc : (st.map fun v => v.category).sum ≤ 8) (kk : ∀ v μ1, Qc v μ1 → Ev g (d + 1) Y (pc + 3) ls (v.toList ++ st) μ1 Q) : Ev g (d + 1) Y pc ls stk μ Q := ev_callsu hd hb hl hsm hsu hi hnin hcl hm hst hn hc (hM.mono hdd) kk
theorem k_si {Yc : Md} {idx n b ci : Nat} {fs av stk : List Value} {sup C : String} {T : u_T} {N : Nat} {Qc : Option Value → Mm → Prop} (hM : Mt g d' Yc (.ref b :: av) μ Qc) (hdd : d' ≤ d) (hd : decode (mC Y) pc = .ok (.invokespecial idx, 3)) (hb : CB Yc n) (hl : Cond.methodLink (mY Y).cls idx ⟨sup, (mY Yc).name, (mY Yc).desc⟩ ∈ GT) (hsm : Cond.sameMethod sup (mY Yc).cls (mY Yc).name (mY Yc).desc ∈ GT) (hsu : Cond.superclass (mY Y).cls sup ∈ GT) (hsu2 : Cond.superclass sup (mY Yc).cls ∈ GT) (hi : Cond.instanceMethod (mY Yc) ∈ GT) (hnin : (mY Yc).name ≠ "<init>") (hcl : vwCl[ci]? = some (C, T, N)) (hm : μ.1 b = some (obj ci fs))
    (hst : stk = av.reverse ++ .ref b :: st) (hn : av.length = n) (hc : (st.map fun v => v.category).sum ≤ 8) (kk : ∀ v μ1, Qc v μ1 → Ev g (d + 1) Y (pc + 3) ls (v.toList ++ st) μ1 Q) : Ev g (d + 1) Y pc ls stk μ Q := by
  refine ev_run (hM.mono hdd) (fun p e s m args below meth c R H locs cells slots la mc ms Qx X hR hS hL hMet hf => ?_) kk
  have hts := X.2.1
  obtain ⟨r1, r2⟩ := room_ok (mc := mc) (ms := ms) hb X.2.2.2.1 X.2.2.2.2
  exact xw_runSI (Ts := GT) (own := (mY Y).cls) (C := C) (nL := mN Y) (X.2.2.1.1.1 ci _ hcl).2 ⟨X.1.1, X.1.2.1, X.1.2.2.1, X.1.2.2.2.2.2.2, hts⟩ hMet ⟨⟨rfl, rfl, r1, r2, mW_pay hb hts, List.mem_cons_self⟩, hts _ hl, hts _ hsm, hts _ hsu, hts _ hsu2, hts _ hi, hts _ hb.2.1, hts _ hb.1, hnin, hb.len⟩ ⟨Pz_blind, rcv_of X.2.2.1 hR hm hcl, Pz_at X.2.2.1 hR hS⟩ rfl hn hL.2.1 hst (room_st hc) hd hf
theorem k_sN {Yc : Md} {idx n : Nat} {host : String} {av stk : List Value} {Qc : Option Value → Mm → Prop} (hM : Mt g d' Yc av μ Qc) (hdd : d' ≤ d) (hd : decode (mC Y) pc = .ok (.invokestatic idx, 3)) (hb : CB Yc n) (hl : ((mY Y).cls, idx, mY Yc, host) ∈ mlN) (hs : Cond.static (mY Yc) ∈ GT) (hst : stk = av.reverse ++ st) (hn : av.length = n) (hc : (st.map fun v => v.category).sum ≤ 8) (kk : ∀ v μ1, Qc v μ1 → Ev g (d + 1) Y (pc + 3) ls (v.toList ++ st) μ1 Q) : Ev g (d + 1) Y pc ls stk μ Q := ev_callsN hd hb hl hs hst hn hc (hM.mono hdd) kk
theorem k_i {Yc : Md} {idx n b : Nat} {av stk : List Value} {Qc : Option Value → Mm → Prop} (hM : Mt g d' Yc (.ref b :: av) μ Qc) (hdd : d' ≤ d) (hd : decode (mC Y) pc = .ok (.invokespecial idx, 3)) (hb : CB Yc n) (hr : mR Yc = none) (hl : Cond.methodLink (mY Y).cls idx (mY Yc) ∈ GT) (hi : Cond.instanceMethod (mY Yc) ∈ GT) (hin : (mY Yc).name = "<init>")
    (hst : stk = av.reverse ++ .ref b :: st) (hn : av.length = n) (hc : (st.map fun v => v.category).sum ≤ 8) (kk : ∀ v μ1, Qc v μ1 → Ev g (d + 1) Y (pc + 3) ls (v.toList ++ st) μ1 Q) : Ev g (d + 1) Y pc ls stk μ Q := ev_calli hd hb hr hl hi hin hst hn hc (hM.mono hdd) kk
theorem k_iN {Yc : Md} {idx n b : Nat} {host : String} {av stk : List Value} {Qc : Option Value → Mm → Prop} (hM : Mt g d' Yc (.ref b :: av) μ Qc) (hdd : d' ≤ d) (hd : decode (mC Y) pc = .ok (.invokespecial idx, 3)) (hb : CB Yc n) (hr : mR Yc = none) (hl : ((mY Y).cls, idx, mY Yc, host) ∈ mlN) (hi : Cond.instanceMethod (mY Yc) ∈ GT) (hin : (mY Yc).name = "<init>")
    (hst : stk = av.reverse ++ .ref b :: st) (hn : av.length = n) (hc : (st.map fun v => v.category).sum ≤ 8) (kk : ∀ v μ1, Qc v μ1 → Ev g (d + 1) Y (pc + 3) ls (v.toList ++ st) μ1 Q) : Ev g (d + 1) Y pc ls stk μ Q := ev_calliN hd hb hr hl hi hin hst hn hc (hM.mono hdd) kk
end KCALL2
/-- the classes of doors -/
def dks : List Nat := [0, 1, 2, 3, 8, 9]
def dog32 (n : Int32) : Int32 := 1 + (if n - n / 2 * 2 = 1 then 3 else 0)
def tkC (ci : Nat) (n th ra : Int32) : Int32 := if ci = 3 then 1 + n else if ci = 1 then dog32 n else if ci = 9 then 1 + n + th else if ci = 0 then 2 * dog32 n else if ci = 8 then 1 + n + (if 0 < ra then 1 else 0) else 1
def gvC (ci : Nat) (n bs la ra : Int32) : Int32 := if ci = 1 then (bs - la) / 2 else if ci = 9 then bs - la + n else if ci = 0 then (bs - la) / 2 + (if la = 0 then 2 else 0) else if ci = 8 then bs - la - ra else bs - la
def kdC (ci : Nat) : Int32 := if ci = 3 then 1 else if ci = 1 then 2 else if ci = 9 then 3 else if ci = 0 then 4 else if ci = 8 then 5 else 0
abbrev dfs (i n p s so : Int32) : List Value := [.int i, .int n, .int p, .int s, .int so]
section KDOOR
variable {g : Gl} {μ : Mm} {w : Nat} {i n p s so : Int32}
theorem c_tkX2 (th ra : Int32) : Pu g 0 mX2_takes [.ref w, .int th, .int ra] μ 1 := by
  refine Mt.of0 (ls0 := [some (.ref w), some (.int th), some (.int ra)]) (by decide) (by simp [Value.category]) (Nat.le_of_ble_eq_true rfl) rfl ?_
  refine ev_iconst (v := 1) dX2_takes_0 (by decide) ?_
  refine ev_iret dX2_takes_1 rfl ?_
  exact ⟨rfl, rfl⟩
theorem c_tkX3 {ci : Nat} (hci : ci = 3 ∨ ci = 8 ∨ ci = 9) (hm : μ.1 w = some (obj ci (dfs i n p s so))) (th ra : Int32) : Pu g 1 mX3_takes [.ref w, .int th, .int ra] μ (1 + n) := by
  refine Mt.of0 (ls0 := [some (.ref w), some (.int th), some (.int ra)]) (by decide) (by simp [Value.category]) (Nat.le_of_ble_eq_true rfl) rfl ?_
  rcases hci with rfl | rfl | rfl
  · skip
    refine ev_aload_n dX3_takes_0 rfl ?_
    refine ev_iload_n dX3_takes_1 rfl ?_
    refine ev_iload_n dX3_takes_2 rfl ?_
    refine k_su (c_tkX2 th ra) (by decide) dX3_takes_3 cbX2_takes (mt3 133 rfl rfl) (mt3 121 rfl rfl) (mt2 226 rfl rfl) (mt3 119 rfl rfl) (by decide) (ci := 3) rfl hm rfl rfl (Nat.le_of_ble_eq_true rfl) (fun v μ1 hq => ?_)
    obtain ⟨rfl, hμ⟩ := hq
    have hμ := hμ.symm
    subst hμ
    simp only [Option.toList, List.cons_append, List.nil_append]
    refine ev_aload_n dX3_takes_6 rfl ?_
    refine ev_get dX3_takes_7 flX3_11_3 hm rfl ?_
    refine ev_iadd dX3_takes_10 ?_
    refine ev_iret dX3_takes_11 rfl ?_
    exact ⟨rfl, rfl⟩
  · skip
    refine ev_aload_n dX3_takes_0 rfl ?_
    refine ev_iload_n dX3_takes_1 rfl ?_
    refine ev_iload_n dX3_takes_2 rfl ?_
    refine k_su (c_tkX2 th ra) (by decide) dX3_takes_3 cbX2_takes (mt3 133 rfl rfl) (mt3 121 rfl rfl) (mt2 226 rfl rfl) (mt3 119 rfl rfl) (by decide) (ci := 8) rfl hm rfl rfl (Nat.le_of_ble_eq_true rfl) (fun v μ1 hq => ?_)
    obtain ⟨rfl, hμ⟩ := hq
    have hμ := hμ.symm
    subst hμ
    simp only [Option.toList, List.cons_append, List.nil_append]
    refine ev_aload_n dX3_takes_6 rfl ?_
    refine ev_get dX3_takes_7 flX3_11_8 hm rfl ?_
    refine ev_iadd dX3_takes_10 ?_
    refine ev_iret dX3_takes_11 rfl ?_
    exact ⟨rfl, rfl⟩
  · skip
    refine ev_aload_n dX3_takes_0 rfl ?_
    refine ev_iload_n dX3_takes_1 rfl ?_
    refine ev_iload_n dX3_takes_2 rfl ?_
    refine k_su (c_tkX2 th ra) (by decide) dX3_takes_3 cbX2_takes (mt3 133 rfl rfl) (mt3 121 rfl rfl) (mt2 226 rfl rfl) (mt3 119 rfl rfl) (by decide) (ci := 9) rfl hm rfl rfl (Nat.le_of_ble_eq_true rfl) (fun v μ1 hq => ?_)
    obtain ⟨rfl, hμ⟩ := hq
    have hμ := hμ.symm
    subst hμ
    simp only [Option.toList, List.cons_append, List.nil_append]
    refine ev_aload_n dX3_takes_6 rfl ?_
    refine ev_get dX3_takes_7 flX3_11_9 hm rfl ?_
    refine ev_iadd dX3_takes_10 ?_
    refine ev_iret dX3_takes_11 rfl ?_
    exact ⟨rfl, rfl⟩
theorem c_tkX1 {ci : Nat} (hci : ci = 1 ∨ ci = 0) (hm : μ.1 w = some (obj ci (dfs i n p s so))) (th ra : Int32) : Pu g 1 mX1_takes [.ref w, .int th, .int ra] μ (dog32 n) := by
  refine Mt.of0 (ls0 := [some (.ref w), some (.int th), some (.int ra)]) (by decide) (by simp [Value.category]) (Nat.le_of_ble_eq_true rfl) rfl ?_
  unfold dog32
  rcases hci with rfl | rfl
  · skip
    refine ev_aload_n dX1_takes_0 rfl ?_
    refine ev_iload_n dX1_takes_1 rfl ?_
    refine ev_iload_n dX1_takes_2 rfl ?_
    refine k_su (c_tkX2 th ra) (by decide) dX1_takes_3 cbX2_takes (mt3 128 rfl rfl) (mt3 121 rfl rfl) (mt2 238 rfl rfl) (mt3 119 rfl rfl) (by decide) (ci := 1) rfl hm rfl rfl (Nat.le_of_ble_eq_true rfl) (fun v μ1 hq => ?_)
    obtain ⟨rfl, hμ⟩ := hq
    have hμ := hμ.symm
    subst hμ
    simp only [Option.toList, List.cons_append, List.nil_append]
    refine ev_aload_n dX1_takes_6 rfl ?_
    refine ev_get dX1_takes_7 flX1_11_1 hm rfl ?_
    refine ev_iconst (v := 2) dX1_takes_10 (by decide) ?_
    refine ev_irem dX1_takes_11 (by decide) ?_
    refine ev_iconst (v := 1) dX1_takes_12 (by decide) ?_
    refine ev_icmp_ne (tgt := 20) dX1_takes_13 (by decide) (fun h13 => ?_) (fun h13 => ?_)
    · refine ev_iconst (v := 0) dX1_takes_20 (by decide) ?_
      refine ev_iadd dX1_takes_21 ?_
      refine ev_iret dX1_takes_22 rfl ?_
      refine ⟨?_, rfl⟩
      first | (exfalso; (simp only [Fc, Se, Nat.reduceLT, ↓reduceIte, ← Int32.toInt_inj, Int32.le_iff_toInt_le, Int32.lt_iff_toInt_lt, Int32.reduceToInt] at *; omega)) | (repeat (first | rw [if_pos (by (simp only [Fc, Se, Nat.reduceLT, ↓reduceIte, ← Int32.toInt_inj, Int32.le_iff_toInt_le, Int32.lt_iff_toInt_lt, Int32.reduceToInt] at *; omega))] | rw [if_neg (by (simp only [Fc, Se, Nat.reduceLT, ↓reduceIte, ← Int32.toInt_inj, Int32.le_iff_toInt_le, Int32.lt_iff_toInt_lt, Int32.reduceToInt] at *; omega))] | rw [b2i_t (by (simp only [Fc, Se, Nat.reduceLT, ↓reduceIte, ← Int32.toInt_inj, Int32.le_iff_toInt_le, Int32.lt_iff_toInt_lt, Int32.reduceToInt] at *; omega))] | rw [b2i_f (by (simp only [Fc, Se, Nat.reduceLT, ↓reduceIte, ← Int32.toInt_inj, Int32.le_iff_toInt_le, Int32.lt_iff_toInt_lt, Int32.reduceToInt] at *; omega))])); try rfl
    · refine ev_iconst (v := 3) dX1_takes_16 (by decide) ?_
      refine ev_goto (tgt := 21) dX1_takes_17 (by decide) ?_
      refine ev_iadd dX1_takes_21 ?_
      refine ev_iret dX1_takes_22 rfl ?_
      refine ⟨?_, rfl⟩
      first | (exfalso; (simp only [Fc, Se, Nat.reduceLT, ↓reduceIte, ← Int32.toInt_inj, Int32.le_iff_toInt_le, Int32.lt_iff_toInt_lt, Int32.reduceToInt] at *; omega)) | (repeat (first | rw [if_pos (by (simp only [Fc, Se, Nat.reduceLT, ↓reduceIte, ← Int32.toInt_inj, Int32.le_iff_toInt_le, Int32.lt_iff_toInt_lt, Int32.reduceToInt] at *; omega))] | rw [if_neg (by (simp only [Fc, Se, Nat.reduceLT, ↓reduceIte, ← Int32.toInt_inj, Int32.le_iff_toInt_le, Int32.lt_iff_toInt_lt, Int32.reduceToInt] at *; omega))] | rw [b2i_t (by (simp only [Fc, Se, Nat.reduceLT, ↓reduceIte, ← Int32.toInt_inj, Int32.le_iff_toInt_le, Int32.lt_iff_toInt_lt, Int32.reduceToInt] at *; omega))] | rw [b2i_f (by (simp only [Fc, Se, Nat.reduceLT, ↓reduceIte, ← Int32.toInt_inj, Int32.le_iff_toInt_le, Int32.lt_iff_toInt_lt, Int32.reduceToInt] at *; omega))])); try rfl
  · skip
    refine ev_aload_n dX1_takes_0 rfl ?_
    refine ev_iload_n dX1_takes_1 rfl ?_
    refine ev_iload_n dX1_takes_2 rfl ?_
    refine k_su (c_tkX2 th ra) (by decide) dX1_takes_3 cbX2_takes (mt3 128 rfl rfl) (mt3 121 rfl rfl) (mt2 238 rfl rfl) (mt3 119 rfl rfl) (by decide) (ci := 0) rfl hm rfl rfl (Nat.le_of_ble_eq_true rfl) (fun v μ1 hq => ?_)
    obtain ⟨rfl, hμ⟩ := hq
    have hμ := hμ.symm
    subst hμ
    simp only [Option.toList, List.cons_append, List.nil_append]
    refine ev_aload_n dX1_takes_6 rfl ?_
    refine ev_get dX1_takes_7 flX1_11_0 hm rfl ?_
    refine ev_iconst (v := 2) dX1_takes_10 (by decide) ?_
    refine ev_irem dX1_takes_11 (by decide) ?_
    refine ev_iconst (v := 1) dX1_takes_12 (by decide) ?_
    refine ev_icmp_ne (tgt := 20) dX1_takes_13 (by decide) (fun h13 => ?_) (fun h13 => ?_)
    · refine ev_iconst (v := 0) dX1_takes_20 (by decide) ?_
      refine ev_iadd dX1_takes_21 ?_
      refine ev_iret dX1_takes_22 rfl ?_
      refine ⟨?_, rfl⟩
      first | (exfalso; (simp only [Fc, Se, Nat.reduceLT, ↓reduceIte, ← Int32.toInt_inj, Int32.le_iff_toInt_le, Int32.lt_iff_toInt_lt, Int32.reduceToInt] at *; omega)) | (repeat (first | rw [if_pos (by (simp only [Fc, Se, Nat.reduceLT, ↓reduceIte, ← Int32.toInt_inj, Int32.le_iff_toInt_le, Int32.lt_iff_toInt_lt, Int32.reduceToInt] at *; omega))] | rw [if_neg (by (simp only [Fc, Se, Nat.reduceLT, ↓reduceIte, ← Int32.toInt_inj, Int32.le_iff_toInt_le, Int32.lt_iff_toInt_lt, Int32.reduceToInt] at *; omega))] | rw [b2i_t (by (simp only [Fc, Se, Nat.reduceLT, ↓reduceIte, ← Int32.toInt_inj, Int32.le_iff_toInt_le, Int32.lt_iff_toInt_lt, Int32.reduceToInt] at *; omega))] | rw [b2i_f (by (simp only [Fc, Se, Nat.reduceLT, ↓reduceIte, ← Int32.toInt_inj, Int32.le_iff_toInt_le, Int32.lt_iff_toInt_lt, Int32.reduceToInt] at *; omega))])); try rfl
    · refine ev_iconst (v := 3) dX1_takes_16 (by decide) ?_
      refine ev_goto (tgt := 21) dX1_takes_17 (by decide) ?_
      refine ev_iadd dX1_takes_21 ?_
      refine ev_iret dX1_takes_22 rfl ?_
      refine ⟨?_, rfl⟩
      first | (exfalso; (simp only [Fc, Se, Nat.reduceLT, ↓reduceIte, ← Int32.toInt_inj, Int32.le_iff_toInt_le, Int32.lt_iff_toInt_lt, Int32.reduceToInt] at *; omega)) | (repeat (first | rw [if_pos (by (simp only [Fc, Se, Nat.reduceLT, ↓reduceIte, ← Int32.toInt_inj, Int32.le_iff_toInt_le, Int32.lt_iff_toInt_lt, Int32.reduceToInt] at *; omega))] | rw [if_neg (by (simp only [Fc, Se, Nat.reduceLT, ↓reduceIte, ← Int32.toInt_inj, Int32.le_iff_toInt_le, Int32.lt_iff_toInt_lt, Int32.reduceToInt] at *; omega))] | rw [b2i_t (by (simp only [Fc, Se, Nat.reduceLT, ↓reduceIte, ← Int32.toInt_inj, Int32.le_iff_toInt_le, Int32.lt_iff_toInt_lt, Int32.reduceToInt] at *; omega))] | rw [b2i_f (by (simp only [Fc, Se, Nat.reduceLT, ↓reduceIte, ← Int32.toInt_inj, Int32.le_iff_toInt_le, Int32.lt_iff_toInt_lt, Int32.reduceToInt] at *; omega))])); try rfl
theorem c_tkX9 (hm : μ.1 w = some (obj 9 (dfs i n p s so))) (th ra : Int32) : Pu g 2 mX9_takes [.ref w, .int th, .int ra] μ (1 + n + th) := by
  refine Mt.of0 (ls0 := [some (.ref w), some (.int th), some (.int ra)]) (by decide) (by simp [Value.category]) (Nat.le_of_ble_eq_true rfl) rfl ?_
  refine ev_aload_n dX9_takes_0 rfl ?_
  refine ev_iload_n dX9_takes_1 rfl ?_
  refine ev_iload_n dX9_takes_2 rfl ?_
  refine k_su (c_tkX3 (Or.inr (Or.inr rfl)) hm th ra) (by decide) dX9_takes_3 cbX3_takes (mt3 141 rfl rfl) (mt6 201 rfl rfl) (mt3 10 rfl rfl) (mt3 131 rfl rfl) (by decide) (ci := 9) rfl hm rfl rfl (Nat.le_of_ble_eq_true rfl) (fun v μ1 hq => ?_)
  obtain ⟨rfl, hμ⟩ := hq
  have hμ := hμ.symm
  subst hμ
  simp only [Option.toList, List.cons_append, List.nil_append]
  refine ev_iload_n dX9_takes_6 rfl ?_
  refine ev_iadd dX9_takes_7 ?_
  refine ev_iret dX9_takes_8 rfl ?_
  exact ⟨rfl, rfl⟩
theorem c_tkX0 (hm : μ.1 w = some (obj 0 (dfs i n p s so))) (th ra : Int32) : Pu g 2 mX0_takes [.ref w, .int th, .int ra] μ (2 * dog32 n) := by
  refine Mt.of0 (ls0 := [some (.ref w), some (.int th), some (.int ra)]) (by decide) (by simp [Value.category]) (Nat.le_of_ble_eq_true rfl) rfl ?_
  refine ev_iconst (v := 2) dX0_takes_0 (by decide) ?_
  refine ev_aload_n dX0_takes_1 rfl ?_
  refine ev_iload_n dX0_takes_2 rfl ?_
  refine ev_iload_n dX0_takes_3 rfl ?_
  refine k_su (c_tkX1 (Or.inr rfl) hm th ra) (by decide) dX0_takes_4 cbX1_takes (mt3 125 rfl rfl) (mt6 200 rfl rfl) (mt3 22 rfl rfl) (mt3 126 rfl rfl) (by decide) (ci := 0) rfl hm rfl rfl (Nat.le_of_ble_eq_true rfl) (fun v μ1 hq => ?_)
  obtain ⟨rfl, hμ⟩ := hq
  have hμ := hμ.symm
  subst hμ
  simp only [Option.toList, List.cons_append, List.nil_append]
  refine ev_imul dX0_takes_7 ?_
  refine ev_iret dX0_takes_8 rfl ?_
  exact ⟨rfl, rfl⟩
theorem c_tkX8 (hm : μ.1 w = some (obj 8 (dfs i n p s so))) (th ra : Int32) : Pu g 2 mX8_takes [.ref w, .int th, .int ra] μ (1 + n + (if 0 < ra then 1 else 0)) := by
  refine Mt.of0 (ls0 := [some (.ref w), some (.int th), some (.int ra)]) (by decide) (by simp [Value.category]) (Nat.le_of_ble_eq_true rfl) rfl ?_
  refine ev_aload_n dX8_takes_0 rfl ?_
  refine ev_iload_n dX8_takes_1 rfl ?_
  refine ev_iload_n dX8_takes_2 rfl ?_
  refine k_su (c_tkX3 (Or.inr (Or.inl rfl)) hm th ra) (by decide) dX8_takes_3 cbX3_takes (mt3 137 rfl rfl) (mt6 201 rfl rfl) (mt3 34 rfl rfl) (mt3 131 rfl rfl) (by decide) (ci := 8) rfl hm rfl rfl (Nat.le_of_ble_eq_true rfl) (fun v μ1 hq => ?_)
  obtain ⟨rfl, hμ⟩ := hq
  have hμ := hμ.symm
  subst hμ
  simp only [Option.toList, List.cons_append, List.nil_append]
  refine ev_iload_n dX8_takes_6 rfl ?_
  refine ev_if_le (tgt := 14) dX8_takes_7 (by decide) (fun h7 => ?_) (fun h7 => ?_)
  · refine ev_iconst (v := 0) dX8_takes_14 (by decide) ?_
    refine ev_iadd dX8_takes_15 ?_
    refine ev_iret dX8_takes_16 rfl ?_
    refine ⟨?_, rfl⟩
    first | (exfalso; (simp only [Fc, Se, Nat.reduceLT, ↓reduceIte, ← Int32.toInt_inj, Int32.le_iff_toInt_le, Int32.lt_iff_toInt_lt, Int32.reduceToInt] at *; omega)) | (repeat (first | rw [if_pos (by (simp only [Fc, Se, Nat.reduceLT, ↓reduceIte, ← Int32.toInt_inj, Int32.le_iff_toInt_le, Int32.lt_iff_toInt_lt, Int32.reduceToInt] at *; omega))] | rw [if_neg (by (simp only [Fc, Se, Nat.reduceLT, ↓reduceIte, ← Int32.toInt_inj, Int32.le_iff_toInt_le, Int32.lt_iff_toInt_lt, Int32.reduceToInt] at *; omega))] | rw [b2i_t (by (simp only [Fc, Se, Nat.reduceLT, ↓reduceIte, ← Int32.toInt_inj, Int32.le_iff_toInt_le, Int32.lt_iff_toInt_lt, Int32.reduceToInt] at *; omega))] | rw [b2i_f (by (simp only [Fc, Se, Nat.reduceLT, ↓reduceIte, ← Int32.toInt_inj, Int32.le_iff_toInt_le, Int32.lt_iff_toInt_lt, Int32.reduceToInt] at *; omega))])); try rfl
  · refine ev_iconst (v := 1) dX8_takes_10 (by decide) ?_
    refine ev_goto (tgt := 15) dX8_takes_11 (by decide) ?_
    refine ev_iadd dX8_takes_15 ?_
    refine ev_iret dX8_takes_16 rfl ?_
    refine ⟨?_, rfl⟩
    first | (exfalso; (simp only [Fc, Se, Nat.reduceLT, ↓reduceIte, ← Int32.toInt_inj, Int32.le_iff_toInt_le, Int32.lt_iff_toInt_lt, Int32.reduceToInt] at *; omega)) | (repeat (first | rw [if_pos (by (simp only [Fc, Se, Nat.reduceLT, ↓reduceIte, ← Int32.toInt_inj, Int32.le_iff_toInt_le, Int32.lt_iff_toInt_lt, Int32.reduceToInt] at *; omega))] | rw [if_neg (by (simp only [Fc, Se, Nat.reduceLT, ↓reduceIte, ← Int32.toInt_inj, Int32.le_iff_toInt_le, Int32.lt_iff_toInt_lt, Int32.reduceToInt] at *; omega))] | rw [b2i_t (by (simp only [Fc, Se, Nat.reduceLT, ↓reduceIte, ← Int32.toInt_inj, Int32.le_iff_toInt_le, Int32.lt_iff_toInt_lt, Int32.reduceToInt] at *; omega))] | rw [b2i_f (by (simp only [Fc, Se, Nat.reduceLT, ↓reduceIte, ← Int32.toInt_inj, Int32.le_iff_toInt_le, Int32.lt_iff_toInt_lt, Int32.reduceToInt] at *; omega))])); try rfl
theorem c_gvX2 (bs la ra : Int32) : Pu g 0 mX2_gives [.ref w, .int bs, .int la, .int ra] μ (bs - la) := by
  refine Mt.of0 (ls0 := [some (.ref w), some (.int bs), some (.int la), some (.int ra)]) (by decide) (by simp [Value.category]) (Nat.le_of_ble_eq_true rfl) rfl ?_
  refine ev_iload_n dX2_gives_0 rfl ?_
  refine ev_iload_n dX2_gives_1 rfl ?_
  refine ev_isub dX2_gives_2 ?_
  refine ev_iret dX2_gives_3 rfl ?_
  exact ⟨rfl, rfl⟩
theorem c_gvX1 {ci : Nat} (hci : ci = 1 ∨ ci = 0) (hm : μ.1 w = some (obj ci (dfs i n p s so))) (bs la ra : Int32) : Pu g 1 mX1_gives [.ref w, .int bs, .int la, .int ra] μ ((bs - la) / 2) := by
  refine Mt.of0 (ls0 := [some (.ref w), some (.int bs), some (.int la), some (.int ra)]) (by decide) (by simp [Value.category]) (Nat.le_of_ble_eq_true rfl) rfl ?_
  rcases hci with rfl | rfl
  · skip
    refine ev_aload_n dX1_gives_0 rfl ?_
    refine ev_iload_n dX1_gives_1 rfl ?_
    refine ev_iload_n dX1_gives_2 rfl ?_
    refine ev_iload_n dX1_gives_3 rfl ?_
    refine k_su (c_gvX2 bs la ra) (by decide) dX1_gives_4 cbX2_gives (mt4 3 rfl rfl) (mt3 236 rfl rfl) (mt2 238 rfl rfl) (mt3 234 rfl rfl) (by decide) (ci := 1) rfl hm rfl rfl (Nat.le_of_ble_eq_true rfl) (fun v μ1 hq => ?_)
    obtain ⟨rfl, hμ⟩ := hq
    have hμ := hμ.symm
    subst hμ
    simp only [Option.toList, List.cons_append, List.nil_append]
    refine ev_iconst (v := 2) dX1_gives_7 (by decide) ?_
    refine ev_idiv dX1_gives_8 (by decide) ?_
    refine ev_iret dX1_gives_9 rfl ?_
    exact ⟨rfl, rfl⟩
  · skip
    refine ev_aload_n dX1_gives_0 rfl ?_
    refine ev_iload_n dX1_gives_1 rfl ?_
    refine ev_iload_n dX1_gives_2 rfl ?_
    refine ev_iload_n dX1_gives_3 rfl ?_
    refine k_su (c_gvX2 bs la ra) (by decide) dX1_gives_4 cbX2_gives (mt4 3 rfl rfl) (mt3 236 rfl rfl) (mt2 238 rfl rfl) (mt3 234 rfl rfl) (by decide) (ci := 0) rfl hm rfl rfl (Nat.le_of_ble_eq_true rfl) (fun v μ1 hq => ?_)
    obtain ⟨rfl, hμ⟩ := hq
    have hμ := hμ.symm
    subst hμ
    simp only [Option.toList, List.cons_append, List.nil_append]
    refine ev_iconst (v := 2) dX1_gives_7 (by decide) ?_
    refine ev_idiv dX1_gives_8 (by decide) ?_
    refine ev_iret dX1_gives_9 rfl ?_
    exact ⟨rfl, rfl⟩
theorem c_gvX9 (hm : μ.1 w = some (obj 9 (dfs i n p s so))) (bs la ra : Int32) : Pu g 1 mX9_gives [.ref w, .int bs, .int la, .int ra] μ (bs - la + n) := by
  refine Mt.of0 (ls0 := [some (.ref w), some (.int bs), some (.int la), some (.int ra)]) (by decide) (by simp [Value.category]) (Nat.le_of_ble_eq_true rfl) rfl ?_
  refine ev_aload_n dX9_gives_0 rfl ?_
  refine ev_iload_n dX9_gives_1 rfl ?_
  refine ev_iload_n dX9_gives_2 rfl ?_
  refine ev_iload_n dX9_gives_3 rfl ?_
  refine k_si (c_gvX2 bs la ra) (by decide) dX9_gives_4 cbX2_gives (mt4 15 rfl rfl) (mt4 10 rfl rfl) (mt3 10 rfl rfl) (mt2 226 rfl rfl) (mt3 234 rfl rfl) (by decide) (ci := 9) rfl hm rfl rfl (Nat.le_of_ble_eq_true rfl) (fun v μ1 hq => ?_)
  obtain ⟨rfl, hμ⟩ := hq
  have hμ := hμ.symm
  subst hμ
  simp only [Option.toList, List.cons_append, List.nil_append]
  refine ev_aload_n dX9_gives_7 rfl ?_
  refine ev_get dX9_gives_8 flX9_15_9 hm rfl ?_
  refine ev_iadd dX9_gives_11 ?_
  refine ev_iret dX9_gives_12 rfl ?_
  exact ⟨rfl, rfl⟩
theorem c_gvX8 (hm : μ.1 w = some (obj 8 (dfs i n p s so))) (bs la ra : Int32) : Pu g 1 mX8_gives [.ref w, .int bs, .int la, .int ra] μ (bs - la - ra) := by
  refine Mt.of0 (ls0 := [some (.ref w), some (.int bs), some (.int la), some (.int ra)]) (by decide) (by simp [Value.category]) (Nat.le_of_ble_eq_true rfl) rfl ?_
  refine ev_aload_n dX8_gives_0 rfl ?_
  refine ev_iload_n dX8_gives_1 rfl ?_
  refine ev_iload_n dX8_gives_2 rfl ?_
  refine ev_iload_n dX8_gives_3 rfl ?_
  refine k_si (c_gvX2 bs la ra) (by decide) dX8_gives_4 cbX2_gives (mt4 9 rfl rfl) (mt4 10 rfl rfl) (mt3 34 rfl rfl) (mt2 226 rfl rfl) (mt3 234 rfl rfl) (by decide) (ci := 8) rfl hm rfl rfl (Nat.le_of_ble_eq_true rfl) (fun v μ1 hq => ?_)
  obtain ⟨rfl, hμ⟩ := hq
  have hμ := hμ.symm
  subst hμ
  simp only [Option.toList, List.cons_append, List.nil_append]
  refine ev_iload_n dX8_gives_7 rfl ?_
  refine ev_isub dX8_gives_8 ?_
  refine ev_iret dX8_gives_9 rfl ?_
  exact ⟨rfl, rfl⟩
theorem c_gvX0 (hm : μ.1 w = some (obj 0 (dfs i n p s so))) (bs la ra : Int32) : Pu g 2 mX0_gives [.ref w, .int bs, .int la, .int ra] μ ((bs - la) / 2 + (if la = 0 then 2 else 0)) := by
  refine Mt.of0 (ls0 := [some (.ref w), some (.int bs), some (.int la), some (.int ra)]) (by decide) (by simp [Value.category]) (Nat.le_of_ble_eq_true rfl) rfl ?_
  refine ev_aload_n dX0_gives_0 rfl ?_
  refine ev_iload_n dX0_gives_1 rfl ?_
  refine ev_iload_n dX0_gives_2 rfl ?_
  refine ev_iload_n dX0_gives_3 rfl ?_
  refine k_su (c_gvX1 (Or.inr rfl) hm bs la ra) (by decide) dX0_gives_4 cbX1_gives (mt4 0 rfl rfl) (mt6 202 rfl rfl) (mt3 22 rfl rfl) (mt4 1 rfl rfl) (by decide) (ci := 0) rfl hm rfl rfl (Nat.le_of_ble_eq_true rfl) (fun v μ1 hq => ?_)
  obtain ⟨rfl, hμ⟩ := hq
  have hμ := hμ.symm
  subst hμ
  simp only [Option.toList, List.cons_append, List.nil_append]
  refine ev_iload_n dX0_gives_7 rfl ?_
  refine ev_if_ne (tgt := 15) dX0_gives_8 (by decide) (fun h8 => ?_) (fun h8 => ?_)
  · refine ev_iconst (v := 0) dX0_gives_15 (by decide) ?_
    refine ev_iadd dX0_gives_16 ?_
    refine ev_iret dX0_gives_17 rfl ?_
    refine ⟨?_, rfl⟩
    first | (exfalso; (simp only [Fc, Se, Nat.reduceLT, ↓reduceIte, ← Int32.toInt_inj, Int32.le_iff_toInt_le, Int32.lt_iff_toInt_lt, Int32.reduceToInt] at *; omega)) | (repeat (first | rw [if_pos (by (simp only [Fc, Se, Nat.reduceLT, ↓reduceIte, ← Int32.toInt_inj, Int32.le_iff_toInt_le, Int32.lt_iff_toInt_lt, Int32.reduceToInt] at *; omega))] | rw [if_neg (by (simp only [Fc, Se, Nat.reduceLT, ↓reduceIte, ← Int32.toInt_inj, Int32.le_iff_toInt_le, Int32.lt_iff_toInt_lt, Int32.reduceToInt] at *; omega))] | rw [b2i_t (by (simp only [Fc, Se, Nat.reduceLT, ↓reduceIte, ← Int32.toInt_inj, Int32.le_iff_toInt_le, Int32.lt_iff_toInt_lt, Int32.reduceToInt] at *; omega))] | rw [b2i_f (by (simp only [Fc, Se, Nat.reduceLT, ↓reduceIte, ← Int32.toInt_inj, Int32.le_iff_toInt_le, Int32.lt_iff_toInt_lt, Int32.reduceToInt] at *; omega))])); try rfl
  · refine ev_iconst (v := 2) dX0_gives_11 (by decide) ?_
    refine ev_goto (tgt := 16) dX0_gives_12 (by decide) ?_
    refine ev_iadd dX0_gives_16 ?_
    refine ev_iret dX0_gives_17 rfl ?_
    refine ⟨?_, rfl⟩
    first | (exfalso; (simp only [Fc, Se, Nat.reduceLT, ↓reduceIte, ← Int32.toInt_inj, Int32.le_iff_toInt_le, Int32.lt_iff_toInt_lt, Int32.reduceToInt] at *; omega)) | (repeat (first | rw [if_pos (by (simp only [Fc, Se, Nat.reduceLT, ↓reduceIte, ← Int32.toInt_inj, Int32.le_iff_toInt_le, Int32.lt_iff_toInt_lt, Int32.reduceToInt] at *; omega))] | rw [if_neg (by (simp only [Fc, Se, Nat.reduceLT, ↓reduceIte, ← Int32.toInt_inj, Int32.le_iff_toInt_le, Int32.lt_iff_toInt_lt, Int32.reduceToInt] at *; omega))] | rw [b2i_t (by (simp only [Fc, Se, Nat.reduceLT, ↓reduceIte, ← Int32.toInt_inj, Int32.le_iff_toInt_le, Int32.lt_iff_toInt_lt, Int32.reduceToInt] at *; omega))] | rw [b2i_f (by (simp only [Fc, Se, Nat.reduceLT, ↓reduceIte, ← Int32.toInt_inj, Int32.le_iff_toInt_le, Int32.lt_iff_toInt_lt, Int32.reduceToInt] at *; omega))])); try rfl
end KDOOR
