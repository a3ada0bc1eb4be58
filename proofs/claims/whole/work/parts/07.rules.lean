/-! ===== one rule an instruction ===== -/
section RULES
variable {g : Gl} {d : Nat} {Y : Md} {pc : Nat} {ls : List (Option Value)} {st : List Value} {μ : Mm} {Q : Option Value → Mm → Prop}
/-- an instruction that changes the place and the operand stack alone -/
theorem ev_w {pc' : Nat} {st' : List Value}
    (h : ∀ (p : Program) (e : Env) (s : State) (m : MethodId) (args : Array Value) (below : List Frame) (meth : Method) (c : Code) (R : Room) (H : Heap) (locs : List Loc) (cells slots : Nat) (Q' : State → Prop) (la : Array Slot),
      Cx g d Y p s m args meth c R → Rl g μ H → va_S (Hi g) s.heap H locs → Lr (mN Y) ls la → W p (gL g) e R s m args below meth c H locs cells slots Q' (F0 m pc' la st') → W p (gL g) e R s m args below meth c H locs cells slots Q' (F0 m pc la st))
    (k : Ev g d Y pc' ls st' μ Q) : Ev g d Y pc ls st μ Q := by
  obtain ⟨v, μ', hQ, hG, hE⟩ := k
  exact ⟨v, μ', hQ, hG, fun p e s m args below meth c R H locs k0 la C h1 h2 h3 h4 hR hS hL => h _ _ _ _ _ _ _ _ _ _ _ _ _ _ _ C hR hS hL (hE p e s m args below meth c R H locs k0 la C h1 h2 h3 h4 hR hS hL)⟩
theorem ev_iconst {n : Int} {v : Int32} (hd : decode (mC Y) pc = .ok (.iconst n, 1)) (hv : Int32.ofInt n = v) (kk : Ev g d Y (pc + 1) ls (.int v :: st) μ Q) : Ev g d Y pc ls (st) μ Q :=
  ev_w (fun _ _ _ _ _ _ _ _ _ _ _ _ _ _ _ C hR hS hL k => lv_iconst C.1.1 C.1.2.1 hd hv k) kk
theorem ev_bipush {n : Int} {v : Int32} (hd : decode (mC Y) pc = .ok (.bipush n, 2)) (hv : (Int8.ofInt n).toInt32 = v) (kk : Ev g d Y (pc + 2) ls (.int v :: st) μ Q) : Ev g d Y pc ls (st) μ Q :=
  ev_w (fun _ _ _ _ _ _ _ _ _ _ _ _ _ _ _ C hR hS hL k => lv_bipush C.1.1 C.1.2.1 hd hv k) kk
theorem ev_sipush {n : Int} {v : Int32} (hd : decode (mC Y) pc = .ok (.sipush n, 3)) (hv : (Int16.ofInt n).toInt32 = v) (kk : Ev g d Y (pc + 3) ls (.int v :: st) μ Q) : Ev g d Y pc ls (st) μ Q :=
  ev_w (fun _ _ _ _ _ _ _ _ _ _ _ _ _ _ _ C hR hS hL k => lv_sipush C.1.1 C.1.2.1 hd hv k) kk
theorem ev_null  (hd : decode (mC Y) pc = .ok (.aconst_null, 1))  (kk : Ev g d Y (pc + 1) ls (.null :: st) μ Q) : Ev g d Y pc ls (st) μ Q :=
  ev_w (fun _ _ _ _ _ _ _ _ _ _ _ _ _ _ _ C hR hS hL k => lv_null C.1.1 C.1.2.1 hd k) kk
theorem ev_iload_n {k : Fin 4} {x : Int32} (hd : decode (mC Y) pc = .ok (.iload_n k, 1)) (hl : ls[(k : Nat)]? = some (some (.int x))) (kk : Ev g d Y (pc + 1) ls (.int x :: st) μ Q) : Ev g d Y pc ls (st) μ Q :=
  ev_w (fun _ _ _ _ _ _ _ _ _ _ _ _ _ _ _ C hR hS hL k => lv_iload_n C.1.1 C.1.2.1 hd rfl (hL.at hl) k) kk
theorem ev_iload {i : Nat} {x : Int32} (hd : decode (mC Y) pc = .ok (.iload i, 2)) (hl : ls[i]? = some (some (.int x))) (kk : Ev g d Y (pc + 2) ls (.int x :: st) μ Q) : Ev g d Y pc ls (st) μ Q :=
  ev_w (fun _ _ _ _ _ _ _ _ _ _ _ _ _ _ _ C hR hS hL k => lv_iload C.1.1 C.1.2.1 hd (hL.at hl) k) kk
theorem ev_aload_n {k : Fin 4} {x : Nat} (hd : decode (mC Y) pc = .ok (.aload_n k, 1)) (hl : ls[(k : Nat)]? = some (some (.ref x))) (kk : Ev g d Y (pc + 1) ls (.ref x :: st) μ Q) : Ev g d Y pc ls (st) μ Q :=
  ev_w (fun _ _ _ _ _ _ _ _ _ _ _ _ _ _ _ C hR hS hL k => lv_aload_n C.1.1 C.1.2.1 hd rfl (hL.at hl) k) kk
theorem ev_aload {i x : Nat} (hd : decode (mC Y) pc = .ok (.aload i, 2)) (hl : ls[i]? = some (some (.ref x))) (kk : Ev g d Y (pc + 2) ls (.ref x :: st) μ Q) : Ev g d Y pc ls (st) μ Q :=
  ev_w (fun _ _ _ _ _ _ _ _ _ _ _ _ _ _ _ C hR hS hL k => lv_aload C.1.1 C.1.2.1 hd (hL.at hl) k) kk
theorem ev_aload_nN {k : Fin 4} (hd : decode (mC Y) pc = .ok (.aload_n k, 1)) (hl : ls[(k : Nat)]? = some (some .null)) (kk : Ev g d Y (pc + 1) ls (.null :: st) μ Q) : Ev g d Y pc ls (st) μ Q :=
  ev_w (fun _ _ _ _ _ _ _ _ _ _ _ _ _ _ _ C hR hS hL k => lv_aload_nN C.1.1 C.1.2.1 hd rfl (hL.at hl) k) kk
theorem ev_aloadN {i : Nat} (hd : decode (mC Y) pc = .ok (.aload i, 2)) (hl : ls[i]? = some (some .null)) (kk : Ev g d Y (pc + 2) ls (.null :: st) μ Q) : Ev g d Y pc ls (st) μ Q :=
  ev_w (fun _ _ _ _ _ _ _ _ _ _ _ _ _ _ _ C hR hS hL k => lv_aloadN C.1.1 C.1.2.1 hd (hL.at hl) k) kk
theorem ev_iadd {x y : Int32} (hd : decode (mC Y) pc = .ok (.iadd, 1))  (kk : Ev g d Y (pc + 1) ls (.int (x + y) :: st) μ Q) : Ev g d Y pc ls (.int y :: .int x :: st) μ Q :=
  ev_w (fun _ _ _ _ _ _ _ _ _ _ _ _ _ _ _ C hR hS hL k => lv_iadd C.1.1 C.1.2.1 hd k) kk
theorem ev_isub {x y : Int32} (hd : decode (mC Y) pc = .ok (.isub, 1))  (kk : Ev g d Y (pc + 1) ls (.int (x - y) :: st) μ Q) : Ev g d Y pc ls (.int y :: .int x :: st) μ Q :=
  ev_w (fun _ _ _ _ _ _ _ _ _ _ _ _ _ _ _ C hR hS hL k => lv_isub C.1.1 C.1.2.1 hd k) kk
theorem ev_imul {x y : Int32} (hd : decode (mC Y) pc = .ok (.imul, 1))  (kk : Ev g d Y (pc + 1) ls (.int (x * y) :: st) μ Q) : Ev g d Y pc ls (.int y :: .int x :: st) μ Q :=
  ev_w (fun _ _ _ _ _ _ _ _ _ _ _ _ _ _ _ C hR hS hL k => lv_imul C.1.1 C.1.2.1 hd k) kk
theorem ev_iand {x y : Int32} (hd : decode (mC Y) pc = .ok (.iand, 1))  (kk : Ev g d Y (pc + 1) ls (.int (x &&& y) :: st) μ Q) : Ev g d Y pc ls (.int y :: .int x :: st) μ Q :=
  ev_w (fun _ _ _ _ _ _ _ _ _ _ _ _ _ _ _ C hR hS hL k => lv_iand C.1.1 C.1.2.1 hd k) kk
theorem ev_ior {x y : Int32} (hd : decode (mC Y) pc = .ok (.ior, 1))  (kk : Ev g d Y (pc + 1) ls (.int (x ||| y) :: st) μ Q) : Ev g d Y pc ls (.int y :: .int x :: st) μ Q :=
  ev_w (fun _ _ _ _ _ _ _ _ _ _ _ _ _ _ _ C hR hS hL k => lv_ior C.1.1 C.1.2.1 hd k) kk
theorem ev_ishl {x y : Int32} (hd : decode (mC Y) pc = .ok (.ishl, 1))  (kk : Ev g d Y (pc + 1) ls (.int (x <<< (y &&& 31)) :: st) μ Q) : Ev g d Y pc ls (.int y :: .int x :: st) μ Q :=
  ev_w (fun _ _ _ _ _ _ _ _ _ _ _ _ _ _ _ C hR hS hL k => lv_ishl C.1.1 C.1.2.1 hd k) kk
theorem ev_ishr {x y : Int32} (hd : decode (mC Y) pc = .ok (.ishr, 1))  (kk : Ev g d Y (pc + 1) ls (.int (x >>> (y &&& 31)) :: st) μ Q) : Ev g d Y pc ls (.int y :: .int x :: st) μ Q :=
  ev_w (fun _ _ _ _ _ _ _ _ _ _ _ _ _ _ _ C hR hS hL k => lv_ishr C.1.1 C.1.2.1 hd k) kk
theorem ev_idiv {x y : Int32} (hd : decode (mC Y) pc = .ok (.idiv, 1)) (hne : ¬ y = 0) (kk : Ev g d Y (pc + 1) ls (.int (x / y) :: st) μ Q) : Ev g d Y pc ls (.int y :: .int x :: st) μ Q :=
  ev_w (fun _ _ _ _ _ _ _ _ _ _ _ _ _ _ _ C hR hS hL k => lv_idiv C.1.1 C.1.2.1 hd hne k) kk
theorem ev_irem {x y : Int32} (hd : decode (mC Y) pc = .ok (.irem, 1)) (hne : ¬ y = 0) (kk : Ev g d Y (pc + 1) ls (.int (x - x / y * y) :: st) μ Q) : Ev g d Y pc ls (.int y :: .int x :: st) μ Q :=
  ev_w (fun _ _ _ _ _ _ _ _ _ _ _ _ _ _ _ C hR hS hL k => lv_irem C.1.1 C.1.2.1 hd hne k) kk
theorem ev_ineg {x : Int32} (hd : decode (mC Y) pc = .ok (.ineg, 1))  (kk : Ev g d Y (pc + 1) ls (.int (-x) :: st) μ Q) : Ev g d Y pc ls (.int x :: st) μ Q :=
  ev_w (fun _ _ _ _ _ _ _ _ _ _ _ _ _ _ _ C hR hS hL k => lv_ineg C.1.1 C.1.2.1 hd k) kk
theorem ev_iushr {x y : Int32} (hd : decode (mC Y) pc = .ok (.iushr, 1))  (kk : Ev g d Y (pc + 1) ls (.int (x.toUInt32 >>> (y.toUInt32 &&& Int32.toUInt32 31)).toInt32 :: st) μ Q) : Ev g d Y pc ls (.int y :: .int x :: st) μ Q :=
  ev_w (fun _ _ _ _ _ _ _ _ _ _ _ _ _ _ _ C hR hS hL k => lv_iushr C.1.1 C.1.2.1 hd rfl k) kk
theorem ev_i2l {x : Int32} (hd : decode (mC Y) pc = .ok (.i2l, 1))  (kk : Ev g d Y (pc + 1) ls (.long x.toInt64 :: st) μ Q) : Ev g d Y pc ls (.int x :: st) μ Q :=
  ev_w (fun _ _ _ _ _ _ _ _ _ _ _ _ _ _ _ C hR hS hL k => lv_i2l C.1.1 C.1.2.1 hd rfl k) kk
theorem ev_i2b {x : Int32} (hd : decode (mC Y) pc = .ok (.i2b, 1))  (kk : Ev g d Y (pc + 1) ls (.int x.toInt8.toInt32 :: st) μ Q) : Ev g d Y pc ls (.int x :: st) μ Q :=
  ev_w (fun _ _ _ _ _ _ _ _ _ _ _ _ _ _ _ C hR hS hL k => lv_i2b C.1.1 C.1.2.1 hd rfl k) kk
theorem ev_i2s {x : Int32} (hd : decode (mC Y) pc = .ok (.i2s, 1))  (kk : Ev g d Y (pc + 1) ls (.int x.toInt16.toInt32 :: st) μ Q) : Ev g d Y pc ls (.int x :: st) μ Q :=
  ev_w (fun _ _ _ _ _ _ _ _ _ _ _ _ _ _ _ C hR hS hL k => lv_i2s C.1.1 C.1.2.1 hd rfl k) kk
theorem ev_i2c {x : Int32} (hd : decode (mC Y) pc = .ok (.i2c, 1))  (kk : Ev g d Y (pc + 1) ls (.int (x.toUInt32 % 65536).toInt32 :: st) μ Q) : Ev g d Y pc ls (.int x :: st) μ Q :=
  ev_w (fun _ _ _ _ _ _ _ _ _ _ _ _ _ _ _ C hR hS hL k => lv_i2c C.1.1 C.1.2.1 hd rfl k) kk
theorem ev_lcmp {x y : Int64} (hd : decode (mC Y) pc = .ok (.lcmp, 1))  (kk : Ev g d Y (pc + 1) ls (.int (lg_cmp x y) :: st) μ Q) : Ev g d Y pc ls (.long y :: .long x :: st) μ Q :=
  ev_w (fun _ _ _ _ _ _ _ _ _ _ _ _ _ _ _ C hR hS hL k => W.lcmp C.1.1 C.1.2.1 hd k) kk
theorem ev_dup {va : Value} (hd : decode (mC Y) pc = .ok (.dup, 1)) (hv : va.category = 1) (kk : Ev g d Y (pc + 1) ls (va :: va :: st) μ Q) : Ev g d Y pc ls (va :: st) μ Q :=
  ev_w (fun _ _ _ _ _ _ _ _ _ _ _ _ _ _ _ C hR hS hL k => lv_dup C.1.1 C.1.2.1 hd hv k) kk
theorem ev_pop {va : Value} (hd : decode (mC Y) pc = .ok (.pop, 1)) (hv : va.category = 1) (kk : Ev g d Y (pc + 1) ls (st) μ Q) : Ev g d Y pc ls (va :: st) μ Q :=
  ev_w (fun _ _ _ _ _ _ _ _ _ _ _ _ _ _ _ C hR hS hL k => lv_pop C.1.1 C.1.2.1 hd hv k) kk
theorem ev_dup2 {va vb : Value} (hd : decode (mC Y) pc = .ok (.dup2, 1)) (hv : va.category = 1) (hv2 : vb.category = 1) (kk : Ev g d Y (pc + 1) ls (va :: vb :: va :: vb :: st) μ Q) : Ev g d Y pc ls (va :: vb :: st) μ Q :=
  ev_w (fun _ _ _ _ _ _ _ _ _ _ _ _ _ _ _ C hR hS hL k => lv_dup2_11 C.1.1 C.1.2.1 hd hv hv2 k) kk
theorem ev_goto {off : Int} {tgt : Nat} (hd : decode (mC Y) pc = .ok (.goto off, 3)) (ht : (pc : Int) + off = (tgt : Int)) (kk : Ev g d Y tgt ls (st) μ Q) : Ev g d Y pc ls (st) μ Q :=
  ev_w (fun _ _ _ _ _ _ _ _ _ _ _ _ _ _ _ C hR hS hL k => lv_goto C.1.1 C.1.2.1 hd ht k) kk
theorem ev_ifnull {x : Nat} {off : Int} (hd : decode (mC Y) pc = .ok (.ifnull off, 3))  (kk : Ev g d Y (pc + 3) ls (st) μ Q) : Ev g d Y pc ls (.ref x :: st) μ Q :=
  ev_w (fun _ _ _ _ _ _ _ _ _ _ _ _ _ _ _ C hR hS hL k => lv_ifnull C.1.1 C.1.2.1 hd k) kk
theorem ev_ifnullN {off : Int} {tgt : Nat} (hd : decode (mC Y) pc = .ok (.ifnull off, 3)) (ht : (pc : Int) + off = (tgt : Int)) (kk : Ev g d Y tgt ls (st) μ Q) : Ev g d Y pc ls (.null :: st) μ Q :=
  ev_w (fun _ _ _ _ _ _ _ _ _ _ _ _ _ _ _ C hR hS hL k => lv_ifnullN C.1.1 C.1.2.1 hd ht k) kk
theorem ev_ifnonnull {x : Nat} {off : Int} {tgt : Nat} (hd : decode (mC Y) pc = .ok (.ifnonnull off, 3)) (ht : (pc : Int) + off = (tgt : Int)) (kk : Ev g d Y tgt ls (st) μ Q) : Ev g d Y pc ls (.ref x :: st) μ Q :=
  ev_w (fun _ _ _ _ _ _ _ _ _ _ _ _ _ _ _ C hR hS hL k => lv_ifnonnull C.1.1 C.1.2.1 hd ht k) kk
theorem ev_ifnonnullN {off : Int} (hd : decode (mC Y) pc = .ok (.ifnonnull off, 3))  (kk : Ev g d Y (pc + 3) ls (st) μ Q) : Ev g d Y pc ls (.null :: st) μ Q :=
  ev_w (fun _ _ _ _ _ _ _ _ _ _ _ _ _ _ _ C hR hS hL k => lv_ifnonnullN C.1.1 C.1.2.1 hd k) kk
theorem ev_castN {i : Nat} (hd : decode (mC Y) pc = .ok (.checkcast i, 3))  (kk : Ev g d Y (pc + 3) ls (.null :: st) μ Q) : Ev g d Y pc ls (.null :: st) μ Q :=
  ev_w (fun _ _ _ _ _ _ _ _ _ _ _ _ _ _ _ C hR hS hL k => lv_castN C.1.1 C.1.2.1 hd k) kk
theorem ev_instN {i : Nat} (hd : decode (mC Y) pc = .ok (.instanceof i, 3))  (kk : Ev g d Y (pc + 3) ls (.int 0 :: st) μ Q) : Ev g d Y pc ls (.null :: st) μ Q :=
  ev_w (fun _ _ _ _ _ _ _ _ _ _ _ _ _ _ _ C hR hS hL k => lv_instN C.1.1 C.1.2.1 hd k) kk
theorem ev_ldc {i : Nat} {v : Int32} (hd : decode (mC Y) pc = .ok (.ldc i, 2)) (hw : Cond.constant (mY Y).cls i v ∈ GT) (kk : Ev g d Y (pc + 2) ls (.int v :: st) μ Q) : Ev g d Y pc ls (st) μ Q :=
  ev_w (fun _ _ _ _ _ _ _ _ _ _ _ _ _ _ _ C hR hS hL k => lv_ldc C.1.1 C.1.2.1 C.1.2.2.2.2.2.2 (C.2.1 _ hw) hd k) kk
theorem ev_ldcw {i : Nat} {v : Int32} (hd : decode (mC Y) pc = .ok (.ldc_w i, 3)) (hw : Cond.constant (mY Y).cls i v ∈ GT) (kk : Ev g d Y (pc + 3) ls (.int v :: st) μ Q) : Ev g d Y pc ls (st) μ Q :=
  ev_w (fun _ _ _ _ _ _ _ _ _ _ _ _ _ _ _ C hR hS hL k => lv_ldcw C.1.1 C.1.2.1 C.1.2.2.2.2.2.2 (C.2.1 _ hw) hd k) kk
theorem ev_ldc2 {i : Nat} {v : Int64} (hd : decode (mC Y) pc = .ok (.ldc2_w i, 3)) (hw : Cond.constantLong (mY Y).cls i v ∈ GT) (kk : Ev g d Y (pc + 3) ls (.long v :: st) μ Q) : Ev g d Y pc ls (st) μ Q :=
  ev_w (fun _ _ _ _ _ _ _ _ _ _ _ _ _ _ _ C hR hS hL k => lv_ldc2 C.1.1 C.1.2.1 C.1.2.2.2.2.2.2 (C.2.1 _ hw) hd k) kk
theorem ev_tin {dflt lo hi : Int} {offs : Array Int} {len : Nat} {x : Int32} {off : Int} {tgt : Nat} (hd : decode (mC Y) pc = .ok (.tableswitch dflt lo hi offs, len)) (h1 : ¬ x.toInt < lo) (h2 : ¬ hi < x.toInt) (ho : offs[(x.toInt - lo).toNat]? = some off) (ht : (pc : Int) + off = (tgt : Int)) (kk : Ev g d Y tgt ls (st) μ Q) : Ev g d Y pc ls (.int x :: st) μ Q :=
  ev_w (fun _ _ _ _ _ _ _ _ _ _ _ _ _ _ _ C hR hS hL k => lv_tableIn C.1.1 C.1.2.1 hd h1 h2 ho ht k) kk
theorem ev_tout {dflt lo hi : Int} {offs : Array Int} {len : Nat} {x : Int32} {tgt : Nat} (hd : decode (mC Y) pc = .ok (.tableswitch dflt lo hi offs, len)) (h : x.toInt < lo ∨ hi < x.toInt) (ht : (pc : Int) + dflt = (tgt : Int)) (kk : Ev g d Y tgt ls (st) μ Q) : Ev g d Y pc ls (.int x :: st) μ Q :=
  ev_w (fun _ _ _ _ _ _ _ _ _ _ _ _ _ _ _ C hR hS hL k => lv_tableOut C.1.1 C.1.2.1 hd h ht k) kk
theorem ev_lookup {dflt : Int} {ps : Array (Int × Int)} {len : Nat} {x : Int32} {off : Int} {tgt : Nat} (hd : decode (mC Y) pc = .ok (.lookupswitch dflt ps, len)) (hp : (ps.toList.zip (ps.toList.drop 1)).all (fun (a, next) => a.1 < next.1) = true) (ho : Op.lookupswitch.offset ps.toList dflt x.toInt = off) (ht : (pc : Int) + off = (tgt : Int)) (kk : Ev g d Y tgt ls (st) μ Q) : Ev g d Y pc ls (.int x :: st) μ Q :=
  ev_w (fun _ _ _ _ _ _ _ _ _ _ _ _ _ _ _ C hR hS hL k => lv_lookup C.1.1 C.1.2.1 hd hp ho ht k) kk
theorem ev_if_eq {x : Int32} {off : Int} {tgt : Nat} (hd : decode (mC Y) pc = .ok (.ifCond .eq off, 3)) (ht : (pc : Int) + off = (tgt : Int)) (kt : x = 0 → Ev g d Y tgt ls st μ Q) (kf : ¬ x = 0 → Ev g d Y (pc + 3) ls st μ Q) : Ev g d Y pc ls (.int x :: st) μ Q := by
  by_cases h : x = 0
  · exact ev_w (fun _ _ _ _ _ _ _ _ _ _ _ _ _ _ _ C hR hS hL k => lv_if_eq C.1.1 C.1.2.1 hd ht (fun _ => k) (fun n => by exact absurd h (by first | exact n | exact (fun z => z n)))) (kt h)
  · exact ev_w (fun _ _ _ _ _ _ _ _ _ _ _ _ _ _ _ C hR hS hL k => lv_if_eq C.1.1 C.1.2.1 hd ht (fun n => absurd n h) (fun _ => k)) (kf (by first | exact h | exact Classical.not_not.mp h))
theorem ev_if_ne {x : Int32} {off : Int} {tgt : Nat} (hd : decode (mC Y) pc = .ok (.ifCond .ne off, 3)) (ht : (pc : Int) + off = (tgt : Int)) (kt : ¬ x = 0 → Ev g d Y tgt ls st μ Q) (kf : x = 0 → Ev g d Y (pc + 3) ls st μ Q) : Ev g d Y pc ls (.int x :: st) μ Q := by
  by_cases h : ¬ x = 0
  · exact ev_w (fun _ _ _ _ _ _ _ _ _ _ _ _ _ _ _ C hR hS hL k => lv_if_ne C.1.1 C.1.2.1 hd ht (fun _ => k) (fun n => by exact absurd h (by first | exact n | exact (fun z => z n)))) (kt h)
  · exact ev_w (fun _ _ _ _ _ _ _ _ _ _ _ _ _ _ _ C hR hS hL k => lv_if_ne C.1.1 C.1.2.1 hd ht (fun n => absurd n h) (fun _ => k)) (kf (by first | exact h | exact Classical.not_not.mp h))
theorem ev_if_lt {x : Int32} {off : Int} {tgt : Nat} (hd : decode (mC Y) pc = .ok (.ifCond .lt off, 3)) (ht : (pc : Int) + off = (tgt : Int)) (kt : x < 0 → Ev g d Y tgt ls st μ Q) (kf : ¬ x < 0 → Ev g d Y (pc + 3) ls st μ Q) : Ev g d Y pc ls (.int x :: st) μ Q := by
  by_cases h : x < 0
  · exact ev_w (fun _ _ _ _ _ _ _ _ _ _ _ _ _ _ _ C hR hS hL k => lv_if_lt C.1.1 C.1.2.1 hd ht (fun _ => k) (fun n => by exact absurd h (by first | exact n | exact (fun z => z n)))) (kt h)
  · exact ev_w (fun _ _ _ _ _ _ _ _ _ _ _ _ _ _ _ C hR hS hL k => lv_if_lt C.1.1 C.1.2.1 hd ht (fun n => absurd n h) (fun _ => k)) (kf (by first | exact h | exact Classical.not_not.mp h))
theorem ev_if_ge {x : Int32} {off : Int} {tgt : Nat} (hd : decode (mC Y) pc = .ok (.ifCond .ge off, 3)) (ht : (pc : Int) + off = (tgt : Int)) (kt : 0 ≤ x → Ev g d Y tgt ls st μ Q) (kf : ¬ 0 ≤ x → Ev g d Y (pc + 3) ls st μ Q) : Ev g d Y pc ls (.int x :: st) μ Q := by
  by_cases h : 0 ≤ x
  · exact ev_w (fun _ _ _ _ _ _ _ _ _ _ _ _ _ _ _ C hR hS hL k => lv_if_ge C.1.1 C.1.2.1 hd ht (fun _ => k) (fun n => by exact absurd h (by first | exact n | exact (fun z => z n)))) (kt h)
  · exact ev_w (fun _ _ _ _ _ _ _ _ _ _ _ _ _ _ _ C hR hS hL k => lv_if_ge C.1.1 C.1.2.1 hd ht (fun n => absurd n h) (fun _ => k)) (kf (by first | exact h | exact Classical.not_not.mp h))
theorem ev_if_gt {x : Int32} {off : Int} {tgt : Nat} (hd : decode (mC Y) pc = .ok (.ifCond .gt off, 3)) (ht : (pc : Int) + off = (tgt : Int)) (kt : 0 < x → Ev g d Y tgt ls st μ Q) (kf : ¬ 0 < x → Ev g d Y (pc + 3) ls st μ Q) : Ev g d Y pc ls (.int x :: st) μ Q := by
  by_cases h : 0 < x
  · exact ev_w (fun _ _ _ _ _ _ _ _ _ _ _ _ _ _ _ C hR hS hL k => lv_if_gt C.1.1 C.1.2.1 hd ht (fun _ => k) (fun n => by exact absurd h (by first | exact n | exact (fun z => z n)))) (kt h)
  · exact ev_w (fun _ _ _ _ _ _ _ _ _ _ _ _ _ _ _ C hR hS hL k => lv_if_gt C.1.1 C.1.2.1 hd ht (fun n => absurd n h) (fun _ => k)) (kf (by first | exact h | exact Classical.not_not.mp h))
theorem ev_if_le {x : Int32} {off : Int} {tgt : Nat} (hd : decode (mC Y) pc = .ok (.ifCond .le off, 3)) (ht : (pc : Int) + off = (tgt : Int)) (kt : x ≤ 0 → Ev g d Y tgt ls st μ Q) (kf : ¬ x ≤ 0 → Ev g d Y (pc + 3) ls st μ Q) : Ev g d Y pc ls (.int x :: st) μ Q := by
  by_cases h : x ≤ 0
  · exact ev_w (fun _ _ _ _ _ _ _ _ _ _ _ _ _ _ _ C hR hS hL k => lv_if_le C.1.1 C.1.2.1 hd ht (fun _ => k) (fun n => by exact absurd h (by first | exact n | exact (fun z => z n)))) (kt h)
  · exact ev_w (fun _ _ _ _ _ _ _ _ _ _ _ _ _ _ _ C hR hS hL k => lv_if_le C.1.1 C.1.2.1 hd ht (fun n => absurd n h) (fun _ => k)) (kf (by first | exact h | exact Classical.not_not.mp h))
theorem ev_icmp_eq {x y : Int32} {off : Int} {tgt : Nat} (hd : decode (mC Y) pc = .ok (.if_icmp .eq off, 3)) (ht : (pc : Int) + off = (tgt : Int)) (kt : x = y → Ev g d Y tgt ls st μ Q) (kf : ¬ x = y → Ev g d Y (pc + 3) ls st μ Q) : Ev g d Y pc ls (.int y :: .int x :: st) μ Q := by
  by_cases h : x = y
  · exact ev_w (fun _ _ _ _ _ _ _ _ _ _ _ _ _ _ _ C hR hS hL k => lv_icmp_eq C.1.1 C.1.2.1 hd ht (fun _ => k) (fun n => by exact absurd h (by first | exact n | exact (fun z => z n)))) (kt h)
  · exact ev_w (fun _ _ _ _ _ _ _ _ _ _ _ _ _ _ _ C hR hS hL k => lv_icmp_eq C.1.1 C.1.2.1 hd ht (fun n => absurd n h) (fun _ => k)) (kf (by first | exact h | exact Classical.not_not.mp h))
theorem ev_icmp_ne {x y : Int32} {off : Int} {tgt : Nat} (hd : decode (mC Y) pc = .ok (.if_icmp .ne off, 3)) (ht : (pc : Int) + off = (tgt : Int)) (kt : ¬ x = y → Ev g d Y tgt ls st μ Q) (kf : x = y → Ev g d Y (pc + 3) ls st μ Q) : Ev g d Y pc ls (.int y :: .int x :: st) μ Q := by
  by_cases h : ¬ x = y
  · exact ev_w (fun _ _ _ _ _ _ _ _ _ _ _ _ _ _ _ C hR hS hL k => lv_icmp_ne C.1.1 C.1.2.1 hd ht (fun _ => k) (fun n => by exact absurd h (by first | exact n | exact (fun z => z n)))) (kt h)
  · exact ev_w (fun _ _ _ _ _ _ _ _ _ _ _ _ _ _ _ C hR hS hL k => lv_icmp_ne C.1.1 C.1.2.1 hd ht (fun n => absurd n h) (fun _ => k)) (kf (by first | exact h | exact Classical.not_not.mp h))
theorem ev_icmp_lt {x y : Int32} {off : Int} {tgt : Nat} (hd : decode (mC Y) pc = .ok (.if_icmp .lt off, 3)) (ht : (pc : Int) + off = (tgt : Int)) (kt : x < y → Ev g d Y tgt ls st μ Q) (kf : ¬ x < y → Ev g d Y (pc + 3) ls st μ Q) : Ev g d Y pc ls (.int y :: .int x :: st) μ Q := by
  by_cases h : x < y
  · exact ev_w (fun _ _ _ _ _ _ _ _ _ _ _ _ _ _ _ C hR hS hL k => lv_icmp_lt C.1.1 C.1.2.1 hd ht (fun _ => k) (fun n => by exact absurd h (by first | exact n | exact (fun z => z n)))) (kt h)
  · exact ev_w (fun _ _ _ _ _ _ _ _ _ _ _ _ _ _ _ C hR hS hL k => lv_icmp_lt C.1.1 C.1.2.1 hd ht (fun n => absurd n h) (fun _ => k)) (kf (by first | exact h | exact Classical.not_not.mp h))
theorem ev_icmp_ge {x y : Int32} {off : Int} {tgt : Nat} (hd : decode (mC Y) pc = .ok (.if_icmp .ge off, 3)) (ht : (pc : Int) + off = (tgt : Int)) (kt : y ≤ x → Ev g d Y tgt ls st μ Q) (kf : ¬ y ≤ x → Ev g d Y (pc + 3) ls st μ Q) : Ev g d Y pc ls (.int y :: .int x :: st) μ Q := by
  by_cases h : y ≤ x
  · exact ev_w (fun _ _ _ _ _ _ _ _ _ _ _ _ _ _ _ C hR hS hL k => lv_icmp_ge C.1.1 C.1.2.1 hd ht (fun _ => k) (fun n => by exact absurd h (by first | exact n | exact (fun z => z n)))) (kt h)
  · exact ev_w (fun _ _ _ _ _ _ _ _ _ _ _ _ _ _ _ C hR hS hL k => lv_icmp_ge C.1.1 C.1.2.1 hd ht (fun n => absurd n h) (fun _ => k)) (kf (by first | exact h | exact Classical.not_not.mp h))
theorem ev_icmp_gt {x y : Int32} {off : Int} {tgt : Nat} (hd : decode (mC Y) pc = .ok (.if_icmp .gt off, 3)) (ht : (pc : Int) + off = (tgt : Int)) (kt : y < x → Ev g d Y tgt ls st μ Q) (kf : ¬ y < x → Ev g d Y (pc + 3) ls st μ Q) : Ev g d Y pc ls (.int y :: .int x :: st) μ Q := by
  by_cases h : y < x
  · exact ev_w (fun _ _ _ _ _ _ _ _ _ _ _ _ _ _ _ C hR hS hL k => lv_icmp_gt C.1.1 C.1.2.1 hd ht (fun _ => k) (fun n => by exact absurd h (by first | exact n | exact (fun z => z n)))) (kt h)
  · exact ev_w (fun _ _ _ _ _ _ _ _ _ _ _ _ _ _ _ C hR hS hL k => lv_icmp_gt C.1.1 C.1.2.1 hd ht (fun n => absurd n h) (fun _ => k)) (kf (by first | exact h | exact Classical.not_not.mp h))
theorem ev_icmp_le {x y : Int32} {off : Int} {tgt : Nat} (hd : decode (mC Y) pc = .ok (.if_icmp .le off, 3)) (ht : (pc : Int) + off = (tgt : Int)) (kt : x ≤ y → Ev g d Y tgt ls st μ Q) (kf : ¬ x ≤ y → Ev g d Y (pc + 3) ls st μ Q) : Ev g d Y pc ls (.int y :: .int x :: st) μ Q := by
  by_cases h : x ≤ y
  · exact ev_w (fun _ _ _ _ _ _ _ _ _ _ _ _ _ _ _ C hR hS hL k => lv_icmp_le C.1.1 C.1.2.1 hd ht (fun _ => k) (fun n => by exact absurd h (by first | exact n | exact (fun z => z n)))) (kt h)
  · exact ev_w (fun _ _ _ _ _ _ _ _ _ _ _ _ _ _ _ C hR hS hL k => lv_icmp_le C.1.1 C.1.2.1 hd ht (fun n => absurd n h) (fun _ => k)) (kf (by first | exact h | exact Classical.not_not.mp h))
theorem ev_istore_n {k : Fin 4} {x : Int32} (hd : decode (mC Y) pc = .ok (.istore_n k, 1))  (hn : (k : Nat) < mN Y) (kk : Ev g d Y (pc + 1) (ls.set (k : Nat) (some (.int x))) st μ Q) : Ev g d Y pc ls (.int x :: st) μ Q := by
  obtain ⟨v, μ', hQ, hG, hE⟩ := kk
  refine ⟨v, μ', hQ, hG, fun p e s m args below meth c R H locs k0 la C h1 h2 h3 h4 hR hS hL => ?_⟩
  exact lv_istore_n C.1.1 C.1.2.1 hd rfl hL.2 hn rfl fun la' hl' => hE p e s m args below meth c R H locs k0 la' C h1 h2 h3 h4 hR hS (hL.set rfl hl')
theorem ev_istore {i : Nat} {x : Int32} (hd : decode (mC Y) pc = .ok (.istore i, 2))  (hn : i < mN Y) (kk : Ev g d Y (pc + 2) (ls.set i (some (.int x))) st μ Q) : Ev g d Y pc ls (.int x :: st) μ Q := by
  obtain ⟨v, μ', hQ, hG, hE⟩ := kk
  refine ⟨v, μ', hQ, hG, fun p e s m args below meth c R H locs k0 la C h1 h2 h3 h4 hR hS hL => ?_⟩
  exact lv_istore C.1.1 C.1.2.1 hd hL.2 hn rfl fun la' hl' => hE p e s m args below meth c R H locs k0 la' C h1 h2 h3 h4 hR hS (hL.set rfl hl')
theorem ev_astore_n {k : Fin 4} {x : Nat} (hd : decode (mC Y) pc = .ok (.astore_n k, 1))  (hn : (k : Nat) < mN Y) (kk : Ev g d Y (pc + 1) (ls.set (k : Nat) (some (.ref x))) st μ Q) : Ev g d Y pc ls (.ref x :: st) μ Q := by
  obtain ⟨v, μ', hQ, hG, hE⟩ := kk
  refine ⟨v, μ', hQ, hG, fun p e s m args below meth c R H locs k0 la C h1 h2 h3 h4 hR hS hL => ?_⟩
  exact lv_astore_n C.1.1 C.1.2.1 hd rfl hL.2 hn rfl fun la' hl' => hE p e s m args below meth c R H locs k0 la' C h1 h2 h3 h4 hR hS (hL.set rfl hl')
theorem ev_astore {i x : Nat} (hd : decode (mC Y) pc = .ok (.astore i, 2))  (hn : i < mN Y) (kk : Ev g d Y (pc + 2) (ls.set i (some (.ref x))) st μ Q) : Ev g d Y pc ls (.ref x :: st) μ Q := by
  obtain ⟨v, μ', hQ, hG, hE⟩ := kk
  refine ⟨v, μ', hQ, hG, fun p e s m args below meth c R H locs k0 la C h1 h2 h3 h4 hR hS hL => ?_⟩
  exact lv_astore C.1.1 C.1.2.1 hd hL.2 hn rfl fun la' hl' => hE p e s m args below meth c R H locs k0 la' C h1 h2 h3 h4 hR hS (hL.set rfl hl')
theorem ev_astore_nN {k : Fin 4} (hd : decode (mC Y) pc = .ok (.astore_n k, 1))  (hn : (k : Nat) < mN Y) (kk : Ev g d Y (pc + 1) (ls.set (k : Nat) (some (.null))) st μ Q) : Ev g d Y pc ls (.null :: st) μ Q := by
  obtain ⟨v, μ', hQ, hG, hE⟩ := kk
  refine ⟨v, μ', hQ, hG, fun p e s m args below meth c R H locs k0 la C h1 h2 h3 h4 hR hS hL => ?_⟩
  exact lv_astore_nN C.1.1 C.1.2.1 hd rfl hL.2 hn rfl fun la' hl' => hE p e s m args below meth c R H locs k0 la' C h1 h2 h3 h4 hR hS (hL.set rfl hl')
theorem ev_astoreN {i : Nat} (hd : decode (mC Y) pc = .ok (.astore i, 2))  (hn : i < mN Y) (kk : Ev g d Y (pc + 2) (ls.set i (some (.null))) st μ Q) : Ev g d Y pc ls (.null :: st) μ Q := by
  obtain ⟨v, μ', hQ, hG, hE⟩ := kk
  refine ⟨v, μ', hQ, hG, fun p e s m args below meth c R H locs k0 la C h1 h2 h3 h4 hR hS hL => ?_⟩
  exact lv_astoreN C.1.1 C.1.2.1 hd hL.2 hn rfl fun la' hl' => hE p e s m args below meth c R H locs k0 la' C h1 h2 h3 h4 hR hS (hL.set rfl hl')
theorem ev_iinc {i : Nat} {n : Int} {x : Int32} (hd : decode (mC Y) pc = .ok (.iinc i n, 3)) (hl : ls[i]? = some (some (.int x))) (hn : i < mN Y) (kk : Ev g d Y (pc + 3) (ls.set i (some (.int (x + Int32.ofInt n)))) st μ Q) : Ev g d Y pc ls st μ Q := by
  obtain ⟨v, μ', hQ, hG, hE⟩ := kk
  refine ⟨v, μ', hQ, hG, fun p e s m args below meth c R H locs k0 la C h1 h2 h3 h4 hR hS hL => ?_⟩
  obtain ⟨k, hk⟩ := List.getElem?_of_mem (mem_lpr.mpr hl)
  exact lv_iinc C.1.1 C.1.2.1 hd hL.2 hk rfl hn rfl fun la' hl' => hE p e s m args below meth c R H locs k0 la' C h1 h2 h3 h4 hR hS (hL.set rfl hl')
theorem ev_iret {x : Int32} (hd : decode (mC Y) pc = .ok (.ireturn, 1)) (hr : mR Y = some .int) (hq : Q (some (.int x)) μ) : Ev g d Y pc ls [.int x] μ Q := by
  refine ⟨_, μ, hq, Gr.rf, fun p e s m args below meth c R H locs k0 la C h1 h2 h3 h4 hR hS hL => ?_⟩
  exact W.iret C.1.1 C.1.2.1 (C.1.2.2.2.1.trans hr) (fun t ht hW => ⟨rfl, by rw [ht]; exact hR, hS.F ht⟩) hS.2.2 hd (hlocks := C.1.2.2.2.2.1)
theorem ev_zret {x : Int32} {ty : FieldType} (hd : decode (mC Y) pc = .ok (.ireturn, 1)) (hr : mR Y = some ty) (hn : narrow ty (.int x) = .int x) (hq : Q (some (.int x)) μ) : Ev g d Y pc ls [.int x] μ Q := by
  refine ⟨_, μ, hq, Gr.rf, fun p e s m args below meth c R H locs k0 la C h1 h2 h3 h4 hR hS hL => ?_⟩
  exact W.zret C.1.1 C.1.2.1 (C.1.2.2.2.1.trans hr) hn (fun t ht hW => ⟨rfl, by rw [ht]; exact hR, hS.F ht⟩) hS.2.2 hd (hlocks := C.1.2.2.2.2.1)
theorem ev_vret (hd : decode (mC Y) pc = .ok (.return_, 1)) (hr : mR Y = none) (hq : Q none μ) : Ev g d Y pc ls [] μ Q := by
  refine ⟨_, μ, hq, Gr.rf, fun p e s m args below meth c R H locs k0 la C h1 h2 h3 h4 hR hS hL => ?_⟩
  exact W.vret C.1.1 C.1.2.1 (C.1.2.2.2.1.trans hr) (fun t ht hW => ⟨rfl, by rw [ht]; exact hR, hS.F ht⟩) hS.2.2 hd (hlocks := C.1.2.2.2.2.1)
theorem ev_lret {x : Int64} (hd : decode (mC Y) pc = .ok (.lreturn, 1)) (hr : mR Y = some .long) (hq : Q (some (.long x)) μ) : Ev g d Y pc ls [.long x] μ Q := by
  refine ⟨_, μ, hq, Gr.rf, fun p e s m args below meth c R H locs k0 la C h1 h2 h3 h4 hR hS hL => ?_⟩
  exact W.lret C.1.1 C.1.2.1 (C.1.2.2.2.1.trans hr) (fun t ht hW => ⟨rfl, by rw [ht]; exact hR, hS.F ht⟩) hS.2.2 hd (hlocks := C.1.2.2.2.2.1)
theorem ev_aret {x : Value} {rt : FieldType} (hd : decode (mC Y) pc = .ok (.areturn, 1)) (hr : mR Y = some rt) (hrt : (∃ n, rt = .object n) ∨ ∃ t, rt = .array t) (hv : x = .null ∨ ∃ a, x = .ref a) (hq : Q (some x) μ) : Ev g d Y pc ls [x] μ Q := by
  refine ⟨_, μ, hq, Gr.rf, fun p e s m args below meth c R H locs k0 la C h1 h2 h3 h4 hR hS hL => ?_⟩
  exact W.aret C.1.1 C.1.2.1 (C.1.2.2.2.1.trans hr) hrt hv (fun t ht hW => ⟨rfl, by rw [ht]; exact hR, hS.F ht⟩) hS.2.2 hd (hlocks := C.1.2.2.2.2.1)
end RULES
