/-! ===== the reference: its constructor ===== -/
/-- the reference's cells ahead of its words -/
def c12A (b : Nat) : Nat → MC
  | 0 => obj 12 [.ref (b + 1), .ref (b + 2), .ref (b + 3), .ref (b + 4), .ref (b + 5), .ref (b + 6), .ref (b + 7), .int 0, .int 0, .null, .null, .null, .null, .null, .null, .int 0, .int 0, .int 0, .int 0, .int 0, .int 0, .int 0, .int 0, .int 0, .null, .null, .int 0, .int 0, .null, .null, .int 0, .int 0, .int 0, .null, .null, .null, .null]
  | 1 => iar (List.replicate 7 0)
  | 2 => iar (List.replicate 7 0)
  | 3 => iar (List.replicate 7 0)
  | 4 => iar (List.replicate 7 0)
  | 5 => iar (List.replicate 7 0)
  | 6 => iar (List.replicate 7 0)
  | 7 => iar [12, 0, 0, 4, 1, 0, 1, 2, 3, 4]
  | _ => iar []
/-- .. ahead of its tape -/
def c12B (b : Nat) : Nat → MC
  | 0 => obj 12 [.ref (b + 1), .ref (b + 2), .ref (b + 3), .ref (b + 4), .ref (b + 5), .ref (b + 6), .ref (b + 7), .int 0, .int 0, .ref (b + 8), .null, .null, .null, .null, .null, .int 0, .int 0, .int 0, .int 0, .int 0, .int 0, .int 0, .int 0, .int 0, .null, .null, .int 0, .int 0, .null, .null, .int 0, .int 0, .int 0, .null, .null, .null, .null]
  | 1 => iar (List.replicate 7 0)
  | 2 => iar (List.replicate 7 0)
  | 3 => iar (List.replicate 7 0)
  | 4 => iar (List.replicate 7 0)
  | 5 => iar (List.replicate 7 0)
  | 6 => iar (List.replicate 7 0)
  | 7 => iar [12, 0, 0, 4, 1, 0, 1, 2, 3, 4]
  | 8 => rar 5 (mWr b)
  | 9 => iar [112, 108, 97, 99, 101]
  | 10 => iar [115, 105, 100, 101]
  | 11 => iar [115, 111, 114, 116]
  | 12 => iar [108, 97, 116, 101]
  | 13 => iar [114, 97, 105, 110]
  | 14 => iar [104, 111, 117, 115, 101]
  | 15 => iar [98, 121]
  | 16 => iar [114, 105, 110, 103, 115]
  | 17 => iar [116, 105, 112, 115]
  | 18 => iar [111, 114]
  | 19 => iar [97, 110, 100]
  | 20 => iar [110, 111, 116]
  | _ => iar []
/-- .. ahead of its first rule -/
def c12 (b : Nat) : Nat → MC
  | 0 => obj 12 [.ref (b + 1), .ref (b + 2), .ref (b + 3), .ref (b + 4), .ref (b + 5), .ref (b + 6), .ref (b + 7), .int 0, .int 0, .ref (b + 8), .ref (b + 21), .ref (b + 22), .ref (b + 23), .ref (b + 24), .ref (b + 25), .int 0, .int 1, .int 0, .int 0, .int 0, .int 0, .int 0, .int 0, .int 0, .ref (b + 26), .ref (b + 27), .int 0, .int 0, .ref (b + 28), .ref (b + 29), .int 0, .int 0, .int 0, .ref (b + 30), .ref (b + 31), .ref (b + 32), .ref (b + 33)]
  | 1 => iar (List.replicate 7 0)
  | 2 => iar (List.replicate 7 0)
  | 3 => iar (List.replicate 7 0)
  | 4 => iar (List.replicate 7 0)
  | 5 => iar (List.replicate 7 0)
  | 6 => iar (List.replicate 7 0)
  | 7 => iar [12, 0, 0, 4, 1, 0, 1, 2, 3, 4]
  | 8 => rar 5 (mWr b)
  | 9 => iar [112, 108, 97, 99, 101]
  | 10 => iar [115, 105, 100, 101]
  | 11 => iar [115, 111, 114, 116]
  | 12 => iar [108, 97, 116, 101]
  | 13 => iar [114, 97, 105, 110]
  | 14 => iar [104, 111, 117, 115, 101]
  | 15 => iar [98, 121]
  | 16 => iar [114, 105, 110, 103, 115]
  | 17 => iar [116, 105, 112, 115]
  | 18 => iar [111, 114]
  | 19 => iar [97, 110, 100]
  | 20 => iar [110, 111, 116]
  | 21 => iar (List.replicate 160 0)
  | 22 => iar (List.replicate 3060 0)
  | 23 => iar (List.replicate 18 0)
  | 24 => iar (List.replicate 200 0)
  | 25 => iar (List.replicate 200 0)
  | 26 => iar (List.replicate 7 0)
  | 27 => iar (List.replicate 7 0)
  | 28 => iar (List.replicate 7 0)
  | 29 => iar (List.replicate 60 0)
  | 30 => iar [-1, -1, -1, -1]
  | 31 => iar (List.replicate 4 0)
  | 32 => iar (List.replicate 160 0)
  | 33 => iar (List.replicate 40 0)
  | _ => iar []
section MINIT12
variable {g : Gl} {μ μ0 : Mm} {b s : Nat} {z : Nat → MC}
set_option maxHeartbeats 6000000 in
theorem l_m12C {Q : Option Value → Mm → Prop} (hB : BW b 21 (c12B b) s μ0 μ) (go : ∀ (μ : Mm) (s' : Nat) (x : Option Value), BW b 34 (c12 b) s' μ0 μ → s' ≤ s + 4000 → Ev g 3 mX12_init 549 [some (.ref b), x] [] μ Q) : Ev g 3 mX12_init 417 [some (.ref b), none] [] μ Q := by
  refine ev_aload_n dX12_init_417 rfl ?_
  refine ev_sipush (v := 160) dX12_init_418 (by decide) ?_
  refine bw_newa (k := 160) (N := 21) hB dX12_init_421 (ix_z (by decide) rfl) (by decide) (N1 := 22) rfl (fun μ hB => ?_)
  refine bw_putF (i := 0) (k := 10) hB (by decide) rfl dX12_init_423 fpX12_36_12 rfl (Nat.le_of_ble_eq_true rfl) rfl rfl (fun μ hB => ?_)
  refine ev_aload_n dX12_init_426 rfl ?_
  refine ev_sipush (v := 3060) dX12_init_427 (by decide) ?_
  refine bw_newa (k := 3060) (N := 22) hB dX12_init_430 (ix_z (by decide) rfl) (by decide) (N1 := 23) rfl (fun μ hB => ?_)
  refine bw_putF (i := 0) (k := 11) hB (by decide) rfl dX12_init_432 fpX12_39_12 rfl (Nat.le_of_ble_eq_true rfl) rfl rfl (fun μ hB => ?_)
  refine ev_aload_n dX12_init_435 rfl ?_
  refine ev_bipush (v := 18) dX12_init_436 (by decide) ?_
  refine bw_newa (k := 18) (N := 23) hB dX12_init_438 (ix_z (by decide) rfl) (by decide) (N1 := 24) rfl (fun μ hB => ?_)
  refine bw_putF (i := 0) (k := 12) hB (by decide) rfl dX12_init_440 fpX12_42_12 rfl (Nat.le_of_ble_eq_true rfl) rfl rfl (fun μ hB => ?_)
  refine ev_aload_n dX12_init_443 rfl ?_
  refine ev_sipush (v := 200) dX12_init_444 (by decide) ?_
  refine bw_newa (k := 200) (N := 24) hB dX12_init_447 (ix_z (by decide) rfl) (by decide) (N1 := 25) rfl (fun μ hB => ?_)
  refine bw_putF (i := 0) (k := 13) hB (by decide) rfl dX12_init_449 fpX12_45_12 rfl (Nat.le_of_ble_eq_true rfl) rfl rfl (fun μ hB => ?_)
  refine ev_aload_n dX12_init_452 rfl ?_
  refine ev_sipush (v := 200) dX12_init_453 (by decide) ?_
  refine bw_newa (k := 200) (N := 25) hB dX12_init_456 (ix_z (by decide) rfl) (by decide) (N1 := 26) rfl (fun μ hB => ?_)
  refine bw_putF (i := 0) (k := 14) hB (by decide) rfl dX12_init_458 fpX12_48_12 rfl (Nat.le_of_ble_eq_true rfl) rfl rfl (fun μ hB => ?_)
  refine ev_aload_n dX12_init_461 rfl ?_
  refine ev_iconst (v := 1) dX12_init_462 (by decide) ?_
  refine bw_put (i := 0) (k := 16) hB (by decide) rfl dX12_init_463 fpX12_51_12 (Nat.le_of_ble_eq_true rfl) rfl rfl (fun μ hB => ?_)
  refine ev_aload_n dX12_init_466 rfl ?_
  refine ev_bipush (v := 7) dX12_init_467 (by decide) ?_
  refine bw_newa (k := 7) (N := 26) hB dX12_init_469 (ix_z (by decide) rfl) (by decide) (N1 := 27) rfl (fun μ hB => ?_)
  refine bw_putF (i := 0) (k := 24) hB (by decide) rfl dX12_init_471 fpX12_55_12 rfl (Nat.le_of_ble_eq_true rfl) rfl rfl (fun μ hB => ?_)
  refine ev_aload_n dX12_init_474 rfl ?_
  refine ev_bipush (v := 7) dX12_init_475 (by decide) ?_
  refine bw_newa (k := 7) (N := 27) hB dX12_init_477 (ix_z (by decide) rfl) (by decide) (N1 := 28) rfl (fun μ hB => ?_)
  refine bw_putF (i := 0) (k := 25) hB (by decide) rfl dX12_init_479 fpX12_58_12 rfl (Nat.le_of_ble_eq_true rfl) rfl rfl (fun μ hB => ?_)
  refine ev_aload_n dX12_init_482 rfl ?_
  refine ev_bipush (v := 7) dX12_init_483 (by decide) ?_
  refine bw_newa (k := 7) (N := 28) hB dX12_init_485 (ix_z (by decide) rfl) (by decide) (N1 := 29) rfl (fun μ hB => ?_)
  refine bw_putF (i := 0) (k := 28) hB (by decide) rfl dX12_init_487 fpX12_61_12 rfl (Nat.le_of_ble_eq_true rfl) rfl rfl (fun μ hB => ?_)
  refine ev_aload_n dX12_init_490 rfl ?_
  refine ev_bipush (v := 60) dX12_init_491 (by decide) ?_
  refine bw_newa (k := 60) (N := 29) hB dX12_init_493 (ix_z (by decide) rfl) (by decide) (N1 := 30) rfl (fun μ hB => ?_)
  refine bw_putF (i := 0) (k := 29) hB (by decide) rfl dX12_init_495 fpX12_64_12 rfl (Nat.le_of_ble_eq_true rfl) rfl rfl (fun μ hB => ?_)
  refine ev_aload_n dX12_init_498 rfl ?_
  refine ev_iconst (v := 4) dX12_init_499 (by decide) ?_
  refine bw_newa (k := 4) (N := 30) hB dX12_init_500 (ix_z (by decide) rfl) (by decide) (N1 := 31) rfl (fun μ hB => ?_)
  refine bw_putF (i := 0) (k := 33) hB (by decide) rfl dX12_init_502 fpX12_67_12 rfl (Nat.le_of_ble_eq_true rfl) rfl rfl (fun μ hB => ?_)
  refine ev_aload_n dX12_init_505 rfl ?_
  refine ev_iconst (v := 4) dX12_init_506 (by decide) ?_
  refine bw_newa (k := 4) (N := 31) hB dX12_init_507 (ix_z (by decide) rfl) (by decide) (N1 := 32) rfl (fun μ hB => ?_)
  refine bw_putF (i := 0) (k := 34) hB (by decide) rfl dX12_init_509 fpX12_70_12 rfl (Nat.le_of_ble_eq_true rfl) rfl rfl (fun μ hB => ?_)
  refine ev_aload_n dX12_init_512 rfl ?_
  refine ev_sipush (v := 160) dX12_init_513 (by decide) ?_
  refine bw_newa (k := 160) (N := 32) hB dX12_init_516 (ix_z (by decide) rfl) (by decide) (N1 := 33) rfl (fun μ hB => ?_)
  refine bw_putF (i := 0) (k := 35) hB (by decide) rfl dX12_init_518 fpX12_73_12 rfl (Nat.le_of_ble_eq_true rfl) rfl rfl (fun μ hB => ?_)
  refine ev_aload_n dX12_init_521 rfl ?_
  refine ev_bipush (v := 40) dX12_init_522 (by decide) ?_
  refine bw_newa (k := 40) (N := 33) hB dX12_init_524 (ix_z (by decide) rfl) (by decide) (N1 := 34) rfl (fun μ hB => ?_)
  refine bw_putF (i := 0) (k := 36) hB (by decide) rfl dX12_init_526 fpX12_76_12 rfl (Nat.le_of_ble_eq_true rfl) rfl rfl (fun μ hB => ?_)
  refine ev_iconst (v := 0) dX12_init_529 (by decide) ?_
  refine ev_istore_n dX12_init_530 (by decide) ?_
  dsimp only [List.set]
  refine ev_iload_n dX12_init_531 rfl ?_
  refine ev_iconst (v := 4) dX12_init_532 (by decide) ?_
  refine ev_icmp_ge (tgt := 549) dX12_init_533 (by decide) (fun h => absurd h (by decide)) (fun _ => ?_)
  refine ev_aload_n dX12_init_536 rfl ?_
  refine bw_get (i := 0) (k := 33) hB (by decide) rfl dX12_init_537 flX12_67_12 rfl ?_
  refine ev_iload_n dX12_init_540 rfl ?_
  refine ev_iconst (v := (-1)) dX12_init_541 (by decide) ?_
  refine bw_iast (i := 30) (j := 0) hB (by decide) rfl dX12_init_542 (ix_z (by decide) rfl) (Nat.le_of_ble_eq_true rfl) (fun μ hB => ?_)
  refine ev_iinc dX12_init_543 rfl (by decide) ?_
  dsimp only [List.set]
  rw [show (0 : Int32) + Int32.ofInt 1 = 1 by decide]
  refine ev_goto (tgt := 531) dX12_init_546 (by decide) ?_
  refine ev_iload_n dX12_init_531 rfl ?_
  refine ev_iconst (v := 4) dX12_init_532 (by decide) ?_
  refine ev_icmp_ge (tgt := 549) dX12_init_533 (by decide) (fun h => absurd h (by decide)) (fun _ => ?_)
  refine ev_aload_n dX12_init_536 rfl ?_
  refine bw_get (i := 0) (k := 33) hB (by decide) rfl dX12_init_537 flX12_67_12 rfl ?_
  refine ev_iload_n dX12_init_540 rfl ?_
  refine ev_iconst (v := (-1)) dX12_init_541 (by decide) ?_
  refine bw_iast (i := 30) (j := 1) hB (by decide) rfl dX12_init_542 (ix_z (by decide) rfl) (Nat.le_of_ble_eq_true rfl) (fun μ hB => ?_)
  refine ev_iinc dX12_init_543 rfl (by decide) ?_
  dsimp only [List.set]
  rw [show (1 : Int32) + Int32.ofInt 1 = 2 by decide]
  refine ev_goto (tgt := 531) dX12_init_546 (by decide) ?_
  refine ev_iload_n dX12_init_531 rfl ?_
  refine ev_iconst (v := 4) dX12_init_532 (by decide) ?_
  refine ev_icmp_ge (tgt := 549) dX12_init_533 (by decide) (fun h => absurd h (by decide)) (fun _ => ?_)
  refine ev_aload_n dX12_init_536 rfl ?_
  refine bw_get (i := 0) (k := 33) hB (by decide) rfl dX12_init_537 flX12_67_12 rfl ?_
  refine ev_iload_n dX12_init_540 rfl ?_
  refine ev_iconst (v := (-1)) dX12_init_541 (by decide) ?_
  refine bw_iast (i := 30) (j := 2) hB (by decide) rfl dX12_init_542 (ix_z (by decide) rfl) (Nat.le_of_ble_eq_true rfl) (fun μ hB => ?_)
  refine ev_iinc dX12_init_543 rfl (by decide) ?_
  dsimp only [List.set]
  rw [show (2 : Int32) + Int32.ofInt 1 = 3 by decide]
  refine ev_goto (tgt := 531) dX12_init_546 (by decide) ?_
  refine ev_iload_n dX12_init_531 rfl ?_
  refine ev_iconst (v := 4) dX12_init_532 (by decide) ?_
  refine ev_icmp_ge (tgt := 549) dX12_init_533 (by decide) (fun h => absurd h (by decide)) (fun _ => ?_)
  refine ev_aload_n dX12_init_536 rfl ?_
  refine bw_get (i := 0) (k := 33) hB (by decide) rfl dX12_init_537 flX12_67_12 rfl ?_
  refine ev_iload_n dX12_init_540 rfl ?_
  refine ev_iconst (v := (-1)) dX12_init_541 (by decide) ?_
  refine bw_iast (i := 30) (j := 3) hB (by decide) rfl dX12_init_542 (ix_z (by decide) rfl) (Nat.le_of_ble_eq_true rfl) (fun μ hB => ?_)
  refine ev_iinc dX12_init_543 rfl (by decide) ?_
  dsimp only [List.set]
  rw [show (3 : Int32) + Int32.ofInt 1 = 4 by decide]
  refine ev_goto (tgt := 531) dX12_init_546 (by decide) ?_
  refine ev_iload_n dX12_init_531 rfl ?_
  refine ev_iconst (v := 4) dX12_init_532 (by decide) ?_
  refine ev_icmp_ge (tgt := 549) dX12_init_533 (by decide) (fun _ => ?_) (fun h => absurd (by decide) h)
  refine go _ _ _ (hB.eq (fun j hj => ?_)) (by omega)
  match j, hj with
    | 0, _ => rfl
    | 1, _ => rfl
    | 2, _ => rfl
    | 3, _ => rfl
    | 4, _ => rfl
    | 5, _ => rfl
    | 6, _ => rfl
    | 7, _ => rfl
    | 8, _ => rfl
    | 9, _ => rfl
    | 10, _ => rfl
    | 11, _ => rfl
    | 12, _ => rfl
    | 13, _ => rfl
    | 14, _ => rfl
    | 15, _ => rfl
    | 16, _ => rfl
    | 17, _ => rfl
    | 18, _ => rfl
    | 19, _ => rfl
    | 20, _ => rfl
    | 21, _ => rfl
    | 22, _ => rfl
    | 23, _ => rfl
    | 24, _ => rfl
    | 25, _ => rfl
    | 26, _ => rfl
    | 27, _ => rfl
    | 28, _ => rfl
    | 29, _ => rfl
    | 30, _ => rfl
    | 31, _ => rfl
    | 32, _ => rfl
    | 33, _ => rfl
    | k + 34, h => exact absurd h (by omega)
theorem l_m12B {Q : Option Value → Mm → Prop} (hB : BW b 8 (c12A b) s μ0 μ) (go : ∀ (μ : Mm) (s' : Nat), BW b 21 (c12B b) s' μ0 μ → s' ≤ s + 100 → Ev g 3 mX12_init 417 [some (.ref b), none] [] μ Q) : Ev g 3 mX12_init 105 [some (.ref b), none] [] μ Q := by
  refine ev_aload_n dX12_init_105 rfl ?_
  refine ev_bipush (v := 12) dX12_init_106 (by decide) ?_
  refine bw_anewI (k := 12) (N := 8) hB dX12_init_108 (mt4 237 rfl rfl) (ix_z (by decide) rfl) (by decide) (N1 := 9) rfl (fun μ hB => ?_)
  refine ev_dup dX12_init_111 rfl ?_
  refine ev_iconst (v := 0) dX12_init_112 (by decide) ?_
  refine ev_iconst (v := 5) dX12_init_113 (by decide) ?_
  refine bw_newa (k := 5) (N := 9) hB dX12_init_114 (ix_z (by decide) rfl) (by decide) (N1 := 10) rfl (fun μ hB => ?_)
  refine ev_dup dX12_init_116 rfl ?_
  refine ev_iconst (v := 0) dX12_init_117 (by decide) ?_
  refine ev_bipush (v := 112) dX12_init_118 (by decide) ?_
  refine bw_iast (i := 9) (j := 0) hB (by decide) rfl dX12_init_120 (ix_z (by decide) rfl) (Nat.le_of_ble_eq_true rfl) (fun μ hB => ?_)
  refine ev_dup dX12_init_121 rfl ?_
  refine ev_iconst (v := 1) dX12_init_122 (by decide) ?_
  refine ev_bipush (v := 108) dX12_init_123 (by decide) ?_
  refine bw_iast (i := 9) (j := 1) hB (by decide) rfl dX12_init_125 (ix_z (by decide) rfl) (Nat.le_of_ble_eq_true rfl) (fun μ hB => ?_)
  refine ev_dup dX12_init_126 rfl ?_
  refine ev_iconst (v := 2) dX12_init_127 (by decide) ?_
  refine ev_bipush (v := 97) dX12_init_128 (by decide) ?_
  refine bw_iast (i := 9) (j := 2) hB (by decide) rfl dX12_init_130 (ix_z (by decide) rfl) (Nat.le_of_ble_eq_true rfl) (fun μ hB => ?_)
  refine ev_dup dX12_init_131 rfl ?_
  refine ev_iconst (v := 3) dX12_init_132 (by decide) ?_
  refine ev_bipush (v := 99) dX12_init_133 (by decide) ?_
  refine bw_iast (i := 9) (j := 3) hB (by decide) rfl dX12_init_135 (ix_z (by decide) rfl) (Nat.le_of_ble_eq_true rfl) (fun μ hB => ?_)
  refine ev_dup dX12_init_136 rfl ?_
  refine ev_iconst (v := 4) dX12_init_137 (by decide) ?_
  refine ev_bipush (v := 101) dX12_init_138 (by decide) ?_
  refine bw_iast (i := 9) (j := 4) hB (by decide) rfl dX12_init_140 (ix_z (by decide) rfl) (Nat.le_of_ble_eq_true rfl) (fun μ hB => ?_)
  refine bw_aastI (i := 8) (j := 0) (v := 9) hB (by decide) (by decide) rfl rfl dX12_init_141 (ix_z (by decide) rfl) (Nat.le_of_ble_eq_true rfl) (fun μ hB => ?_)
  refine ev_dup dX12_init_142 rfl ?_
  refine ev_iconst (v := 1) dX12_init_143 (by decide) ?_
  refine ev_iconst (v := 4) dX12_init_144 (by decide) ?_
  refine bw_newa (k := 4) (N := 10) hB dX12_init_145 (ix_z (by decide) rfl) (by decide) (N1 := 11) rfl (fun μ hB => ?_)
  refine ev_dup dX12_init_147 rfl ?_
  refine ev_iconst (v := 0) dX12_init_148 (by decide) ?_
  refine ev_bipush (v := 115) dX12_init_149 (by decide) ?_
  refine bw_iast (i := 10) (j := 0) hB (by decide) rfl dX12_init_151 (ix_z (by decide) rfl) (Nat.le_of_ble_eq_true rfl) (fun μ hB => ?_)
  refine ev_dup dX12_init_152 rfl ?_
  refine ev_iconst (v := 1) dX12_init_153 (by decide) ?_
  refine ev_bipush (v := 105) dX12_init_154 (by decide) ?_
  refine bw_iast (i := 10) (j := 1) hB (by decide) rfl dX12_init_156 (ix_z (by decide) rfl) (Nat.le_of_ble_eq_true rfl) (fun μ hB => ?_)
  refine ev_dup dX12_init_157 rfl ?_
  refine ev_iconst (v := 2) dX12_init_158 (by decide) ?_
  refine ev_bipush (v := 100) dX12_init_159 (by decide) ?_
  refine bw_iast (i := 10) (j := 2) hB (by decide) rfl dX12_init_161 (ix_z (by decide) rfl) (Nat.le_of_ble_eq_true rfl) (fun μ hB => ?_)
  refine ev_dup dX12_init_162 rfl ?_
  refine ev_iconst (v := 3) dX12_init_163 (by decide) ?_
  refine ev_bipush (v := 101) dX12_init_164 (by decide) ?_
  refine bw_iast (i := 10) (j := 3) hB (by decide) rfl dX12_init_166 (ix_z (by decide) rfl) (Nat.le_of_ble_eq_true rfl) (fun μ hB => ?_)
  refine bw_aastI (i := 8) (j := 1) (v := 10) hB (by decide) (by decide) rfl rfl dX12_init_167 (ix_z (by decide) rfl) (Nat.le_of_ble_eq_true rfl) (fun μ hB => ?_)
  refine ev_dup dX12_init_168 rfl ?_
  refine ev_iconst (v := 2) dX12_init_169 (by decide) ?_
  refine ev_iconst (v := 4) dX12_init_170 (by decide) ?_
  refine bw_newa (k := 4) (N := 11) hB dX12_init_171 (ix_z (by decide) rfl) (by decide) (N1 := 12) rfl (fun μ hB => ?_)
  refine ev_dup dX12_init_173 rfl ?_
  refine ev_iconst (v := 0) dX12_init_174 (by decide) ?_
  refine ev_bipush (v := 115) dX12_init_175 (by decide) ?_
  refine bw_iast (i := 11) (j := 0) hB (by decide) rfl dX12_init_177 (ix_z (by decide) rfl) (Nat.le_of_ble_eq_true rfl) (fun μ hB => ?_)
  refine ev_dup dX12_init_178 rfl ?_
  refine ev_iconst (v := 1) dX12_init_179 (by decide) ?_
  refine ev_bipush (v := 111) dX12_init_180 (by decide) ?_
  refine bw_iast (i := 11) (j := 1) hB (by decide) rfl dX12_init_182 (ix_z (by decide) rfl) (Nat.le_of_ble_eq_true rfl) (fun μ hB => ?_)
  refine ev_dup dX12_init_183 rfl ?_
  refine ev_iconst (v := 2) dX12_init_184 (by decide) ?_
  refine ev_bipush (v := 114) dX12_init_185 (by decide) ?_
  refine bw_iast (i := 11) (j := 2) hB (by decide) rfl dX12_init_187 (ix_z (by decide) rfl) (Nat.le_of_ble_eq_true rfl) (fun μ hB => ?_)
  refine ev_dup dX12_init_188 rfl ?_
  refine ev_iconst (v := 3) dX12_init_189 (by decide) ?_
  refine ev_bipush (v := 116) dX12_init_190 (by decide) ?_
  refine bw_iast (i := 11) (j := 3) hB (by decide) rfl dX12_init_192 (ix_z (by decide) rfl) (Nat.le_of_ble_eq_true rfl) (fun μ hB => ?_)
  refine bw_aastI (i := 8) (j := 2) (v := 11) hB (by decide) (by decide) rfl rfl dX12_init_193 (ix_z (by decide) rfl) (Nat.le_of_ble_eq_true rfl) (fun μ hB => ?_)
  refine ev_dup dX12_init_194 rfl ?_
  refine ev_iconst (v := 3) dX12_init_195 (by decide) ?_
  refine ev_iconst (v := 4) dX12_init_196 (by decide) ?_
  refine bw_newa (k := 4) (N := 12) hB dX12_init_197 (ix_z (by decide) rfl) (by decide) (N1 := 13) rfl (fun μ hB => ?_)
  refine ev_dup dX12_init_199 rfl ?_
  refine ev_iconst (v := 0) dX12_init_200 (by decide) ?_
  refine ev_bipush (v := 108) dX12_init_201 (by decide) ?_
  refine bw_iast (i := 12) (j := 0) hB (by decide) rfl dX12_init_203 (ix_z (by decide) rfl) (Nat.le_of_ble_eq_true rfl) (fun μ hB => ?_)
  refine ev_dup dX12_init_204 rfl ?_
  refine ev_iconst (v := 1) dX12_init_205 (by decide) ?_
  refine ev_bipush (v := 97) dX12_init_206 (by decide) ?_
  refine bw_iast (i := 12) (j := 1) hB (by decide) rfl dX12_init_208 (ix_z (by decide) rfl) (Nat.le_of_ble_eq_true rfl) (fun μ hB => ?_)
  refine ev_dup dX12_init_209 rfl ?_
  refine ev_iconst (v := 2) dX12_init_210 (by decide) ?_
  refine ev_bipush (v := 116) dX12_init_211 (by decide) ?_
  refine bw_iast (i := 12) (j := 2) hB (by decide) rfl dX12_init_213 (ix_z (by decide) rfl) (Nat.le_of_ble_eq_true rfl) (fun μ hB => ?_)
  refine ev_dup dX12_init_214 rfl ?_
  refine ev_iconst (v := 3) dX12_init_215 (by decide) ?_
  refine ev_bipush (v := 101) dX12_init_216 (by decide) ?_
  refine bw_iast (i := 12) (j := 3) hB (by decide) rfl dX12_init_218 (ix_z (by decide) rfl) (Nat.le_of_ble_eq_true rfl) (fun μ hB => ?_)
  refine bw_aastI (i := 8) (j := 3) (v := 12) hB (by decide) (by decide) rfl rfl dX12_init_219 (ix_z (by decide) rfl) (Nat.le_of_ble_eq_true rfl) (fun μ hB => ?_)
  refine ev_dup dX12_init_220 rfl ?_
  refine ev_iconst (v := 4) dX12_init_221 (by decide) ?_
  refine ev_iconst (v := 4) dX12_init_222 (by decide) ?_
  refine bw_newa (k := 4) (N := 13) hB dX12_init_223 (ix_z (by decide) rfl) (by decide) (N1 := 14) rfl (fun μ hB => ?_)
  refine ev_dup dX12_init_225 rfl ?_
  refine ev_iconst (v := 0) dX12_init_226 (by decide) ?_
  refine ev_bipush (v := 114) dX12_init_227 (by decide) ?_
  refine bw_iast (i := 13) (j := 0) hB (by decide) rfl dX12_init_229 (ix_z (by decide) rfl) (Nat.le_of_ble_eq_true rfl) (fun μ hB => ?_)
  refine ev_dup dX12_init_230 rfl ?_
  refine ev_iconst (v := 1) dX12_init_231 (by decide) ?_
  refine ev_bipush (v := 97) dX12_init_232 (by decide) ?_
  refine bw_iast (i := 13) (j := 1) hB (by decide) rfl dX12_init_234 (ix_z (by decide) rfl) (Nat.le_of_ble_eq_true rfl) (fun μ hB => ?_)
  refine ev_dup dX12_init_235 rfl ?_
  refine ev_iconst (v := 2) dX12_init_236 (by decide) ?_
  refine ev_bipush (v := 105) dX12_init_237 (by decide) ?_
  refine bw_iast (i := 13) (j := 2) hB (by decide) rfl dX12_init_239 (ix_z (by decide) rfl) (Nat.le_of_ble_eq_true rfl) (fun μ hB => ?_)
  refine ev_dup dX12_init_240 rfl ?_
  refine ev_iconst (v := 3) dX12_init_241 (by decide) ?_
  refine ev_bipush (v := 110) dX12_init_242 (by decide) ?_
  refine bw_iast (i := 13) (j := 3) hB (by decide) rfl dX12_init_244 (ix_z (by decide) rfl) (Nat.le_of_ble_eq_true rfl) (fun μ hB => ?_)
  refine bw_aastI (i := 8) (j := 4) (v := 13) hB (by decide) (by decide) rfl rfl dX12_init_245 (ix_z (by decide) rfl) (Nat.le_of_ble_eq_true rfl) (fun μ hB => ?_)
  refine ev_dup dX12_init_246 rfl ?_
  refine ev_iconst (v := 5) dX12_init_247 (by decide) ?_
  refine ev_iconst (v := 5) dX12_init_248 (by decide) ?_
  refine bw_newa (k := 5) (N := 14) hB dX12_init_249 (ix_z (by decide) rfl) (by decide) (N1 := 15) rfl (fun μ hB => ?_)
  refine ev_dup dX12_init_251 rfl ?_
  refine ev_iconst (v := 0) dX12_init_252 (by decide) ?_
  refine ev_bipush (v := 104) dX12_init_253 (by decide) ?_
  refine bw_iast (i := 14) (j := 0) hB (by decide) rfl dX12_init_255 (ix_z (by decide) rfl) (Nat.le_of_ble_eq_true rfl) (fun μ hB => ?_)
  refine ev_dup dX12_init_256 rfl ?_
  refine ev_iconst (v := 1) dX12_init_257 (by decide) ?_
  refine ev_bipush (v := 111) dX12_init_258 (by decide) ?_
  refine bw_iast (i := 14) (j := 1) hB (by decide) rfl dX12_init_260 (ix_z (by decide) rfl) (Nat.le_of_ble_eq_true rfl) (fun μ hB => ?_)
  refine ev_dup dX12_init_261 rfl ?_
  refine ev_iconst (v := 2) dX12_init_262 (by decide) ?_
  refine ev_bipush (v := 117) dX12_init_263 (by decide) ?_
  refine bw_iast (i := 14) (j := 2) hB (by decide) rfl dX12_init_265 (ix_z (by decide) rfl) (Nat.le_of_ble_eq_true rfl) (fun μ hB => ?_)
  refine ev_dup dX12_init_266 rfl ?_
  refine ev_iconst (v := 3) dX12_init_267 (by decide) ?_
  refine ev_bipush (v := 115) dX12_init_268 (by decide) ?_
  refine bw_iast (i := 14) (j := 3) hB (by decide) rfl dX12_init_270 (ix_z (by decide) rfl) (Nat.le_of_ble_eq_true rfl) (fun μ hB => ?_)
  refine ev_dup dX12_init_271 rfl ?_
  refine ev_iconst (v := 4) dX12_init_272 (by decide) ?_
  refine ev_bipush (v := 101) dX12_init_273 (by decide) ?_
  refine bw_iast (i := 14) (j := 4) hB (by decide) rfl dX12_init_275 (ix_z (by decide) rfl) (Nat.le_of_ble_eq_true rfl) (fun μ hB => ?_)
  refine bw_aastI (i := 8) (j := 5) (v := 14) hB (by decide) (by decide) rfl rfl dX12_init_276 (ix_z (by decide) rfl) (Nat.le_of_ble_eq_true rfl) (fun μ hB => ?_)
  refine ev_dup dX12_init_277 rfl ?_
  refine ev_bipush (v := 6) dX12_init_278 (by decide) ?_
  refine ev_iconst (v := 2) dX12_init_280 (by decide) ?_
  refine bw_newa (k := 2) (N := 15) hB dX12_init_281 (ix_z (by decide) rfl) (by decide) (N1 := 16) rfl (fun μ hB => ?_)
  refine ev_dup dX12_init_283 rfl ?_
  refine ev_iconst (v := 0) dX12_init_284 (by decide) ?_
  refine ev_bipush (v := 98) dX12_init_285 (by decide) ?_
  refine bw_iast (i := 15) (j := 0) hB (by decide) rfl dX12_init_287 (ix_z (by decide) rfl) (Nat.le_of_ble_eq_true rfl) (fun μ hB => ?_)
  refine ev_dup dX12_init_288 rfl ?_
  refine ev_iconst (v := 1) dX12_init_289 (by decide) ?_
  refine ev_bipush (v := 121) dX12_init_290 (by decide) ?_
  refine bw_iast (i := 15) (j := 1) hB (by decide) rfl dX12_init_292 (ix_z (by decide) rfl) (Nat.le_of_ble_eq_true rfl) (fun μ hB => ?_)
  refine bw_aastI (i := 8) (j := 6) (v := 15) hB (by decide) (by decide) rfl rfl dX12_init_293 (ix_z (by decide) rfl) (Nat.le_of_ble_eq_true rfl) (fun μ hB => ?_)
  refine ev_dup dX12_init_294 rfl ?_
  refine ev_bipush (v := 7) dX12_init_295 (by decide) ?_
  refine ev_iconst (v := 5) dX12_init_297 (by decide) ?_
  refine bw_newa (k := 5) (N := 16) hB dX12_init_298 (ix_z (by decide) rfl) (by decide) (N1 := 17) rfl (fun μ hB => ?_)
  refine ev_dup dX12_init_300 rfl ?_
  refine ev_iconst (v := 0) dX12_init_301 (by decide) ?_
  refine ev_bipush (v := 114) dX12_init_302 (by decide) ?_
  refine bw_iast (i := 16) (j := 0) hB (by decide) rfl dX12_init_304 (ix_z (by decide) rfl) (Nat.le_of_ble_eq_true rfl) (fun μ hB => ?_)
  refine ev_dup dX12_init_305 rfl ?_
  refine ev_iconst (v := 1) dX12_init_306 (by decide) ?_
  refine ev_bipush (v := 105) dX12_init_307 (by decide) ?_
  refine bw_iast (i := 16) (j := 1) hB (by decide) rfl dX12_init_309 (ix_z (by decide) rfl) (Nat.le_of_ble_eq_true rfl) (fun μ hB => ?_)
  refine ev_dup dX12_init_310 rfl ?_
  refine ev_iconst (v := 2) dX12_init_311 (by decide) ?_
  refine ev_bipush (v := 110) dX12_init_312 (by decide) ?_
  refine bw_iast (i := 16) (j := 2) hB (by decide) rfl dX12_init_314 (ix_z (by decide) rfl) (Nat.le_of_ble_eq_true rfl) (fun μ hB => ?_)
  refine ev_dup dX12_init_315 rfl ?_
  refine ev_iconst (v := 3) dX12_init_316 (by decide) ?_
  refine ev_bipush (v := 103) dX12_init_317 (by decide) ?_
  refine bw_iast (i := 16) (j := 3) hB (by decide) rfl dX12_init_319 (ix_z (by decide) rfl) (Nat.le_of_ble_eq_true rfl) (fun μ hB => ?_)
  refine ev_dup dX12_init_320 rfl ?_
  refine ev_iconst (v := 4) dX12_init_321 (by decide) ?_
  refine ev_bipush (v := 115) dX12_init_322 (by decide) ?_
  refine bw_iast (i := 16) (j := 4) hB (by decide) rfl dX12_init_324 (ix_z (by decide) rfl) (Nat.le_of_ble_eq_true rfl) (fun μ hB => ?_)
  refine bw_aastI (i := 8) (j := 7) (v := 16) hB (by decide) (by decide) rfl rfl dX12_init_325 (ix_z (by decide) rfl) (Nat.le_of_ble_eq_true rfl) (fun μ hB => ?_)
  refine ev_dup dX12_init_326 rfl ?_
  refine ev_bipush (v := 8) dX12_init_327 (by decide) ?_
  refine ev_iconst (v := 4) dX12_init_329 (by decide) ?_
  refine bw_newa (k := 4) (N := 17) hB dX12_init_330 (ix_z (by decide) rfl) (by decide) (N1 := 18) rfl (fun μ hB => ?_)
  refine ev_dup dX12_init_332 rfl ?_
  refine ev_iconst (v := 0) dX12_init_333 (by decide) ?_
  refine ev_bipush (v := 116) dX12_init_334 (by decide) ?_
  refine bw_iast (i := 17) (j := 0) hB (by decide) rfl dX12_init_336 (ix_z (by decide) rfl) (Nat.le_of_ble_eq_true rfl) (fun μ hB => ?_)
  refine ev_dup dX12_init_337 rfl ?_
  refine ev_iconst (v := 1) dX12_init_338 (by decide) ?_
  refine ev_bipush (v := 105) dX12_init_339 (by decide) ?_
  refine bw_iast (i := 17) (j := 1) hB (by decide) rfl dX12_init_341 (ix_z (by decide) rfl) (Nat.le_of_ble_eq_true rfl) (fun μ hB => ?_)
  refine ev_dup dX12_init_342 rfl ?_
  refine ev_iconst (v := 2) dX12_init_343 (by decide) ?_
  refine ev_bipush (v := 112) dX12_init_344 (by decide) ?_
  refine bw_iast (i := 17) (j := 2) hB (by decide) rfl dX12_init_346 (ix_z (by decide) rfl) (Nat.le_of_ble_eq_true rfl) (fun μ hB => ?_)
  refine ev_dup dX12_init_347 rfl ?_
  refine ev_iconst (v := 3) dX12_init_348 (by decide) ?_
  refine ev_bipush (v := 115) dX12_init_349 (by decide) ?_
  refine bw_iast (i := 17) (j := 3) hB (by decide) rfl dX12_init_351 (ix_z (by decide) rfl) (Nat.le_of_ble_eq_true rfl) (fun μ hB => ?_)
  refine bw_aastI (i := 8) (j := 8) (v := 17) hB (by decide) (by decide) rfl rfl dX12_init_352 (ix_z (by decide) rfl) (Nat.le_of_ble_eq_true rfl) (fun μ hB => ?_)
  refine ev_dup dX12_init_353 rfl ?_
  refine ev_bipush (v := 9) dX12_init_354 (by decide) ?_
  refine ev_iconst (v := 2) dX12_init_356 (by decide) ?_
  refine bw_newa (k := 2) (N := 18) hB dX12_init_357 (ix_z (by decide) rfl) (by decide) (N1 := 19) rfl (fun μ hB => ?_)
  refine ev_dup dX12_init_359 rfl ?_
  refine ev_iconst (v := 0) dX12_init_360 (by decide) ?_
  refine ev_bipush (v := 111) dX12_init_361 (by decide) ?_
  refine bw_iast (i := 18) (j := 0) hB (by decide) rfl dX12_init_363 (ix_z (by decide) rfl) (Nat.le_of_ble_eq_true rfl) (fun μ hB => ?_)
  refine ev_dup dX12_init_364 rfl ?_
  refine ev_iconst (v := 1) dX12_init_365 (by decide) ?_
  refine ev_bipush (v := 114) dX12_init_366 (by decide) ?_
  refine bw_iast (i := 18) (j := 1) hB (by decide) rfl dX12_init_368 (ix_z (by decide) rfl) (Nat.le_of_ble_eq_true rfl) (fun μ hB => ?_)
  refine bw_aastI (i := 8) (j := 9) (v := 18) hB (by decide) (by decide) rfl rfl dX12_init_369 (ix_z (by decide) rfl) (Nat.le_of_ble_eq_true rfl) (fun μ hB => ?_)
  refine ev_dup dX12_init_370 rfl ?_
  refine ev_bipush (v := 10) dX12_init_371 (by decide) ?_
  refine ev_iconst (v := 3) dX12_init_373 (by decide) ?_
  refine bw_newa (k := 3) (N := 19) hB dX12_init_374 (ix_z (by decide) rfl) (by decide) (N1 := 20) rfl (fun μ hB => ?_)
  refine ev_dup dX12_init_376 rfl ?_
  refine ev_iconst (v := 0) dX12_init_377 (by decide) ?_
  refine ev_bipush (v := 97) dX12_init_378 (by decide) ?_
  refine bw_iast (i := 19) (j := 0) hB (by decide) rfl dX12_init_380 (ix_z (by decide) rfl) (Nat.le_of_ble_eq_true rfl) (fun μ hB => ?_)
  refine ev_dup dX12_init_381 rfl ?_
  refine ev_iconst (v := 1) dX12_init_382 (by decide) ?_
  refine ev_bipush (v := 110) dX12_init_383 (by decide) ?_
  refine bw_iast (i := 19) (j := 1) hB (by decide) rfl dX12_init_385 (ix_z (by decide) rfl) (Nat.le_of_ble_eq_true rfl) (fun μ hB => ?_)
  refine ev_dup dX12_init_386 rfl ?_
  refine ev_iconst (v := 2) dX12_init_387 (by decide) ?_
  refine ev_bipush (v := 100) dX12_init_388 (by decide) ?_
  refine bw_iast (i := 19) (j := 2) hB (by decide) rfl dX12_init_390 (ix_z (by decide) rfl) (Nat.le_of_ble_eq_true rfl) (fun μ hB => ?_)
  refine bw_aastI (i := 8) (j := 10) (v := 19) hB (by decide) (by decide) rfl rfl dX12_init_391 (ix_z (by decide) rfl) (Nat.le_of_ble_eq_true rfl) (fun μ hB => ?_)
  refine ev_dup dX12_init_392 rfl ?_
  refine ev_bipush (v := 11) dX12_init_393 (by decide) ?_
  refine ev_iconst (v := 3) dX12_init_395 (by decide) ?_
  refine bw_newa (k := 3) (N := 20) hB dX12_init_396 (ix_z (by decide) rfl) (by decide) (N1 := 21) rfl (fun μ hB => ?_)
  refine ev_dup dX12_init_398 rfl ?_
  refine ev_iconst (v := 0) dX12_init_399 (by decide) ?_
  refine ev_bipush (v := 110) dX12_init_400 (by decide) ?_
  refine bw_iast (i := 20) (j := 0) hB (by decide) rfl dX12_init_402 (ix_z (by decide) rfl) (Nat.le_of_ble_eq_true rfl) (fun μ hB => ?_)
  refine ev_dup dX12_init_403 rfl ?_
  refine ev_iconst (v := 1) dX12_init_404 (by decide) ?_
  refine ev_bipush (v := 111) dX12_init_405 (by decide) ?_
  refine bw_iast (i := 20) (j := 1) hB (by decide) rfl dX12_init_407 (ix_z (by decide) rfl) (Nat.le_of_ble_eq_true rfl) (fun μ hB => ?_)
  refine ev_dup dX12_init_408 rfl ?_
  refine ev_iconst (v := 2) dX12_init_409 (by decide) ?_
  refine ev_bipush (v := 116) dX12_init_410 (by decide) ?_
  refine bw_iast (i := 20) (j := 2) hB (by decide) rfl dX12_init_412 (ix_z (by decide) rfl) (Nat.le_of_ble_eq_true rfl) (fun μ hB => ?_)
  refine bw_aastI (i := 8) (j := 11) (v := 20) hB (by decide) (by decide) rfl rfl dX12_init_413 (ix_z (by decide) rfl) (Nat.le_of_ble_eq_true rfl) (fun μ hB => ?_)
  refine bw_putF (i := 0) (k := 9) hB (by decide) rfl dX12_init_414 fpX12_32_12 rfl (Nat.le_of_ble_eq_true rfl) rfl rfl (fun μ hB => ?_)
  refine go _ _ (hB.eq (fun j hj => ?_)) (by omega)
  match j, hj with
    | 0, _ => rfl
    | 1, _ => rfl
    | 2, _ => rfl
    | 3, _ => rfl
    | 4, _ => rfl
    | 5, _ => rfl
    | 6, _ => rfl
    | 7, _ => rfl
    | 8, _ => rfl
    | 9, _ => rfl
    | 10, _ => rfl
    | 11, _ => rfl
    | 12, _ => rfl
    | 13, _ => rfl
    | 14, _ => rfl
    | 15, _ => rfl
    | 16, _ => rfl
    | 17, _ => rfl
    | 18, _ => rfl
    | 19, _ => rfl
    | 20, _ => rfl
    | k + 21, h => exact absurd h (by omega)
theorem l_m12A {Q : Option Value → Mm → Prop} (hB : BW b 1 (cst z 0 (obj 12 [.null, .null, .null, .null, .null, .null, .null, .int 0, .int 0, .null, .null, .null, .null, .null, .null, .int 0, .int 0, .int 0, .int 0, .int 0, .int 0, .int 0, .int 0, .int 0, .null, .null, .int 0, .int 0, .null, .null, .int 0, .int 0, .int 0, .null, .null, .null, .null])) s μ0 μ) (go : ∀ (μ : Mm) (s' : Nat), BW b 8 (c12A b) s' μ0 μ → s' ≤ s + 100 → Ev g 3 mX12_init 105 [some (.ref b), none] [] μ Q) : Ev g 3 mX12_init 0 [some (.ref b), none] [] μ Q := by
  refine ev_aload_n dX12_init_0 rfl ?_
  refine ev_objInit dX12_init_1 (mt4 236 rfl rfl) (mt1 27 rfl rfl) (mt1 28 rfl rfl) (Nat.le_of_ble_eq_true rfl) ?_
  refine ev_aload_n dX12_init_4 rfl ?_
  refine ev_bipush (v := 7) dX12_init_5 (by decide) ?_
  refine bw_newa (k := 7) (N := 1) hB dX12_init_7 (ix_z (by decide) rfl) (by decide) (N1 := 2) rfl (fun μ hB => ?_)
  refine bw_putF (i := 0) (k := 0) hB (by decide) rfl dX12_init_9 fpX12_7_12 rfl (Nat.le_of_ble_eq_true rfl) rfl rfl (fun μ hB => ?_)
  refine ev_aload_n dX12_init_12 rfl ?_
  refine ev_bipush (v := 7) dX12_init_13 (by decide) ?_
  refine bw_newa (k := 7) (N := 2) hB dX12_init_15 (ix_z (by decide) rfl) (by decide) (N1 := 3) rfl (fun μ hB => ?_)
  refine bw_putF (i := 0) (k := 1) hB (by decide) rfl dX12_init_17 fpX12_13_12 rfl (Nat.le_of_ble_eq_true rfl) rfl rfl (fun μ hB => ?_)
  refine ev_aload_n dX12_init_20 rfl ?_
  refine ev_bipush (v := 7) dX12_init_21 (by decide) ?_
  refine bw_newa (k := 7) (N := 3) hB dX12_init_23 (ix_z (by decide) rfl) (by decide) (N1 := 4) rfl (fun μ hB => ?_)
  refine bw_putF (i := 0) (k := 2) hB (by decide) rfl dX12_init_25 fpX12_16_12 rfl (Nat.le_of_ble_eq_true rfl) rfl rfl (fun μ hB => ?_)
  refine ev_aload_n dX12_init_28 rfl ?_
  refine ev_bipush (v := 7) dX12_init_29 (by decide) ?_
  refine bw_newa (k := 7) (N := 4) hB dX12_init_31 (ix_z (by decide) rfl) (by decide) (N1 := 5) rfl (fun μ hB => ?_)
  refine bw_putF (i := 0) (k := 3) hB (by decide) rfl dX12_init_33 fpX12_19_12 rfl (Nat.le_of_ble_eq_true rfl) rfl rfl (fun μ hB => ?_)
  refine ev_aload_n dX12_init_36 rfl ?_
  refine ev_bipush (v := 7) dX12_init_37 (by decide) ?_
  refine bw_newa (k := 7) (N := 5) hB dX12_init_39 (ix_z (by decide) rfl) (by decide) (N1 := 6) rfl (fun μ hB => ?_)
  refine bw_putF (i := 0) (k := 4) hB (by decide) rfl dX12_init_41 fpX12_22_12 rfl (Nat.le_of_ble_eq_true rfl) rfl rfl (fun μ hB => ?_)
  refine ev_aload_n dX12_init_44 rfl ?_
  refine ev_bipush (v := 7) dX12_init_45 (by decide) ?_
  refine bw_newa (k := 7) (N := 6) hB dX12_init_47 (ix_z (by decide) rfl) (by decide) (N1 := 7) rfl (fun μ hB => ?_)
  refine bw_putF (i := 0) (k := 5) hB (by decide) rfl dX12_init_49 fpX12_25_12 rfl (Nat.le_of_ble_eq_true rfl) rfl rfl (fun μ hB => ?_)
  refine ev_aload_n dX12_init_52 rfl ?_
  refine ev_bipush (v := 10) dX12_init_53 (by decide) ?_
  refine bw_newa (k := 10) (N := 7) hB dX12_init_55 (ix_z (by decide) rfl) (by decide) (N1 := 8) rfl (fun μ hB => ?_)
  refine ev_dup dX12_init_57 rfl ?_
  refine ev_iconst (v := 0) dX12_init_58 (by decide) ?_
  refine ev_bipush (v := 12) dX12_init_59 (by decide) ?_
  refine bw_iast (i := 7) (j := 0) hB (by decide) rfl dX12_init_61 (ix_z (by decide) rfl) (Nat.le_of_ble_eq_true rfl) (fun μ hB => ?_)
  refine ev_dup dX12_init_62 rfl ?_
  refine ev_iconst (v := 1) dX12_init_63 (by decide) ?_
  refine ev_iconst (v := 0) dX12_init_64 (by decide) ?_
  refine bw_iast (i := 7) (j := 1) hB (by decide) rfl dX12_init_65 (ix_z (by decide) rfl) (Nat.le_of_ble_eq_true rfl) (fun μ hB => ?_)
  refine ev_dup dX12_init_66 rfl ?_
  refine ev_iconst (v := 2) dX12_init_67 (by decide) ?_
  refine ev_iconst (v := 0) dX12_init_68 (by decide) ?_
  refine bw_iast (i := 7) (j := 2) hB (by decide) rfl dX12_init_69 (ix_z (by decide) rfl) (Nat.le_of_ble_eq_true rfl) (fun μ hB => ?_)
  refine ev_dup dX12_init_70 rfl ?_
  refine ev_iconst (v := 3) dX12_init_71 (by decide) ?_
  refine ev_iconst (v := 4) dX12_init_72 (by decide) ?_
  refine bw_iast (i := 7) (j := 3) hB (by decide) rfl dX12_init_73 (ix_z (by decide) rfl) (Nat.le_of_ble_eq_true rfl) (fun μ hB => ?_)
  refine ev_dup dX12_init_74 rfl ?_
  refine ev_iconst (v := 4) dX12_init_75 (by decide) ?_
  refine ev_iconst (v := 1) dX12_init_76 (by decide) ?_
  refine bw_iast (i := 7) (j := 4) hB (by decide) rfl dX12_init_77 (ix_z (by decide) rfl) (Nat.le_of_ble_eq_true rfl) (fun μ hB => ?_)
  refine ev_dup dX12_init_78 rfl ?_
  refine ev_iconst (v := 5) dX12_init_79 (by decide) ?_
  refine ev_iconst (v := 0) dX12_init_80 (by decide) ?_
  refine bw_iast (i := 7) (j := 5) hB (by decide) rfl dX12_init_81 (ix_z (by decide) rfl) (Nat.le_of_ble_eq_true rfl) (fun μ hB => ?_)
  refine ev_dup dX12_init_82 rfl ?_
  refine ev_bipush (v := 6) dX12_init_83 (by decide) ?_
  refine ev_iconst (v := 1) dX12_init_85 (by decide) ?_
  refine bw_iast (i := 7) (j := 6) hB (by decide) rfl dX12_init_86 (ix_z (by decide) rfl) (Nat.le_of_ble_eq_true rfl) (fun μ hB => ?_)
  refine ev_dup dX12_init_87 rfl ?_
  refine ev_bipush (v := 7) dX12_init_88 (by decide) ?_
  refine ev_iconst (v := 2) dX12_init_90 (by decide) ?_
  refine bw_iast (i := 7) (j := 7) hB (by decide) rfl dX12_init_91 (ix_z (by decide) rfl) (Nat.le_of_ble_eq_true rfl) (fun μ hB => ?_)
  refine ev_dup dX12_init_92 rfl ?_
  refine ev_bipush (v := 8) dX12_init_93 (by decide) ?_
  refine ev_iconst (v := 3) dX12_init_95 (by decide) ?_
  refine bw_iast (i := 7) (j := 8) hB (by decide) rfl dX12_init_96 (ix_z (by decide) rfl) (Nat.le_of_ble_eq_true rfl) (fun μ hB => ?_)
  refine ev_dup dX12_init_97 rfl ?_
  refine ev_bipush (v := 9) dX12_init_98 (by decide) ?_
  refine ev_iconst (v := 4) dX12_init_100 (by decide) ?_
  refine bw_iast (i := 7) (j := 9) hB (by decide) rfl dX12_init_101 (ix_z (by decide) rfl) (Nat.le_of_ble_eq_true rfl) (fun μ hB => ?_)
  refine bw_putF (i := 0) (k := 6) hB (by decide) rfl dX12_init_102 fpX12_28_12 rfl (Nat.le_of_ble_eq_true rfl) rfl rfl (fun μ hB => ?_)
  refine go _ _ (hB.eq (fun j hj => ?_)) (by omega)
  match j, hj with
    | 0, _ => rfl
    | 1, _ => rfl
    | 2, _ => rfl
    | 3, _ => rfl
    | 4, _ => rfl
    | 5, _ => rfl
    | 6, _ => rfl
    | 7, _ => rfl
    | k + 8, h => exact absurd h (by omega)
end MINIT12
