-- NeedleHomes choices(II)J
theorem dX11_choices_0 : decode cX11_choices 0 = .ok (.iload_n 1, 1) := by decide +kernel
theorem dX11_choices_1 : decode cX11_choices 1 = .ok (.ifCond .lt 8, 3) := by decide +kernel
theorem dX11_choices_4 : decode cX11_choices 4 = .ok (.iload_n 1, 1) := by decide +kernel
theorem dX11_choices_5 : decode cX11_choices 5 = .ok (.iload_n 0, 1) := by decide +kernel
theorem dX11_choices_6 : decode cX11_choices 6 = .ok (.if_icmp .le 5, 3) := by decide +kernel
theorem dX11_choices_9 : decode cX11_choices 9 = .ok (.lconst 0, 1) := by decide +kernel
theorem dX11_choices_10 : decode cX11_choices 10 = .ok (.lreturn, 1) := by decide +kernel
theorem dX11_choices_11 : decode cX11_choices 11 = .ok (.lconst 1, 1) := by decide +kernel
theorem dX11_choices_12 : decode cX11_choices 12 = .ok (.lstore_n 2, 1) := by decide +kernel
theorem dX11_choices_13 : decode cX11_choices 13 = .ok (.iconst 1, 1) := by decide +kernel
theorem dX11_choices_14 : decode cX11_choices 14 = .ok (.istore 4, 2) := by decide +kernel
theorem dX11_choices_16 : decode cX11_choices 16 = .ok (.iload 4, 2) := by decide +kernel
theorem dX11_choices_18 : decode cX11_choices 18 = .ok (.iload_n 1, 1) := by decide +kernel
theorem dX11_choices_19 : decode cX11_choices 19 = .ok (.if_icmp .gt 23, 3) := by decide +kernel
theorem dX11_choices_22 : decode cX11_choices 22 = .ok (.lload_n 2, 1) := by decide +kernel
theorem dX11_choices_23 : decode cX11_choices 23 = .ok (.iload_n 0, 1) := by decide +kernel
theorem dX11_choices_24 : decode cX11_choices 24 = .ok (.iload_n 1, 1) := by decide +kernel
theorem dX11_choices_25 : decode cX11_choices 25 = .ok (.isub, 1) := by decide +kernel
theorem dX11_choices_26 : decode cX11_choices 26 = .ok (.iload 4, 2) := by decide +kernel
theorem dX11_choices_28 : decode cX11_choices 28 = .ok (.iadd, 1) := by decide +kernel
theorem dX11_choices_29 : decode cX11_choices 29 = .ok (.i2l, 1) := by decide +kernel
theorem dX11_choices_30 : decode cX11_choices 30 = .ok (.lmul, 1) := by decide +kernel
theorem dX11_choices_31 : decode cX11_choices 31 = .ok (.iload 4, 2) := by decide +kernel
theorem dX11_choices_33 : decode cX11_choices 33 = .ok (.i2l, 1) := by decide +kernel
theorem dX11_choices_34 : decode cX11_choices 34 = .ok (.ldiv, 1) := by decide +kernel
theorem dX11_choices_35 : decode cX11_choices 35 = .ok (.lstore_n 2, 1) := by decide +kernel
theorem dX11_choices_36 : decode cX11_choices 36 = .ok (.iinc 4 1, 3) := by decide +kernel
theorem dX11_choices_39 : decode cX11_choices 39 = .ok (.goto (-23), 3) := by decide +kernel
theorem dX11_choices_42 : decode cX11_choices 42 = .ok (.lload_n 2, 1) := by decide +kernel
theorem dX11_choices_43 : decode cX11_choices 43 = .ok (.lreturn, 1) := by decide +kernel
abbrev dpX11_choices : Nat := 0
def fX11_choices_16 (k16 : (Int32 × Int32 × Int64 × Int32) → St → Option (Int64 × St)) (x0 : Int32) (x1 : Int32) (x2 : Int64) (x4 : Int32) : St → Option (Int64 × St) :=
 br (x1 < x4) (rt x2)
 (dvJ x4.toInt64 <|
 k16 (x0, x1, ((x2 * (((x0 - x1) + x4).toInt64)) / x4.toInt64), (x4 + 1)))
set_option maxHeartbeats 4000000 in
set_option maxRecDepth 100000 in
theorem sfX11_choices_16 {E : Ev} {l : Launch} (k16 : (Int32 × Int32 × Int64 × Int32) → St → Option (Int64 × St)) (hk16 : ∀ p : Int32 × Int32 × Int64 × Int32, Snd E l (dpX11_choices, RX11, cX11_choices, 5, (some .long), "choices") rvJ 16 [(0, .int p.1), (1, .int p.2.1), (2, .long p.2.2.1), (4, .int p.2.2.2)] [] (k16 p)) (x0 : Int32) (x1 : Int32) (x2 : Int64) (x4 : Int32) : Snd E l (dpX11_choices, RX11, cX11_choices, 5, (some .long), "choices") rvJ 16 [(0, .int x0), (1, .int x1), (2, .long x2), (4, .int x4)] [] (fX11_choices_16 k16 x0 x1 x2 x4) := by
  unfold fX11_choices_16
  refine sn_iload (pc := 16) (j := 3) dX11_choices_16 rfl ?_
  refine sn_iload_n (pc := 18) (j := 1) dX11_choices_18 rfl rfl ?_
  refine sn_icmp_gt (pc := 19) (tgt := 42) dX11_choices_19 (by decide) ?_ ?_
  · refine sn_lload_n (pc := 42) (j := 2) dX11_choices_42 rfl rfl ?_
    exact sn_lret (pc := 43) dX11_choices_43 rfl
  · refine sn_lload_n (pc := 22) (j := 2) dX11_choices_22 rfl rfl ?_
    refine sn_iload_n (pc := 23) (j := 0) dX11_choices_23 rfl rfl ?_
    refine sn_iload_n (pc := 24) (j := 1) dX11_choices_24 rfl rfl ?_
    refine sn_isub (pc := 25) dX11_choices_25 ?_
    refine sn_iload (pc := 26) (j := 3) dX11_choices_26 rfl ?_
    refine sn_iadd (pc := 28) dX11_choices_28 ?_
    refine sn_i2l (pc := 29) dX11_choices_29 ?_
    refine sn_lmul (pc := 30) dX11_choices_30 ?_
    refine sn_iload (pc := 31) (j := 3) dX11_choices_31 rfl ?_
    refine sn_i2l (pc := 33) dX11_choices_33 ?_
    refine sn_ldiv (pc := 34) dX11_choices_34 ?_
    refine sn_lstore_n (pc := 35) (i := 2) (lv' := [(2, .long ((x2 * (((x0 - x1) + x4).toInt64)) / x4.toInt64)), (0, .int x0), (1, .int x1), (4, .int x4)]) dX11_choices_35 rfl (by decide) rfl ?_
    refine sn_iinc (pc := 36) (v := x4 + 1) (lv' := [(4, .int (x4 + 1)), (2, .long ((x2 * (((x0 - x1) + x4).toInt64)) / x4.toInt64)), (0, .int x0), (1, .int x1)]) (j := 3) dX11_choices_36 rfl rfl (by decide) rfl ?_
    refine sn_goto (pc := 39) (tgt := 16) dX11_choices_39 (by decide) ?_
    exact sn_sub (lv' := [(0, .int x0), (1, .int x1), (2, .long ((x2 * (((x0 - x1) + x4).toInt64)) / x4.toInt64)), (4, .int (x4 + 1))]) [2, 3, 1, 0] rfl (hk16 (x0, x1, ((x2 * (((x0 - x1) + x4).toInt64)) / x4.toInt64), (x4 + 1)))
def fX11_choices (x0 : Int32) (x1 : Int32) : St → Option (Int64 × St) :=
 br (x1 < 0) (rt 0)
 (br (x1 ≤ x0) (itr (fun k (p : Int32 × Int32 × Int64 × Int32) => fX11_choices_16  k p.1 p.2.1 p.2.2.1 p.2.2.2) FU (x0, x1, 1, 1))
 (rt 0))
set_option maxHeartbeats 4000000 in
set_option maxRecDepth 100000 in
theorem mX11_choices {E : Ev} {l : Launch} (x0 : Int32) (x1 : Int32) : MF E l dpX11_choices yX11_choices cX11_choices 5 (some .long) rvJ [.int x0, .int x1] (fX11_choices x0 x1) := by
  refine MF.of (lv := [(0, .int x0), (1, .int x1)]) (by decide) (Nat.le_of_ble_eq_true rfl) rfl ?_
  unfold fX11_choices
  refine sn_iload_n (pc := 0) (j := 1) dX11_choices_0 rfl rfl ?_
  refine sn_if_lt (pc := 1) (tgt := 9) dX11_choices_1 (by decide) ?_ ?_
  · refine sn_lconst (pc := 9) (v := 0) dX11_choices_9 (by decide) ?_
    exact sn_lret (pc := 10) dX11_choices_10 rfl
  · refine sn_iload_n (pc := 4) (j := 1) dX11_choices_4 rfl rfl ?_
    refine sn_iload_n (pc := 5) (j := 0) dX11_choices_5 rfl rfl ?_
    refine sn_icmp_le (pc := 6) (tgt := 11) dX11_choices_6 (by decide) ?_ ?_
    · refine sn_lconst (pc := 11) (v := 1) dX11_choices_11 (by decide) ?_
      refine sn_lstore_n (pc := 12) (i := 2) (lv' := [(2, .long 1), (0, .int x0), (1, .int x1)]) dX11_choices_12 rfl (by decide) rfl ?_
      refine sn_iconst (pc := 13) (v := 1) dX11_choices_13 (by decide) ?_
      refine sn_istore (pc := 14) (i := 4) (lv' := [(4, .int 1), (2, .long 1), (0, .int x0), (1, .int x1)]) dX11_choices_14 (by decide) rfl ?_
      exact sn_sub (lv' := [(0, .int x0), (1, .int x1), (2, .long 1), (4, .int 1)]) [2, 3, 1, 0] rfl (sn_itr (lvf := fun p => [(0, .int p.1), (1, .int p.2.1), (2, .long p.2.2.1), (4, .int p.2.2.2)]) (stf := fun p => []) (fun k hk p => sfX11_choices_16  k hk p.1 p.2.1 p.2.2.1 p.2.2.2) FU (x0, x1, 1, 1))
    · refine sn_lconst (pc := 9) (v := 0) dX11_choices_9 (by decide) ?_
      exact sn_lret (pc := 10) dX11_choices_10 rfl
theorem iX11_choices : MI yX11_choices cX11_choices 5 (some .long) 2 := ⟨wt1_1, wt5_138, by decide +kernel, by decide⟩
-- NeedleHomes isBeyondChance(III)Z
theorem dX11_isBeyondChance_0 : decode cX11_isBeyondChance 0 = .ok (.lconst 0, 1) := by decide +kernel
theorem dX11_isBeyondChance_1 : decode cX11_isBeyondChance 1 = .ok (.lstore_n 3, 1) := by decide +kernel
theorem dX11_isBeyondChance_2 : decode cX11_isBeyondChance 2 = .ok (.iload_n 2, 1) := by decide +kernel
theorem dX11_isBeyondChance_3 : decode cX11_isBeyondChance 3 = .ok (.istore 5, 2) := by decide +kernel
theorem dX11_isBeyondChance_5 : decode cX11_isBeyondChance 5 = .ok (.iload 5, 2) := by decide +kernel
theorem dX11_isBeyondChance_7 : decode cX11_isBeyondChance 7 = .ok (.iload_n 1, 1) := by decide +kernel
theorem dX11_isBeyondChance_8 : decode cX11_isBeyondChance 8 = .ok (.if_icmp .gt 30, 3) := by decide +kernel
theorem dX11_isBeyondChance_11 : decode cX11_isBeyondChance 11 = .ok (.lload_n 3, 1) := by decide +kernel
theorem dX11_isBeyondChance_12 : decode cX11_isBeyondChance 12 = .ok (.iload_n 0, 1) := by decide +kernel
theorem dX11_isBeyondChance_13 : decode cX11_isBeyondChance 13 = .ok (.iload 5, 2) := by decide +kernel
theorem dX11_isBeyondChance_15 : decode cX11_isBeyondChance 15 = .ok (.invokestatic 402, 3) := by decide +kernel
theorem dX11_isBeyondChance_18 : decode cX11_isBeyondChance 18 = .ok (.bipush 24, 2) := by decide +kernel
theorem dX11_isBeyondChance_20 : decode cX11_isBeyondChance 20 = .ok (.iload_n 0, 1) := by decide +kernel
theorem dX11_isBeyondChance_21 : decode cX11_isBeyondChance 21 = .ok (.isub, 1) := by decide +kernel
theorem dX11_isBeyondChance_22 : decode cX11_isBeyondChance 22 = .ok (.iload_n 1, 1) := by decide +kernel
theorem dX11_isBeyondChance_23 : decode cX11_isBeyondChance 23 = .ok (.iload 5, 2) := by decide +kernel
theorem dX11_isBeyondChance_25 : decode cX11_isBeyondChance 25 = .ok (.isub, 1) := by decide +kernel
theorem dX11_isBeyondChance_26 : decode cX11_isBeyondChance 26 = .ok (.invokestatic 402, 3) := by decide +kernel
theorem dX11_isBeyondChance_29 : decode cX11_isBeyondChance 29 = .ok (.lmul, 1) := by decide +kernel
theorem dX11_isBeyondChance_30 : decode cX11_isBeyondChance 30 = .ok (.ladd, 1) := by decide +kernel
theorem dX11_isBeyondChance_31 : decode cX11_isBeyondChance 31 = .ok (.lstore_n 3, 1) := by decide +kernel
theorem dX11_isBeyondChance_32 : decode cX11_isBeyondChance 32 = .ok (.iinc 5 1, 3) := by decide +kernel
theorem dX11_isBeyondChance_35 : decode cX11_isBeyondChance 35 = .ok (.goto (-30), 3) := by decide +kernel
theorem dX11_isBeyondChance_38 : decode cX11_isBeyondChance 38 = .ok (.ldc2_w 406, 3) := by decide +kernel
theorem dX11_isBeyondChance_41 : decode cX11_isBeyondChance 41 = .ok (.lload_n 3, 1) := by decide +kernel
theorem dX11_isBeyondChance_42 : decode cX11_isBeyondChance 42 = .ok (.lmul, 1) := by decide +kernel
theorem dX11_isBeyondChance_43 : decode cX11_isBeyondChance 43 = .ok (.bipush 24, 2) := by decide +kernel
theorem dX11_isBeyondChance_45 : decode cX11_isBeyondChance 45 = .ok (.iload_n 1, 1) := by decide +kernel
theorem dX11_isBeyondChance_46 : decode cX11_isBeyondChance 46 = .ok (.invokestatic 402, 3) := by decide +kernel
theorem dX11_isBeyondChance_49 : decode cX11_isBeyondChance 49 = .ok (.lcmp, 1) := by decide +kernel
theorem dX11_isBeyondChance_50 : decode cX11_isBeyondChance 50 = .ok (.ifCond .ge 7, 3) := by decide +kernel
theorem dX11_isBeyondChance_53 : decode cX11_isBeyondChance 53 = .ok (.iconst 1, 1) := by decide +kernel
theorem dX11_isBeyondChance_54 : decode cX11_isBeyondChance 54 = .ok (.goto 4, 3) := by decide +kernel
theorem dX11_isBeyondChance_57 : decode cX11_isBeyondChance 57 = .ok (.iconst 0, 1) := by decide +kernel
theorem dX11_isBeyondChance_58 : decode cX11_isBeyondChance 58 = .ok (.ireturn, 1) := by decide +kernel
abbrev dpX11_isBeyondChance : Nat := 1
def fX11_isBeyondChance_5 (k5 : (Int32 × Int32 × Int64 × Int32) → St → Option (Bool × St)) (x0 : Int32) (x1 : Int32) (x3 : Int64) (x5 : Int32) : St → Option (Bool × St) :=
 br (x1 < x5) (cl (fX11_choices 24 x1) fun v1001 =>
 br (0 ≤ (lg_cmp (1000 * x3) v1001)) (rtZ 0)
 (rtZ 1))
 (cl (fX11_choices x0 x5) fun v1002 =>
 cl (fX11_choices (24 - x0) (x1 - x5)) fun v1003 =>
 k5 (x0, x1, (x3 + (v1002 * v1003)), (x5 + 1)))
set_option maxHeartbeats 4000000 in
set_option maxRecDepth 100000 in
theorem sfX11_isBeyondChance_5 {E : Ev} {l : Launch} (k5 : (Int32 × Int32 × Int64 × Int32) → St → Option (Bool × St)) (hk5 : ∀ p : Int32 × Int32 × Int64 × Int32, Snd E l (dpX11_isBeyondChance, RX11, cX11_isBeyondChance, 6, (some .boolean), "isBeyondChance") rvZ 5 [(0, .int p.1), (1, .int p.2.1), (3, .long p.2.2.1), (5, .int p.2.2.2)] [] (k5 p)) (x0 : Int32) (x1 : Int32) (x3 : Int64) (x5 : Int32) : Snd E l (dpX11_isBeyondChance, RX11, cX11_isBeyondChance, 6, (some .boolean), "isBeyondChance") rvZ 5 [(0, .int x0), (1, .int x1), (3, .long x3), (5, .int x5)] [] (fX11_isBeyondChance_5 k5 x0 x1 x3 x5) := by
  unfold fX11_isBeyondChance_5
  refine sn_iload (pc := 5) (j := 3) dX11_isBeyondChance_5 rfl ?_
  refine sn_iload_n (pc := 7) (j := 1) dX11_isBeyondChance_7 rfl rfl ?_
  refine sn_icmp_gt (pc := 8) (tgt := 38) dX11_isBeyondChance_8 (by decide) ?_ ?_
  · refine sn_ldc2 (pc := 38) (v := 1000) dX11_isBeyondChance_38 wt5_139 ?_
    refine sn_lload_n (pc := 41) (j := 2) dX11_isBeyondChance_41 rfl rfl ?_
    refine sn_lmul (pc := 42) dX11_isBeyondChance_42 ?_
    refine sn_bipush (pc := 43) (v := 24) dX11_isBeyondChance_43 (by decide) ?_
    refine sn_iload_n (pc := 45) (j := 1) dX11_isBeyondChance_45 rfl rfl ?_
    refine sn_callS (pc := 46) dX11_isBeyondChance_46 iX11_choices wt5_137 wt5_136 (mX11_choices 24 x1) (by decide) rfl rfl (Nat.le_of_ble_eq_true rfl) (fun v1001 => ?_)
    refine sn_lcmp (pc := 49) dX11_isBeyondChance_49 ?_
    refine sn_if_ge (pc := 50) (tgt := 57) dX11_isBeyondChance_50 (by decide) ?_ ?_
    · refine sn_iconst (pc := 57) (v := 0) dX11_isBeyondChance_57 (by decide) ?_
      exact sn_zret (pc := 58) dX11_isBeyondChance_58 rfl
    · refine sn_iconst (pc := 53) (v := 1) dX11_isBeyondChance_53 (by decide) ?_
      refine sn_goto (pc := 54) (tgt := 58) dX11_isBeyondChance_54 (by decide) ?_
      exact sn_zret (pc := 58) dX11_isBeyondChance_58 rfl
  · refine sn_lload_n (pc := 11) (j := 2) dX11_isBeyondChance_11 rfl rfl ?_
    refine sn_iload_n (pc := 12) (j := 0) dX11_isBeyondChance_12 rfl rfl ?_
    refine sn_iload (pc := 13) (j := 3) dX11_isBeyondChance_13 rfl ?_
    refine sn_callS (pc := 15) dX11_isBeyondChance_15 iX11_choices wt5_137 wt5_136 (mX11_choices x0 x5) (by decide) rfl rfl (Nat.le_of_ble_eq_true rfl) (fun v1002 => ?_)
    refine sn_bipush (pc := 18) (v := 24) dX11_isBeyondChance_18 (by decide) ?_
    refine sn_iload_n (pc := 20) (j := 0) dX11_isBeyondChance_20 rfl rfl ?_
    refine sn_isub (pc := 21) dX11_isBeyondChance_21 ?_
    refine sn_iload_n (pc := 22) (j := 1) dX11_isBeyondChance_22 rfl rfl ?_
    refine sn_iload (pc := 23) (j := 3) dX11_isBeyondChance_23 rfl ?_
    refine sn_isub (pc := 25) dX11_isBeyondChance_25 ?_
    refine sn_callS (pc := 26) dX11_isBeyondChance_26 iX11_choices wt5_137 wt5_136 (mX11_choices (24 - x0) (x1 - x5)) (by decide) rfl rfl (Nat.le_of_ble_eq_true rfl) (fun v1003 => ?_)
    refine sn_lmul (pc := 29) dX11_isBeyondChance_29 ?_
    refine sn_ladd (pc := 30) dX11_isBeyondChance_30 ?_
    refine sn_lstore_n (pc := 31) (i := 3) (lv' := [(3, .long (x3 + (v1002 * v1003))), (0, .int x0), (1, .int x1), (5, .int x5)]) dX11_isBeyondChance_31 rfl (by decide) rfl ?_
    refine sn_iinc (pc := 32) (v := x5 + 1) (lv' := [(5, .int (x5 + 1)), (3, .long (x3 + (v1002 * v1003))), (0, .int x0), (1, .int x1)]) (j := 3) dX11_isBeyondChance_32 rfl rfl (by decide) rfl ?_
    refine sn_goto (pc := 35) (tgt := 5) dX11_isBeyondChance_35 (by decide) ?_
    exact sn_sub (lv' := [(0, .int x0), (1, .int x1), (3, .long (x3 + (v1002 * v1003))), (5, .int (x5 + 1))]) [2, 3, 1, 0] rfl (hk5 (x0, x1, (x3 + (v1002 * v1003)), (x5 + 1)))
def fX11_isBeyondChance (x0 : Int32) (x1 : Int32) (x2 : Int32) : St → Option (Bool × St) :=
 itr (fun k (p : Int32 × Int32 × Int64 × Int32) => fX11_isBeyondChance_5  k p.1 p.2.1 p.2.2.1 p.2.2.2) FU (x0, x1, 0, x2)
set_option maxHeartbeats 4000000 in
set_option maxRecDepth 100000 in
theorem mX11_isBeyondChance {E : Ev} {l : Launch} (x0 : Int32) (x1 : Int32) (x2 : Int32) : MF E l dpX11_isBeyondChance yX11_isBeyondChance cX11_isBeyondChance 6 (some .boolean) rvZ [.int x0, .int x1, .int x2] (fX11_isBeyondChance x0 x1 x2) := by
  refine MF.of (lv := [(0, .int x0), (1, .int x1), (2, .int x2)]) (by decide) (Nat.le_of_ble_eq_true rfl) rfl ?_
  unfold fX11_isBeyondChance
  refine sn_lconst (pc := 0) (v := 0) dX11_isBeyondChance_0 (by decide) ?_
  refine sn_lstore_n (pc := 1) (i := 3) (lv' := [(3, .long 0), (0, .int x0), (1, .int x1), (2, .int x2)]) dX11_isBeyondChance_1 rfl (by decide) rfl ?_
  refine sn_iload_n (pc := 2) (j := 3) dX11_isBeyondChance_2 rfl rfl ?_
  refine sn_istore (pc := 3) (i := 5) (lv' := [(5, .int x2), (3, .long 0), (0, .int x0), (1, .int x1), (2, .int x2)]) dX11_isBeyondChance_3 (by decide) rfl ?_
  exact sn_sub (lv' := [(0, .int x0), (1, .int x1), (3, .long 0), (5, .int x2)]) [2, 3, 1, 0] rfl (sn_itr (lvf := fun p => [(0, .int p.1), (1, .int p.2.1), (3, .long p.2.2.1), (5, .int p.2.2.2)]) (stf := fun p => []) (fun k hk p => sfX11_isBeyondChance_5  k hk p.1 p.2.1 p.2.2.1 p.2.2.2) FU (x0, x1, 0, x2))
theorem iX11_isBeyondChance : MI yX11_isBeyondChance cX11_isBeyondChance 6 (some .boolean) 3 := ⟨wt1_1, wt5_135, by decide +kernel, by decide⟩
-- NeedleHomes stolen(III)I
theorem dX11_stolen_0 : decode cX11_stolen 0 = .ok (.aload_n 0, 1) := by decide +kernel
theorem dX11_stolen_1 : decode cX11_stolen 1 = .ok (.getfield 12, 3) := by decide +kernel
theorem dX11_stolen_4 : decode cX11_stolen 4 = .ok (.iload_n 1, 1) := by decide +kernel
theorem dX11_stolen_5 : decode cX11_stolen 5 = .ok (.invokevirtual 131, 3) := by decide +kernel
theorem dX11_stolen_8 : decode cX11_stolen 8 = .ok (.astore 4, 2) := by decide +kernel
theorem dX11_stolen_10 : decode cX11_stolen 10 = .ok (.aload_n 0, 1) := by decide +kernel
theorem dX11_stolen_11 : decode cX11_stolen 11 = .ok (.getfield 12, 3) := by decide +kernel
theorem dX11_stolen_14 : decode cX11_stolen 14 = .ok (.iload_n 2, 1) := by decide +kernel
theorem dX11_stolen_15 : decode cX11_stolen 15 = .ok (.invokevirtual 131, 3) := by decide +kernel
theorem dX11_stolen_18 : decode cX11_stolen 18 = .ok (.astore 5, 2) := by decide +kernel
theorem dX11_stolen_20 : decode cX11_stolen 20 = .ok (.aload 4, 2) := by decide +kernel
theorem dX11_stolen_22 : decode cX11_stolen 22 = .ok (.ifnull 13, 3) := by decide +kernel
theorem dX11_stolen_25 : decode cX11_stolen 25 = .ok (.aload 5, 2) := by decide +kernel
theorem dX11_stolen_27 : decode cX11_stolen 27 = .ok (.ifnull 8, 3) := by decide +kernel
theorem dX11_stolen_30 : decode cX11_stolen 30 = .ok (.iload_n 1, 1) := by decide +kernel
theorem dX11_stolen_31 : decode cX11_stolen 31 = .ok (.iload_n 2, 1) := by decide +kernel
theorem dX11_stolen_32 : decode cX11_stolen 32 = .ok (.if_icmp .ne 5, 3) := by decide +kernel
theorem dX11_stolen_35 : decode cX11_stolen 35 = .ok (.iconst (-1), 1) := by decide +kernel
theorem dX11_stolen_36 : decode cX11_stolen 36 = .ok (.ireturn, 1) := by decide +kernel
theorem dX11_stolen_37 : decode cX11_stolen 37 = .ok (.aload 4, 2) := by decide +kernel
theorem dX11_stolen_39 : decode cX11_stolen 39 = .ok (.getfield 148, 3) := by decide +kernel
theorem dX11_stolen_42 : decode cX11_stolen 42 = .ok (.aload 5, 2) := by decide +kernel
theorem dX11_stolen_44 : decode cX11_stolen 44 = .ok (.getfield 148, 3) := by decide +kernel
theorem dX11_stolen_47 : decode cX11_stolen 47 = .ok (.iand, 1) := by decide +kernel
theorem dX11_stolen_48 : decode cX11_stolen 48 = .ok (.invokestatic 340, 3) := by decide +kernel
theorem dX11_stolen_51 : decode cX11_stolen 51 = .ok (.istore 6, 2) := by decide +kernel
theorem dX11_stolen_53 : decode cX11_stolen 53 = .ok (.iload_n 3, 1) := by decide +kernel
theorem dX11_stolen_54 : decode cX11_stolen 54 = .ok (.lookupswitch 59 #[(0, 26), (1, 29)], 26) := by decide +kernel
theorem dX11_stolen_80 : decode cX11_stolen 80 = .ok (.iload 6, 2) := by decide +kernel
theorem dX11_stolen_82 : decode cX11_stolen 82 = .ok (.ireturn, 1) := by decide +kernel
theorem dX11_stolen_83 : decode cX11_stolen 83 = .ok (.aload 4, 2) := by decide +kernel
theorem dX11_stolen_85 : decode cX11_stolen 85 = .ok (.getfield 148, 3) := by decide +kernel
theorem dX11_stolen_88 : decode cX11_stolen 88 = .ok (.invokestatic 340, 3) := by decide +kernel
theorem dX11_stolen_91 : decode cX11_stolen 91 = .ok (.aload 5, 2) := by decide +kernel
theorem dX11_stolen_93 : decode cX11_stolen 93 = .ok (.getfield 148, 3) := by decide +kernel
theorem dX11_stolen_96 : decode cX11_stolen 96 = .ok (.invokestatic 340, 3) := by decide +kernel
theorem dX11_stolen_99 : decode cX11_stolen 99 = .ok (.iload 6, 2) := by decide +kernel
theorem dX11_stolen_101 : decode cX11_stolen 101 = .ok (.invokestatic 345, 3) := by decide +kernel
theorem dX11_stolen_104 : decode cX11_stolen 104 = .ok (.ifCond .eq 7, 3) := by decide +kernel
theorem dX11_stolen_107 : decode cX11_stolen 107 = .ok (.iconst 1, 1) := by decide +kernel
theorem dX11_stolen_108 : decode cX11_stolen 108 = .ok (.goto 4, 3) := by decide +kernel
theorem dX11_stolen_111 : decode cX11_stolen 111 = .ok (.iconst 0, 1) := by decide +kernel
theorem dX11_stolen_112 : decode cX11_stolen 112 = .ok (.ireturn, 1) := by decide +kernel
theorem dX11_stolen_113 : decode cX11_stolen 113 = .ok (.iconst (-1), 1) := by decide +kernel
theorem dX11_stolen_114 : decode cX11_stolen 114 = .ok (.ireturn, 1) := by decide +kernel
abbrev dpX11_stolen : Nat := 2
def fX11_stolen (a0 : Nat) (x1 : Int32) (x2 : Int32) (x3 : Int32) : St → Option (Int32 × St) :=
 gR 12 a0 0 fun v1 =>
 nn v1 fun a2 =>
 ck 11 a2 <| cl (fX10_patternAt a2 x1) fun v3 =>
 gR 12 a0 0 fun v4 =>
 nn v4 fun a5 =>
 ck 11 a5 <| cl (fX10_patternAt a5 x2) fun v6 =>
 on v3 (rt (-1))
 fun a7 => on v6 (rt (-1))
 fun a8 => br (x1 = x2) (rt (-1))
 (gI 6 a7 1 fun v9 =>
 gI 6 a8 1 fun v10 =>
 cl (fJ6_bitCount_0f7a4 (v9 &&& v10)) fun v11 =>
 br (x3 = 0) (rt v11) <|
 br (x3 = 1) (gI 6 a7 1 fun v12 =>
 cl (fJ6_bitCount_0f7a4 v12) fun v13 =>
 gI 6 a8 1 fun v14 =>
 cl (fJ6_bitCount_0f7a4 v14) fun v15 =>
 cl (fX11_isBeyondChance v13 v15 v11) fun v16 =>
 br ((bi v16) = 0) (rt 0)
 (rt 1)) <|
 (rt (-1)))
set_option maxHeartbeats 4000000 in
set_option maxRecDepth 100000 in
theorem mX11_stolen {E : Ev} {l : Launch} (a0 : Nat) (x1 : Int32) (x2 : Int32) (x3 : Int32) : MF E l dpX11_stolen yX11_stolen cX11_stolen 7 (some .int) rvI [.ref (E.1 + a0), .int x1, .int x2, .int x3] (fX11_stolen a0 x1 x2 x3) := by
  refine MF.of (lv := [(0, .ref (E.1 + a0)), (1, .int x1), (2, .int x2), (3, .int x3)]) (by decide) (Nat.le_of_ble_eq_true rfl) rfl ?_
  unfold fX11_stolen
  refine sn_aload_n (pc := 0) (j := 0) dX11_stolen_0 rfl rfl ?_
  refine sn_gR (pc := 1) dX11_stolen_1 flX11_12 rfl (fun v1 => ?_)
  refine sn_iload_n (pc := 4) (j := 1) dX11_stolen_4 rfl rfl ?_
  rcases v1 with _ | a2
  · exact sn_no
  refine sn_nn ?_
  refine sn_callV (ci := 10) (pc := 5) dX11_stolen_5 iX10_patternAt wt3_193 wt3_194 wt3_192 ⟨_, rfl, rfl⟩ (by decide) (mX10_patternAt a2 x1) (by decide) rfl rfl (Nat.le_of_ble_eq_true rfl) (fun v3 => ?_)
  refine sn_astoreR (pc := 8) (r := v3) (i := 4) (lv' := [(4, rf E.1 v3), (0, .ref (E.1 + a0)), (1, .int x1), (2, .int x2), (3, .int x3)]) dX11_stolen_8 (by decide) rfl ?_
  refine sn_aload_n (pc := 10) (j := 1) dX11_stolen_10 rfl rfl ?_
  refine sn_gR (pc := 11) dX11_stolen_11 flX11_12 rfl (fun v4 => ?_)
  refine sn_iload_n (pc := 14) (j := 3) dX11_stolen_14 rfl rfl ?_
  rcases v4 with _ | a5
  · exact sn_no
  refine sn_nn ?_
  refine sn_callV (ci := 10) (pc := 15) dX11_stolen_15 iX10_patternAt wt3_193 wt3_194 wt3_192 ⟨_, rfl, rfl⟩ (by decide) (mX10_patternAt a5 x2) (by decide) rfl rfl (Nat.le_of_ble_eq_true rfl) (fun v6 => ?_)
  refine sn_astoreR (pc := 18) (r := v6) (i := 5) (lv' := [(5, rf E.1 v6), (4, rf E.1 v3), (0, .ref (E.1 + a0)), (1, .int x1), (2, .int x2), (3, .int x3)]) dX11_stolen_18 (by decide) (by simp [rf_some, rf_cat, cat_int, cat_long, cat_ref]) ?_
  refine sn_aloadR (pc := 20) (r := v3) (j := 1) dX11_stolen_20 rfl ?_
  rcases v3 with _ | a7
  · refine sn_onN ?_
    refine sn_ifnull_n (pc := 22) (tgt := 35) dX11_stolen_22 (by decide) ?_
    refine sn_iconst (pc := 35) (v := (-1)) dX11_stolen_35 (by decide) ?_
    exact sn_iret (pc := 36) dX11_stolen_36 rfl
  · refine sn_onS ?_
    refine sn_ifnull_s (pc := 22) dX11_stolen_22 ?_
    refine sn_aloadR (pc := 25) (r := v6) (j := 0) dX11_stolen_25 rfl ?_
    rcases v6 with _ | a8
    · refine sn_onN ?_
      refine sn_ifnull_n (pc := 27) (tgt := 35) dX11_stolen_27 (by decide) ?_
      refine sn_iconst (pc := 35) (v := (-1)) dX11_stolen_35 (by decide) ?_
      exact sn_iret (pc := 36) dX11_stolen_36 rfl
    · refine sn_onS ?_
      refine sn_ifnull_s (pc := 27) dX11_stolen_27 ?_
      refine sn_iload_n (pc := 30) (j := 3) dX11_stolen_30 rfl rfl ?_
      refine sn_iload_n (pc := 31) (j := 4) dX11_stolen_31 rfl rfl ?_
      refine sn_icmp_ne (pc := 32) (tgt := 37) dX11_stolen_32 (by decide) ?_ ?_
      · refine sn_aload (pc := 37) (j := 1) dX11_stolen_37 rfl ?_
        refine sn_gI (pc := 39) dX11_stolen_39 flX11_148 rfl (fun v9 => ?_)
        refine sn_aload (pc := 42) (j := 0) dX11_stolen_42 rfl ?_
        refine sn_gI (pc := 44) dX11_stolen_44 flX11_148 rfl (fun v10 => ?_)
        refine sn_iand (pc := 47) dX11_stolen_47 ?_
        refine sn_callS (pc := 48) dX11_stolen_48 iJ6_bitCount_0f7a4 wt5_72 wt5_132 (mJ6_bitCount_0f7a4 (v9 &&& v10)) (by decide) rfl rfl (Nat.le_of_ble_eq_true rfl) (fun v11 => ?_)
        refine sn_istore (pc := 51) (i := 6) (lv' := [(6, .int v11), (5, .ref (E.1 + a8)), (4, .ref (E.1 + a7)), (0, .ref (E.1 + a0)), (1, .int x1), (2, .int x2), (3, .int x3)]) dX11_stolen_51 (by decide) rfl ?_
        refine sn_iload_n (pc := 53) (j := 6) dX11_stolen_53 rfl rfl ?_
        refine sw_start ?_
        refine sw_lcase (tgt := 80) 0 dX11_stolen_54 (by decide) rfl (by decide) ?_ ?_
        · refine sn_iload (pc := 80) (j := 0) dX11_stolen_80 rfl ?_
          exact sn_iret (pc := 82) dX11_stolen_82 rfl
        refine sw_lcase (tgt := 83) 1 dX11_stolen_54 (by decide) rfl (by decide) ?_ ?_
        · refine sn_aload (pc := 83) (j := 2) dX11_stolen_83 rfl ?_
          refine sn_gI (pc := 85) dX11_stolen_85 flX11_148 rfl (fun v12 => ?_)
          refine sn_callS (pc := 88) dX11_stolen_88 iJ6_bitCount_0f7a4 wt5_72 wt5_132 (mJ6_bitCount_0f7a4 v12) (by decide) rfl rfl (Nat.le_of_ble_eq_true rfl) (fun v13 => ?_)
          refine sn_aload (pc := 91) (j := 1) dX11_stolen_91 rfl ?_
          refine sn_gI (pc := 93) dX11_stolen_93 flX11_148 rfl (fun v14 => ?_)
          refine sn_callS (pc := 96) dX11_stolen_96 iJ6_bitCount_0f7a4 wt5_72 wt5_132 (mJ6_bitCount_0f7a4 v14) (by decide) rfl rfl (Nat.le_of_ble_eq_true rfl) (fun v15 => ?_)
          refine sn_iload (pc := 99) (j := 0) dX11_stolen_99 rfl ?_
          refine sn_callS (pc := 101) dX11_stolen_101 iX11_isBeyondChance wt5_134 wt5_133 (mX11_isBeyondChance v13 v15 v11) (by decide) rfl rfl (Nat.le_of_ble_eq_true rfl) (fun v16 => ?_)
          refine sn_if_eq (pc := 104) (tgt := 111) dX11_stolen_104 (by decide) ?_ ?_
          · refine sn_iconst (pc := 111) (v := 0) dX11_stolen_111 (by decide) ?_
            exact sn_iret (pc := 112) dX11_stolen_112 rfl
          · refine sn_iconst (pc := 107) (v := 1) dX11_stolen_107 (by decide) ?_
            refine sn_goto (pc := 108) (tgt := 112) dX11_stolen_108 (by decide) ?_
            exact sn_iret (pc := 112) dX11_stolen_112 rfl
        refine sw_ldflt (tgt := 113) dX11_stolen_54 (by decide) (fun hc => ?_) (by decide) ?_
        · obtain ⟨⟨-, q0⟩, q1⟩ := hc
          have q0 := ne_toInt q0
          have q1 := ne_toInt q1
          have e0 : (0 : Int32).toInt = 0 := by decide
          have e1 : (1 : Int32).toInt = 1 := by decide
          rw [e0] at q0
          rw [e1] at q1
          simp [Op.lookupswitch.offset, Ne.symm q0, Ne.symm q1]
        · refine sn_iconst (pc := 113) (v := (-1)) dX11_stolen_113 (by decide) ?_
          exact sn_iret (pc := 114) dX11_stolen_114 rfl
      · refine sn_iconst (pc := 35) (v := (-1)) dX11_stolen_35 (by decide) ?_
        exact sn_iret (pc := 36) dX11_stolen_36 rfl
theorem iX11_stolen : MI yX11_stolen cX11_stolen 7 (some .int) 3 := ⟨wt1_1, wt5_131, by decide +kernel, by decide⟩
-- NeedleHomes time(II)Z
theorem dX11_time_0 : decode cX11_time 0 = .ok (.iload_n 1, 1) := by decide +kernel
theorem dX11_time_1 : decode cX11_time 1 = .ok (.invokestatic 135, 3) := by decide +kernel
theorem dX11_time_4 : decode cX11_time 4 = .ok (.ifCond .eq 14, 3) := by decide +kernel
theorem dX11_time_7 : decode cX11_time 7 = .ok (.iload_n 2, 1) := by decide +kernel
theorem dX11_time_8 : decode cX11_time 8 = .ok (.iconst 1, 1) := by decide +kernel
theorem dX11_time_9 : decode cX11_time 9 = .ok (.sipush 9999, 3) := by decide +kernel
theorem dX11_time_12 : decode cX11_time 12 = .ok (.invokestatic 67, 3) := by decide +kernel
theorem dX11_time_15 : decode cX11_time 15 = .ok (.ifCond .ne 5, 3) := by decide +kernel
theorem dX11_time_18 : decode cX11_time 18 = .ok (.iconst 0, 1) := by decide +kernel
theorem dX11_time_19 : decode cX11_time 19 = .ok (.ireturn, 1) := by decide +kernel
theorem dX11_time_20 : decode cX11_time 20 = .ok (.aload_n 0, 1) := by decide +kernel
theorem dX11_time_21 : decode cX11_time 21 = .ok (.getfield 12, 3) := by decide +kernel
theorem dX11_time_24 : decode cX11_time 24 = .ok (.getfield 348, 3) := by decide +kernel
theorem dX11_time_27 : decode cX11_time 27 = .ok (.iload_n 1, 1) := by decide +kernel
theorem dX11_time_28 : decode cX11_time 28 = .ok (.iload_n 2, 1) := by decide +kernel
theorem dX11_time_29 : decode cX11_time 29 = .ok (.iastore, 1) := by decide +kernel
theorem dX11_time_30 : decode cX11_time 30 = .ok (.iconst 1, 1) := by decide +kernel
theorem dX11_time_31 : decode cX11_time 31 = .ok (.ireturn, 1) := by decide +kernel
abbrev dpX11_time : Nat := 2
def fX11_time (a0 : Nat) (x1 : Int32) (x2 : Int32) : St → Option (Bool × St) :=
 cl (fX11_isStitch x1) fun v1 =>
 br ((bi v1) = 0) (rtZ 0)
 (cl (fX11_within x2 1 9999) fun v2 =>
 br ((bi v2) = 0) (rtZ 0)
 (gR 12 a0 0 fun v3 =>
 nn v3 fun a5 =>
 gR 11 a5 13 fun v4 =>
 nn v4 fun a6 =>
 wI a6 x1 x2 <|
 rtZ 1))
set_option maxHeartbeats 4000000 in
set_option maxRecDepth 100000 in
theorem mX11_time {E : Ev} {l : Launch} (a0 : Nat) (x1 : Int32) (x2 : Int32) : MF E l dpX11_time yX11_time cX11_time 3 (some .boolean) rvZ [.ref (E.1 + a0), .int x1, .int x2] (fX11_time a0 x1 x2) := by
  refine MF.of (lv := [(0, .ref (E.1 + a0)), (1, .int x1), (2, .int x2)]) (by decide) (Nat.le_of_ble_eq_true rfl) rfl ?_
  unfold fX11_time
  refine sn_iload_n (pc := 0) (j := 1) dX11_time_0 rfl rfl ?_
  refine sn_callS (pc := 1) dX11_time_1 iX11_isStitch wt3_197 wt3_196 (mX11_isStitch x1) (by decide) rfl rfl (Nat.le_of_ble_eq_true rfl) (fun v1 => ?_)
  refine sn_if_eq (pc := 4) (tgt := 18) dX11_time_4 (by decide) ?_ ?_
  · refine sn_iconst (pc := 18) (v := 0) dX11_time_18 (by decide) ?_
    exact sn_zret (pc := 19) dX11_time_19 rfl
  · refine sn_iload_n (pc := 7) (j := 2) dX11_time_7 rfl rfl ?_
    refine sn_iconst (pc := 8) (v := 1) dX11_time_8 (by decide) ?_
    refine sn_sipush (pc := 9) (v := 9999) dX11_time_9 (by decide) ?_
    refine sn_callS (pc := 12) dX11_time_12 iX11_within wt2_96 wt2_95 (mX11_within x2 1 9999) (by decide) rfl rfl (Nat.le_of_ble_eq_true rfl) (fun v2 => ?_)
    refine sn_if_ne (pc := 15) (tgt := 20) dX11_time_15 (by decide) ?_ ?_
    · refine sn_aload_n (pc := 20) (j := 0) dX11_time_20 rfl rfl ?_
      refine sn_gR (pc := 21) dX11_time_21 flX11_12 rfl (fun v3 => ?_)
      rcases v3 with _ | a5
      · exact sn_no
      refine sn_nn ?_
      refine sn_gR (pc := 24) dX11_time_24 flX11_348 rfl (fun v4 => ?_)
      refine sn_iload_n (pc := 27) (j := 1) dX11_time_27 rfl rfl ?_
      refine sn_iload_n (pc := 28) (j := 2) dX11_time_28 rfl rfl ?_
      rcases v4 with _ | a6
      · exact sn_no
      refine sn_nn ?_
      refine sn_iast (pc := 29) dX11_time_29 ?_
      refine sn_iconst (pc := 30) (v := 1) dX11_time_30 (by decide) ?_
      exact sn_zret (pc := 31) dX11_time_31 rfl
    · refine sn_iconst (pc := 18) (v := 0) dX11_time_18 (by decide) ?_
      exact sn_zret (pc := 19) dX11_time_19 rfl
theorem iX11_time : MI yX11_time cX11_time 3 (some .boolean) 2 := ⟨wt1_1, wt5_143, by decide +kernel, by decide⟩
-- NeedleHomes even(III)I
theorem dX11_even_0 : decode cX11_even 0 = .ok (.iload_n 1, 1) := by decide +kernel
theorem dX11_even_1 : decode cX11_even 1 = .ok (.invokestatic 110, 3) := by decide +kernel
theorem dX11_even_4 : decode cX11_even 4 = .ok (.ifCond .eq 39, 3) := by decide +kernel
theorem dX11_even_7 : decode cX11_even 7 = .ok (.iload_n 2, 1) := by decide +kernel
theorem dX11_even_8 : decode cX11_even 8 = .ok (.iconst 0, 1) := by decide +kernel
theorem dX11_even_9 : decode cX11_even 9 = .ok (.bipush 99, 2) := by decide +kernel
theorem dX11_even_11 : decode cX11_even 11 = .ok (.invokestatic 67, 3) := by decide +kernel
theorem dX11_even_14 : decode cX11_even 14 = .ok (.ifCond .eq 29, 3) := by decide +kernel
theorem dX11_even_17 : decode cX11_even 17 = .ok (.iload_n 3, 1) := by decide +kernel
theorem dX11_even_18 : decode cX11_even 18 = .ok (.iconst 0, 1) := by decide +kernel
theorem dX11_even_19 : decode cX11_even 19 = .ok (.bipush 7, 2) := by decide +kernel
theorem dX11_even_21 : decode cX11_even 21 = .ok (.invokestatic 67, 3) := by decide +kernel
theorem dX11_even_24 : decode cX11_even 24 = .ok (.ifCond .eq 19, 3) := by decide +kernel
theorem dX11_even_27 : decode cX11_even 27 = .ok (.aload_n 0, 1) := by decide +kernel
theorem dX11_even_28 : decode cX11_even 28 = .ok (.getfield 51, 3) := by decide +kernel
theorem dX11_even_31 : decode cX11_even 31 = .ok (.aload_n 0, 1) := by decide +kernel
theorem dX11_even_32 : decode cX11_even 32 = .ok (.getfield 12, 3) := by decide +kernel
theorem dX11_even_35 : decode cX11_even 35 = .ok (.iload_n 1, 1) := by decide +kernel
theorem dX11_even_36 : decode cX11_even 36 = .ok (.iload_n 2, 1) := by decide +kernel
theorem dX11_even_37 : decode cX11_even 37 = .ok (.invokevirtual 351, 3) := by decide +kernel
theorem dX11_even_40 : decode cX11_even 40 = .ok (.ifCond .ne 5, 3) := by decide +kernel
theorem dX11_even_43 : decode cX11_even 43 = .ok (.iconst (-1), 1) := by decide +kernel
theorem dX11_even_44 : decode cX11_even 44 = .ok (.ireturn, 1) := by decide +kernel
theorem dX11_even_45 : decode cX11_even 45 = .ok (.iload_n 3, 1) := by decide +kernel
theorem dX11_even_46 : decode cX11_even 46 = .ok (.lookupswitch 42 #[(0, 26), (1, 34)], 26) := by decide +kernel
theorem dX11_even_72 : decode cX11_even 72 = .ok (.aload_n 0, 1) := by decide +kernel
theorem dX11_even_73 : decode cX11_even 73 = .ok (.getfield 51, 3) := by decide +kernel
theorem dX11_even_76 : decode cX11_even 76 = .ok (.getfield 355, 3) := by decide +kernel
theorem dX11_even_79 : decode cX11_even 79 = .ok (.ireturn, 1) := by decide +kernel
theorem dX11_even_80 : decode cX11_even 80 = .ok (.aload_n 0, 1) := by decide +kernel
theorem dX11_even_81 : decode cX11_even 81 = .ok (.getfield 51, 3) := by decide +kernel
theorem dX11_even_84 : decode cX11_even 84 = .ok (.getfield 358, 3) := by decide +kernel
theorem dX11_even_87 : decode cX11_even 87 = .ok (.ireturn, 1) := by decide +kernel
theorem dX11_even_88 : decode cX11_even 88 = .ok (.aload_n 0, 1) := by decide +kernel
theorem dX11_even_89 : decode cX11_even 89 = .ok (.getfield 51, 3) := by decide +kernel
theorem dX11_even_92 : decode cX11_even 92 = .ok (.iload_n 3, 1) := by decide +kernel
theorem dX11_even_93 : decode cX11_even 93 = .ok (.iconst 2, 1) := by decide +kernel
theorem dX11_even_94 : decode cX11_even 94 = .ok (.isub, 1) := by decide +kernel
theorem dX11_even_95 : decode cX11_even 95 = .ok (.aload_n 0, 1) := by decide +kernel
theorem dX11_even_96 : decode cX11_even 96 = .ok (.getfield 51, 3) := by decide +kernel
theorem dX11_even_99 : decode cX11_even 99 = .ok (.getfield 355, 3) := by decide +kernel
theorem dX11_even_102 : decode cX11_even 102 = .ok (.invokevirtual 361, 3) := by decide +kernel
theorem dX11_even_105 : decode cX11_even 105 = .ok (.ireturn, 1) := by decide +kernel
abbrev dpX11_even : Nat := 6
def fX11_even (a0 : Nat) (x1 : Int32) (x2 : Int32) (x3 : Int32) : St → Option (Int32 × St) :=
 cl (fX11_isDealer x1) fun v1 =>
 br ((bi v1) = 0) (rt (-1))
 (cl (fX11_within x2 0 99) fun v2 =>
 br ((bi v2) = 0) (rt (-1))
 (cl (fX11_within x3 0 7) fun v3 =>
 br ((bi v3) = 0) (rt (-1))
 (gR 12 a0 6 fun v4 =>
 gR 12 a0 0 fun v5 =>
 nn v4 fun a6 =>
 ck 2 a6 <| cl (fX1_find a6 v5 x1 x2) fun v7 =>
 br ((bi v7) = 0) (rt (-1))
 (br (x3 = 0) (gR 12 a0 6 fun v8 =>
 nn v8 fun a10 =>
 gI 2 a10 0 fun v9 =>
 rt v9) <|
 br (x3 = 1) (gR 12 a0 6 fun v11 =>
 nn v11 fun a13 =>
 gI 2 a13 1 fun v12 =>
 rt v12) <|
 (gR 12 a0 6 fun v14 =>
 gR 12 a0 6 fun v15 =>
 nn v15 fun a17 =>
 gI 2 a17 0 fun v16 =>
 nn v14 fun a18 =>
 ck 2 a18 <| cl (fX1_newRate a18 (x3 - 2) v16) fun v19 =>
 rt v19)))))
set_option maxHeartbeats 4000000 in
set_option maxRecDepth 100000 in
theorem mX11_even {E : Ev} {l : Launch} (a0 : Nat) (x1 : Int32) (x2 : Int32) (x3 : Int32) : MF E l dpX11_even yX11_even cX11_even 4 (some .int) rvI [.ref (E.1 + a0), .int x1, .int x2, .int x3] (fX11_even a0 x1 x2 x3) := by
  refine MF.of (lv := [(0, .ref (E.1 + a0)), (1, .int x1), (2, .int x2), (3, .int x3)]) (by decide) (Nat.le_of_ble_eq_true rfl) rfl ?_
  unfold fX11_even
  refine sn_iload_n (pc := 0) (j := 1) dX11_even_0 rfl rfl ?_
  refine sn_callS (pc := 1) dX11_even_1 iX11_isDealer wt3_17 wt3_16 (mX11_isDealer x1) (by decide) rfl rfl (Nat.le_of_ble_eq_true rfl) (fun v1 => ?_)
  refine sn_if_eq (pc := 4) (tgt := 43) dX11_even_4 (by decide) ?_ ?_
  · refine sn_iconst (pc := 43) (v := (-1)) dX11_even_43 (by decide) ?_
    exact sn_iret (pc := 44) dX11_even_44 rfl
  · refine sn_iload_n (pc := 7) (j := 2) dX11_even_7 rfl rfl ?_
    refine sn_iconst (pc := 8) (v := 0) dX11_even_8 (by decide) ?_
    refine sn_bipush (pc := 9) (v := 99) dX11_even_9 (by decide) ?_
    refine sn_callS (pc := 11) dX11_even_11 iX11_within wt2_96 wt2_95 (mX11_within x2 0 99) (by decide) rfl rfl (Nat.le_of_ble_eq_true rfl) (fun v2 => ?_)
    refine sn_if_eq (pc := 14) (tgt := 43) dX11_even_14 (by decide) ?_ ?_
    · refine sn_iconst (pc := 43) (v := (-1)) dX11_even_43 (by decide) ?_
      exact sn_iret (pc := 44) dX11_even_44 rfl
    · refine sn_iload_n (pc := 17) (j := 3) dX11_even_17 rfl rfl ?_
      refine sn_iconst (pc := 18) (v := 0) dX11_even_18 (by decide) ?_
      refine sn_bipush (pc := 19) (v := 7) dX11_even_19 (by decide) ?_
      refine sn_callS (pc := 21) dX11_even_21 iX11_within wt2_96 wt2_95 (mX11_within x3 0 7) (by decide) rfl rfl (Nat.le_of_ble_eq_true rfl) (fun v3 => ?_)
      refine sn_if_eq (pc := 24) (tgt := 43) dX11_even_24 (by decide) ?_ ?_
      · refine sn_iconst (pc := 43) (v := (-1)) dX11_even_43 (by decide) ?_
        exact sn_iret (pc := 44) dX11_even_44 rfl
      · refine sn_aload_n (pc := 27) (j := 0) dX11_even_27 rfl rfl ?_
        refine sn_gR (pc := 28) dX11_even_28 flX11_51 rfl (fun v4 => ?_)
        refine sn_aload_n (pc := 31) (j := 0) dX11_even_31 rfl rfl ?_
        refine sn_gR (pc := 32) dX11_even_32 flX11_12 rfl (fun v5 => ?_)
        refine sn_iload_n (pc := 35) (j := 1) dX11_even_35 rfl rfl ?_
        refine sn_iload_n (pc := 36) (j := 2) dX11_even_36 rfl rfl ?_
        rcases v4 with _ | a6
        · exact sn_no
        refine sn_nn ?_
        refine sn_callV (ci := 1) (pc := 37) dX11_even_37 iX1_find wt5_149 wt5_150 wt5_148 ⟨_, rfl, rfl⟩ (by decide) (mX1_find a6 v5 x1 x2) (by decide) rfl rfl (Nat.le_of_ble_eq_true rfl) (fun v7 => ?_)
        refine sn_if_ne (pc := 40) (tgt := 45) dX11_even_40 (by decide) ?_ ?_
        · refine sn_iload_n (pc := 45) (j := 3) dX11_even_45 rfl rfl ?_
          refine sw_start ?_
          refine sw_lcase (tgt := 72) 0 dX11_even_46 (by decide) rfl (by decide) ?_ ?_
          · refine sn_aload_n (pc := 72) (j := 0) dX11_even_72 rfl rfl ?_
            refine sn_gR (pc := 73) dX11_even_73 flX11_51 rfl (fun v8 => ?_)
            rcases v8 with _ | a10
            · exact sn_no
            refine sn_nn ?_
            refine sn_gI (pc := 76) dX11_even_76 flX11_355 rfl (fun v9 => ?_)
            exact sn_iret (pc := 79) dX11_even_79 rfl
          refine sw_lcase (tgt := 80) 1 dX11_even_46 (by decide) rfl (by decide) ?_ ?_
          · refine sn_aload_n (pc := 80) (j := 0) dX11_even_80 rfl rfl ?_
            refine sn_gR (pc := 81) dX11_even_81 flX11_51 rfl (fun v11 => ?_)
            rcases v11 with _ | a13
            · exact sn_no
            refine sn_nn ?_
            refine sn_gI (pc := 84) dX11_even_84 flX11_358 rfl (fun v12 => ?_)
            exact sn_iret (pc := 87) dX11_even_87 rfl
          refine sw_ldflt (tgt := 88) dX11_even_46 (by decide) (fun hc => ?_) (by decide) ?_
          · obtain ⟨⟨-, q0⟩, q1⟩ := hc
            have q0 := ne_toInt q0
            have q1 := ne_toInt q1
            have e0 : (0 : Int32).toInt = 0 := by decide
            have e1 : (1 : Int32).toInt = 1 := by decide
            rw [e0] at q0
            rw [e1] at q1
            simp [Op.lookupswitch.offset, Ne.symm q0, Ne.symm q1]
          · refine sn_aload_n (pc := 88) (j := 0) dX11_even_88 rfl rfl ?_
            refine sn_gR (pc := 89) dX11_even_89 flX11_51 rfl (fun v14 => ?_)
            refine sn_iload_n (pc := 92) (j := 3) dX11_even_92 rfl rfl ?_
            refine sn_iconst (pc := 93) (v := 2) dX11_even_93 (by decide) ?_
            refine sn_isub (pc := 94) dX11_even_94 ?_
            refine sn_aload_n (pc := 95) (j := 0) dX11_even_95 rfl rfl ?_
            refine sn_gR (pc := 96) dX11_even_96 flX11_51 rfl (fun v15 => ?_)
            rcases v15 with _ | a17
            · exact sn_no
            refine sn_nn ?_
            refine sn_gI (pc := 99) dX11_even_99 flX11_355 rfl (fun v16 => ?_)
            rcases v14 with _ | a18
            · exact sn_no
            refine sn_nn ?_
            refine sn_callV (ci := 1) (pc := 102) dX11_even_102 iX1_newRate wt5_180 wt5_181 wt5_179 ⟨_, rfl, rfl⟩ (by decide) (mX1_newRate a18 (x3 - 2) v16) (by decide) rfl rfl (Nat.le_of_ble_eq_true rfl) (fun v19 => ?_)
            exact sn_iret (pc := 105) dX11_even_105 rfl
        · refine sn_iconst (pc := 43) (v := (-1)) dX11_even_43 (by decide) ?_
          exact sn_iret (pc := 44) dX11_even_44 rfl
theorem iX11_even : MI yX11_even cX11_even 4 (some .int) 3 := ⟨wt1_1, wt5_147, by decide +kernel, by decide⟩
-- NeedleHomes count(I)I
theorem dX11_count_0 : decode cX11_count 0 = .ok (.iload_n 1, 1) := by decide +kernel
theorem dX11_count_1 : decode cX11_count 1 = .ok (.tableswitch 139 0 9 #[55, 63, 71, 79, 87, 95, 106, 115, 123, 131], 55) := by decide +kernel
theorem dX11_count_56 : decode cX11_count 56 = .ok (.aload_n 0, 1) := by decide +kernel
theorem dX11_count_57 : decode cX11_count 57 = .ok (.getfield 12, 3) := by decide +kernel
theorem dX11_count_60 : decode cX11_count 60 = .ok (.getfield 75, 3) := by decide +kernel
theorem dX11_count_63 : decode cX11_count 63 = .ok (.ireturn, 1) := by decide +kernel
theorem dX11_count_64 : decode cX11_count 64 = .ok (.aload_n 0, 1) := by decide +kernel
theorem dX11_count_65 : decode cX11_count 65 = .ok (.getfield 12, 3) := by decide +kernel
theorem dX11_count_68 : decode cX11_count 68 = .ok (.getfield 107, 3) := by decide +kernel
theorem dX11_count_71 : decode cX11_count 71 = .ok (.ireturn, 1) := by decide +kernel
theorem dX11_count_72 : decode cX11_count 72 = .ok (.aload_n 0, 1) := by decide +kernel
theorem dX11_count_73 : decode cX11_count 73 = .ok (.getfield 12, 3) := by decide +kernel
theorem dX11_count_76 : decode cX11_count 76 = .ok (.getfield 167, 3) := by decide +kernel
theorem dX11_count_79 : decode cX11_count 79 = .ok (.ireturn, 1) := by decide +kernel
theorem dX11_count_80 : decode cX11_count 80 = .ok (.aload_n 0, 1) := by decide +kernel
theorem dX11_count_81 : decode cX11_count 81 = .ok (.getfield 12, 3) := by decide +kernel
theorem dX11_count_84 : decode cX11_count 84 = .ok (.getfield 225, 3) := by decide +kernel
theorem dX11_count_87 : decode cX11_count 87 = .ok (.ireturn, 1) := by decide +kernel
theorem dX11_count_88 : decode cX11_count 88 = .ok (.aload_n 0, 1) := by decide +kernel
theorem dX11_count_89 : decode cX11_count 89 = .ok (.getfield 12, 3) := by decide +kernel
theorem dX11_count_92 : decode cX11_count 92 = .ok (.getfield 118, 3) := by decide +kernel
theorem dX11_count_95 : decode cX11_count 95 = .ok (.ireturn, 1) := by decide +kernel
theorem dX11_count_96 : decode cX11_count 96 = .ok (.aload_n 0, 1) := by decide +kernel
theorem dX11_count_97 : decode cX11_count 97 = .ok (.getfield 12, 3) := by decide +kernel
theorem dX11_count_100 : decode cX11_count 100 = .ok (.getfield 118, 3) := by decide +kernel
theorem dX11_count_103 : decode cX11_count 103 = .ok (.invokestatic 210, 3) := by decide +kernel
theorem dX11_count_106 : decode cX11_count 106 = .ok (.ireturn, 1) := by decide +kernel
theorem dX11_count_107 : decode cX11_count 107 = .ok (.aload_n 0, 1) := by decide +kernel
theorem dX11_count_108 : decode cX11_count 108 = .ok (.getfield 12, 3) := by decide +kernel
theorem dX11_count_111 : decode cX11_count 111 = .ok (.iconst (-1), 1) := by decide +kernel
theorem dX11_count_112 : decode cX11_count 112 = .ok (.invokevirtual 206, 3) := by decide +kernel
theorem dX11_count_115 : decode cX11_count 115 = .ok (.ireturn, 1) := by decide +kernel
theorem dX11_count_116 : decode cX11_count 116 = .ok (.aload_n 0, 1) := by decide +kernel
theorem dX11_count_117 : decode cX11_count 117 = .ok (.getfield 12, 3) := by decide +kernel
theorem dX11_count_120 : decode cX11_count 120 = .ok (.invokevirtual 364, 3) := by decide +kernel
theorem dX11_count_123 : decode cX11_count 123 = .ok (.ireturn, 1) := by decide +kernel
theorem dX11_count_124 : decode cX11_count 124 = .ok (.aload_n 0, 1) := by decide +kernel
theorem dX11_count_125 : decode cX11_count 125 = .ok (.getfield 12, 3) := by decide +kernel
theorem dX11_count_128 : decode cX11_count 128 = .ok (.invokevirtual 367, 3) := by decide +kernel
theorem dX11_count_131 : decode cX11_count 131 = .ok (.ireturn, 1) := by decide +kernel
theorem dX11_count_132 : decode cX11_count 132 = .ok (.aload_n 0, 1) := by decide +kernel
theorem dX11_count_133 : decode cX11_count 133 = .ok (.getfield 12, 3) := by decide +kernel
theorem dX11_count_136 : decode cX11_count 136 = .ok (.invokevirtual 370, 3) := by decide +kernel
theorem dX11_count_139 : decode cX11_count 139 = .ok (.ireturn, 1) := by decide +kernel
theorem dX11_count_140 : decode cX11_count 140 = .ok (.iconst (-1), 1) := by decide +kernel
theorem dX11_count_141 : decode cX11_count 141 = .ok (.ireturn, 1) := by decide +kernel
abbrev dpX11_count : Nat := 3
def fX11_count (a0 : Nat) (x1 : Int32) : St → Option (Int32 × St) :=
 br (x1 = 0) (gR 12 a0 0 fun v1 =>
 nn v1 fun a3 =>
 gI 11 a3 6 fun v2 =>
 rt v2) <|
 br (x1 = 1) (gR 12 a0 0 fun v4 =>
 nn v4 fun a6 =>
 gI 11 a6 8 fun v5 =>
 rt v5) <|
 br (x1 = 2) (gR 12 a0 0 fun v7 =>
 nn v7 fun a9 =>
 gI 11 a9 10 fun v8 =>
 rt v8) <|
 br (x1 = 3) (gR 12 a0 0 fun v10 =>
 nn v10 fun a12 =>
 gI 11 a12 12 fun v11 =>
 rt v11) <|
 br (x1 = 4) (gR 12 a0 0 fun v13 =>
 nn v13 fun a15 =>
 gI 11 a15 4 fun v14 =>
 rt v14) <|
 br (x1 = 5) (gR 12 a0 0 fun v16 =>
 nn v16 fun a18 =>
 gI 11 a18 4 fun v17 =>
 cl (fX11_weekOf v17) fun v19 =>
 rt v19) <|
 br (x1 = 6) (gR 12 a0 0 fun v20 =>
 nn v20 fun a21 =>
 ck 11 a21 <| cl (fX10_piecesOutWith a21 (-1)) fun v22 =>
 rt v22) <|
 br (x1 = 7) (gR 12 a0 0 fun v23 =>
 nn v23 fun a24 =>
 ck 11 a24 <| cl (fX10_piecesThatDiffer a24) fun v25 =>
 rt v25) <|
 br (x1 = 8) (gR 12 a0 0 fun v26 =>
 nn v26 fun a27 =>
 ck 11 a27 <| cl (fX10_allDebts a27) fun v28 =>
 rt v28) <|
 br (x1 = 9) (gR 12 a0 0 fun v29 =>
 nn v29 fun a30 =>
 ck 11 a30 <| cl (fX10_allNet a30) fun v31 =>
 rt v31) <|
 (rt (-1))
set_option maxHeartbeats 4000000 in
set_option maxRecDepth 100000 in
theorem mX11_count {E : Ev} {l : Launch} (a0 : Nat) (x1 : Int32) : MF E l dpX11_count yX11_count cX11_count 2 (some .int) rvI [.ref (E.1 + a0), .int x1] (fX11_count a0 x1) := by
  refine MF.of (lv := [(0, .ref (E.1 + a0)), (1, .int x1)]) (by decide) (Nat.le_of_ble_eq_true rfl) rfl ?_
  unfold fX11_count
  refine sn_iload_n (pc := 0) (j := 1) dX11_count_0 rfl rfl ?_
  refine sw_start ?_
  refine sw_case (tgt := 56) 0 dX11_count_1 (by decide) (by decide) rfl (by decide) ?_ ?_
  · refine sn_aload_n (pc := 56) (j := 0) dX11_count_56 rfl rfl ?_
    refine sn_gR (pc := 57) dX11_count_57 flX11_12 rfl (fun v1 => ?_)
    rcases v1 with _ | a3
    · exact sn_no
    refine sn_nn ?_
    refine sn_gI (pc := 60) dX11_count_60 flX11_75 rfl (fun v2 => ?_)
    exact sn_iret (pc := 63) dX11_count_63 rfl
  refine sw_case (tgt := 64) 1 dX11_count_1 (by decide) (by decide) rfl (by decide) ?_ ?_
  · refine sn_aload_n (pc := 64) (j := 0) dX11_count_64 rfl rfl ?_
    refine sn_gR (pc := 65) dX11_count_65 flX11_12 rfl (fun v4 => ?_)
    rcases v4 with _ | a6
    · exact sn_no
    refine sn_nn ?_
    refine sn_gI (pc := 68) dX11_count_68 flX11_107 rfl (fun v5 => ?_)
    exact sn_iret (pc := 71) dX11_count_71 rfl
  refine sw_case (tgt := 72) 2 dX11_count_1 (by decide) (by decide) rfl (by decide) ?_ ?_
  · refine sn_aload_n (pc := 72) (j := 0) dX11_count_72 rfl rfl ?_
    refine sn_gR (pc := 73) dX11_count_73 flX11_12 rfl (fun v7 => ?_)
    rcases v7 with _ | a9
    · exact sn_no
    refine sn_nn ?_
    refine sn_gI (pc := 76) dX11_count_76 flX11_167 rfl (fun v8 => ?_)
    exact sn_iret (pc := 79) dX11_count_79 rfl
  refine sw_case (tgt := 80) 3 dX11_count_1 (by decide) (by decide) rfl (by decide) ?_ ?_
  · refine sn_aload_n (pc := 80) (j := 0) dX11_count_80 rfl rfl ?_
    refine sn_gR (pc := 81) dX11_count_81 flX11_12 rfl (fun v10 => ?_)
    rcases v10 with _ | a12
    · exact sn_no
    refine sn_nn ?_
    refine sn_gI (pc := 84) dX11_count_84 flX11_225 rfl (fun v11 => ?_)
    exact sn_iret (pc := 87) dX11_count_87 rfl
  refine sw_case (tgt := 88) 4 dX11_count_1 (by decide) (by decide) rfl (by decide) ?_ ?_
  · refine sn_aload_n (pc := 88) (j := 0) dX11_count_88 rfl rfl ?_
    refine sn_gR (pc := 89) dX11_count_89 flX11_12 rfl (fun v13 => ?_)
    rcases v13 with _ | a15
    · exact sn_no
    refine sn_nn ?_
    refine sn_gI (pc := 92) dX11_count_92 flX11_118 rfl (fun v14 => ?_)
    exact sn_iret (pc := 95) dX11_count_95 rfl
  refine sw_case (tgt := 96) 5 dX11_count_1 (by decide) (by decide) rfl (by decide) ?_ ?_
  · refine sn_aload_n (pc := 96) (j := 0) dX11_count_96 rfl rfl ?_
    refine sn_gR (pc := 97) dX11_count_97 flX11_12 rfl (fun v16 => ?_)
    rcases v16 with _ | a18
    · exact sn_no
    refine sn_nn ?_
    refine sn_gI (pc := 100) dX11_count_100 flX11_118 rfl (fun v17 => ?_)
    refine sn_callS (pc := 103) dX11_count_103 iX11_weekOf wt4_92 wt4_91 (mX11_weekOf v17) (by decide) rfl rfl (Nat.le_of_ble_eq_true rfl) (fun v19 => ?_)
    exact sn_iret (pc := 106) dX11_count_106 rfl
  refine sw_case (tgt := 107) 6 dX11_count_1 (by decide) (by decide) rfl (by decide) ?_ ?_
  · refine sn_aload_n (pc := 107) (j := 0) dX11_count_107 rfl rfl ?_
    refine sn_gR (pc := 108) dX11_count_108 flX11_12 rfl (fun v20 => ?_)
    refine sn_iconst (pc := 111) (v := (-1)) dX11_count_111 (by decide) ?_
    rcases v20 with _ | a21
    · exact sn_no
    refine sn_nn ?_
    refine sn_callV (ci := 10) (pc := 112) dX11_count_112 iX10_piecesOutWith wt4_76 wt4_77 wt4_75 ⟨_, rfl, rfl⟩ (by decide) (mX10_piecesOutWith a21 (-1)) (by decide) rfl rfl (Nat.le_of_ble_eq_true rfl) (fun v22 => ?_)
    exact sn_iret (pc := 115) dX11_count_115 rfl
  refine sw_case (tgt := 116) 7 dX11_count_1 (by decide) (by decide) rfl (by decide) ?_ ?_
  · refine sn_aload_n (pc := 116) (j := 0) dX11_count_116 rfl rfl ?_
    refine sn_gR (pc := 117) dX11_count_117 flX11_12 rfl (fun v23 => ?_)
    rcases v23 with _ | a24
    · exact sn_no
    refine sn_nn ?_
    refine sn_callV (ci := 10) (pc := 120) dX11_count_120 iX10_piecesThatDiffer wt5_189 wt5_190 wt5_188 ⟨_, rfl, rfl⟩ (by decide) (mX10_piecesThatDiffer a24) (by decide) rfl rfl (Nat.le_of_ble_eq_true rfl) (fun v25 => ?_)
    exact sn_iret (pc := 123) dX11_count_123 rfl
  refine sw_case (tgt := 124) 8 dX11_count_1 (by decide) (by decide) rfl (by decide) ?_ ?_
  · refine sn_aload_n (pc := 124) (j := 0) dX11_count_124 rfl rfl ?_
    refine sn_gR (pc := 125) dX11_count_125 flX11_12 rfl (fun v26 => ?_)
    rcases v26 with _ | a27
    · exact sn_no
    refine sn_nn ?_
    refine sn_callV (ci := 10) (pc := 128) dX11_count_128 iX10_allDebts wt5_194 wt5_195 wt5_193 ⟨_, rfl, rfl⟩ (by decide) (mX10_allDebts a27) (by decide) rfl rfl (Nat.le_of_ble_eq_true rfl) (fun v28 => ?_)
    exact sn_iret (pc := 131) dX11_count_131 rfl
  refine sw_case (tgt := 132) 9 dX11_count_1 (by decide) (by decide) rfl (by decide) ?_ ?_
  · refine sn_aload_n (pc := 132) (j := 0) dX11_count_132 rfl rfl ?_
    refine sn_gR (pc := 133) dX11_count_133 flX11_12 rfl (fun v29 => ?_)
    rcases v29 with _ | a30
    · exact sn_no
    refine sn_nn ?_
    refine sn_callV (ci := 10) (pc := 136) dX11_count_136 iX10_allNet wt5_198 wt5_199 wt5_197 ⟨_, rfl, rfl⟩ (by decide) (mX10_allNet a30) (by decide) rfl rfl (Nat.le_of_ble_eq_true rfl) (fun v31 => ?_)
    exact sn_iret (pc := 139) dX11_count_139 rfl
  refine sw_dflt (tgt := 140) dX11_count_1 (fun hc => ?_) (by decide) ?_
  · obtain ⟨⟨⟨⟨⟨⟨⟨⟨⟨⟨-, q0⟩, q1⟩, q2⟩, q3⟩, q4⟩, q5⟩, q6⟩, q7⟩, q8⟩, q9⟩ := hc
    have q0 := ne_toInt q0
    have q1 := ne_toInt q1
    have q2 := ne_toInt q2
    have q3 := ne_toInt q3
    have q4 := ne_toInt q4
    have q5 := ne_toInt q5
    have q6 := ne_toInt q6
    have q7 := ne_toInt q7
    have q8 := ne_toInt q8
    have q9 := ne_toInt q9
    have e0 : (0 : Int32).toInt = 0 := by decide
    have e1 : (1 : Int32).toInt = 1 := by decide
    have e2 : (2 : Int32).toInt = 2 := by decide
    have e3 : (3 : Int32).toInt = 3 := by decide
    have e4 : (4 : Int32).toInt = 4 := by decide
    have e5 : (5 : Int32).toInt = 5 := by decide
    have e6 : (6 : Int32).toInt = 6 := by decide
    have e7 : (7 : Int32).toInt = 7 := by decide
    have e8 : (8 : Int32).toInt = 8 := by decide
    have e9 : (9 : Int32).toInt = 9 := by decide
    rw [e0] at q0
    rw [e1] at q1
    rw [e2] at q2
    rw [e3] at q3
    rw [e4] at q4
    rw [e5] at q5
    rw [e6] at q6
    rw [e7] at q7
    rw [e8] at q8
    rw [e9] at q9
    omega
  · refine sn_iconst (pc := 140) (v := (-1)) dX11_count_140 (by decide) ?_
    exact sn_iret (pc := 141) dX11_count_141 rfl
theorem iX11_count : MI yX11_count cX11_count 2 (some .int) 1 := ⟨wt1_1, wt5_187, by decide +kernel, by decide⟩
-- NeedleHomes image(I)Z
theorem dX11_image_0 : decode cX11_image 0 = .ok (.iload_n 1, 1) := by decide +kernel
theorem dX11_image_1 : decode cX11_image 1 = .ok (.iconst 0, 1) := by decide +kernel
theorem dX11_image_2 : decode cX11_image 2 = .ok (.iconst 2, 1) := by decide +kernel
theorem dX11_image_3 : decode cX11_image 3 = .ok (.invokestatic 67, 3) := by decide +kernel
theorem dX11_image_6 : decode cX11_image 6 = .ok (.ifCond .ne 5, 3) := by decide +kernel
theorem dX11_image_9 : decode cX11_image 9 = .ok (.iconst 0, 1) := by decide +kernel
theorem dX11_image_10 : decode cX11_image 10 = .ok (.ireturn, 1) := by decide +kernel
theorem dX11_image_11 : decode cX11_image 11 = .ok (.aload_n 0, 1) := by decide +kernel
theorem dX11_image_12 : decode cX11_image 12 = .ok (.getfield 16, 3) := by decide +kernel
theorem dX11_image_15 : decode cX11_image 15 = .ok (.iload_n 1, 1) := by decide +kernel
theorem dX11_image_16 : decode cX11_image 16 = .ok (.aaload, 1) := by decide +kernel
theorem dX11_image_17 : decode cX11_image 17 = .ok (.ifnonnull 16, 3) := by decide +kernel
theorem dX11_image_20 : decode cX11_image 20 = .ok (.aload_n 0, 1) := by decide +kernel
theorem dX11_image_21 : decode cX11_image 21 = .ok (.getfield 16, 3) := by decide +kernel
theorem dX11_image_24 : decode cX11_image 24 = .ok (.iload_n 1, 1) := by decide +kernel
theorem dX11_image_25 : decode cX11_image 25 = .ok (.new 9, 3) := by decide +kernel
theorem dX11_image_28 : decode cX11_image 28 = .ok (.dup, 1) := by decide +kernel
theorem dX11_image_29 : decode cX11_image 29 = .ok (.invokespecial 11, 3) := by decide +kernel
theorem dX11_image_32 : decode cX11_image 32 = .ok (.aastore, 1) := by decide +kernel
theorem dX11_image_33 : decode cX11_image 33 = .ok (.aload_n 0, 1) := by decide +kernel
theorem dX11_image_34 : decode cX11_image 34 = .ok (.getfield 16, 3) := by decide +kernel
theorem dX11_image_37 : decode cX11_image 37 = .ok (.iload_n 1, 1) := by decide +kernel
theorem dX11_image_38 : decode cX11_image 38 = .ok (.aaload, 1) := by decide +kernel
theorem dX11_image_39 : decode cX11_image 39 = .ok (.aload_n 0, 1) := by decide +kernel
theorem dX11_image_40 : decode cX11_image 40 = .ok (.getfield 12, 3) := by decide +kernel
theorem dX11_image_43 : decode cX11_image 43 = .ok (.invokevirtual 373, 3) := by decide +kernel
theorem dX11_image_46 : decode cX11_image 46 = .ok (.iconst 1, 1) := by decide +kernel
theorem dX11_image_47 : decode cX11_image 47 = .ok (.ireturn, 1) := by decide +kernel
abbrev dpX11_image : Nat := 4
def fX11_image_33 (a0 : Nat) (x1 : Int32) : St → Option (Bool × St) :=
 gR 12 a0 1 fun v1001 =>
 nn v1001 fun a1003 =>
 aR 22 a1003 x1 fun v1002 =>
 gR 12 a0 0 fun v1004 =>
 nn v1002 fun a1005 =>
 ck 11 a1005 <| cl (fX10_copyFrom a1005 v1004) fun v1006 =>
 rtZ 1
set_option maxHeartbeats 4000000 in
set_option maxRecDepth 100000 in
theorem sfX11_image_33 {E : Ev} {l : Launch} (a0 : Nat) (x1 : Int32) : Snd E l (dpX11_image, RX11, cX11_image, 2, (some .boolean), "image") rvZ 33 [(0, .ref (E.1 + a0)), (1, .int x1)] [] (fX11_image_33 a0 x1) := by
  unfold fX11_image_33
  refine sn_aload_n (pc := 33) (j := 0) dX11_image_33 rfl rfl ?_
  refine sn_gR (pc := 34) dX11_image_34 flX11_16 rfl (fun v1001 => ?_)
  refine sn_iload_n (pc := 37) (j := 1) dX11_image_37 rfl rfl ?_
  rcases v1001 with _ | a1003
  · exact sn_no
  refine sn_nn ?_
  refine sn_aald (t := 8) (pc := 38) dX11_image_38 (by decide) rfl (fun v1002 => ?_)
  refine sn_aload_n (pc := 39) (j := 0) dX11_image_39 rfl rfl ?_
  refine sn_gR (pc := 40) dX11_image_40 flX11_12 rfl (fun v1004 => ?_)
  rcases v1002 with _ | a1005
  · exact sn_no
  refine sn_nn ?_
  refine sn_callV (ci := 10) (pc := 43) dX11_image_43 iX10_copyFrom wt5_206 wt5_207 wt5_205 ⟨_, rfl, rfl⟩ (by decide) (mX10_copyFrom a1005 v1004) (by decide) rfl rfl (Nat.le_of_ble_eq_true rfl) (fun v1006 => ?_)
  refine sn_iconst (pc := 46) (v := 1) dX11_image_46 (by decide) ?_
  exact sn_zret (pc := 47) dX11_image_47 rfl
def fX11_image (a0 : Nat) (x1 : Int32) : St → Option (Bool × St) :=
 cl (fX11_within x1 0 2) fun v1 =>
 br ((bi v1) = 0) (rtZ 0)
 (gR 12 a0 1 fun v2 =>
 nn v2 fun a4 =>
 aR 22 a4 x1 fun v3 =>
 on v3 (gR 12 a0 1 fun v6 =>
 nO 11 15 fun a7 =>
 cl (fX10_init a7) fun v8 =>
 nn v6 fun a9 =>
 wR 22 11 a9 x1 (some a7) <|
 fX11_image_33  a0 x1)
 fun a5 => fX11_image_33  a0 x1)
set_option maxHeartbeats 4000000 in
set_option maxRecDepth 100000 in
theorem mX11_image {E : Ev} {l : Launch} (a0 : Nat) (x1 : Int32) : MF E l dpX11_image yX11_image cX11_image 2 (some .boolean) rvZ [.ref (E.1 + a0), .int x1] (fX11_image a0 x1) := by
  refine MF.of (lv := [(0, .ref (E.1 + a0)), (1, .int x1)]) (by decide) (Nat.le_of_ble_eq_true rfl) rfl ?_
  unfold fX11_image
  refine sn_iload_n (pc := 0) (j := 1) dX11_image_0 rfl rfl ?_
  refine sn_iconst (pc := 1) (v := 0) dX11_image_1 (by decide) ?_
  refine sn_iconst (pc := 2) (v := 2) dX11_image_2 (by decide) ?_
  refine sn_callS (pc := 3) dX11_image_3 iX11_within wt2_96 wt2_95 (mX11_within x1 0 2) (by decide) rfl rfl (Nat.le_of_ble_eq_true rfl) (fun v1 => ?_)
  refine sn_if_ne (pc := 6) (tgt := 11) dX11_image_6 (by decide) ?_ ?_
  · refine sn_aload_n (pc := 11) (j := 0) dX11_image_11 rfl rfl ?_
    refine sn_gR (pc := 12) dX11_image_12 flX11_16 rfl (fun v2 => ?_)
    refine sn_iload_n (pc := 15) (j := 1) dX11_image_15 rfl rfl ?_
    rcases v2 with _ | a4
    · exact sn_no
    refine sn_nn ?_
    refine sn_aald (t := 8) (pc := 16) dX11_image_16 (by decide) rfl (fun v3 => ?_)
    rcases v3 with _ | a5
    · refine sn_onN ?_
      refine sn_ifnonnull_n (pc := 17) dX11_image_17 ?_
      refine sn_aload_n (pc := 20) (j := 0) dX11_image_20 rfl rfl ?_
      refine sn_gR (pc := 21) dX11_image_21 flX11_16 rfl (fun v6 => ?_)
      refine sn_iload_n (pc := 24) (j := 1) dX11_image_24 rfl rfl ?_
      refine sn_new (pc := 25) dX11_image_25 ci_X10 wt1_30 (fun a7 => ?_)
      refine sn_dup (pc := 28) dX11_image_28 rfl ?_
      refine sn_callI (pc := 29) dX11_image_29 iX10_init rfl rfl wt1_33 wt1_32 (mX10_init a7) (by decide) rfl rfl (by simp [rf_some, rf_cat, cat_int, cat_long, cat_ref, rvV, rvI, rvZ, rvR, rvJ]) (fun v8 => ?_)
      rcases v6 with _ | a9
      · exact sn_no
      refine sn_nn ?_
      refine sn_aast (ix := 0) (t := 8) (v := (some a7)) (pc := 32) dX11_image_32 ci_X10 (by decide) rfl ?_
      exact sn_sub (lv' := [(0, .ref (E.1 + a0)), (1, .int x1)]) [0, 1] rfl (sfX11_image_33  a0 x1)
    · refine sn_onS ?_
      refine sn_ifnonnull_s (pc := 17) (tgt := 33) dX11_image_17 (by decide) ?_
      exact sn_sub (lv' := [(0, .ref (E.1 + a0)), (1, .int x1)]) [0, 1] rfl (sfX11_image_33  a0 x1)
  · refine sn_iconst (pc := 9) (v := 0) dX11_image_9 (by decide) ?_
    exact sn_zret (pc := 10) dX11_image_10 rfl
theorem iX11_image : MI yX11_image cX11_image 2 (some .boolean) 1 := ⟨wt1_1, wt5_204, by decide +kernel, by decide⟩
-- NeedleHomes again(I)Z
theorem dX11_again_0 : decode cX11_again 0 = .ok (.iload_n 1, 1) := by decide +kernel
theorem dX11_again_1 : decode cX11_again 1 = .ok (.iconst 0, 1) := by decide +kernel
theorem dX11_again_2 : decode cX11_again 2 = .ok (.iconst 2, 1) := by decide +kernel
theorem dX11_again_3 : decode cX11_again 3 = .ok (.invokestatic 67, 3) := by decide +kernel
theorem dX11_again_6 : decode cX11_again 6 = .ok (.ifCond .eq 12, 3) := by decide +kernel
theorem dX11_again_9 : decode cX11_again 9 = .ok (.aload_n 0, 1) := by decide +kernel
theorem dX11_again_10 : decode cX11_again 10 = .ok (.getfield 16, 3) := by decide +kernel
theorem dX11_again_13 : decode cX11_again 13 = .ok (.iload_n 1, 1) := by decide +kernel
theorem dX11_again_14 : decode cX11_again 14 = .ok (.aaload, 1) := by decide +kernel
theorem dX11_again_15 : decode cX11_again 15 = .ok (.ifnonnull 5, 3) := by decide +kernel
theorem dX11_again_18 : decode cX11_again 18 = .ok (.iconst 0, 1) := by decide +kernel
theorem dX11_again_19 : decode cX11_again 19 = .ok (.ireturn, 1) := by decide +kernel
theorem dX11_again_20 : decode cX11_again 20 = .ok (.aload_n 0, 1) := by decide +kernel
theorem dX11_again_21 : decode cX11_again 21 = .ok (.getfield 12, 3) := by decide +kernel
theorem dX11_again_24 : decode cX11_again 24 = .ok (.aload_n 0, 1) := by decide +kernel
theorem dX11_again_25 : decode cX11_again 25 = .ok (.getfield 16, 3) := by decide +kernel
theorem dX11_again_28 : decode cX11_again 28 = .ok (.iload_n 1, 1) := by decide +kernel
theorem dX11_again_29 : decode cX11_again 29 = .ok (.aaload, 1) := by decide +kernel
theorem dX11_again_30 : decode cX11_again 30 = .ok (.invokevirtual 373, 3) := by decide +kernel
theorem dX11_again_33 : decode cX11_again 33 = .ok (.iconst 1, 1) := by decide +kernel
theorem dX11_again_34 : decode cX11_again 34 = .ok (.ireturn, 1) := by decide +kernel
abbrev dpX11_again : Nat := 4
def fX11_again (a0 : Nat) (x1 : Int32) : St → Option (Bool × St) :=
 cl (fX11_within x1 0 2) fun v1 =>
 br ((bi v1) = 0) (rtZ 0)
 (gR 12 a0 1 fun v2 =>
 nn v2 fun a4 =>
 aR 22 a4 x1 fun v3 =>
 on v3 (rtZ 0)
 fun a5 => gR 12 a0 0 fun v6 =>
 gR 12 a0 1 fun v7 =>
 nn v7 fun a9 =>
 aR 22 a9 x1 fun v8 =>
 nn v6 fun a10 =>
 ck 11 a10 <| cl (fX10_copyFrom a10 v8) fun v11 =>
 rtZ 1)
set_option maxHeartbeats 4000000 in
set_option maxRecDepth 100000 in
theorem mX11_again {E : Ev} {l : Launch} (a0 : Nat) (x1 : Int32) : MF E l dpX11_again yX11_again cX11_again 2 (some .boolean) rvZ [.ref (E.1 + a0), .int x1] (fX11_again a0 x1) := by
  refine MF.of (lv := [(0, .ref (E.1 + a0)), (1, .int x1)]) (by decide) (Nat.le_of_ble_eq_true rfl) rfl ?_
  unfold fX11_again
  refine sn_iload_n (pc := 0) (j := 1) dX11_again_0 rfl rfl ?_
  refine sn_iconst (pc := 1) (v := 0) dX11_again_1 (by decide) ?_
  refine sn_iconst (pc := 2) (v := 2) dX11_again_2 (by decide) ?_
  refine sn_callS (pc := 3) dX11_again_3 iX11_within wt2_96 wt2_95 (mX11_within x1 0 2) (by decide) rfl rfl (Nat.le_of_ble_eq_true rfl) (fun v1 => ?_)
  refine sn_if_eq (pc := 6) (tgt := 18) dX11_again_6 (by decide) ?_ ?_
  · refine sn_iconst (pc := 18) (v := 0) dX11_again_18 (by decide) ?_
    exact sn_zret (pc := 19) dX11_again_19 rfl
  · refine sn_aload_n (pc := 9) (j := 0) dX11_again_9 rfl rfl ?_
    refine sn_gR (pc := 10) dX11_again_10 flX11_16 rfl (fun v2 => ?_)
    refine sn_iload_n (pc := 13) (j := 1) dX11_again_13 rfl rfl ?_
    rcases v2 with _ | a4
    · exact sn_no
    refine sn_nn ?_
    refine sn_aald (t := 8) (pc := 14) dX11_again_14 (by decide) rfl (fun v3 => ?_)
    rcases v3 with _ | a5
    · refine sn_onN ?_
      refine sn_ifnonnull_n (pc := 15) dX11_again_15 ?_
      refine sn_iconst (pc := 18) (v := 0) dX11_again_18 (by decide) ?_
      exact sn_zret (pc := 19) dX11_again_19 rfl
    · refine sn_onS ?_
      refine sn_ifnonnull_s (pc := 15) (tgt := 20) dX11_again_15 (by decide) ?_
      refine sn_aload_n (pc := 20) (j := 0) dX11_again_20 rfl rfl ?_
      refine sn_gR (pc := 21) dX11_again_21 flX11_12 rfl (fun v6 => ?_)
      refine sn_aload_n (pc := 24) (j := 0) dX11_again_24 rfl rfl ?_
      refine sn_gR (pc := 25) dX11_again_25 flX11_16 rfl (fun v7 => ?_)
      refine sn_iload_n (pc := 28) (j := 1) dX11_again_28 rfl rfl ?_
      rcases v7 with _ | a9
      · exact sn_no
      refine sn_nn ?_
      refine sn_aald (t := 8) (pc := 29) dX11_again_29 (by decide) rfl (fun v8 => ?_)
      rcases v6 with _ | a10
      · exact sn_no
      refine sn_nn ?_
      refine sn_callV (ci := 10) (pc := 30) dX11_again_30 iX10_copyFrom wt5_206 wt5_207 wt5_205 ⟨_, rfl, rfl⟩ (by decide) (mX10_copyFrom a10 v8) (by decide) rfl rfl (Nat.le_of_ble_eq_true rfl) (fun v11 => ?_)
      refine sn_iconst (pc := 33) (v := 1) dX11_again_33 (by decide) ?_
      exact sn_zret (pc := 34) dX11_again_34 rfl
theorem iX11_again : MI yX11_again cX11_again 2 (some .boolean) 1 := ⟨wt1_1, wt5_237, by decide +kernel, by decide⟩
-- NeedleHomesModel <init>()V
theorem dX12_init_0 : decode cX12_init 0 = .ok (.aload_n 0, 1) := by decide +kernel
theorem dX12_init_1 : decode cX12_init 1 = .ok (.invokespecial 1, 3) := by decide +kernel
theorem dX12_init_4 : decode cX12_init 4 = .ok (.aload_n 0, 1) := by decide +kernel
theorem dX12_init_5 : decode cX12_init 5 = .ok (.sipush 29760, 3) := by decide +kernel
theorem dX12_init_8 : decode cX12_init 8 = .ok (.newarray .int, 2) := by decide +kernel
theorem dX12_init_10 : decode cX12_init 10 = .ok (.putfield 7, 3) := by decide +kernel
theorem dX12_init_13 : decode cX12_init 13 = .ok (.aload_n 0, 1) := by decide +kernel
theorem dX12_init_14 : decode cX12_init 14 = .ok (.iconst 3, 1) := by decide +kernel
theorem dX12_init_15 : decode cX12_init 15 = .ok (.newarray .boolean, 2) := by decide +kernel
theorem dX12_init_17 : decode cX12_init 17 = .ok (.putfield 13, 3) := by decide +kernel
theorem dX12_init_20 : decode cX12_init 20 = .ok (.aload_n 0, 1) := by decide +kernel
theorem dX12_init_21 : decode cX12_init 21 = .ok (.bipush 42, 2) := by decide +kernel
theorem dX12_init_23 : decode cX12_init 23 = .ok (.newarray .long, 2) := by decide +kernel
theorem dX12_init_25 : decode cX12_init 25 = .ok (.putfield 17, 3) := by decide +kernel
theorem dX12_init_28 : decode cX12_init 28 = .ok (.aload_n 0, 1) := by decide +kernel
theorem dX12_init_29 : decode cX12_init 29 = .ok (.sipush 168, 3) := by decide +kernel
theorem dX12_init_32 : decode cX12_init 32 = .ok (.newarray .long, 2) := by decide +kernel
theorem dX12_init_34 : decode cX12_init 34 = .ok (.putfield 21, 3) := by decide +kernel
theorem dX12_init_37 : decode cX12_init 37 = .ok (.aload_n 0, 1) := by decide +kernel
theorem dX12_init_38 : decode cX12_init 38 = .ok (.bipush 7, 2) := by decide +kernel
theorem dX12_init_40 : decode cX12_init 40 = .ok (.newarray .int, 2) := by decide +kernel
theorem dX12_init_42 : decode cX12_init 42 = .ok (.putfield 24, 3) := by decide +kernel
theorem dX12_init_45 : decode cX12_init 45 = .ok (.aload_n 0, 1) := by decide +kernel
theorem dX12_init_46 : decode cX12_init 46 = .ok (.bipush 7, 2) := by decide +kernel
theorem dX12_init_48 : decode cX12_init 48 = .ok (.newarray .int, 2) := by decide +kernel
theorem dX12_init_50 : decode cX12_init 50 = .ok (.putfield 27, 3) := by decide +kernel
theorem dX12_init_53 : decode cX12_init 53 = .ok (.aload_n 0, 1) := by decide +kernel
theorem dX12_init_54 : decode cX12_init 54 = .ok (.sipush 304, 3) := by decide +kernel
theorem dX12_init_57 : decode cX12_init 57 = .ok (.newarray .int, 2) := by decide +kernel
theorem dX12_init_59 : decode cX12_init 59 = .ok (.putfield 30, 3) := by decide +kernel
theorem dX12_init_62 : decode cX12_init 62 = .ok (.aload_n 0, 1) := by decide +kernel
theorem dX12_init_63 : decode cX12_init 63 = .ok (.iconst 4, 1) := by decide +kernel
theorem dX12_init_64 : decode cX12_init 64 = .ok (.newarray .int, 2) := by decide +kernel
theorem dX12_init_66 : decode cX12_init 66 = .ok (.putfield 33, 3) := by decide +kernel
theorem dX12_init_69 : decode cX12_init 69 = .ok (.aload_n 0, 1) := by decide +kernel
theorem dX12_init_70 : decode cX12_init 70 = .ok (.bipush 12, 2) := by decide +kernel
theorem dX12_init_72 : decode cX12_init 72 = .ok (.newarray .int, 2) := by decide +kernel
theorem dX12_init_74 : decode cX12_init 74 = .ok (.putfield 36, 3) := by decide +kernel
theorem dX12_init_77 : decode cX12_init 77 = .ok (.aload_n 0, 1) := by decide +kernel
theorem dX12_init_78 : decode cX12_init 78 = .ok (.bipush 12, 2) := by decide +kernel
theorem dX12_init_80 : decode cX12_init 80 = .ok (.newarray .int, 2) := by decide +kernel
theorem dX12_init_82 : decode cX12_init 82 = .ok (.putfield 39, 3) := by decide +kernel
theorem dX12_init_85 : decode cX12_init 85 = .ok (.aload_n 0, 1) := by decide +kernel
theorem dX12_init_86 : decode cX12_init 86 = .ok (.bipush 6, 2) := by decide +kernel
theorem dX12_init_88 : decode cX12_init 88 = .ok (.newarray .int, 2) := by decide +kernel
theorem dX12_init_90 : decode cX12_init 90 = .ok (.putfield 42, 3) := by decide +kernel
theorem dX12_init_93 : decode cX12_init 93 = .ok (.aload_n 0, 1) := by decide +kernel
theorem dX12_init_94 : decode cX12_init 94 = .ok (.bipush 6, 2) := by decide +kernel
theorem dX12_init_96 : decode cX12_init 96 = .ok (.newarray .int, 2) := by decide +kernel
theorem dX12_init_98 : decode cX12_init 98 = .ok (.putfield 45, 3) := by decide +kernel
theorem dX12_init_101 : decode cX12_init 101 = .ok (.aload_n 0, 1) := by decide +kernel
theorem dX12_init_102 : decode cX12_init 102 = .ok (.bipush 6, 2) := by decide +kernel
theorem dX12_init_104 : decode cX12_init 104 = .ok (.newarray .int, 2) := by decide +kernel
theorem dX12_init_106 : decode cX12_init 106 = .ok (.putfield 48, 3) := by decide +kernel
theorem dX12_init_109 : decode cX12_init 109 = .ok (.aload_n 0, 1) := by decide +kernel
theorem dX12_init_110 : decode cX12_init 110 = .ok (.getfield 7, 3) := by decide +kernel
theorem dX12_init_113 : decode cX12_init 113 = .ok (.bipush 7, 2) := by decide +kernel
theorem dX12_init_115 : decode cX12_init 115 = .ok (.iconst (-1), 1) := by decide +kernel
theorem dX12_init_116 : decode cX12_init 116 = .ok (.iastore, 1) := by decide +kernel
theorem dX12_init_117 : decode cX12_init 117 = .ok (.iconst 0, 1) := by decide +kernel
theorem dX12_init_118 : decode cX12_init 118 = .ok (.istore_n 1, 1) := by decide +kernel
theorem dX12_init_119 : decode cX12_init 119 = .ok (.iload_n 1, 1) := by decide +kernel
theorem dX12_init_120 : decode cX12_init 120 = .ok (.bipush 6, 2) := by decide +kernel
theorem dX12_init_122 : decode cX12_init 122 = .ok (.if_icmp .ge 21, 3) := by decide +kernel
theorem dX12_init_125 : decode cX12_init 125 = .ok (.aload_n 0, 1) := by decide +kernel
theorem dX12_init_126 : decode cX12_init 126 = .ok (.getfield 7, 3) := by decide +kernel
theorem dX12_init_129 : decode cX12_init 129 = .ok (.bipush 14, 2) := by decide +kernel
theorem dX12_init_131 : decode cX12_init 131 = .ok (.iload_n 1, 1) := by decide +kernel
theorem dX12_init_132 : decode cX12_init 132 = .ok (.iadd, 1) := by decide +kernel
theorem dX12_init_133 : decode cX12_init 133 = .ok (.sipush 360, 3) := by decide +kernel
theorem dX12_init_136 : decode cX12_init 136 = .ok (.iastore, 1) := by decide +kernel
theorem dX12_init_137 : decode cX12_init 137 = .ok (.iinc 1 1, 3) := by decide +kernel
theorem dX12_init_140 : decode cX12_init 140 = .ok (.goto (-21), 3) := by decide +kernel
theorem dX12_init_143 : decode cX12_init 143 = .ok (.return_, 1) := by decide +kernel
abbrev dpX12_init : Nat := 1
def fX12_init_119 (k119 : (Nat × Int32) → St → Option (Unit × St)) (a0 : Nat) (x1 : Int32) : St → Option (Unit × St) :=
 br (6 ≤ x1) (rt ())
 (gR 13 a0 0 fun v1001 =>
 nn v1001 fun a1002 =>
 wI a1002 (14 + x1) 360 <|
 k119 (a0, (x1 + 1)))
set_option maxHeartbeats 4000000 in
set_option maxRecDepth 100000 in
theorem sfX12_init_119 {E : Ev} {l : Launch} (k119 : (Nat × Int32) → St → Option (Unit × St)) (hk119 : ∀ p : Nat × Int32, Snd E l (dpX12_init, RX12, cX12_init, 2, none, "<init>") rvV 119 [(0, .ref (E.1 + p.1)), (1, .int p.2)] [] (k119 p)) (a0 : Nat) (x1 : Int32) : Snd E l (dpX12_init, RX12, cX12_init, 2, none, "<init>") rvV 119 [(0, .ref (E.1 + a0)), (1, .int x1)] [] (fX12_init_119 k119 a0 x1) := by
  unfold fX12_init_119
  refine sn_iload_n (pc := 119) (j := 1) dX12_init_119 rfl rfl ?_
  refine sn_bipush (pc := 120) (v := 6) dX12_init_120 (by decide) ?_
  refine sn_icmp_ge (pc := 122) (tgt := 143) dX12_init_122 (by decide) ?_ ?_
  · exact sn_vret (pc := 143) dX12_init_143 rfl
  · refine sn_aload_n (pc := 125) (j := 0) dX12_init_125 rfl rfl ?_
    refine sn_gR (pc := 126) dX12_init_126 flX12_7 rfl (fun v1001 => ?_)
    refine sn_bipush (pc := 129) (v := 14) dX12_init_129 (by decide) ?_
    refine sn_iload_n (pc := 131) (j := 1) dX12_init_131 rfl rfl ?_
    refine sn_iadd (pc := 132) dX12_init_132 ?_
    refine sn_sipush (pc := 133) (v := 360) dX12_init_133 (by decide) ?_
    rcases v1001 with _ | a1002
    · exact sn_no
    refine sn_nn ?_
    refine sn_iast (pc := 136) dX12_init_136 ?_
    refine sn_iinc (pc := 137) (v := x1 + 1) (lv' := [(1, .int (x1 + 1)), (0, .ref (E.1 + a0))]) (j := 1) dX12_init_137 rfl rfl (by decide) rfl ?_
    refine sn_goto (pc := 140) (tgt := 119) dX12_init_140 (by decide) ?_
    exact sn_sub (lv' := [(0, .ref (E.1 + a0)), (1, .int (x1 + 1))]) [1, 0] rfl (hk119 (a0, (x1 + 1)))
def fX12_init (a0 : Nat) : St → Option (Unit × St) :=
 nA 15 29760 fun a1 =>
 pR 13 a0 0 (some a1) <|
 nA 17 3 fun a2 =>
 pR 13 a0 1 (some a2) <|
 nA 16 42 fun a3 =>
 pR 13 a0 10 (some a3) <|
 nA 16 168 fun a4 =>
 pR 13 a0 11 (some a4) <|
 nA 15 7 fun a5 =>
 pR 13 a0 12 (some a5) <|
 nA 15 7 fun a6 =>
 pR 13 a0 13 (some a6) <|
 nA 15 304 fun a7 =>
 pR 13 a0 16 (some a7) <|
 nA 15 4 fun a8 =>
 pR 13 a0 17 (some a8) <|
 nA 15 12 fun a9 =>
 pR 13 a0 31 (some a9) <|
 nA 15 12 fun a10 =>
 pR 13 a0 32 (some a10) <|
 nA 15 6 fun a11 =>
 pR 13 a0 35 (some a11) <|
 nA 15 6 fun a12 =>
 pR 13 a0 36 (some a12) <|
 nA 15 6 fun a13 =>
 pR 13 a0 37 (some a13) <|
 gR 13 a0 0 fun v14 =>
 nn v14 fun a15 =>
 wI a15 7 (-1) <|
 itr (fun k (p : Nat × Int32) => fX12_init_119  k p.1 p.2) FU (a0, 0)
set_option maxHeartbeats 4000000 in
set_option maxRecDepth 100000 in
theorem mX12_init {E : Ev} {l : Launch} (a0 : Nat) : MF E l dpX12_init yX12_init cX12_init 2 none rvV [.ref (E.1 + a0)] (fX12_init a0) := by
  refine MF.of (lv := [(0, .ref (E.1 + a0))]) (by decide) (Nat.le_of_ble_eq_true rfl) rfl ?_
  unfold fX12_init
  refine sn_aload_n (pc := 0) (j := 0) dX12_init_0 rfl rfl ?_
  refine sn_objInit (pc := 1) dX12_init_1 wt6_3 w_oi w_oc (by decide) (Nat.le_of_ble_eq_true rfl) ?_
  refine sn_aload_n (pc := 4) (j := 0) dX12_init_4 rfl rfl ?_
  refine sn_sipush (pc := 5) (v := 29760) dX12_init_5 (by decide) ?_
  refine sn_newI (pc := 8) dX12_init_8 wt1_109 (fun a1 => ?_)
  refine sn_pR (pc := 10) (v := (some a1)) dX12_init_10 flX12_7 rfl (Or.inr ⟨_, rfl⟩) (Or.inr ⟨rfl, rfl, rfl⟩) ?_
  refine sn_aload_n (pc := 13) (j := 0) dX12_init_13 rfl rfl ?_
  refine sn_iconst (pc := 14) (v := 3) dX12_init_14 (by decide) ?_
  refine sn_newZ (pc := 15) dX12_init_15 wt6_119 (fun a2 => ?_)
  refine sn_pR (pc := 17) (v := (some a2)) dX12_init_17 flX12_13 rfl (Or.inr ⟨_, rfl⟩) (Or.inr ⟨rfl, rfl, rfl⟩) ?_
  refine sn_aload_n (pc := 20) (j := 0) dX12_init_20 rfl rfl ?_
  refine sn_bipush (pc := 21) (v := 42) dX12_init_21 (by decide) ?_
  refine sn_newJ (pc := 23) dX12_init_23 wt6_120 (fun a3 => ?_)
  refine sn_pR (pc := 25) (v := (some a3)) dX12_init_25 flX12_17 rfl (Or.inr ⟨_, rfl⟩) (Or.inr ⟨rfl, rfl, rfl⟩) ?_
  refine sn_aload_n (pc := 28) (j := 0) dX12_init_28 rfl rfl ?_
  refine sn_sipush (pc := 29) (v := 168) dX12_init_29 (by decide) ?_
  refine sn_newJ (pc := 32) dX12_init_32 wt6_120 (fun a4 => ?_)
  refine sn_pR (pc := 34) (v := (some a4)) dX12_init_34 flX12_21 rfl (Or.inr ⟨_, rfl⟩) (Or.inr ⟨rfl, rfl, rfl⟩) ?_
  refine sn_aload_n (pc := 37) (j := 0) dX12_init_37 rfl rfl ?_
  refine sn_bipush (pc := 38) (v := 7) dX12_init_38 (by decide) ?_
  refine sn_newI (pc := 40) dX12_init_40 wt1_109 (fun a5 => ?_)
  refine sn_pR (pc := 42) (v := (some a5)) dX12_init_42 flX12_24 rfl (Or.inr ⟨_, rfl⟩) (Or.inr ⟨rfl, rfl, rfl⟩) ?_
  refine sn_aload_n (pc := 45) (j := 0) dX12_init_45 rfl rfl ?_
  refine sn_bipush (pc := 46) (v := 7) dX12_init_46 (by decide) ?_
  refine sn_newI (pc := 48) dX12_init_48 wt1_109 (fun a6 => ?_)
  refine sn_pR (pc := 50) (v := (some a6)) dX12_init_50 flX12_27 rfl (Or.inr ⟨_, rfl⟩) (Or.inr ⟨rfl, rfl, rfl⟩) ?_
  refine sn_aload_n (pc := 53) (j := 0) dX12_init_53 rfl rfl ?_
  refine sn_sipush (pc := 54) (v := 304) dX12_init_54 (by decide) ?_
  refine sn_newI (pc := 57) dX12_init_57 wt1_109 (fun a7 => ?_)
  refine sn_pR (pc := 59) (v := (some a7)) dX12_init_59 flX12_30 rfl (Or.inr ⟨_, rfl⟩) (Or.inr ⟨rfl, rfl, rfl⟩) ?_
  refine sn_aload_n (pc := 62) (j := 0) dX12_init_62 rfl rfl ?_
  refine sn_iconst (pc := 63) (v := 4) dX12_init_63 (by decide) ?_
  refine sn_newI (pc := 64) dX12_init_64 wt1_109 (fun a8 => ?_)
  refine sn_pR (pc := 66) (v := (some a8)) dX12_init_66 flX12_33 rfl (Or.inr ⟨_, rfl⟩) (Or.inr ⟨rfl, rfl, rfl⟩) ?_
  refine sn_aload_n (pc := 69) (j := 0) dX12_init_69 rfl rfl ?_
  refine sn_bipush (pc := 70) (v := 12) dX12_init_70 (by decide) ?_
  refine sn_newI (pc := 72) dX12_init_72 wt1_109 (fun a9 => ?_)
  refine sn_pR (pc := 74) (v := (some a9)) dX12_init_74 flX12_36 rfl (Or.inr ⟨_, rfl⟩) (Or.inr ⟨rfl, rfl, rfl⟩) ?_
  refine sn_aload_n (pc := 77) (j := 0) dX12_init_77 rfl rfl ?_
  refine sn_bipush (pc := 78) (v := 12) dX12_init_78 (by decide) ?_
  refine sn_newI (pc := 80) dX12_init_80 wt1_109 (fun a10 => ?_)
  refine sn_pR (pc := 82) (v := (some a10)) dX12_init_82 flX12_39 rfl (Or.inr ⟨_, rfl⟩) (Or.inr ⟨rfl, rfl, rfl⟩) ?_
  refine sn_aload_n (pc := 85) (j := 0) dX12_init_85 rfl rfl ?_
  refine sn_bipush (pc := 86) (v := 6) dX12_init_86 (by decide) ?_
  refine sn_newI (pc := 88) dX12_init_88 wt1_109 (fun a11 => ?_)
  refine sn_pR (pc := 90) (v := (some a11)) dX12_init_90 flX12_42 rfl (Or.inr ⟨_, rfl⟩) (Or.inr ⟨rfl, rfl, rfl⟩) ?_
  refine sn_aload_n (pc := 93) (j := 0) dX12_init_93 rfl rfl ?_
  refine sn_bipush (pc := 94) (v := 6) dX12_init_94 (by decide) ?_
  refine sn_newI (pc := 96) dX12_init_96 wt1_109 (fun a12 => ?_)
  refine sn_pR (pc := 98) (v := (some a12)) dX12_init_98 flX12_45 rfl (Or.inr ⟨_, rfl⟩) (Or.inr ⟨rfl, rfl, rfl⟩) ?_
  refine sn_aload_n (pc := 101) (j := 0) dX12_init_101 rfl rfl ?_
  refine sn_bipush (pc := 102) (v := 6) dX12_init_102 (by decide) ?_
  refine sn_newI (pc := 104) dX12_init_104 wt1_109 (fun a13 => ?_)
  refine sn_pR (pc := 106) (v := (some a13)) dX12_init_106 flX12_48 rfl (Or.inr ⟨_, rfl⟩) (Or.inr ⟨rfl, rfl, rfl⟩) ?_
  refine sn_aload_n (pc := 109) (j := 0) dX12_init_109 rfl rfl ?_
  refine sn_gR (pc := 110) dX12_init_110 flX12_7 rfl (fun v14 => ?_)
  refine sn_bipush (pc := 113) (v := 7) dX12_init_113 (by decide) ?_
  refine sn_iconst (pc := 115) (v := (-1)) dX12_init_115 (by decide) ?_
  rcases v14 with _ | a15
  · exact sn_no
  refine sn_nn ?_
  refine sn_iast (pc := 116) dX12_init_116 ?_
  refine sn_iconst (pc := 117) (v := 0) dX12_init_117 (by decide) ?_
  refine sn_istore_n (pc := 118) (i := 1) (lv' := [(1, .int 0), (0, .ref (E.1 + a0))]) dX12_init_118 rfl (by decide) rfl ?_
  exact sn_sub (lv' := [(0, .ref (E.1 + a0)), (1, .int 0)]) [1, 0] rfl (sn_itr (lvf := fun p => [(0, .ref (E.1 + p.1)), (1, .int p.2)]) (stf := fun p => []) (fun k hk p => sfX12_init_119  k hk p.1 p.2) FU (a0, 0))
theorem iX12_init : MI yX12_init cX12_init 2 none 0 := ⟨wt1_10, wt6_2, by decide +kernel, by decide⟩
-- NeedleHomesModel isIn(III)Z
theorem dX12_isIn_0 : decode cX12_isIn 0 = .ok (.iload_n 0, 1) := by decide +kernel
theorem dX12_isIn_1 : decode cX12_isIn 1 = .ok (.iload_n 1, 1) := by decide +kernel
theorem dX12_isIn_2 : decode cX12_isIn 2 = .ok (.if_icmp .lt 12, 3) := by decide +kernel
theorem dX12_isIn_5 : decode cX12_isIn 5 = .ok (.iload_n 0, 1) := by decide +kernel
theorem dX12_isIn_6 : decode cX12_isIn 6 = .ok (.iload_n 2, 1) := by decide +kernel
theorem dX12_isIn_7 : decode cX12_isIn 7 = .ok (.if_icmp .gt 7, 3) := by decide +kernel
theorem dX12_isIn_10 : decode cX12_isIn 10 = .ok (.iconst 1, 1) := by decide +kernel
theorem dX12_isIn_11 : decode cX12_isIn 11 = .ok (.goto 4, 3) := by decide +kernel
theorem dX12_isIn_14 : decode cX12_isIn 14 = .ok (.iconst 0, 1) := by decide +kernel
theorem dX12_isIn_15 : decode cX12_isIn 15 = .ok (.ireturn, 1) := by decide +kernel
abbrev dpX12_isIn : Nat := 0
def fX12_isIn (x0 : Int32) (x1 : Int32) (x2 : Int32) : St → Option (Bool × St) :=
 br (x0 < x1) (rtZ 0)
 (br (x2 < x0) (rtZ 0)
 (rtZ 1))
set_option maxHeartbeats 4000000 in
set_option maxRecDepth 100000 in
theorem mX12_isIn {E : Ev} {l : Launch} (x0 : Int32) (x1 : Int32) (x2 : Int32) : MF E l dpX12_isIn yX12_isIn cX12_isIn 3 (some .boolean) rvZ [.int x0, .int x1, .int x2] (fX12_isIn x0 x1 x2) := by
  refine MF.of (lv := [(0, .int x0), (1, .int x1), (2, .int x2)]) (by decide) (Nat.le_of_ble_eq_true rfl) rfl ?_
  unfold fX12_isIn
  refine sn_iload_n (pc := 0) (j := 0) dX12_isIn_0 rfl rfl ?_
  refine sn_iload_n (pc := 1) (j := 1) dX12_isIn_1 rfl rfl ?_
  refine sn_icmp_lt (pc := 2) (tgt := 14) dX12_isIn_2 (by decide) ?_ ?_
  · refine sn_iconst (pc := 14) (v := 0) dX12_isIn_14 (by decide) ?_
    exact sn_zret (pc := 15) dX12_isIn_15 rfl
  · refine sn_iload_n (pc := 5) (j := 0) dX12_isIn_5 rfl rfl ?_
    refine sn_iload_n (pc := 6) (j := 2) dX12_isIn_6 rfl rfl ?_
    refine sn_icmp_gt (pc := 7) (tgt := 14) dX12_isIn_7 (by decide) ?_ ?_
    · refine sn_iconst (pc := 14) (v := 0) dX12_isIn_14 (by decide) ?_
      exact sn_zret (pc := 15) dX12_isIn_15 rfl
    · refine sn_iconst (pc := 10) (v := 1) dX12_isIn_10 (by decide) ?_
      refine sn_goto (pc := 11) (tgt := 15) dX12_isIn_11 (by decide) ?_
      exact sn_zret (pc := 15) dX12_isIn_15 rfl
theorem iX12_isIn : MI yX12_isIn cX12_isIn 3 (some .boolean) 3 := ⟨wt1_10, wt6_139, by decide +kernel, by decide⟩
-- NeedleHomesModel isOf(II)Z
theorem dX12_isOf_0 : decode cX12_isOf 0 = .ok (.iload_n 1, 1) := by decide +kernel
theorem dX12_isOf_1 : decode cX12_isOf 1 = .ok (.iconst 0, 1) := by decide +kernel
theorem dX12_isOf_2 : decode cX12_isOf 2 = .ok (.aload_n 0, 1) := by decide +kernel
theorem dX12_isOf_3 : decode cX12_isOf 3 = .ok (.getfield 7, 3) := by decide +kernel
theorem dX12_isOf_6 : decode cX12_isOf 6 = .ok (.iload_n 2, 1) := by decide +kernel
theorem dX12_isOf_7 : decode cX12_isOf 7 = .ok (.iaload, 1) := by decide +kernel
theorem dX12_isOf_8 : decode cX12_isOf 8 = .ok (.iconst 1, 1) := by decide +kernel
theorem dX12_isOf_9 : decode cX12_isOf 9 = .ok (.isub, 1) := by decide +kernel
theorem dX12_isOf_10 : decode cX12_isOf 10 = .ok (.invokestatic 51, 3) := by decide +kernel
theorem dX12_isOf_13 : decode cX12_isOf 13 = .ok (.ireturn, 1) := by decide +kernel
abbrev dpX12_isOf : Nat := 1
def fX12_isOf (a0 : Nat) (x1 : Int32) (x2 : Int32) : St → Option (Bool × St) :=
 gR 13 a0 0 fun v1 =>
 nn v1 fun a3 =>
 aI 15 a3 x2 fun v2 =>
 cl (fX12_isIn x1 0 (v2 - 1)) fun v4 =>
 rtZ (bi v4)
set_option maxHeartbeats 4000000 in
set_option maxRecDepth 100000 in
theorem mX12_isOf {E : Ev} {l : Launch} (a0 : Nat) (x1 : Int32) (x2 : Int32) : MF E l dpX12_isOf yX12_isOf cX12_isOf 3 (some .boolean) rvZ [.ref (E.1 + a0), .int x1, .int x2] (fX12_isOf a0 x1 x2) := by
  refine MF.of (lv := [(0, .ref (E.1 + a0)), (1, .int x1), (2, .int x2)]) (by decide) (Nat.le_of_ble_eq_true rfl) rfl ?_
  unfold fX12_isOf
  refine sn_iload_n (pc := 0) (j := 1) dX12_isOf_0 rfl rfl ?_
  refine sn_iconst (pc := 1) (v := 0) dX12_isOf_1 (by decide) ?_
  refine sn_aload_n (pc := 2) (j := 0) dX12_isOf_2 rfl rfl ?_
  refine sn_gR (pc := 3) dX12_isOf_3 flX12_7 rfl (fun v1 => ?_)
  refine sn_iload_n (pc := 6) (j := 2) dX12_isOf_6 rfl rfl ?_
  rcases v1 with _ | a3
  · exact sn_no
  refine sn_nn ?_
  refine sn_iald (pc := 7) dX12_isOf_7 (fun v2 => ?_)
  refine sn_iconst (pc := 8) (v := 1) dX12_isOf_8 (by decide) ?_
  refine sn_isub (pc := 9) dX12_isOf_9 ?_
  refine sn_callS (pc := 10) dX12_isOf_10 iX12_isIn wt6_138 wt6_137 (mX12_isIn x1 0 (v2 - 1)) (by decide) rfl rfl (Nat.le_of_ble_eq_true rfl) (fun v4 => ?_)
  exact sn_zret (pc := 13) dX12_isOf_13 rfl
theorem iX12_isOf : MI yX12_isOf cX12_isOf 3 (some .boolean) 2 := ⟨wt1_10, wt6_236, by decide +kernel, by decide⟩
-- NeedleHomesModel patternOf(II)I
theorem dX12_patternOf_0 : decode cX12_patternOf 0 = .ok (.aload_n 0, 1) := by decide +kernel
theorem dX12_patternOf_1 : decode cX12_patternOf 1 = .ok (.getfield 7, 3) := by decide +kernel
theorem dX12_patternOf_4 : decode cX12_patternOf 4 = .ok (.bipush 20, 2) := by decide +kernel
theorem dX12_patternOf_6 : decode cX12_patternOf 6 = .ok (.bipush 27, 2) := by decide +kernel
theorem dX12_patternOf_8 : decode cX12_patternOf 8 = .ok (.iload_n 1, 1) := by decide +kernel
theorem dX12_patternOf_9 : decode cX12_patternOf 9 = .ok (.imul, 1) := by decide +kernel
theorem dX12_patternOf_10 : decode cX12_patternOf 10 = .ok (.iadd, 1) := by decide +kernel
theorem dX12_patternOf_11 : decode cX12_patternOf 11 = .ok (.iload_n 2, 1) := by decide +kernel
theorem dX12_patternOf_12 : decode cX12_patternOf 12 = .ok (.iadd, 1) := by decide +kernel
theorem dX12_patternOf_13 : decode cX12_patternOf 13 = .ok (.iaload, 1) := by decide +kernel
theorem dX12_patternOf_14 : decode cX12_patternOf 14 = .ok (.ireturn, 1) := by decide +kernel
abbrev dpX12_patternOf : Nat := 0
def fX12_patternOf (a0 : Nat) (x1 : Int32) (x2 : Int32) : St → Option (Int32 × St) :=
 gR 13 a0 0 fun v1 =>
 nn v1 fun a3 =>
 aI 15 a3 ((20 + (27 * x1)) + x2) fun v2 =>
 rt v2
set_option maxHeartbeats 4000000 in
set_option maxRecDepth 100000 in
theorem mX12_patternOf {E : Ev} {l : Launch} (a0 : Nat) (x1 : Int32) (x2 : Int32) : MF E l dpX12_patternOf yX12_patternOf cX12_patternOf 3 (some .int) rvI [.ref (E.1 + a0), .int x1, .int x2] (fX12_patternOf a0 x1 x2) := by
  refine MF.of (lv := [(0, .ref (E.1 + a0)), (1, .int x1), (2, .int x2)]) (by decide) (Nat.le_of_ble_eq_true rfl) rfl ?_
  unfold fX12_patternOf
  refine sn_aload_n (pc := 0) (j := 0) dX12_patternOf_0 rfl rfl ?_
  refine sn_gR (pc := 1) dX12_patternOf_1 flX12_7 rfl (fun v1 => ?_)
  refine sn_bipush (pc := 4) (v := 20) dX12_patternOf_4 (by decide) ?_
  refine sn_bipush (pc := 6) (v := 27) dX12_patternOf_6 (by decide) ?_
  refine sn_iload_n (pc := 8) (j := 1) dX12_patternOf_8 rfl rfl ?_
  refine sn_imul (pc := 9) dX12_patternOf_9 ?_
  refine sn_iadd (pc := 10) dX12_patternOf_10 ?_
  refine sn_iload_n (pc := 11) (j := 2) dX12_patternOf_11 rfl rfl ?_
  refine sn_iadd (pc := 12) dX12_patternOf_12 ?_
  rcases v1 with _ | a3
  · exact sn_no
  refine sn_nn ?_
  refine sn_iald (pc := 13) dX12_patternOf_13 (fun v2 => ?_)
  exact sn_iret (pc := 14) dX12_patternOf_14 rfl
theorem iX12_patternOf : MI yX12_patternOf cX12_patternOf 3 (some .int) 2 := ⟨wt1_10, wt7_0, by decide +kernel, by decide⟩
-- NeedleHomesModel handOf(II)I
theorem dX12_handOf_0 : decode cX12_handOf 0 = .ok (.aload_n 0, 1) := by decide +kernel
theorem dX12_handOf_1 : decode cX12_handOf 1 = .ok (.getfield 7, 3) := by decide +kernel
theorem dX12_handOf_4 : decode cX12_handOf 4 = .ok (.sipush 3440, 3) := by decide +kernel
theorem dX12_handOf_7 : decode cX12_handOf 7 = .ok (.sipush 160, 3) := by decide +kernel
theorem dX12_handOf_10 : decode cX12_handOf 10 = .ok (.iload_n 1, 1) := by decide +kernel
theorem dX12_handOf_11 : decode cX12_handOf 11 = .ok (.imul, 1) := by decide +kernel
theorem dX12_handOf_12 : decode cX12_handOf 12 = .ok (.iadd, 1) := by decide +kernel
theorem dX12_handOf_13 : decode cX12_handOf 13 = .ok (.iload_n 2, 1) := by decide +kernel
theorem dX12_handOf_14 : decode cX12_handOf 14 = .ok (.iadd, 1) := by decide +kernel
theorem dX12_handOf_15 : decode cX12_handOf 15 = .ok (.iaload, 1) := by decide +kernel
theorem dX12_handOf_16 : decode cX12_handOf 16 = .ok (.ireturn, 1) := by decide +kernel
abbrev dpX12_handOf : Nat := 0
def fX12_handOf (a0 : Nat) (x1 : Int32) (x2 : Int32) : St → Option (Int32 × St) :=
 gR 13 a0 0 fun v1 =>
 nn v1 fun a3 =>
 aI 15 a3 ((3440 + (160 * x1)) + x2) fun v2 =>
 rt v2
set_option maxHeartbeats 4000000 in
set_option maxRecDepth 100000 in
theorem mX12_handOf {E : Ev} {l : Launch} (a0 : Nat) (x1 : Int32) (x2 : Int32) : MF E l dpX12_handOf yX12_handOf cX12_handOf 3 (some .int) rvI [.ref (E.1 + a0), .int x1, .int x2] (fX12_handOf a0 x1 x2) := by
  refine MF.of (lv := [(0, .ref (E.1 + a0)), (1, .int x1), (2, .int x2)]) (by decide) (Nat.le_of_ble_eq_true rfl) rfl ?_
  unfold fX12_handOf
  refine sn_aload_n (pc := 0) (j := 0) dX12_handOf_0 rfl rfl ?_
  refine sn_gR (pc := 1) dX12_handOf_1 flX12_7 rfl (fun v1 => ?_)
  refine sn_sipush (pc := 4) (v := 3440) dX12_handOf_4 (by decide) ?_
  refine sn_sipush (pc := 7) (v := 160) dX12_handOf_7 (by decide) ?_
  refine sn_iload_n (pc := 10) (j := 1) dX12_handOf_10 rfl rfl ?_
  refine sn_imul (pc := 11) dX12_handOf_11 ?_
  refine sn_iadd (pc := 12) dX12_handOf_12 ?_
  refine sn_iload_n (pc := 13) (j := 2) dX12_handOf_13 rfl rfl ?_
  refine sn_iadd (pc := 14) dX12_handOf_14 ?_
  rcases v1 with _ | a3
  · exact sn_no
  refine sn_nn ?_
  refine sn_iald (pc := 15) dX12_handOf_15 (fun v2 => ?_)
  exact sn_iret (pc := 16) dX12_handOf_16 rfl
theorem iX12_handOf : MI yX12_handOf cX12_handOf 3 (some .int) 2 := ⟨wt1_10, wt7_51, by decide +kernel, by decide⟩
-- NeedleHomesModel pieceOf(II)I
theorem dX12_pieceOf_0 : decode cX12_pieceOf 0 = .ok (.aload_n 0, 1) := by decide +kernel
theorem dX12_pieceOf_1 : decode cX12_pieceOf 1 = .ok (.getfield 7, 3) := by decide +kernel
theorem dX12_pieceOf_4 : decode cX12_pieceOf 4 = .ok (.sipush 5360, 3) := by decide +kernel
theorem dX12_pieceOf_7 : decode cX12_pieceOf 7 = .ok (.bipush 28, 2) := by decide +kernel
theorem dX12_pieceOf_9 : decode cX12_pieceOf 9 = .ok (.iload_n 1, 1) := by decide +kernel
theorem dX12_pieceOf_10 : decode cX12_pieceOf 10 = .ok (.imul, 1) := by decide +kernel
theorem dX12_pieceOf_11 : decode cX12_pieceOf 11 = .ok (.iadd, 1) := by decide +kernel
theorem dX12_pieceOf_12 : decode cX12_pieceOf 12 = .ok (.iload_n 2, 1) := by decide +kernel
theorem dX12_pieceOf_13 : decode cX12_pieceOf 13 = .ok (.iadd, 1) := by decide +kernel
theorem dX12_pieceOf_14 : decode cX12_pieceOf 14 = .ok (.iaload, 1) := by decide +kernel
theorem dX12_pieceOf_15 : decode cX12_pieceOf 15 = .ok (.ireturn, 1) := by decide +kernel
abbrev dpX12_pieceOf : Nat := 0
def fX12_pieceOf (a0 : Nat) (x1 : Int32) (x2 : Int32) : St → Option (Int32 × St) :=
 gR 13 a0 0 fun v1 =>
 nn v1 fun a3 =>
 aI 15 a3 ((5360 + (28 * x1)) + x2) fun v2 =>
 rt v2
set_option maxHeartbeats 4000000 in
set_option maxRecDepth 100000 in
theorem mX12_pieceOf {E : Ev} {l : Launch} (a0 : Nat) (x1 : Int32) (x2 : Int32) : MF E l dpX12_pieceOf yX12_pieceOf cX12_pieceOf 3 (some .int) rvI [.ref (E.1 + a0), .int x1, .int x2] (fX12_pieceOf a0 x1 x2) := by
  refine MF.of (lv := [(0, .ref (E.1 + a0)), (1, .int x1), (2, .int x2)]) (by decide) (Nat.le_of_ble_eq_true rfl) rfl ?_
  unfold fX12_pieceOf
  refine sn_aload_n (pc := 0) (j := 0) dX12_pieceOf_0 rfl rfl ?_
  refine sn_gR (pc := 1) dX12_pieceOf_1 flX12_7 rfl (fun v1 => ?_)
  refine sn_sipush (pc := 4) (v := 5360) dX12_pieceOf_4 (by decide) ?_
  refine sn_bipush (pc := 7) (v := 28) dX12_pieceOf_7 (by decide) ?_
  refine sn_iload_n (pc := 9) (j := 1) dX12_pieceOf_9 rfl rfl ?_
  refine sn_imul (pc := 10) dX12_pieceOf_10 ?_
  refine sn_iadd (pc := 11) dX12_pieceOf_11 ?_
  refine sn_iload_n (pc := 12) (j := 2) dX12_pieceOf_12 rfl rfl ?_
  refine sn_iadd (pc := 13) dX12_pieceOf_13 ?_
  rcases v1 with _ | a3
  · exact sn_no
  refine sn_nn ?_
  refine sn_iald (pc := 14) dX12_pieceOf_14 (fun v2 => ?_)
  exact sn_iret (pc := 15) dX12_pieceOf_15 rfl
theorem iX12_pieceOf : MI yX12_pieceOf cX12_pieceOf 3 (some .int) 2 := ⟨wt1_10, wt7_95, by decide +kernel, by decide⟩
-- NeedleHomesModel week()I
theorem dX12_week_0 : decode cX12_week 0 = .ok (.aload_n 0, 1) := by decide +kernel
theorem dX12_week_1 : decode cX12_week 1 = .ok (.getfield 7, 3) := by decide +kernel
theorem dX12_week_4 : decode cX12_week 4 = .ok (.iconst 4, 1) := by decide +kernel
theorem dX12_week_5 : decode cX12_week 5 = .ok (.iaload, 1) := by decide +kernel
theorem dX12_week_6 : decode cX12_week 6 = .ok (.bipush 7, 2) := by decide +kernel
theorem dX12_week_8 : decode cX12_week 8 = .ok (.idiv, 1) := by decide +kernel
theorem dX12_week_9 : decode cX12_week 9 = .ok (.ireturn, 1) := by decide +kernel
abbrev dpX12_week : Nat := 0
def fX12_week (a0 : Nat) : St → Option (Int32 × St) :=
 gR 13 a0 0 fun v1 =>
 nn v1 fun a3 =>
 aI 15 a3 4 fun v2 =>
 dv 7 <|
 rt (v2 / 7)
set_option maxHeartbeats 4000000 in
set_option maxRecDepth 100000 in
theorem mX12_week {E : Ev} {l : Launch} (a0 : Nat) : MF E l dpX12_week yX12_week cX12_week 1 (some .int) rvI [.ref (E.1 + a0)] (fX12_week a0) := by
  refine MF.of (lv := [(0, .ref (E.1 + a0))]) (by decide) (Nat.le_of_ble_eq_true rfl) rfl ?_
  unfold fX12_week
  refine sn_aload_n (pc := 0) (j := 0) dX12_week_0 rfl rfl ?_
  refine sn_gR (pc := 1) dX12_week_1 flX12_7 rfl (fun v1 => ?_)
  refine sn_iconst (pc := 4) (v := 4) dX12_week_4 (by decide) ?_
  rcases v1 with _ | a3
  · exact sn_no
  refine sn_nn ?_
  refine sn_iald (pc := 5) dX12_week_5 (fun v2 => ?_)
  refine sn_bipush (pc := 6) (v := 7) dX12_week_6 (by decide) ?_
  refine sn_idiv (pc := 8) dX12_week_8 ?_
  exact sn_iret (pc := 9) dX12_week_9 rfl
theorem iX12_week : MI yX12_week cX12_week 1 (some .int) 0 := ⟨wt1_10, wt7_43, by decide +kernel, by decide⟩
-- NeedleHomesModel feed(IIIII)I
theorem dX12_feed_0 : decode cX12_feed 0 = .ok (.aload_n 0, 1) := by decide +kernel
theorem dX12_feed_1 : decode cX12_feed 1 = .ok (.getfield 7, 3) := by decide +kernel
theorem dX12_feed_4 : decode cX12_feed 4 = .ok (.iconst 5, 1) := by decide +kernel
theorem dX12_feed_5 : decode cX12_feed 5 = .ok (.iaload, 1) := by decide +kernel
theorem dX12_feed_6 : decode cX12_feed 6 = .ok (.bipush 20, 2) := by decide +kernel
theorem dX12_feed_8 : decode cX12_feed 8 = .ok (.iadd, 1) := by decide +kernel
theorem dX12_feed_9 : decode cX12_feed 9 = .ok (.sipush 400, 3) := by decide +kernel
theorem dX12_feed_12 : decode cX12_feed 12 = .ok (.if_icmp .le 5, 3) := by decide +kernel
theorem dX12_feed_15 : decode cX12_feed 15 = .ok (.iconst (-1), 1) := by decide +kernel
theorem dX12_feed_16 : decode cX12_feed 16 = .ok (.ireturn, 1) := by decide +kernel
theorem dX12_feed_17 : decode cX12_feed 17 = .ok (.iconst 0, 1) := by decide +kernel
theorem dX12_feed_18 : decode cX12_feed 18 = .ok (.istore 6, 2) := by decide +kernel
theorem dX12_feed_20 : decode cX12_feed 20 = .ok (.iload 6, 2) := by decide +kernel
theorem dX12_feed_22 : decode cX12_feed 22 = .ok (.bipush 20, 2) := by decide +kernel
theorem dX12_feed_24 : decode cX12_feed 24 = .ok (.if_icmp .ge 99, 3) := by decide +kernel
theorem dX12_feed_27 : decode cX12_feed 27 = .ok (.iload 6, 2) := by decide +kernel
theorem dX12_feed_29 : decode cX12_feed 29 = .ok (.iconst 4, 1) := by decide +kernel
theorem dX12_feed_30 : decode cX12_feed 30 = .ok (.if_icmp .ge 7, 3) := by decide +kernel
theorem dX12_feed_33 : decode cX12_feed 33 = .ok (.iload_n 1, 1) := by decide +kernel
theorem dX12_feed_34 : decode cX12_feed 34 = .ok (.goto 39, 3) := by decide +kernel
theorem dX12_feed_37 : decode cX12_feed 37 = .ok (.iload 6, 2) := by decide +kernel
theorem dX12_feed_39 : decode cX12_feed 39 = .ok (.bipush 8, 2) := by decide +kernel
theorem dX12_feed_41 : decode cX12_feed 41 = .ok (.if_icmp .ge 7, 3) := by decide +kernel
theorem dX12_feed_44 : decode cX12_feed 44 = .ok (.iload_n 2, 1) := by decide +kernel
theorem dX12_feed_45 : decode cX12_feed 45 = .ok (.goto 28, 3) := by decide +kernel
theorem dX12_feed_48 : decode cX12_feed 48 = .ok (.iload 6, 2) := by decide +kernel
theorem dX12_feed_50 : decode cX12_feed 50 = .ok (.bipush 12, 2) := by decide +kernel
theorem dX12_feed_52 : decode cX12_feed 52 = .ok (.if_icmp .ge 7, 3) := by decide +kernel
theorem dX12_feed_55 : decode cX12_feed 55 = .ok (.iload_n 3, 1) := by decide +kernel
theorem dX12_feed_56 : decode cX12_feed 56 = .ok (.goto 17, 3) := by decide +kernel
theorem dX12_feed_59 : decode cX12_feed 59 = .ok (.iload 6, 2) := by decide +kernel
theorem dX12_feed_61 : decode cX12_feed 61 = .ok (.bipush 16, 2) := by decide +kernel
theorem dX12_feed_63 : decode cX12_feed 63 = .ok (.if_icmp .ge 8, 3) := by decide +kernel
theorem dX12_feed_66 : decode cX12_feed 66 = .ok (.iload 4, 2) := by decide +kernel
theorem dX12_feed_68 : decode cX12_feed 68 = .ok (.goto 5, 3) := by decide +kernel
theorem dX12_feed_71 : decode cX12_feed 71 = .ok (.iload 5, 2) := by decide +kernel
theorem dX12_feed_73 : decode cX12_feed 73 = .ok (.istore 7, 2) := by decide +kernel
theorem dX12_feed_75 : decode cX12_feed 75 = .ok (.aload_n 0, 1) := by decide +kernel
theorem dX12_feed_76 : decode cX12_feed 76 = .ok (.getfield 7, 3) := by decide +kernel
theorem dX12_feed_79 : decode cX12_feed 79 = .ok (.sipush 7040, 3) := by decide +kernel
theorem dX12_feed_82 : decode cX12_feed 82 = .ok (.aload_n 0, 1) := by decide +kernel
theorem dX12_feed_83 : decode cX12_feed 83 = .ok (.getfield 7, 3) := by decide +kernel
theorem dX12_feed_86 : decode cX12_feed 86 = .ok (.iconst 5, 1) := by decide +kernel
theorem dX12_feed_87 : decode cX12_feed 87 = .ok (.iaload, 1) := by decide +kernel
theorem dX12_feed_88 : decode cX12_feed 88 = .ok (.iadd, 1) := by decide +kernel
theorem dX12_feed_89 : decode cX12_feed 89 = .ok (.iload 7, 2) := by decide +kernel
theorem dX12_feed_91 : decode cX12_feed 91 = .ok (.bipush 24, 2) := by decide +kernel
theorem dX12_feed_93 : decode cX12_feed 93 = .ok (.bipush 8, 2) := by decide +kernel
theorem dX12_feed_95 : decode cX12_feed 95 = .ok (.iload 6, 2) := by decide +kernel
theorem dX12_feed_97 : decode cX12_feed 97 = .ok (.iconst 4, 1) := by decide +kernel
theorem dX12_feed_98 : decode cX12_feed 98 = .ok (.irem, 1) := by decide +kernel
theorem dX12_feed_99 : decode cX12_feed 99 = .ok (.imul, 1) := by decide +kernel
theorem dX12_feed_100 : decode cX12_feed 100 = .ok (.isub, 1) := by decide +kernel
theorem dX12_feed_101 : decode cX12_feed 101 = .ok (.ishr, 1) := by decide +kernel
theorem dX12_feed_102 : decode cX12_feed 102 = .ok (.sipush 255, 3) := by decide +kernel
theorem dX12_feed_105 : decode cX12_feed 105 = .ok (.iand, 1) := by decide +kernel
theorem dX12_feed_106 : decode cX12_feed 106 = .ok (.iastore, 1) := by decide +kernel
theorem dX12_feed_107 : decode cX12_feed 107 = .ok (.aload_n 0, 1) := by decide +kernel
theorem dX12_feed_108 : decode cX12_feed 108 = .ok (.getfield 7, 3) := by decide +kernel
theorem dX12_feed_111 : decode cX12_feed 111 = .ok (.iconst 5, 1) := by decide +kernel
theorem dX12_feed_112 : decode cX12_feed 112 = .ok (.dup2, 1) := by decide +kernel
theorem dX12_feed_113 : decode cX12_feed 113 = .ok (.iaload, 1) := by decide +kernel
theorem dX12_feed_114 : decode cX12_feed 114 = .ok (.iconst 1, 1) := by decide +kernel
theorem dX12_feed_115 : decode cX12_feed 115 = .ok (.iadd, 1) := by decide +kernel
theorem dX12_feed_116 : decode cX12_feed 116 = .ok (.iastore, 1) := by decide +kernel
theorem dX12_feed_117 : decode cX12_feed 117 = .ok (.iinc 6 1, 3) := by decide +kernel
theorem dX12_feed_120 : decode cX12_feed 120 = .ok (.goto (-100), 3) := by decide +kernel
theorem dX12_feed_123 : decode cX12_feed 123 = .ok (.aload_n 0, 1) := by decide +kernel
theorem dX12_feed_124 : decode cX12_feed 124 = .ok (.getfield 7, 3) := by decide +kernel
theorem dX12_feed_127 : decode cX12_feed 127 = .ok (.iconst 5, 1) := by decide +kernel
theorem dX12_feed_128 : decode cX12_feed 128 = .ok (.iaload, 1) := by decide +kernel
theorem dX12_feed_129 : decode cX12_feed 129 = .ok (.ireturn, 1) := by decide +kernel
abbrev dpX12_feed : Nat := 0
def fX12_feed_73 (k20 : (Nat × Int32 × Int32 × Int32 × Int32 × Int32 × Int32) → St → Option (Int32 × St)) (a0 : Nat) (x1 : Int32) (x2 : Int32) (x3 : Int32) (x4 : Int32) (x5 : Int32) (x6 : Int32) (y0 : Int32) : St → Option (Int32 × St) :=
 gR 13 a0 0 fun v2001 =>
 gR 13 a0 0 fun v2002 =>
 nn v2002 fun a2004 =>
 aI 15 a2004 5 fun v2003 =>
 dv 4 <|
 nn v2001 fun a2005 =>
 wI a2005 (7040 + v2003) ((y0 >>> ((24 - (8 * (irm x6 4))) &&& 31)) &&& 255) <|
 gR 13 a0 0 fun v2006 =>
 nn v2006 fun a2008 =>
 aI 15 a2008 5 fun v2007 =>
 wI a2008 5 (v2007 + 1) <|
 k20 (a0, x1, x2, x3, x4, x5, (x6 + 1))
set_option maxHeartbeats 4000000 in
set_option maxRecDepth 100000 in
theorem sfX12_feed_73 {E : Ev} {l : Launch} (k20 : (Nat × Int32 × Int32 × Int32 × Int32 × Int32 × Int32) → St → Option (Int32 × St)) (hk20 : ∀ p : Nat × Int32 × Int32 × Int32 × Int32 × Int32 × Int32, Snd E l (dpX12_feed, RX12, cX12_feed, 8, (some .int), "feed") rvI 20 [(0, .ref (E.1 + p.1)), (1, .int p.2.1), (2, .int p.2.2.1), (3, .int p.2.2.2.1), (4, .int p.2.2.2.2.1), (5, .int p.2.2.2.2.2.1), (6, .int p.2.2.2.2.2.2)] [] (k20 p)) (a0 : Nat) (x1 : Int32) (x2 : Int32) (x3 : Int32) (x4 : Int32) (x5 : Int32) (x6 : Int32) (y0 : Int32) : Snd E l (dpX12_feed, RX12, cX12_feed, 8, (some .int), "feed") rvI 73 [(0, .ref (E.1 + a0)), (1, .int x1), (2, .int x2), (3, .int x3), (4, .int x4), (5, .int x5), (6, .int x6)] [.int y0] (fX12_feed_73 k20 a0 x1 x2 x3 x4 x5 x6 y0) := by
  unfold fX12_feed_73
  refine sn_istore (pc := 73) (i := 7) (lv' := [(7, .int y0), (0, .ref (E.1 + a0)), (1, .int x1), (2, .int x2), (3, .int x3), (4, .int x4), (5, .int x5), (6, .int x6)]) dX12_feed_73 (by decide) rfl ?_
  refine sn_aload_n (pc := 75) (j := 1) dX12_feed_75 rfl rfl ?_
  refine sn_gR (pc := 76) dX12_feed_76 flX12_7 rfl (fun v2001 => ?_)
  refine sn_sipush (pc := 79) (v := 7040) dX12_feed_79 (by decide) ?_
  refine sn_aload_n (pc := 82) (j := 1) dX12_feed_82 rfl rfl ?_
  refine sn_gR (pc := 83) dX12_feed_83 flX12_7 rfl (fun v2002 => ?_)
  refine sn_iconst (pc := 86) (v := 5) dX12_feed_86 (by decide) ?_
  rcases v2002 with _ | a2004
  · exact sn_no
  refine sn_nn ?_
  refine sn_iald (pc := 87) dX12_feed_87 (fun v2003 => ?_)
  refine sn_iadd (pc := 88) dX12_feed_88 ?_
  refine sn_iload (pc := 89) (j := 0) dX12_feed_89 rfl ?_
  refine sn_bipush (pc := 91) (v := 24) dX12_feed_91 (by decide) ?_
  refine sn_bipush (pc := 93) (v := 8) dX12_feed_93 (by decide) ?_
  refine sn_iload (pc := 95) (j := 7) dX12_feed_95 rfl ?_
  refine sn_iconst (pc := 97) (v := 4) dX12_feed_97 (by decide) ?_
  refine sn_irem (pc := 98) dX12_feed_98 ?_
  refine sn_imul (pc := 99) dX12_feed_99 ?_
  refine sn_isub (pc := 100) dX12_feed_100 ?_
  refine sn_ishr (pc := 101) dX12_feed_101 ?_
  refine sn_sipush (pc := 102) (v := 255) dX12_feed_102 (by decide) ?_
  refine sn_iand (pc := 105) dX12_feed_105 ?_
  rcases v2001 with _ | a2005
  · exact sn_no
  refine sn_nn ?_
  refine sn_iast (pc := 106) dX12_feed_106 ?_
  refine sn_aload_n (pc := 107) (j := 1) dX12_feed_107 rfl rfl ?_
  refine sn_gR (pc := 108) dX12_feed_108 flX12_7 rfl (fun v2006 => ?_)
  refine sn_iconst (pc := 111) (v := 5) dX12_feed_111 (by decide) ?_
  refine sn_dup2 (pc := 112) dX12_feed_112 rfl (rf_cat _ _) ?_
  rcases v2006 with _ | a2008
  · exact sn_no
  refine sn_nn ?_
  refine sn_iald (pc := 113) dX12_feed_113 (fun v2007 => ?_)
  refine sn_iconst (pc := 114) (v := 1) dX12_feed_114 (by decide) ?_
  refine sn_iadd (pc := 115) dX12_feed_115 ?_
  refine sn_iast (pc := 116) dX12_feed_116 ?_
  refine sn_iinc (pc := 117) (v := x6 + 1) (lv' := [(6, .int (x6 + 1)), (7, .int y0), (0, .ref (E.1 + a0)), (1, .int x1), (2, .int x2), (3, .int x3), (4, .int x4), (5, .int x5)]) (j := 7) dX12_feed_117 rfl rfl (by decide) rfl ?_
  refine sn_goto (pc := 120) (tgt := 20) dX12_feed_120 (by decide) ?_
  exact sn_sub (lv' := [(0, .ref (E.1 + a0)), (1, .int x1), (2, .int x2), (3, .int x3), (4, .int x4), (5, .int x5), (6, .int (x6 + 1))]) [2, 3, 4, 5, 6, 7, 0] rfl (hk20 (a0, x1, x2, x3, x4, x5, (x6 + 1)))
def fX12_feed_20 (k20 : (Nat × Int32 × Int32 × Int32 × Int32 × Int32 × Int32) → St → Option (Int32 × St)) (a0 : Nat) (x1 : Int32) (x2 : Int32) (x3 : Int32) (x4 : Int32) (x5 : Int32) (x6 : Int32) : St → Option (Int32 × St) :=
 br (20 ≤ x6) (gR 13 a0 0 fun v1001 =>
 nn v1001 fun a1003 =>
 aI 15 a1003 5 fun v1002 =>
 rt v1002)
 (br (4 ≤ x6) (br (8 ≤ x6) (br (12 ≤ x6) (br (16 ≤ x6) (fX12_feed_73 k20 a0 x1 x2 x3 x4 x5 x6 x5)
 (fX12_feed_73 k20 a0 x1 x2 x3 x4 x5 x6 x4))
 (fX12_feed_73 k20 a0 x1 x2 x3 x4 x5 x6 x3))
 (fX12_feed_73 k20 a0 x1 x2 x3 x4 x5 x6 x2))
 (fX12_feed_73 k20 a0 x1 x2 x3 x4 x5 x6 x1))
set_option maxHeartbeats 4000000 in
set_option maxRecDepth 100000 in
theorem sfX12_feed_20 {E : Ev} {l : Launch} (k20 : (Nat × Int32 × Int32 × Int32 × Int32 × Int32 × Int32) → St → Option (Int32 × St)) (hk20 : ∀ p : Nat × Int32 × Int32 × Int32 × Int32 × Int32 × Int32, Snd E l (dpX12_feed, RX12, cX12_feed, 8, (some .int), "feed") rvI 20 [(0, .ref (E.1 + p.1)), (1, .int p.2.1), (2, .int p.2.2.1), (3, .int p.2.2.2.1), (4, .int p.2.2.2.2.1), (5, .int p.2.2.2.2.2.1), (6, .int p.2.2.2.2.2.2)] [] (k20 p)) (a0 : Nat) (x1 : Int32) (x2 : Int32) (x3 : Int32) (x4 : Int32) (x5 : Int32) (x6 : Int32) : Snd E l (dpX12_feed, RX12, cX12_feed, 8, (some .int), "feed") rvI 20 [(0, .ref (E.1 + a0)), (1, .int x1), (2, .int x2), (3, .int x3), (4, .int x4), (5, .int x5), (6, .int x6)] [] (fX12_feed_20 k20 a0 x1 x2 x3 x4 x5 x6) := by
  unfold fX12_feed_20
  refine sn_iload (pc := 20) (j := 6) dX12_feed_20 rfl ?_
  refine sn_bipush (pc := 22) (v := 20) dX12_feed_22 (by decide) ?_
  refine sn_icmp_ge (pc := 24) (tgt := 123) dX12_feed_24 (by decide) ?_ ?_
  · refine sn_aload_n (pc := 123) (j := 0) dX12_feed_123 rfl rfl ?_
    refine sn_gR (pc := 124) dX12_feed_124 flX12_7 rfl (fun v1001 => ?_)
    refine sn_iconst (pc := 127) (v := 5) dX12_feed_127 (by decide) ?_
    rcases v1001 with _ | a1003
    · exact sn_no
    refine sn_nn ?_
    refine sn_iald (pc := 128) dX12_feed_128 (fun v1002 => ?_)
    exact sn_iret (pc := 129) dX12_feed_129 rfl
  · refine sn_iload (pc := 27) (j := 6) dX12_feed_27 rfl ?_
    refine sn_iconst (pc := 29) (v := 4) dX12_feed_29 (by decide) ?_
    refine sn_icmp_ge (pc := 30) (tgt := 37) dX12_feed_30 (by decide) ?_ ?_
    · refine sn_iload (pc := 37) (j := 6) dX12_feed_37 rfl ?_
      refine sn_bipush (pc := 39) (v := 8) dX12_feed_39 (by decide) ?_
      refine sn_icmp_ge (pc := 41) (tgt := 48) dX12_feed_41 (by decide) ?_ ?_
      · refine sn_iload (pc := 48) (j := 6) dX12_feed_48 rfl ?_
        refine sn_bipush (pc := 50) (v := 12) dX12_feed_50 (by decide) ?_
        refine sn_icmp_ge (pc := 52) (tgt := 59) dX12_feed_52 (by decide) ?_ ?_
        · refine sn_iload (pc := 59) (j := 6) dX12_feed_59 rfl ?_
          refine sn_bipush (pc := 61) (v := 16) dX12_feed_61 (by decide) ?_
          refine sn_icmp_ge (pc := 63) (tgt := 71) dX12_feed_63 (by decide) ?_ ?_
          · refine sn_iload (pc := 71) (j := 5) dX12_feed_71 rfl ?_
            exact sn_sub (lv' := [(0, .ref (E.1 + a0)), (1, .int x1), (2, .int x2), (3, .int x3), (4, .int x4), (5, .int x5), (6, .int x6)]) [0, 1, 2, 3, 4, 5, 6] rfl (sfX12_feed_73 k20 hk20 a0 x1 x2 x3 x4 x5 x6 x5)
          · refine sn_iload (pc := 66) (j := 4) dX12_feed_66 rfl ?_
            refine sn_goto (pc := 68) (tgt := 73) dX12_feed_68 (by decide) ?_
            exact sn_sub (lv' := [(0, .ref (E.1 + a0)), (1, .int x1), (2, .int x2), (3, .int x3), (4, .int x4), (5, .int x5), (6, .int x6)]) [0, 1, 2, 3, 4, 5, 6] rfl (sfX12_feed_73 k20 hk20 a0 x1 x2 x3 x4 x5 x6 x4)
        · refine sn_iload_n (pc := 55) (j := 3) dX12_feed_55 rfl rfl ?_
          refine sn_goto (pc := 56) (tgt := 73) dX12_feed_56 (by decide) ?_
          exact sn_sub (lv' := [(0, .ref (E.1 + a0)), (1, .int x1), (2, .int x2), (3, .int x3), (4, .int x4), (5, .int x5), (6, .int x6)]) [0, 1, 2, 3, 4, 5, 6] rfl (sfX12_feed_73 k20 hk20 a0 x1 x2 x3 x4 x5 x6 x3)
      · refine sn_iload_n (pc := 44) (j := 2) dX12_feed_44 rfl rfl ?_
        refine sn_goto (pc := 45) (tgt := 73) dX12_feed_45 (by decide) ?_
        exact sn_sub (lv' := [(0, .ref (E.1 + a0)), (1, .int x1), (2, .int x2), (3, .int x3), (4, .int x4), (5, .int x5), (6, .int x6)]) [0, 1, 2, 3, 4, 5, 6] rfl (sfX12_feed_73 k20 hk20 a0 x1 x2 x3 x4 x5 x6 x2)
    · refine sn_iload_n (pc := 33) (j := 1) dX12_feed_33 rfl rfl ?_
      refine sn_goto (pc := 34) (tgt := 73) dX12_feed_34 (by decide) ?_
      exact sn_sub (lv' := [(0, .ref (E.1 + a0)), (1, .int x1), (2, .int x2), (3, .int x3), (4, .int x4), (5, .int x5), (6, .int x6)]) [0, 1, 2, 3, 4, 5, 6] rfl (sfX12_feed_73 k20 hk20 a0 x1 x2 x3 x4 x5 x6 x1)
def fX12_feed (a0 : Nat) (x1 : Int32) (x2 : Int32) (x3 : Int32) (x4 : Int32) (x5 : Int32) : St → Option (Int32 × St) :=
 gR 13 a0 0 fun v1 =>
 nn v1 fun a3 =>
 aI 15 a3 5 fun v2 =>
 br ((v2 + 20) ≤ 400) (itr (fun k (p : Nat × Int32 × Int32 × Int32 × Int32 × Int32 × Int32) => fX12_feed_20  k p.1 p.2.1 p.2.2.1 p.2.2.2.1 p.2.2.2.2.1 p.2.2.2.2.2.1 p.2.2.2.2.2.2) FU (a0, x1, x2, x3, x4, x5, 0))
 (rt (-1))
set_option maxHeartbeats 4000000 in
set_option maxRecDepth 100000 in
theorem mX12_feed {E : Ev} {l : Launch} (a0 : Nat) (x1 : Int32) (x2 : Int32) (x3 : Int32) (x4 : Int32) (x5 : Int32) : MF E l dpX12_feed yX12_feed cX12_feed 8 (some .int) rvI [.ref (E.1 + a0), .int x1, .int x2, .int x3, .int x4, .int x5] (fX12_feed a0 x1 x2 x3 x4 x5) := by
  refine MF.of (lv := [(0, .ref (E.1 + a0)), (1, .int x1), (2, .int x2), (3, .int x3), (4, .int x4), (5, .int x5)]) (by decide) (Nat.le_of_ble_eq_true rfl) rfl ?_
  unfold fX12_feed
  refine sn_aload_n (pc := 0) (j := 0) dX12_feed_0 rfl rfl ?_
  refine sn_gR (pc := 1) dX12_feed_1 flX12_7 rfl (fun v1 => ?_)
  refine sn_iconst (pc := 4) (v := 5) dX12_feed_4 (by decide) ?_
  rcases v1 with _ | a3
  · exact sn_no
  refine sn_nn ?_
  refine sn_iald (pc := 5) dX12_feed_5 (fun v2 => ?_)
  refine sn_bipush (pc := 6) (v := 20) dX12_feed_6 (by decide) ?_
  refine sn_iadd (pc := 8) dX12_feed_8 ?_
  refine sn_sipush (pc := 9) (v := 400) dX12_feed_9 (by decide) ?_
  refine sn_icmp_le (pc := 12) (tgt := 17) dX12_feed_12 (by decide) ?_ ?_
  · refine sn_iconst (pc := 17) (v := 0) dX12_feed_17 (by decide) ?_
    refine sn_istore (pc := 18) (i := 6) (lv' := [(6, .int 0), (0, .ref (E.1 + a0)), (1, .int x1), (2, .int x2), (3, .int x3), (4, .int x4), (5, .int x5)]) dX12_feed_18 (by decide) rfl ?_
    exact sn_sub (lv' := [(0, .ref (E.1 + a0)), (1, .int x1), (2, .int x2), (3, .int x3), (4, .int x4), (5, .int x5), (6, .int 0)]) [1, 2, 3, 4, 5, 6, 0] rfl (sn_itr (lvf := fun p => [(0, .ref (E.1 + p.1)), (1, .int p.2.1), (2, .int p.2.2.1), (3, .int p.2.2.2.1), (4, .int p.2.2.2.2.1), (5, .int p.2.2.2.2.2.1), (6, .int p.2.2.2.2.2.2)]) (stf := fun p => []) (fun k hk p => sfX12_feed_20  k hk p.1 p.2.1 p.2.2.1 p.2.2.2.1 p.2.2.2.2.1 p.2.2.2.2.2.1 p.2.2.2.2.2.2) FU (a0, x1, x2, x3, x4, x5, 0))
  · refine sn_iconst (pc := 15) (v := (-1)) dX12_feed_15 (by decide) ?_
    exact sn_iret (pc := 16) dX12_feed_16 rfl
theorem iX12_feed : MI yX12_feed cX12_feed 8 (some .int) 5 := ⟨wt1_10, wt6_124, by decide +kernel, by decide⟩
