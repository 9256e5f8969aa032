-- NeedleHomesModel end(I)I
theorem dX12_end_0 : decode cX12_end 0 = .ok (.iload_n 1, 1) := by decide +kernel
theorem dX12_end_1 : decode cX12_end 1 = .ok (.ifCond .lt 13, 3) := by decide +kernel
theorem dX12_end_4 : decode cX12_end 4 = .ok (.iload_n 1, 1) := by decide +kernel
theorem dX12_end_5 : decode cX12_end 5 = .ok (.aload_n 0, 1) := by decide +kernel
theorem dX12_end_6 : decode cX12_end 6 = .ok (.getfield 7, 3) := by decide +kernel
theorem dX12_end_9 : decode cX12_end 9 = .ok (.iconst 5, 1) := by decide +kernel
theorem dX12_end_10 : decode cX12_end 10 = .ok (.iaload, 1) := by decide +kernel
theorem dX12_end_11 : decode cX12_end 11 = .ok (.if_icmp .le 5, 3) := by decide +kernel
theorem dX12_end_14 : decode cX12_end 14 = .ok (.iconst (-1), 1) := by decide +kernel
theorem dX12_end_15 : decode cX12_end 15 = .ok (.ireturn, 1) := by decide +kernel
theorem dX12_end_16 : decode cX12_end 16 = .ok (.aload_n 0, 1) := by decide +kernel
theorem dX12_end_17 : decode cX12_end 17 = .ok (.getfield 7, 3) := by decide +kernel
theorem dX12_end_20 : decode cX12_end 20 = .ok (.iconst 5, 1) := by decide +kernel
theorem dX12_end_21 : decode cX12_end 21 = .ok (.iload_n 1, 1) := by decide +kernel
theorem dX12_end_22 : decode cX12_end 22 = .ok (.iastore, 1) := by decide +kernel
theorem dX12_end_23 : decode cX12_end 23 = .ok (.iload_n 1, 1) := by decide +kernel
theorem dX12_end_24 : decode cX12_end 24 = .ok (.ireturn, 1) := by decide +kernel
abbrev dpX12_end : Nat := 0
def fX12_end (a0 : Nat) (x1 : Int32) : St → Option (Int32 × St) :=
 br (x1 < 0) (rt (-1))
 (gR 13 a0 0 fun v1 =>
 nn v1 fun a3 =>
 aI 15 a3 5 fun v2 =>
 br (x1 ≤ v2) (gR 13 a0 0 fun v4 =>
 nn v4 fun a5 =>
 wI a5 5 x1 <|
 rt x1)
 (rt (-1)))
set_option maxHeartbeats 4000000 in
set_option maxRecDepth 100000 in
theorem mX12_end {E : Ev} {l : Launch} (a0 : Nat) (x1 : Int32) : MF E l dpX12_end yX12_end cX12_end 2 (some .int) rvI [.ref (E.1 + a0), .int x1] (fX12_end a0 x1) := by
  refine MF.of (lv := [(0, .ref (E.1 + a0)), (1, .int x1)]) (by decide) (Nat.le_of_ble_eq_true rfl) rfl ?_
  unfold fX12_end
  refine sn_iload_n (pc := 0) (j := 1) dX12_end_0 rfl rfl ?_
  refine sn_if_lt (pc := 1) (tgt := 14) dX12_end_1 (by decide) ?_ ?_
  · refine sn_iconst (pc := 14) (v := (-1)) dX12_end_14 (by decide) ?_
    exact sn_iret (pc := 15) dX12_end_15 rfl
  · refine sn_iload_n (pc := 4) (j := 1) dX12_end_4 rfl rfl ?_
    refine sn_aload_n (pc := 5) (j := 0) dX12_end_5 rfl rfl ?_
    refine sn_gR (pc := 6) dX12_end_6 flX12_7 rfl (fun v1 => ?_)
    refine sn_iconst (pc := 9) (v := 5) dX12_end_9 (by decide) ?_
    rcases v1 with _ | a3
    · exact sn_no
    refine sn_nn ?_
    refine sn_iald (pc := 10) dX12_end_10 (fun v2 => ?_)
    refine sn_icmp_le (pc := 11) (tgt := 16) dX12_end_11 (by decide) ?_ ?_
    · refine sn_aload_n (pc := 16) (j := 0) dX12_end_16 rfl rfl ?_
      refine sn_gR (pc := 17) dX12_end_17 flX12_7 rfl (fun v4 => ?_)
      refine sn_iconst (pc := 20) (v := 5) dX12_end_20 (by decide) ?_
      refine sn_iload_n (pc := 21) (j := 1) dX12_end_21 rfl rfl ?_
      rcases v4 with _ | a5
      · exact sn_no
      refine sn_nn ?_
      refine sn_iast (pc := 22) dX12_end_22 ?_
      refine sn_iload_n (pc := 23) (j := 1) dX12_end_23 rfl rfl ?_
      exact sn_iret (pc := 24) dX12_end_24 rfl
    · refine sn_iconst (pc := 14) (v := (-1)) dX12_end_14 (by decide) ?_
      exact sn_iret (pc := 15) dX12_end_15 rfl
theorem iX12_end : MI yX12_end cX12_end 2 (some .int) 1 := ⟨wt1_10, wt6_128, by decide +kernel, by decide⟩
-- NeedleHomesModel byteAt(I)I
theorem dX12_byteAt_0 : decode cX12_byteAt 0 = .ok (.iload_n 1, 1) := by decide +kernel
theorem dX12_byteAt_1 : decode cX12_byteAt 1 = .ok (.aload_n 0, 1) := by decide +kernel
theorem dX12_byteAt_2 : decode cX12_byteAt 2 = .ok (.getfield 55, 3) := by decide +kernel
theorem dX12_byteAt_5 : decode cX12_byteAt 5 = .ok (.if_icmp .ge 16, 3) := by decide +kernel
theorem dX12_byteAt_8 : decode cX12_byteAt 8 = .ok (.aload_n 0, 1) := by decide +kernel
theorem dX12_byteAt_9 : decode cX12_byteAt 9 = .ok (.getfield 7, 3) := by decide +kernel
theorem dX12_byteAt_12 : decode cX12_byteAt 12 = .ok (.sipush 7040, 3) := by decide +kernel
theorem dX12_byteAt_15 : decode cX12_byteAt 15 = .ok (.iload_n 1, 1) := by decide +kernel
theorem dX12_byteAt_16 : decode cX12_byteAt 16 = .ok (.iadd, 1) := by decide +kernel
theorem dX12_byteAt_17 : decode cX12_byteAt 17 = .ok (.iaload, 1) := by decide +kernel
theorem dX12_byteAt_18 : decode cX12_byteAt 18 = .ok (.goto 4, 3) := by decide +kernel
theorem dX12_byteAt_21 : decode cX12_byteAt 21 = .ok (.iconst (-1), 1) := by decide +kernel
theorem dX12_byteAt_22 : decode cX12_byteAt 22 = .ok (.ireturn, 1) := by decide +kernel
abbrev dpX12_byteAt : Nat := 0
def fX12_byteAt (a0 : Nat) (x1 : Int32) : St → Option (Int32 × St) :=
 gI 13 a0 2 fun v1 =>
 br (v1 ≤ x1) (rt (-1))
 (gR 13 a0 0 fun v2 =>
 nn v2 fun a4 =>
 aI 15 a4 (7040 + x1) fun v3 =>
 rt v3)
set_option maxHeartbeats 4000000 in
set_option maxRecDepth 100000 in
theorem mX12_byteAt {E : Ev} {l : Launch} (a0 : Nat) (x1 : Int32) : MF E l dpX12_byteAt yX12_byteAt cX12_byteAt 2 (some .int) rvI [.ref (E.1 + a0), .int x1] (fX12_byteAt a0 x1) := by
  refine MF.of (lv := [(0, .ref (E.1 + a0)), (1, .int x1)]) (by decide) (Nat.le_of_ble_eq_true rfl) rfl ?_
  unfold fX12_byteAt
  refine sn_iload_n (pc := 0) (j := 1) dX12_byteAt_0 rfl rfl ?_
  refine sn_aload_n (pc := 1) (j := 0) dX12_byteAt_1 rfl rfl ?_
  refine sn_gI (pc := 2) dX12_byteAt_2 flX12_55 rfl (fun v1 => ?_)
  refine sn_icmp_ge (pc := 5) (tgt := 21) dX12_byteAt_5 (by decide) ?_ ?_
  · refine sn_iconst (pc := 21) (v := (-1)) dX12_byteAt_21 (by decide) ?_
    exact sn_iret (pc := 22) dX12_byteAt_22 rfl
  · refine sn_aload_n (pc := 8) (j := 0) dX12_byteAt_8 rfl rfl ?_
    refine sn_gR (pc := 9) dX12_byteAt_9 flX12_7 rfl (fun v2 => ?_)
    refine sn_sipush (pc := 12) (v := 7040) dX12_byteAt_12 (by decide) ?_
    refine sn_iload_n (pc := 15) (j := 1) dX12_byteAt_15 rfl rfl ?_
    refine sn_iadd (pc := 16) dX12_byteAt_16 ?_
    rcases v2 with _ | a4
    · exact sn_no
    refine sn_nn ?_
    refine sn_iald (pc := 17) dX12_byteAt_17 (fun v3 => ?_)
    refine sn_goto (pc := 18) (tgt := 22) dX12_byteAt_18 (by decide) ?_
    exact sn_iret (pc := 22) dX12_byteAt_22 rfl
theorem iX12_byteAt : MI yX12_byteAt cX12_byteAt 2 (some .int) 1 := ⟨wt1_10, wt6_152, by decide +kernel, by decide⟩
-- NeedleHomesModel isLetter(I)Z
theorem dX12_isLetter_0 : decode cX12_isLetter 0 = .ok (.iload_n 0, 1) := by decide +kernel
theorem dX12_isLetter_1 : decode cX12_isLetter 1 = .ok (.bipush 97, 2) := by decide +kernel
theorem dX12_isLetter_3 : decode cX12_isLetter 3 = .ok (.if_icmp .lt 13, 3) := by decide +kernel
theorem dX12_isLetter_6 : decode cX12_isLetter 6 = .ok (.iload_n 0, 1) := by decide +kernel
theorem dX12_isLetter_7 : decode cX12_isLetter 7 = .ok (.bipush 122, 2) := by decide +kernel
theorem dX12_isLetter_9 : decode cX12_isLetter 9 = .ok (.if_icmp .gt 7, 3) := by decide +kernel
theorem dX12_isLetter_12 : decode cX12_isLetter 12 = .ok (.iconst 1, 1) := by decide +kernel
theorem dX12_isLetter_13 : decode cX12_isLetter 13 = .ok (.goto 4, 3) := by decide +kernel
theorem dX12_isLetter_16 : decode cX12_isLetter 16 = .ok (.iconst 0, 1) := by decide +kernel
theorem dX12_isLetter_17 : decode cX12_isLetter 17 = .ok (.ireturn, 1) := by decide +kernel
abbrev dpX12_isLetter : Nat := 0
def fX12_isLetter (x0 : Int32) : St → Option (Bool × St) :=
 br (x0 < 97) (rtZ 0)
 (br (122 < x0) (rtZ 0)
 (rtZ 1))
set_option maxHeartbeats 4000000 in
set_option maxRecDepth 100000 in
theorem mX12_isLetter {E : Ev} {l : Launch} (x0 : Int32) : MF E l dpX12_isLetter yX12_isLetter cX12_isLetter 1 (some .boolean) rvZ [.int x0] (fX12_isLetter x0) := by
  refine MF.of (lv := [(0, .int x0)]) (by decide) (Nat.le_of_ble_eq_true rfl) rfl ?_
  unfold fX12_isLetter
  refine sn_iload_n (pc := 0) (j := 0) dX12_isLetter_0 rfl rfl ?_
  refine sn_bipush (pc := 1) (v := 97) dX12_isLetter_1 (by decide) ?_
  refine sn_icmp_lt (pc := 3) (tgt := 16) dX12_isLetter_3 (by decide) ?_ ?_
  · refine sn_iconst (pc := 16) (v := 0) dX12_isLetter_16 (by decide) ?_
    exact sn_zret (pc := 17) dX12_isLetter_17 rfl
  · refine sn_iload_n (pc := 6) (j := 0) dX12_isLetter_6 rfl rfl ?_
    refine sn_bipush (pc := 7) (v := 122) dX12_isLetter_7 (by decide) ?_
    refine sn_icmp_gt (pc := 9) (tgt := 16) dX12_isLetter_9 (by decide) ?_ ?_
    · refine sn_iconst (pc := 16) (v := 0) dX12_isLetter_16 (by decide) ?_
      exact sn_zret (pc := 17) dX12_isLetter_17 rfl
    · refine sn_iconst (pc := 12) (v := 1) dX12_isLetter_12 (by decide) ?_
      refine sn_goto (pc := 13) (tgt := 17) dX12_isLetter_13 (by decide) ?_
      exact sn_zret (pc := 17) dX12_isLetter_17 rfl
theorem iX12_isLetter : MI yX12_isLetter cX12_isLetter 1 (some .boolean) 1 := ⟨wt1_10, wt6_155, by decide +kernel, by decide⟩
-- NeedleHomesModel isDigit(I)Z
theorem dX12_isDigit_0 : decode cX12_isDigit 0 = .ok (.iload_n 0, 1) := by decide +kernel
theorem dX12_isDigit_1 : decode cX12_isDigit 1 = .ok (.bipush 48, 2) := by decide +kernel
theorem dX12_isDigit_3 : decode cX12_isDigit 3 = .ok (.if_icmp .lt 13, 3) := by decide +kernel
theorem dX12_isDigit_6 : decode cX12_isDigit 6 = .ok (.iload_n 0, 1) := by decide +kernel
theorem dX12_isDigit_7 : decode cX12_isDigit 7 = .ok (.bipush 57, 2) := by decide +kernel
theorem dX12_isDigit_9 : decode cX12_isDigit 9 = .ok (.if_icmp .gt 7, 3) := by decide +kernel
theorem dX12_isDigit_12 : decode cX12_isDigit 12 = .ok (.iconst 1, 1) := by decide +kernel
theorem dX12_isDigit_13 : decode cX12_isDigit 13 = .ok (.goto 4, 3) := by decide +kernel
theorem dX12_isDigit_16 : decode cX12_isDigit 16 = .ok (.iconst 0, 1) := by decide +kernel
theorem dX12_isDigit_17 : decode cX12_isDigit 17 = .ok (.ireturn, 1) := by decide +kernel
abbrev dpX12_isDigit : Nat := 0
def fX12_isDigit (x0 : Int32) : St → Option (Bool × St) :=
 br (x0 < 48) (rtZ 0)
 (br (57 < x0) (rtZ 0)
 (rtZ 1))
set_option maxHeartbeats 4000000 in
set_option maxRecDepth 100000 in
theorem mX12_isDigit {E : Ev} {l : Launch} (x0 : Int32) : MF E l dpX12_isDigit yX12_isDigit cX12_isDigit 1 (some .boolean) rvZ [.int x0] (fX12_isDigit x0) := by
  refine MF.of (lv := [(0, .int x0)]) (by decide) (Nat.le_of_ble_eq_true rfl) rfl ?_
  unfold fX12_isDigit
  refine sn_iload_n (pc := 0) (j := 0) dX12_isDigit_0 rfl rfl ?_
  refine sn_bipush (pc := 1) (v := 48) dX12_isDigit_1 (by decide) ?_
  refine sn_icmp_lt (pc := 3) (tgt := 16) dX12_isDigit_3 (by decide) ?_ ?_
  · refine sn_iconst (pc := 16) (v := 0) dX12_isDigit_16 (by decide) ?_
    exact sn_zret (pc := 17) dX12_isDigit_17 rfl
  · refine sn_iload_n (pc := 6) (j := 0) dX12_isDigit_6 rfl rfl ?_
    refine sn_bipush (pc := 7) (v := 57) dX12_isDigit_7 (by decide) ?_
    refine sn_icmp_gt (pc := 9) (tgt := 16) dX12_isDigit_9 (by decide) ?_ ?_
    · refine sn_iconst (pc := 16) (v := 0) dX12_isDigit_16 (by decide) ?_
      exact sn_zret (pc := 17) dX12_isDigit_17 rfl
    · refine sn_iconst (pc := 12) (v := 1) dX12_isDigit_12 (by decide) ?_
      refine sn_goto (pc := 13) (tgt := 17) dX12_isDigit_13 (by decide) ?_
      exact sn_zret (pc := 17) dX12_isDigit_17 rfl
theorem iX12_isDigit : MI yX12_isDigit cX12_isDigit 1 (some .boolean) 1 := ⟨wt1_10, wt6_176, by decide +kernel, by decide⟩
-- NeedleHomesModel three(III)J
theorem dX12_three_0 : decode cX12_three 0 = .ok (.ldc2_w 59, 3) := by decide +kernel
theorem dX12_three_3 : decode cX12_three 3 = .ok (.iload_n 0, 1) := by decide +kernel
theorem dX12_three_4 : decode cX12_three 4 = .ok (.bipush 96, 2) := by decide +kernel
theorem dX12_three_6 : decode cX12_three 6 = .ok (.isub, 1) := by decide +kernel
theorem dX12_three_7 : decode cX12_three 7 = .ok (.i2l, 1) := by decide +kernel
theorem dX12_three_8 : decode cX12_three 8 = .ok (.lmul, 1) := by decide +kernel
theorem dX12_three_9 : decode cX12_three 9 = .ok (.iload_n 1, 1) := by decide +kernel
theorem dX12_three_10 : decode cX12_three 10 = .ok (.i2l, 1) := by decide +kernel
theorem dX12_three_11 : decode cX12_three 11 = .ok (.ladd, 1) := by decide +kernel
theorem dX12_three_12 : decode cX12_three 12 = .ok (.ldc2_w 61, 3) := by decide +kernel
theorem dX12_three_15 : decode cX12_three 15 = .ok (.lsub, 1) := by decide +kernel
theorem dX12_three_16 : decode cX12_three 16 = .ok (.ldc2_w 59, 3) := by decide +kernel
theorem dX12_three_19 : decode cX12_three 19 = .ok (.lmul, 1) := by decide +kernel
theorem dX12_three_20 : decode cX12_three 20 = .ok (.iload_n 2, 1) := by decide +kernel
theorem dX12_three_21 : decode cX12_three 21 = .ok (.i2l, 1) := by decide +kernel
theorem dX12_three_22 : decode cX12_three 22 = .ok (.ladd, 1) := by decide +kernel
theorem dX12_three_23 : decode cX12_three 23 = .ok (.ldc2_w 61, 3) := by decide +kernel
theorem dX12_three_26 : decode cX12_three 26 = .ok (.lsub, 1) := by decide +kernel
theorem dX12_three_27 : decode cX12_three 27 = .ok (.lreturn, 1) := by decide +kernel
abbrev dpX12_three : Nat := 0
def fX12_three (x0 : Int32) (x1 : Int32) (x2 : Int32) : St → Option (Int64 × St) :=
 rt ((((((32 * ((x0 - 96).toInt64)) + x1.toInt64) - 96) * 32) + x2.toInt64) - 96)
set_option maxHeartbeats 4000000 in
set_option maxRecDepth 100000 in
theorem mX12_three {E : Ev} {l : Launch} (x0 : Int32) (x1 : Int32) (x2 : Int32) : MF E l dpX12_three yX12_three cX12_three 3 (some .long) rvJ [.int x0, .int x1, .int x2] (fX12_three x0 x1 x2) := by
  refine MF.of (lv := [(0, .int x0), (1, .int x1), (2, .int x2)]) (by decide) (Nat.le_of_ble_eq_true rfl) rfl ?_
  unfold fX12_three
  refine sn_ldc2 (pc := 0) (v := 32) dX12_three_0 wt6_156 ?_
  refine sn_iload_n (pc := 3) (j := 0) dX12_three_3 rfl rfl ?_
  refine sn_bipush (pc := 4) (v := 96) dX12_three_4 (by decide) ?_
  refine sn_isub (pc := 6) dX12_three_6 ?_
  refine sn_i2l (pc := 7) dX12_three_7 ?_
  refine sn_lmul (pc := 8) dX12_three_8 ?_
  refine sn_iload_n (pc := 9) (j := 1) dX12_three_9 rfl rfl ?_
  refine sn_i2l (pc := 10) dX12_three_10 ?_
  refine sn_ladd (pc := 11) dX12_three_11 ?_
  refine sn_ldc2 (pc := 12) (v := 96) dX12_three_12 wt6_157 ?_
  refine sn_lsub (pc := 15) dX12_three_15 ?_
  refine sn_ldc2 (pc := 16) (v := 32) dX12_three_16 wt6_156 ?_
  refine sn_lmul (pc := 19) dX12_three_19 ?_
  refine sn_iload_n (pc := 20) (j := 2) dX12_three_20 rfl rfl ?_
  refine sn_i2l (pc := 21) dX12_three_21 ?_
  refine sn_ladd (pc := 22) dX12_three_22 ?_
  refine sn_ldc2 (pc := 23) (v := 96) dX12_three_23 wt6_157 ?_
  refine sn_lsub (pc := 26) dX12_three_26 ?_
  exact sn_lret (pc := 27) dX12_three_27 rfl
theorem iX12_three : MI yX12_three cX12_three 3 (some .long) 3 := ⟨wt1_10, wt6_166, by decide +kernel, by decide⟩
-- NeedleHomesModel four(IIII)J
theorem dX12_four_0 : decode cX12_four 0 = .ok (.iload_n 0, 1) := by decide +kernel
theorem dX12_four_1 : decode cX12_four 1 = .ok (.iload_n 1, 1) := by decide +kernel
theorem dX12_four_2 : decode cX12_four 2 = .ok (.iload_n 2, 1) := by decide +kernel
theorem dX12_four_3 : decode cX12_four 3 = .ok (.invokestatic 63, 3) := by decide +kernel
theorem dX12_four_6 : decode cX12_four 6 = .ok (.ldc2_w 59, 3) := by decide +kernel
theorem dX12_four_9 : decode cX12_four 9 = .ok (.lmul, 1) := by decide +kernel
theorem dX12_four_10 : decode cX12_four 10 = .ok (.iload_n 3, 1) := by decide +kernel
theorem dX12_four_11 : decode cX12_four 11 = .ok (.i2l, 1) := by decide +kernel
theorem dX12_four_12 : decode cX12_four 12 = .ok (.ladd, 1) := by decide +kernel
theorem dX12_four_13 : decode cX12_four 13 = .ok (.ldc2_w 61, 3) := by decide +kernel
theorem dX12_four_16 : decode cX12_four 16 = .ok (.lsub, 1) := by decide +kernel
theorem dX12_four_17 : decode cX12_four 17 = .ok (.lreturn, 1) := by decide +kernel
abbrev dpX12_four : Nat := 1
def fX12_four (x0 : Int32) (x1 : Int32) (x2 : Int32) (x3 : Int32) : St → Option (Int64 × St) :=
 cl (fX12_three x0 x1 x2) fun v1 =>
 rt (((v1 * 32) + x3.toInt64) - 96)
set_option maxHeartbeats 4000000 in
set_option maxRecDepth 100000 in
theorem mX12_four {E : Ev} {l : Launch} (x0 : Int32) (x1 : Int32) (x2 : Int32) (x3 : Int32) : MF E l dpX12_four yX12_four cX12_four 4 (some .long) rvJ [.int x0, .int x1, .int x2, .int x3] (fX12_four x0 x1 x2 x3) := by
  refine MF.of (lv := [(0, .int x0), (1, .int x1), (2, .int x2), (3, .int x3)]) (by decide) (Nat.le_of_ble_eq_true rfl) rfl ?_
  unfold fX12_four
  refine sn_iload_n (pc := 0) (j := 0) dX12_four_0 rfl rfl ?_
  refine sn_iload_n (pc := 1) (j := 1) dX12_four_1 rfl rfl ?_
  refine sn_iload_n (pc := 2) (j := 2) dX12_four_2 rfl rfl ?_
  refine sn_callS (pc := 3) dX12_four_3 iX12_three wt6_165 wt6_164 (mX12_three x0 x1 x2) (by decide) rfl rfl (Nat.le_of_ble_eq_true rfl) (fun v1 => ?_)
  refine sn_ldc2 (pc := 6) (v := 32) dX12_four_6 wt6_156 ?_
  refine sn_lmul (pc := 9) dX12_four_9 ?_
  refine sn_iload_n (pc := 10) (j := 3) dX12_four_10 rfl rfl ?_
  refine sn_i2l (pc := 11) dX12_four_11 ?_
  refine sn_ladd (pc := 12) dX12_four_12 ?_
  refine sn_ldc2 (pc := 13) (v := 96) dX12_four_13 wt6_157 ?_
  refine sn_lsub (pc := 16) dX12_four_16 ?_
  exact sn_lret (pc := 17) dX12_four_17 rfl
theorem iX12_four : MI yX12_four cX12_four 4 (some .long) 4 := ⟨wt1_10, wt6_163, by decide +kernel, by decide⟩
-- NeedleHomesModel six(JJ)J
theorem dX12_six_0 : decode cX12_six 0 = .ok (.lload_n 0, 1) := by decide +kernel
theorem dX12_six_1 : decode cX12_six 1 = .ok (.ldc2_w 67, 3) := by decide +kernel
theorem dX12_six_4 : decode cX12_six 4 = .ok (.lmul, 1) := by decide +kernel
theorem dX12_six_5 : decode cX12_six 5 = .ok (.lload_n 2, 1) := by decide +kernel
theorem dX12_six_6 : decode cX12_six 6 = .ok (.ladd, 1) := by decide +kernel
theorem dX12_six_7 : decode cX12_six 7 = .ok (.lreturn, 1) := by decide +kernel
abbrev dpX12_six : Nat := 0
def fX12_six (x0 : Int64) (x2 : Int64) : St → Option (Int64 × St) :=
 rt ((x0 * 32768) + x2)
set_option maxHeartbeats 4000000 in
set_option maxRecDepth 100000 in
theorem mX12_six {E : Ev} {l : Launch} (x0 : Int64) (x2 : Int64) : MF E l dpX12_six yX12_six cX12_six 4 (some .long) rvJ [.long x0, .long x2] (fX12_six x0 x2) := by
  refine MF.of (lv := [(0, .long x0), (2, .long x2)]) (by decide) (Nat.le_of_ble_eq_true rfl) rfl ?_
  unfold fX12_six
  refine sn_lload_n (pc := 0) (j := 0) dX12_six_0 rfl rfl ?_
  refine sn_ldc2 (pc := 1) (v := 32768) dX12_six_1 wt6_170 ?_
  refine sn_lmul (pc := 4) dX12_six_4 ?_
  refine sn_lload_n (pc := 5) (j := 1) dX12_six_5 rfl rfl ?_
  refine sn_ladd (pc := 6) dX12_six_6 ?_
  exact sn_lret (pc := 7) dX12_six_7 rfl
theorem iX12_six : MI yX12_six cX12_six 4 (some .long) 2 := ⟨wt1_10, wt6_169, by decide +kernel, by decide⟩
-- NeedleHomesModel wordOf(J)I
theorem dX12_wordOf_0 : decode cX12_wordOf 0 = .ok (.lload_n 0, 1) := by decide +kernel
theorem dX12_wordOf_1 : decode cX12_wordOf 1 = .ok (.ldc2_w 59, 3) := by decide +kernel
theorem dX12_wordOf_4 : decode cX12_wordOf 4 = .ok (.lcmp, 1) := by decide +kernel
theorem dX12_wordOf_5 : decode cX12_wordOf 5 = .ok (.ifCond .ge 11, 3) := by decide +kernel
theorem dX12_wordOf_8 : decode cX12_wordOf 8 = .ok (.bipush 40, 2) := by decide +kernel
theorem dX12_wordOf_10 : decode cX12_wordOf 10 = .ok (.lload_n 0, 1) := by decide +kernel
theorem dX12_wordOf_11 : decode cX12_wordOf 11 = .ok (.l2i, 1) := by decide +kernel
theorem dX12_wordOf_12 : decode cX12_wordOf 12 = .ok (.iadd, 1) := by decide +kernel
theorem dX12_wordOf_13 : decode cX12_wordOf 13 = .ok (.iconst 1, 1) := by decide +kernel
theorem dX12_wordOf_14 : decode cX12_wordOf 14 = .ok (.isub, 1) := by decide +kernel
theorem dX12_wordOf_15 : decode cX12_wordOf 15 = .ok (.ireturn, 1) := by decide +kernel
theorem dX12_wordOf_16 : decode cX12_wordOf 16 = .ok (.lload_n 0, 1) := by decide +kernel
theorem dX12_wordOf_17 : decode cX12_wordOf 17 = .ok (.bipush 114, 2) := by decide +kernel
theorem dX12_wordOf_19 : decode cX12_wordOf 19 = .ok (.bipush 97, 2) := by decide +kernel
theorem dX12_wordOf_21 : decode cX12_wordOf 21 = .ok (.bipush 116, 2) := by decide +kernel
theorem dX12_wordOf_23 : decode cX12_wordOf 23 = .ok (.bipush 101, 2) := by decide +kernel
theorem dX12_wordOf_25 : decode cX12_wordOf 25 = .ok (.invokestatic 69, 3) := by decide +kernel
theorem dX12_wordOf_28 : decode cX12_wordOf 28 = .ok (.lcmp, 1) := by decide +kernel
theorem dX12_wordOf_29 : decode cX12_wordOf 29 = .ok (.ifCond .ne 5, 3) := by decide +kernel
theorem dX12_wordOf_32 : decode cX12_wordOf 32 = .ok (.iconst 0, 1) := by decide +kernel
theorem dX12_wordOf_33 : decode cX12_wordOf 33 = .ok (.ireturn, 1) := by decide +kernel
theorem dX12_wordOf_34 : decode cX12_wordOf 34 = .ok (.lload_n 0, 1) := by decide +kernel
theorem dX12_wordOf_35 : decode cX12_wordOf 35 = .ok (.bipush 116, 2) := by decide +kernel
theorem dX12_wordOf_37 : decode cX12_wordOf 37 = .ok (.bipush 104, 2) := by decide +kernel
theorem dX12_wordOf_39 : decode cX12_wordOf 39 = .ok (.bipush 114, 2) := by decide +kernel
theorem dX12_wordOf_41 : decode cX12_wordOf 41 = .ok (.invokestatic 63, 3) := by decide +kernel
theorem dX12_wordOf_44 : decode cX12_wordOf 44 = .ok (.bipush 101, 2) := by decide +kernel
theorem dX12_wordOf_46 : decode cX12_wordOf 46 = .ok (.bipush 97, 2) := by decide +kernel
theorem dX12_wordOf_48 : decode cX12_wordOf 48 = .ok (.bipush 100, 2) := by decide +kernel
theorem dX12_wordOf_50 : decode cX12_wordOf 50 = .ok (.invokestatic 63, 3) := by decide +kernel
theorem dX12_wordOf_53 : decode cX12_wordOf 53 = .ok (.invokestatic 73, 3) := by decide +kernel
theorem dX12_wordOf_56 : decode cX12_wordOf 56 = .ok (.lcmp, 1) := by decide +kernel
theorem dX12_wordOf_57 : decode cX12_wordOf 57 = .ok (.ifCond .ne 5, 3) := by decide +kernel
theorem dX12_wordOf_60 : decode cX12_wordOf 60 = .ok (.iconst 1, 1) := by decide +kernel
theorem dX12_wordOf_61 : decode cX12_wordOf 61 = .ok (.ireturn, 1) := by decide +kernel
theorem dX12_wordOf_62 : decode cX12_wordOf 62 = .ok (.lload_n 0, 1) := by decide +kernel
theorem dX12_wordOf_63 : decode cX12_wordOf 63 = .ok (.bipush 102, 2) := by decide +kernel
theorem dX12_wordOf_65 : decode cX12_wordOf 65 = .ok (.bipush 105, 2) := by decide +kernel
theorem dX12_wordOf_67 : decode cX12_wordOf 67 = .ok (.bipush 110, 2) := by decide +kernel
theorem dX12_wordOf_69 : decode cX12_wordOf 69 = .ok (.bipush 101, 2) := by decide +kernel
theorem dX12_wordOf_71 : decode cX12_wordOf 71 = .ok (.invokestatic 69, 3) := by decide +kernel
theorem dX12_wordOf_74 : decode cX12_wordOf 74 = .ok (.lcmp, 1) := by decide +kernel
theorem dX12_wordOf_75 : decode cX12_wordOf 75 = .ok (.ifCond .ne 5, 3) := by decide +kernel
theorem dX12_wordOf_78 : decode cX12_wordOf 78 = .ok (.iconst 2, 1) := by decide +kernel
theorem dX12_wordOf_79 : decode cX12_wordOf 79 = .ok (.ireturn, 1) := by decide +kernel
theorem dX12_wordOf_80 : decode cX12_wordOf 80 = .ok (.lload_n 0, 1) := by decide +kernel
theorem dX12_wordOf_81 : decode cX12_wordOf 81 = .ok (.bipush 108, 2) := by decide +kernel
theorem dX12_wordOf_83 : decode cX12_wordOf 83 = .ok (.bipush 97, 2) := by decide +kernel
theorem dX12_wordOf_85 : decode cX12_wordOf 85 = .ok (.bipush 116, 2) := by decide +kernel
theorem dX12_wordOf_87 : decode cX12_wordOf 87 = .ok (.bipush 101, 2) := by decide +kernel
theorem dX12_wordOf_89 : decode cX12_wordOf 89 = .ok (.invokestatic 69, 3) := by decide +kernel
theorem dX12_wordOf_92 : decode cX12_wordOf 92 = .ok (.lcmp, 1) := by decide +kernel
theorem dX12_wordOf_93 : decode cX12_wordOf 93 = .ok (.ifCond .ne 5, 3) := by decide +kernel
theorem dX12_wordOf_96 : decode cX12_wordOf 96 = .ok (.iconst 3, 1) := by decide +kernel
theorem dX12_wordOf_97 : decode cX12_wordOf 97 = .ok (.ireturn, 1) := by decide +kernel
theorem dX12_wordOf_98 : decode cX12_wordOf 98 = .ok (.lload_n 0, 1) := by decide +kernel
theorem dX12_wordOf_99 : decode cX12_wordOf 99 = .ok (.bipush 100, 2) := by decide +kernel
theorem dX12_wordOf_101 : decode cX12_wordOf 101 = .ok (.bipush 97, 2) := by decide +kernel
theorem dX12_wordOf_103 : decode cX12_wordOf 103 = .ok (.bipush 121, 2) := by decide +kernel
theorem dX12_wordOf_105 : decode cX12_wordOf 105 = .ok (.bipush 115, 2) := by decide +kernel
theorem dX12_wordOf_107 : decode cX12_wordOf 107 = .ok (.invokestatic 69, 3) := by decide +kernel
theorem dX12_wordOf_110 : decode cX12_wordOf 110 = .ok (.lcmp, 1) := by decide +kernel
theorem dX12_wordOf_111 : decode cX12_wordOf 111 = .ok (.ifCond .ne 5, 3) := by decide +kernel
theorem dX12_wordOf_114 : decode cX12_wordOf 114 = .ok (.iconst 4, 1) := by decide +kernel
theorem dX12_wordOf_115 : decode cX12_wordOf 115 = .ok (.ireturn, 1) := by decide +kernel
theorem dX12_wordOf_116 : decode cX12_wordOf 116 = .ok (.lload_n 0, 1) := by decide +kernel
theorem dX12_wordOf_117 : decode cX12_wordOf 117 = .ok (.bipush 112, 2) := by decide +kernel
theorem dX12_wordOf_119 : decode cX12_wordOf 119 = .ok (.bipush 97, 2) := by decide +kernel
theorem dX12_wordOf_121 : decode cX12_wordOf 121 = .ok (.bipush 114, 2) := by decide +kernel
theorem dX12_wordOf_123 : decode cX12_wordOf 123 = .ok (.bipush 116, 2) := by decide +kernel
theorem dX12_wordOf_125 : decode cX12_wordOf 125 = .ok (.invokestatic 69, 3) := by decide +kernel
theorem dX12_wordOf_128 : decode cX12_wordOf 128 = .ok (.lcmp, 1) := by decide +kernel
theorem dX12_wordOf_129 : decode cX12_wordOf 129 = .ok (.ifCond .ne 5, 3) := by decide +kernel
theorem dX12_wordOf_132 : decode cX12_wordOf 132 = .ok (.iconst 5, 1) := by decide +kernel
theorem dX12_wordOf_133 : decode cX12_wordOf 133 = .ok (.ireturn, 1) := by decide +kernel
theorem dX12_wordOf_134 : decode cX12_wordOf 134 = .ok (.lload_n 0, 1) := by decide +kernel
theorem dX12_wordOf_135 : decode cX12_wordOf 135 = .ok (.bipush 104, 2) := by decide +kernel
theorem dX12_wordOf_137 : decode cX12_wordOf 137 = .ok (.bipush 97, 2) := by decide +kernel
theorem dX12_wordOf_139 : decode cX12_wordOf 139 = .ok (.bipush 121, 2) := by decide +kernel
theorem dX12_wordOf_141 : decode cX12_wordOf 141 = .ok (.invokestatic 63, 3) := by decide +kernel
theorem dX12_wordOf_144 : decode cX12_wordOf 144 = .ok (.lcmp, 1) := by decide +kernel
theorem dX12_wordOf_145 : decode cX12_wordOf 145 = .ok (.ifCond .ne 6, 3) := by decide +kernel
theorem dX12_wordOf_148 : decode cX12_wordOf 148 = .ok (.bipush 10, 2) := by decide +kernel
theorem dX12_wordOf_150 : decode cX12_wordOf 150 = .ok (.ireturn, 1) := by decide +kernel
theorem dX12_wordOf_151 : decode cX12_wordOf 151 = .ok (.lload_n 0, 1) := by decide +kernel
theorem dX12_wordOf_152 : decode cX12_wordOf 152 = .ok (.bipush 115, 2) := by decide +kernel
theorem dX12_wordOf_154 : decode cX12_wordOf 154 = .ok (.bipush 116, 2) := by decide +kernel
theorem dX12_wordOf_156 : decode cX12_wordOf 156 = .ok (.bipush 105, 2) := by decide +kernel
theorem dX12_wordOf_158 : decode cX12_wordOf 158 = .ok (.invokestatic 63, 3) := by decide +kernel
theorem dX12_wordOf_161 : decode cX12_wordOf 161 = .ok (.bipush 116, 2) := by decide +kernel
theorem dX12_wordOf_163 : decode cX12_wordOf 163 = .ok (.bipush 99, 2) := by decide +kernel
theorem dX12_wordOf_165 : decode cX12_wordOf 165 = .ok (.bipush 104, 2) := by decide +kernel
theorem dX12_wordOf_167 : decode cX12_wordOf 167 = .ok (.invokestatic 63, 3) := by decide +kernel
theorem dX12_wordOf_170 : decode cX12_wordOf 170 = .ok (.invokestatic 73, 3) := by decide +kernel
theorem dX12_wordOf_173 : decode cX12_wordOf 173 = .ok (.lcmp, 1) := by decide +kernel
theorem dX12_wordOf_174 : decode cX12_wordOf 174 = .ok (.ifCond .ne 6, 3) := by decide +kernel
theorem dX12_wordOf_177 : decode cX12_wordOf 177 = .ok (.bipush 11, 2) := by decide +kernel
theorem dX12_wordOf_179 : decode cX12_wordOf 179 = .ok (.ireturn, 1) := by decide +kernel
theorem dX12_wordOf_180 : decode cX12_wordOf 180 = .ok (.lload_n 0, 1) := by decide +kernel
theorem dX12_wordOf_181 : decode cX12_wordOf 181 = .ok (.bipush 99, 2) := by decide +kernel
theorem dX12_wordOf_183 : decode cX12_wordOf 183 = .ok (.bipush 111, 2) := by decide +kernel
theorem dX12_wordOf_185 : decode cX12_wordOf 185 = .ok (.bipush 108, 2) := by decide +kernel
theorem dX12_wordOf_187 : decode cX12_wordOf 187 = .ok (.invokestatic 63, 3) := by decide +kernel
theorem dX12_wordOf_190 : decode cX12_wordOf 190 = .ok (.bipush 111, 2) := by decide +kernel
theorem dX12_wordOf_192 : decode cX12_wordOf 192 = .ok (.bipush 117, 2) := by decide +kernel
theorem dX12_wordOf_194 : decode cX12_wordOf 194 = .ok (.bipush 114, 2) := by decide +kernel
theorem dX12_wordOf_196 : decode cX12_wordOf 196 = .ok (.invokestatic 63, 3) := by decide +kernel
theorem dX12_wordOf_199 : decode cX12_wordOf 199 = .ok (.invokestatic 73, 3) := by decide +kernel
theorem dX12_wordOf_202 : decode cX12_wordOf 202 = .ok (.lcmp, 1) := by decide +kernel
theorem dX12_wordOf_203 : decode cX12_wordOf 203 = .ok (.ifCond .ne 6, 3) := by decide +kernel
theorem dX12_wordOf_206 : decode cX12_wordOf 206 = .ok (.bipush 12, 2) := by decide +kernel
theorem dX12_wordOf_208 : decode cX12_wordOf 208 = .ok (.ireturn, 1) := by decide +kernel
theorem dX12_wordOf_209 : decode cX12_wordOf 209 = .ok (.lload_n 0, 1) := by decide +kernel
theorem dX12_wordOf_210 : decode cX12_wordOf 210 = .ok (.bipush 103, 2) := by decide +kernel
theorem dX12_wordOf_212 : decode cX12_wordOf 212 = .ok (.bipush 114, 2) := by decide +kernel
theorem dX12_wordOf_214 : decode cX12_wordOf 214 = .ok (.bipush 111, 2) := by decide +kernel
theorem dX12_wordOf_216 : decode cX12_wordOf 216 = .ok (.invokestatic 63, 3) := by decide +kernel
theorem dX12_wordOf_219 : decode cX12_wordOf 219 = .ok (.bipush 117, 2) := by decide +kernel
theorem dX12_wordOf_221 : decode cX12_wordOf 221 = .ok (.bipush 110, 2) := by decide +kernel
theorem dX12_wordOf_223 : decode cX12_wordOf 223 = .ok (.bipush 100, 2) := by decide +kernel
theorem dX12_wordOf_225 : decode cX12_wordOf 225 = .ok (.invokestatic 63, 3) := by decide +kernel
theorem dX12_wordOf_228 : decode cX12_wordOf 228 = .ok (.invokestatic 73, 3) := by decide +kernel
theorem dX12_wordOf_231 : decode cX12_wordOf 231 = .ok (.lcmp, 1) := by decide +kernel
theorem dX12_wordOf_232 : decode cX12_wordOf 232 = .ok (.ifCond .ne 6, 3) := by decide +kernel
theorem dX12_wordOf_235 : decode cX12_wordOf 235 = .ok (.bipush 13, 2) := by decide +kernel
theorem dX12_wordOf_237 : decode cX12_wordOf 237 = .ok (.ireturn, 1) := by decide +kernel
theorem dX12_wordOf_238 : decode cX12_wordOf 238 = .ok (.lload_n 0, 1) := by decide +kernel
theorem dX12_wordOf_239 : decode cX12_wordOf 239 = .ok (.bipush 115, 2) := by decide +kernel
theorem dX12_wordOf_241 : decode cX12_wordOf 241 = .ok (.bipush 105, 2) := by decide +kernel
theorem dX12_wordOf_243 : decode cX12_wordOf 243 = .ok (.bipush 122, 2) := by decide +kernel
theorem dX12_wordOf_245 : decode cX12_wordOf 245 = .ok (.bipush 101, 2) := by decide +kernel
theorem dX12_wordOf_247 : decode cX12_wordOf 247 = .ok (.invokestatic 69, 3) := by decide +kernel
theorem dX12_wordOf_250 : decode cX12_wordOf 250 = .ok (.lcmp, 1) := by decide +kernel
theorem dX12_wordOf_251 : decode cX12_wordOf 251 = .ok (.ifCond .ne 6, 3) := by decide +kernel
theorem dX12_wordOf_254 : decode cX12_wordOf 254 = .ok (.bipush 14, 2) := by decide +kernel
theorem dX12_wordOf_256 : decode cX12_wordOf 256 = .ok (.ireturn, 1) := by decide +kernel
theorem dX12_wordOf_257 : decode cX12_wordOf 257 = .ok (.lload_n 0, 1) := by decide +kernel
theorem dX12_wordOf_258 : decode cX12_wordOf 258 = .ok (.bipush 115, 2) := by decide +kernel
theorem dX12_wordOf_260 : decode cX12_wordOf 260 = .ok (.bipush 107, 2) := by decide +kernel
theorem dX12_wordOf_262 : decode cX12_wordOf 262 = .ok (.bipush 105, 2) := by decide +kernel
theorem dX12_wordOf_264 : decode cX12_wordOf 264 = .ok (.bipush 108, 2) := by decide +kernel
theorem dX12_wordOf_266 : decode cX12_wordOf 266 = .ok (.invokestatic 69, 3) := by decide +kernel
theorem dX12_wordOf_269 : decode cX12_wordOf 269 = .ok (.ldc2_w 59, 3) := by decide +kernel
theorem dX12_wordOf_272 : decode cX12_wordOf 272 = .ok (.lmul, 1) := by decide +kernel
theorem dX12_wordOf_273 : decode cX12_wordOf 273 = .ok (.ldc2_w 77, 3) := by decide +kernel
theorem dX12_wordOf_276 : decode cX12_wordOf 276 = .ok (.ladd, 1) := by decide +kernel
theorem dX12_wordOf_277 : decode cX12_wordOf 277 = .ok (.ldc2_w 61, 3) := by decide +kernel
theorem dX12_wordOf_280 : decode cX12_wordOf 280 = .ok (.lsub, 1) := by decide +kernel
theorem dX12_wordOf_281 : decode cX12_wordOf 281 = .ok (.lcmp, 1) := by decide +kernel
theorem dX12_wordOf_282 : decode cX12_wordOf 282 = .ok (.ifCond .ne 6, 3) := by decide +kernel
theorem dX12_wordOf_285 : decode cX12_wordOf 285 = .ok (.bipush 15, 2) := by decide +kernel
theorem dX12_wordOf_287 : decode cX12_wordOf 287 = .ok (.ireturn, 1) := by decide +kernel
theorem dX12_wordOf_288 : decode cX12_wordOf 288 = .ok (.lload_n 0, 1) := by decide +kernel
theorem dX12_wordOf_289 : decode cX12_wordOf 289 = .ok (.bipush 115, 2) := by decide +kernel
theorem dX12_wordOf_291 : decode cX12_wordOf 291 = .ok (.bipush 112, 2) := by decide +kernel
theorem dX12_wordOf_293 : decode cX12_wordOf 293 = .ok (.bipush 111, 2) := by decide +kernel
theorem dX12_wordOf_295 : decode cX12_wordOf 295 = .ok (.bipush 116, 2) := by decide +kernel
theorem dX12_wordOf_297 : decode cX12_wordOf 297 = .ok (.invokestatic 69, 3) := by decide +kernel
theorem dX12_wordOf_300 : decode cX12_wordOf 300 = .ok (.ldc2_w 59, 3) := by decide +kernel
theorem dX12_wordOf_303 : decode cX12_wordOf 303 = .ok (.lmul, 1) := by decide +kernel
theorem dX12_wordOf_304 : decode cX12_wordOf 304 = .ok (.ldc2_w 79, 3) := by decide +kernel
theorem dX12_wordOf_307 : decode cX12_wordOf 307 = .ok (.ladd, 1) := by decide +kernel
theorem dX12_wordOf_308 : decode cX12_wordOf 308 = .ok (.ldc2_w 61, 3) := by decide +kernel
theorem dX12_wordOf_311 : decode cX12_wordOf 311 = .ok (.lsub, 1) := by decide +kernel
theorem dX12_wordOf_312 : decode cX12_wordOf 312 = .ok (.lcmp, 1) := by decide +kernel
theorem dX12_wordOf_313 : decode cX12_wordOf 313 = .ok (.ifCond .ne 6, 3) := by decide +kernel
theorem dX12_wordOf_316 : decode cX12_wordOf 316 = .ok (.bipush 16, 2) := by decide +kernel
theorem dX12_wordOf_318 : decode cX12_wordOf 318 = .ok (.ireturn, 1) := by decide +kernel
theorem dX12_wordOf_319 : decode cX12_wordOf 319 = .ok (.lload_n 0, 1) := by decide +kernel
theorem dX12_wordOf_320 : decode cX12_wordOf 320 = .ok (.bipush 119, 2) := by decide +kernel
theorem dX12_wordOf_322 : decode cX12_wordOf 322 = .ok (.bipush 101, 2) := by decide +kernel
theorem dX12_wordOf_324 : decode cX12_wordOf 324 = .ok (.bipush 101, 2) := by decide +kernel
theorem dX12_wordOf_326 : decode cX12_wordOf 326 = .ok (.bipush 107, 2) := by decide +kernel
theorem dX12_wordOf_328 : decode cX12_wordOf 328 = .ok (.invokestatic 69, 3) := by decide +kernel
theorem dX12_wordOf_331 : decode cX12_wordOf 331 = .ok (.lcmp, 1) := by decide +kernel
theorem dX12_wordOf_332 : decode cX12_wordOf 332 = .ok (.ifCond .ne 6, 3) := by decide +kernel
theorem dX12_wordOf_335 : decode cX12_wordOf 335 = .ok (.bipush 17, 2) := by decide +kernel
theorem dX12_wordOf_337 : decode cX12_wordOf 337 = .ok (.ireturn, 1) := by decide +kernel
theorem dX12_wordOf_338 : decode cX12_wordOf 338 = .ok (.lload_n 0, 1) := by decide +kernel
theorem dX12_wordOf_339 : decode cX12_wordOf 339 = .ok (.ldc2_w 81, 3) := by decide +kernel
theorem dX12_wordOf_342 : decode cX12_wordOf 342 = .ok (.lcmp, 1) := by decide +kernel
theorem dX12_wordOf_343 : decode cX12_wordOf 343 = .ok (.ifCond .ne 6, 3) := by decide +kernel
theorem dX12_wordOf_346 : decode cX12_wordOf 346 = .ok (.bipush 30, 2) := by decide +kernel
theorem dX12_wordOf_348 : decode cX12_wordOf 348 = .ok (.ireturn, 1) := by decide +kernel
theorem dX12_wordOf_349 : decode cX12_wordOf 349 = .ok (.lload_n 0, 1) := by decide +kernel
theorem dX12_wordOf_350 : decode cX12_wordOf 350 = .ok (.bipush 97, 2) := by decide +kernel
theorem dX12_wordOf_352 : decode cX12_wordOf 352 = .ok (.bipush 110, 2) := by decide +kernel
theorem dX12_wordOf_354 : decode cX12_wordOf 354 = .ok (.bipush 100, 2) := by decide +kernel
theorem dX12_wordOf_356 : decode cX12_wordOf 356 = .ok (.invokestatic 63, 3) := by decide +kernel
theorem dX12_wordOf_359 : decode cX12_wordOf 359 = .ok (.lcmp, 1) := by decide +kernel
theorem dX12_wordOf_360 : decode cX12_wordOf 360 = .ok (.ifCond .ne 6, 3) := by decide +kernel
theorem dX12_wordOf_363 : decode cX12_wordOf 363 = .ok (.bipush 31, 2) := by decide +kernel
theorem dX12_wordOf_365 : decode cX12_wordOf 365 = .ok (.ireturn, 1) := by decide +kernel
theorem dX12_wordOf_366 : decode cX12_wordOf 366 = .ok (.lload_n 0, 1) := by decide +kernel
theorem dX12_wordOf_367 : decode cX12_wordOf 367 = .ok (.bipush 110, 2) := by decide +kernel
theorem dX12_wordOf_369 : decode cX12_wordOf 369 = .ok (.bipush 111, 2) := by decide +kernel
theorem dX12_wordOf_371 : decode cX12_wordOf 371 = .ok (.bipush 116, 2) := by decide +kernel
theorem dX12_wordOf_373 : decode cX12_wordOf 373 = .ok (.invokestatic 63, 3) := by decide +kernel
theorem dX12_wordOf_376 : decode cX12_wordOf 376 = .ok (.lcmp, 1) := by decide +kernel
theorem dX12_wordOf_377 : decode cX12_wordOf 377 = .ok (.ifCond .ne 6, 3) := by decide +kernel
theorem dX12_wordOf_380 : decode cX12_wordOf 380 = .ok (.bipush 32, 2) := by decide +kernel
theorem dX12_wordOf_382 : decode cX12_wordOf 382 = .ok (.ireturn, 1) := by decide +kernel
theorem dX12_wordOf_383 : decode cX12_wordOf 383 = .ok (.bipush 99, 2) := by decide +kernel
theorem dX12_wordOf_385 : decode cX12_wordOf 385 = .ok (.ireturn, 1) := by decide +kernel
abbrev dpX12_wordOf : Nat := 2
def fX12_wordOf (x0 : Int64) : St → Option (Int32 × St) :=
 br (0 ≤ (lg_cmp x0 32)) (cl (fX12_four 114 97 116 101) fun v1 =>
 br ((lg_cmp x0 v1) = 0) (rt 0)
 (cl (fX12_three 116 104 114) fun v2 =>
 cl (fX12_three 101 97 100) fun v3 =>
 cl (fX12_six v2 v3) fun v4 =>
 br ((lg_cmp x0 v4) = 0) (rt 1)
 (cl (fX12_four 102 105 110 101) fun v5 =>
 br ((lg_cmp x0 v5) = 0) (rt 2)
 (cl (fX12_four 108 97 116 101) fun v6 =>
 br ((lg_cmp x0 v6) = 0) (rt 3)
 (cl (fX12_four 100 97 121 115) fun v7 =>
 br ((lg_cmp x0 v7) = 0) (rt 4)
 (cl (fX12_four 112 97 114 116) fun v8 =>
 br ((lg_cmp x0 v8) = 0) (rt 5)
 (cl (fX12_three 104 97 121) fun v9 =>
 br ((lg_cmp x0 v9) = 0) (rt 10)
 (cl (fX12_three 115 116 105) fun v10 =>
 cl (fX12_three 116 99 104) fun v11 =>
 cl (fX12_six v10 v11) fun v12 =>
 br ((lg_cmp x0 v12) = 0) (rt 11)
 (cl (fX12_three 99 111 108) fun v13 =>
 cl (fX12_three 111 117 114) fun v14 =>
 cl (fX12_six v13 v14) fun v15 =>
 br ((lg_cmp x0 v15) = 0) (rt 12)
 (cl (fX12_three 103 114 111) fun v16 =>
 cl (fX12_three 117 110 100) fun v17 =>
 cl (fX12_six v16 v17) fun v18 =>
 br ((lg_cmp x0 v18) = 0) (rt 13)
 (cl (fX12_four 115 105 122 101) fun v19 =>
 br ((lg_cmp x0 v19) = 0) (rt 14)
 (cl (fX12_four 115 107 105 108) fun v20 =>
 br ((lg_cmp x0 (((v20 * 32) + 108) - 96)) = 0) (rt 15)
 (cl (fX12_four 115 112 111 116) fun v21 =>
 br ((lg_cmp x0 (((v21 * 32) + 115) - 96)) = 0) (rt 16)
 (cl (fX12_four 119 101 101 107) fun v22 =>
 br ((lg_cmp x0 v22) = 0) (rt 17)
 (br ((lg_cmp x0 294) = 0) (rt 30)
 (cl (fX12_three 97 110 100) fun v23 =>
 br ((lg_cmp x0 v23) = 0) (rt 31)
 (cl (fX12_three 110 111 116) fun v24 =>
 br ((lg_cmp x0 v24) = 0) (rt 32)
 (rt 99))))))))))))))))))
 (rt ((40 + x0.toInt32) - 1))
set_option maxHeartbeats 4000000 in
set_option maxRecDepth 100000 in
theorem mX12_wordOf {E : Ev} {l : Launch} (x0 : Int64) : MF E l dpX12_wordOf yX12_wordOf cX12_wordOf 2 (some .int) rvI [.long x0] (fX12_wordOf x0) := by
  refine MF.of (lv := [(0, .long x0)]) (by decide) (Nat.le_of_ble_eq_true rfl) rfl ?_
  unfold fX12_wordOf
  refine sn_lload_n (pc := 0) (j := 0) dX12_wordOf_0 rfl rfl ?_
  refine sn_ldc2 (pc := 1) (v := 32) dX12_wordOf_1 wt6_156 ?_
  refine sn_lcmp (pc := 4) dX12_wordOf_4 ?_
  refine sn_if_ge (pc := 5) (tgt := 16) dX12_wordOf_5 (by decide) ?_ ?_
  · refine sn_lload_n (pc := 16) (j := 0) dX12_wordOf_16 rfl rfl ?_
    refine sn_bipush (pc := 17) (v := 114) dX12_wordOf_17 (by decide) ?_
    refine sn_bipush (pc := 19) (v := 97) dX12_wordOf_19 (by decide) ?_
    refine sn_bipush (pc := 21) (v := 116) dX12_wordOf_21 (by decide) ?_
    refine sn_bipush (pc := 23) (v := 101) dX12_wordOf_23 (by decide) ?_
    refine sn_callS (pc := 25) dX12_wordOf_25 iX12_four wt6_162 wt6_161 (mX12_four 114 97 116 101) (by decide) rfl rfl (Nat.le_of_ble_eq_true rfl) (fun v1 => ?_)
    refine sn_lcmp (pc := 28) dX12_wordOf_28 ?_
    refine sn_if_ne (pc := 29) (tgt := 34) dX12_wordOf_29 (by decide) ?_ ?_
    · refine sn_lload_n (pc := 34) (j := 0) dX12_wordOf_34 rfl rfl ?_
      refine sn_bipush (pc := 35) (v := 116) dX12_wordOf_35 (by decide) ?_
      refine sn_bipush (pc := 37) (v := 104) dX12_wordOf_37 (by decide) ?_
      refine sn_bipush (pc := 39) (v := 114) dX12_wordOf_39 (by decide) ?_
      refine sn_callS (pc := 41) dX12_wordOf_41 iX12_three wt6_165 wt6_164 (mX12_three 116 104 114) (by decide) rfl rfl (Nat.le_of_ble_eq_true rfl) (fun v2 => ?_)
      refine sn_bipush (pc := 44) (v := 101) dX12_wordOf_44 (by decide) ?_
      refine sn_bipush (pc := 46) (v := 97) dX12_wordOf_46 (by decide) ?_
      refine sn_bipush (pc := 48) (v := 100) dX12_wordOf_48 (by decide) ?_
      refine sn_callS (pc := 50) dX12_wordOf_50 iX12_three wt6_165 wt6_164 (mX12_three 101 97 100) (by decide) rfl rfl (Nat.le_of_ble_eq_true rfl) (fun v3 => ?_)
      refine sn_callS (pc := 53) dX12_wordOf_53 iX12_six wt6_168 wt6_167 (mX12_six v2 v3) (by decide) rfl rfl (Nat.le_of_ble_eq_true rfl) (fun v4 => ?_)
      refine sn_lcmp (pc := 56) dX12_wordOf_56 ?_
      refine sn_if_ne (pc := 57) (tgt := 62) dX12_wordOf_57 (by decide) ?_ ?_
      · refine sn_lload_n (pc := 62) (j := 0) dX12_wordOf_62 rfl rfl ?_
        refine sn_bipush (pc := 63) (v := 102) dX12_wordOf_63 (by decide) ?_
        refine sn_bipush (pc := 65) (v := 105) dX12_wordOf_65 (by decide) ?_
        refine sn_bipush (pc := 67) (v := 110) dX12_wordOf_67 (by decide) ?_
        refine sn_bipush (pc := 69) (v := 101) dX12_wordOf_69 (by decide) ?_
        refine sn_callS (pc := 71) dX12_wordOf_71 iX12_four wt6_162 wt6_161 (mX12_four 102 105 110 101) (by decide) rfl rfl (Nat.le_of_ble_eq_true rfl) (fun v5 => ?_)
        refine sn_lcmp (pc := 74) dX12_wordOf_74 ?_
        refine sn_if_ne (pc := 75) (tgt := 80) dX12_wordOf_75 (by decide) ?_ ?_
        · refine sn_lload_n (pc := 80) (j := 0) dX12_wordOf_80 rfl rfl ?_
          refine sn_bipush (pc := 81) (v := 108) dX12_wordOf_81 (by decide) ?_
          refine sn_bipush (pc := 83) (v := 97) dX12_wordOf_83 (by decide) ?_
          refine sn_bipush (pc := 85) (v := 116) dX12_wordOf_85 (by decide) ?_
          refine sn_bipush (pc := 87) (v := 101) dX12_wordOf_87 (by decide) ?_
          refine sn_callS (pc := 89) dX12_wordOf_89 iX12_four wt6_162 wt6_161 (mX12_four 108 97 116 101) (by decide) rfl rfl (Nat.le_of_ble_eq_true rfl) (fun v6 => ?_)
          refine sn_lcmp (pc := 92) dX12_wordOf_92 ?_
          refine sn_if_ne (pc := 93) (tgt := 98) dX12_wordOf_93 (by decide) ?_ ?_
          · refine sn_lload_n (pc := 98) (j := 0) dX12_wordOf_98 rfl rfl ?_
            refine sn_bipush (pc := 99) (v := 100) dX12_wordOf_99 (by decide) ?_
            refine sn_bipush (pc := 101) (v := 97) dX12_wordOf_101 (by decide) ?_
            refine sn_bipush (pc := 103) (v := 121) dX12_wordOf_103 (by decide) ?_
            refine sn_bipush (pc := 105) (v := 115) dX12_wordOf_105 (by decide) ?_
            refine sn_callS (pc := 107) dX12_wordOf_107 iX12_four wt6_162 wt6_161 (mX12_four 100 97 121 115) (by decide) rfl rfl (Nat.le_of_ble_eq_true rfl) (fun v7 => ?_)
            refine sn_lcmp (pc := 110) dX12_wordOf_110 ?_
            refine sn_if_ne (pc := 111) (tgt := 116) dX12_wordOf_111 (by decide) ?_ ?_
            · refine sn_lload_n (pc := 116) (j := 0) dX12_wordOf_116 rfl rfl ?_
              refine sn_bipush (pc := 117) (v := 112) dX12_wordOf_117 (by decide) ?_
              refine sn_bipush (pc := 119) (v := 97) dX12_wordOf_119 (by decide) ?_
              refine sn_bipush (pc := 121) (v := 114) dX12_wordOf_121 (by decide) ?_
              refine sn_bipush (pc := 123) (v := 116) dX12_wordOf_123 (by decide) ?_
              refine sn_callS (pc := 125) dX12_wordOf_125 iX12_four wt6_162 wt6_161 (mX12_four 112 97 114 116) (by decide) rfl rfl (Nat.le_of_ble_eq_true rfl) (fun v8 => ?_)
              refine sn_lcmp (pc := 128) dX12_wordOf_128 ?_
              refine sn_if_ne (pc := 129) (tgt := 134) dX12_wordOf_129 (by decide) ?_ ?_
              · refine sn_lload_n (pc := 134) (j := 0) dX12_wordOf_134 rfl rfl ?_
                refine sn_bipush (pc := 135) (v := 104) dX12_wordOf_135 (by decide) ?_
                refine sn_bipush (pc := 137) (v := 97) dX12_wordOf_137 (by decide) ?_
                refine sn_bipush (pc := 139) (v := 121) dX12_wordOf_139 (by decide) ?_
                refine sn_callS (pc := 141) dX12_wordOf_141 iX12_three wt6_165 wt6_164 (mX12_three 104 97 121) (by decide) rfl rfl (Nat.le_of_ble_eq_true rfl) (fun v9 => ?_)
                refine sn_lcmp (pc := 144) dX12_wordOf_144 ?_
                refine sn_if_ne (pc := 145) (tgt := 151) dX12_wordOf_145 (by decide) ?_ ?_
                · refine sn_lload_n (pc := 151) (j := 0) dX12_wordOf_151 rfl rfl ?_
                  refine sn_bipush (pc := 152) (v := 115) dX12_wordOf_152 (by decide) ?_
                  refine sn_bipush (pc := 154) (v := 116) dX12_wordOf_154 (by decide) ?_
                  refine sn_bipush (pc := 156) (v := 105) dX12_wordOf_156 (by decide) ?_
                  refine sn_callS (pc := 158) dX12_wordOf_158 iX12_three wt6_165 wt6_164 (mX12_three 115 116 105) (by decide) rfl rfl (Nat.le_of_ble_eq_true rfl) (fun v10 => ?_)
                  refine sn_bipush (pc := 161) (v := 116) dX12_wordOf_161 (by decide) ?_
                  refine sn_bipush (pc := 163) (v := 99) dX12_wordOf_163 (by decide) ?_
                  refine sn_bipush (pc := 165) (v := 104) dX12_wordOf_165 (by decide) ?_
                  refine sn_callS (pc := 167) dX12_wordOf_167 iX12_three wt6_165 wt6_164 (mX12_three 116 99 104) (by decide) rfl rfl (Nat.le_of_ble_eq_true rfl) (fun v11 => ?_)
                  refine sn_callS (pc := 170) dX12_wordOf_170 iX12_six wt6_168 wt6_167 (mX12_six v10 v11) (by decide) rfl rfl (Nat.le_of_ble_eq_true rfl) (fun v12 => ?_)
                  refine sn_lcmp (pc := 173) dX12_wordOf_173 ?_
                  refine sn_if_ne (pc := 174) (tgt := 180) dX12_wordOf_174 (by decide) ?_ ?_
                  · refine sn_lload_n (pc := 180) (j := 0) dX12_wordOf_180 rfl rfl ?_
                    refine sn_bipush (pc := 181) (v := 99) dX12_wordOf_181 (by decide) ?_
                    refine sn_bipush (pc := 183) (v := 111) dX12_wordOf_183 (by decide) ?_
                    refine sn_bipush (pc := 185) (v := 108) dX12_wordOf_185 (by decide) ?_
                    refine sn_callS (pc := 187) dX12_wordOf_187 iX12_three wt6_165 wt6_164 (mX12_three 99 111 108) (by decide) rfl rfl (Nat.le_of_ble_eq_true rfl) (fun v13 => ?_)
                    refine sn_bipush (pc := 190) (v := 111) dX12_wordOf_190 (by decide) ?_
                    refine sn_bipush (pc := 192) (v := 117) dX12_wordOf_192 (by decide) ?_
                    refine sn_bipush (pc := 194) (v := 114) dX12_wordOf_194 (by decide) ?_
                    refine sn_callS (pc := 196) dX12_wordOf_196 iX12_three wt6_165 wt6_164 (mX12_three 111 117 114) (by decide) rfl rfl (Nat.le_of_ble_eq_true rfl) (fun v14 => ?_)
                    refine sn_callS (pc := 199) dX12_wordOf_199 iX12_six wt6_168 wt6_167 (mX12_six v13 v14) (by decide) rfl rfl (Nat.le_of_ble_eq_true rfl) (fun v15 => ?_)
                    refine sn_lcmp (pc := 202) dX12_wordOf_202 ?_
                    refine sn_if_ne (pc := 203) (tgt := 209) dX12_wordOf_203 (by decide) ?_ ?_
                    · refine sn_lload_n (pc := 209) (j := 0) dX12_wordOf_209 rfl rfl ?_
                      refine sn_bipush (pc := 210) (v := 103) dX12_wordOf_210 (by decide) ?_
                      refine sn_bipush (pc := 212) (v := 114) dX12_wordOf_212 (by decide) ?_
                      refine sn_bipush (pc := 214) (v := 111) dX12_wordOf_214 (by decide) ?_
                      refine sn_callS (pc := 216) dX12_wordOf_216 iX12_three wt6_165 wt6_164 (mX12_three 103 114 111) (by decide) rfl rfl (Nat.le_of_ble_eq_true rfl) (fun v16 => ?_)
                      refine sn_bipush (pc := 219) (v := 117) dX12_wordOf_219 (by decide) ?_
                      refine sn_bipush (pc := 221) (v := 110) dX12_wordOf_221 (by decide) ?_
                      refine sn_bipush (pc := 223) (v := 100) dX12_wordOf_223 (by decide) ?_
                      refine sn_callS (pc := 225) dX12_wordOf_225 iX12_three wt6_165 wt6_164 (mX12_three 117 110 100) (by decide) rfl rfl (Nat.le_of_ble_eq_true rfl) (fun v17 => ?_)
                      refine sn_callS (pc := 228) dX12_wordOf_228 iX12_six wt6_168 wt6_167 (mX12_six v16 v17) (by decide) rfl rfl (Nat.le_of_ble_eq_true rfl) (fun v18 => ?_)
                      refine sn_lcmp (pc := 231) dX12_wordOf_231 ?_
                      refine sn_if_ne (pc := 232) (tgt := 238) dX12_wordOf_232 (by decide) ?_ ?_
                      · refine sn_lload_n (pc := 238) (j := 0) dX12_wordOf_238 rfl rfl ?_
                        refine sn_bipush (pc := 239) (v := 115) dX12_wordOf_239 (by decide) ?_
                        refine sn_bipush (pc := 241) (v := 105) dX12_wordOf_241 (by decide) ?_
                        refine sn_bipush (pc := 243) (v := 122) dX12_wordOf_243 (by decide) ?_
                        refine sn_bipush (pc := 245) (v := 101) dX12_wordOf_245 (by decide) ?_
                        refine sn_callS (pc := 247) dX12_wordOf_247 iX12_four wt6_162 wt6_161 (mX12_four 115 105 122 101) (by decide) rfl rfl (Nat.le_of_ble_eq_true rfl) (fun v19 => ?_)
                        refine sn_lcmp (pc := 250) dX12_wordOf_250 ?_
                        refine sn_if_ne (pc := 251) (tgt := 257) dX12_wordOf_251 (by decide) ?_ ?_
                        · refine sn_lload_n (pc := 257) (j := 0) dX12_wordOf_257 rfl rfl ?_
                          refine sn_bipush (pc := 258) (v := 115) dX12_wordOf_258 (by decide) ?_
                          refine sn_bipush (pc := 260) (v := 107) dX12_wordOf_260 (by decide) ?_
                          refine sn_bipush (pc := 262) (v := 105) dX12_wordOf_262 (by decide) ?_
                          refine sn_bipush (pc := 264) (v := 108) dX12_wordOf_264 (by decide) ?_
                          refine sn_callS (pc := 266) dX12_wordOf_266 iX12_four wt6_162 wt6_161 (mX12_four 115 107 105 108) (by decide) rfl rfl (Nat.le_of_ble_eq_true rfl) (fun v20 => ?_)
                          refine sn_ldc2 (pc := 269) (v := 32) dX12_wordOf_269 wt6_156 ?_
                          refine sn_lmul (pc := 272) dX12_wordOf_272 ?_
                          refine sn_ldc2 (pc := 273) (v := 108) dX12_wordOf_273 wt6_171 ?_
                          refine sn_ladd (pc := 276) dX12_wordOf_276 ?_
                          refine sn_ldc2 (pc := 277) (v := 96) dX12_wordOf_277 wt6_157 ?_
                          refine sn_lsub (pc := 280) dX12_wordOf_280 ?_
                          refine sn_lcmp (pc := 281) dX12_wordOf_281 ?_
                          refine sn_if_ne (pc := 282) (tgt := 288) dX12_wordOf_282 (by decide) ?_ ?_
                          · refine sn_lload_n (pc := 288) (j := 0) dX12_wordOf_288 rfl rfl ?_
                            refine sn_bipush (pc := 289) (v := 115) dX12_wordOf_289 (by decide) ?_
                            refine sn_bipush (pc := 291) (v := 112) dX12_wordOf_291 (by decide) ?_
                            refine sn_bipush (pc := 293) (v := 111) dX12_wordOf_293 (by decide) ?_
                            refine sn_bipush (pc := 295) (v := 116) dX12_wordOf_295 (by decide) ?_
                            refine sn_callS (pc := 297) dX12_wordOf_297 iX12_four wt6_162 wt6_161 (mX12_four 115 112 111 116) (by decide) rfl rfl (Nat.le_of_ble_eq_true rfl) (fun v21 => ?_)
                            refine sn_ldc2 (pc := 300) (v := 32) dX12_wordOf_300 wt6_156 ?_
                            refine sn_lmul (pc := 303) dX12_wordOf_303 ?_
                            refine sn_ldc2 (pc := 304) (v := 115) dX12_wordOf_304 wt6_172 ?_
                            refine sn_ladd (pc := 307) dX12_wordOf_307 ?_
                            refine sn_ldc2 (pc := 308) (v := 96) dX12_wordOf_308 wt6_157 ?_
                            refine sn_lsub (pc := 311) dX12_wordOf_311 ?_
                            refine sn_lcmp (pc := 312) dX12_wordOf_312 ?_
                            refine sn_if_ne (pc := 313) (tgt := 319) dX12_wordOf_313 (by decide) ?_ ?_
                            · refine sn_lload_n (pc := 319) (j := 0) dX12_wordOf_319 rfl rfl ?_
                              refine sn_bipush (pc := 320) (v := 119) dX12_wordOf_320 (by decide) ?_
                              refine sn_bipush (pc := 322) (v := 101) dX12_wordOf_322 (by decide) ?_
                              refine sn_bipush (pc := 324) (v := 101) dX12_wordOf_324 (by decide) ?_
                              refine sn_bipush (pc := 326) (v := 107) dX12_wordOf_326 (by decide) ?_
                              refine sn_callS (pc := 328) dX12_wordOf_328 iX12_four wt6_162 wt6_161 (mX12_four 119 101 101 107) (by decide) rfl rfl (Nat.le_of_ble_eq_true rfl) (fun v22 => ?_)
                              refine sn_lcmp (pc := 331) dX12_wordOf_331 ?_
                              refine sn_if_ne (pc := 332) (tgt := 338) dX12_wordOf_332 (by decide) ?_ ?_
                              · refine sn_lload_n (pc := 338) (j := 0) dX12_wordOf_338 rfl rfl ?_
                                refine sn_ldc2 (pc := 339) (v := 294) dX12_wordOf_339 wt6_173 ?_
                                refine sn_lcmp (pc := 342) dX12_wordOf_342 ?_
                                refine sn_if_ne (pc := 343) (tgt := 349) dX12_wordOf_343 (by decide) ?_ ?_
                                · refine sn_lload_n (pc := 349) (j := 0) dX12_wordOf_349 rfl rfl ?_
                                  refine sn_bipush (pc := 350) (v := 97) dX12_wordOf_350 (by decide) ?_
                                  refine sn_bipush (pc := 352) (v := 110) dX12_wordOf_352 (by decide) ?_
                                  refine sn_bipush (pc := 354) (v := 100) dX12_wordOf_354 (by decide) ?_
                                  refine sn_callS (pc := 356) dX12_wordOf_356 iX12_three wt6_165 wt6_164 (mX12_three 97 110 100) (by decide) rfl rfl (Nat.le_of_ble_eq_true rfl) (fun v23 => ?_)
                                  refine sn_lcmp (pc := 359) dX12_wordOf_359 ?_
                                  refine sn_if_ne (pc := 360) (tgt := 366) dX12_wordOf_360 (by decide) ?_ ?_
                                  · refine sn_lload_n (pc := 366) (j := 0) dX12_wordOf_366 rfl rfl ?_
                                    refine sn_bipush (pc := 367) (v := 110) dX12_wordOf_367 (by decide) ?_
                                    refine sn_bipush (pc := 369) (v := 111) dX12_wordOf_369 (by decide) ?_
                                    refine sn_bipush (pc := 371) (v := 116) dX12_wordOf_371 (by decide) ?_
                                    refine sn_callS (pc := 373) dX12_wordOf_373 iX12_three wt6_165 wt6_164 (mX12_three 110 111 116) (by decide) rfl rfl (Nat.le_of_ble_eq_true rfl) (fun v24 => ?_)
                                    refine sn_lcmp (pc := 376) dX12_wordOf_376 ?_
                                    refine sn_if_ne (pc := 377) (tgt := 383) dX12_wordOf_377 (by decide) ?_ ?_
                                    · refine sn_bipush (pc := 383) (v := 99) dX12_wordOf_383 (by decide) ?_
                                      exact sn_iret (pc := 385) dX12_wordOf_385 rfl
                                    · refine sn_bipush (pc := 380) (v := 32) dX12_wordOf_380 (by decide) ?_
                                      exact sn_iret (pc := 382) dX12_wordOf_382 rfl
                                  · refine sn_bipush (pc := 363) (v := 31) dX12_wordOf_363 (by decide) ?_
                                    exact sn_iret (pc := 365) dX12_wordOf_365 rfl
                                · refine sn_bipush (pc := 346) (v := 30) dX12_wordOf_346 (by decide) ?_
                                  exact sn_iret (pc := 348) dX12_wordOf_348 rfl
                              · refine sn_bipush (pc := 335) (v := 17) dX12_wordOf_335 (by decide) ?_
                                exact sn_iret (pc := 337) dX12_wordOf_337 rfl
                            · refine sn_bipush (pc := 316) (v := 16) dX12_wordOf_316 (by decide) ?_
                              exact sn_iret (pc := 318) dX12_wordOf_318 rfl
                          · refine sn_bipush (pc := 285) (v := 15) dX12_wordOf_285 (by decide) ?_
                            exact sn_iret (pc := 287) dX12_wordOf_287 rfl
                        · refine sn_bipush (pc := 254) (v := 14) dX12_wordOf_254 (by decide) ?_
                          exact sn_iret (pc := 256) dX12_wordOf_256 rfl
                      · refine sn_bipush (pc := 235) (v := 13) dX12_wordOf_235 (by decide) ?_
                        exact sn_iret (pc := 237) dX12_wordOf_237 rfl
                    · refine sn_bipush (pc := 206) (v := 12) dX12_wordOf_206 (by decide) ?_
                      exact sn_iret (pc := 208) dX12_wordOf_208 rfl
                  · refine sn_bipush (pc := 177) (v := 11) dX12_wordOf_177 (by decide) ?_
                    exact sn_iret (pc := 179) dX12_wordOf_179 rfl
                · refine sn_bipush (pc := 148) (v := 10) dX12_wordOf_148 (by decide) ?_
                  exact sn_iret (pc := 150) dX12_wordOf_150 rfl
              · refine sn_iconst (pc := 132) (v := 5) dX12_wordOf_132 (by decide) ?_
                exact sn_iret (pc := 133) dX12_wordOf_133 rfl
            · refine sn_iconst (pc := 114) (v := 4) dX12_wordOf_114 (by decide) ?_
              exact sn_iret (pc := 115) dX12_wordOf_115 rfl
          · refine sn_iconst (pc := 96) (v := 3) dX12_wordOf_96 (by decide) ?_
            exact sn_iret (pc := 97) dX12_wordOf_97 rfl
        · refine sn_iconst (pc := 78) (v := 2) dX12_wordOf_78 (by decide) ?_
          exact sn_iret (pc := 79) dX12_wordOf_79 rfl
      · refine sn_iconst (pc := 60) (v := 1) dX12_wordOf_60 (by decide) ?_
        exact sn_iret (pc := 61) dX12_wordOf_61 rfl
    · refine sn_iconst (pc := 32) (v := 0) dX12_wordOf_32 (by decide) ?_
      exact sn_iret (pc := 33) dX12_wordOf_33 rfl
  · refine sn_bipush (pc := 8) (v := 40) dX12_wordOf_8 (by decide) ?_
    refine sn_lload_n (pc := 10) (j := 0) dX12_wordOf_10 rfl rfl ?_
    refine sn_l2i (pc := 11) dX12_wordOf_11 ?_
    refine sn_iadd (pc := 12) dX12_wordOf_12 ?_
    refine sn_iconst (pc := 13) (v := 1) dX12_wordOf_13 (by decide) ?_
    refine sn_isub (pc := 14) dX12_wordOf_14 ?_
    exact sn_iret (pc := 15) dX12_wordOf_15 rfl
theorem iX12_wordOf : MI yX12_wordOf cX12_wordOf 2 (some .int) 1 := ⟨wt1_10, wt6_160, by decide +kernel, by decide⟩
-- NeedleHomesModel isSignByte(I)Z
theorem dX12_isSignByte_0 : decode cX12_isSignByte 0 = .ok (.iload_n 0, 1) := by decide +kernel
theorem dX12_isSignByte_1 : decode cX12_isSignByte 1 = .ok (.bipush 91, 2) := by decide +kernel
theorem dX12_isSignByte_3 : decode cX12_isSignByte 3 = .ok (.if_icmp .eq 39, 3) := by decide +kernel
theorem dX12_isSignByte_6 : decode cX12_isSignByte 6 = .ok (.iload_n 0, 1) := by decide +kernel
theorem dX12_isSignByte_7 : decode cX12_isSignByte 7 = .ok (.bipush 93, 2) := by decide +kernel
theorem dX12_isSignByte_9 : decode cX12_isSignByte 9 = .ok (.if_icmp .eq 33, 3) := by decide +kernel
theorem dX12_isSignByte_12 : decode cX12_isSignByte 12 = .ok (.iload_n 0, 1) := by decide +kernel
theorem dX12_isSignByte_13 : decode cX12_isSignByte 13 = .ok (.bipush 58, 2) := by decide +kernel
theorem dX12_isSignByte_15 : decode cX12_isSignByte 15 = .ok (.if_icmp .eq 27, 3) := by decide +kernel
theorem dX12_isSignByte_18 : decode cX12_isSignByte 18 = .ok (.iload_n 0, 1) := by decide +kernel
theorem dX12_isSignByte_19 : decode cX12_isSignByte 19 = .ok (.bipush 59, 2) := by decide +kernel
theorem dX12_isSignByte_21 : decode cX12_isSignByte 21 = .ok (.if_icmp .eq 21, 3) := by decide +kernel
theorem dX12_isSignByte_24 : decode cX12_isSignByte 24 = .ok (.iload_n 0, 1) := by decide +kernel
theorem dX12_isSignByte_25 : decode cX12_isSignByte 25 = .ok (.bipush 60, 2) := by decide +kernel
theorem dX12_isSignByte_27 : decode cX12_isSignByte 27 = .ok (.if_icmp .eq 15, 3) := by decide +kernel
theorem dX12_isSignByte_30 : decode cX12_isSignByte 30 = .ok (.iload_n 0, 1) := by decide +kernel
theorem dX12_isSignByte_31 : decode cX12_isSignByte 31 = .ok (.bipush 62, 2) := by decide +kernel
theorem dX12_isSignByte_33 : decode cX12_isSignByte 33 = .ok (.if_icmp .eq 9, 3) := by decide +kernel
theorem dX12_isSignByte_36 : decode cX12_isSignByte 36 = .ok (.iload_n 0, 1) := by decide +kernel
theorem dX12_isSignByte_37 : decode cX12_isSignByte 37 = .ok (.bipush 61, 2) := by decide +kernel
theorem dX12_isSignByte_39 : decode cX12_isSignByte 39 = .ok (.if_icmp .ne 7, 3) := by decide +kernel
theorem dX12_isSignByte_42 : decode cX12_isSignByte 42 = .ok (.iconst 1, 1) := by decide +kernel
theorem dX12_isSignByte_43 : decode cX12_isSignByte 43 = .ok (.goto 4, 3) := by decide +kernel
theorem dX12_isSignByte_46 : decode cX12_isSignByte 46 = .ok (.iconst 0, 1) := by decide +kernel
theorem dX12_isSignByte_47 : decode cX12_isSignByte 47 = .ok (.ireturn, 1) := by decide +kernel
abbrev dpX12_isSignByte : Nat := 0
def fX12_isSignByte (x0 : Int32) : St → Option (Bool × St) :=
 br (x0 = 91) (rtZ 1)
 (br (x0 = 93) (rtZ 1)
 (br (x0 = 58) (rtZ 1)
 (br (x0 = 59) (rtZ 1)
 (br (x0 = 60) (rtZ 1)
 (br (x0 = 62) (rtZ 1)
 (br (x0 = 61) (rtZ 1)
 (rtZ 0)))))))
set_option maxHeartbeats 4000000 in
set_option maxRecDepth 100000 in
theorem mX12_isSignByte {E : Ev} {l : Launch} (x0 : Int32) : MF E l dpX12_isSignByte yX12_isSignByte cX12_isSignByte 1 (some .boolean) rvZ [.int x0] (fX12_isSignByte x0) := by
  refine MF.of (lv := [(0, .int x0)]) (by decide) (Nat.le_of_ble_eq_true rfl) rfl ?_
  unfold fX12_isSignByte
  refine sn_iload_n (pc := 0) (j := 0) dX12_isSignByte_0 rfl rfl ?_
  refine sn_bipush (pc := 1) (v := 91) dX12_isSignByte_1 (by decide) ?_
  refine sn_icmp_eq (pc := 3) (tgt := 42) dX12_isSignByte_3 (by decide) ?_ ?_
  · refine sn_iconst (pc := 42) (v := 1) dX12_isSignByte_42 (by decide) ?_
    refine sn_goto (pc := 43) (tgt := 47) dX12_isSignByte_43 (by decide) ?_
    exact sn_zret (pc := 47) dX12_isSignByte_47 rfl
  · refine sn_iload_n (pc := 6) (j := 0) dX12_isSignByte_6 rfl rfl ?_
    refine sn_bipush (pc := 7) (v := 93) dX12_isSignByte_7 (by decide) ?_
    refine sn_icmp_eq (pc := 9) (tgt := 42) dX12_isSignByte_9 (by decide) ?_ ?_
    · refine sn_iconst (pc := 42) (v := 1) dX12_isSignByte_42 (by decide) ?_
      refine sn_goto (pc := 43) (tgt := 47) dX12_isSignByte_43 (by decide) ?_
      exact sn_zret (pc := 47) dX12_isSignByte_47 rfl
    · refine sn_iload_n (pc := 12) (j := 0) dX12_isSignByte_12 rfl rfl ?_
      refine sn_bipush (pc := 13) (v := 58) dX12_isSignByte_13 (by decide) ?_
      refine sn_icmp_eq (pc := 15) (tgt := 42) dX12_isSignByte_15 (by decide) ?_ ?_
      · refine sn_iconst (pc := 42) (v := 1) dX12_isSignByte_42 (by decide) ?_
        refine sn_goto (pc := 43) (tgt := 47) dX12_isSignByte_43 (by decide) ?_
        exact sn_zret (pc := 47) dX12_isSignByte_47 rfl
      · refine sn_iload_n (pc := 18) (j := 0) dX12_isSignByte_18 rfl rfl ?_
        refine sn_bipush (pc := 19) (v := 59) dX12_isSignByte_19 (by decide) ?_
        refine sn_icmp_eq (pc := 21) (tgt := 42) dX12_isSignByte_21 (by decide) ?_ ?_
        · refine sn_iconst (pc := 42) (v := 1) dX12_isSignByte_42 (by decide) ?_
          refine sn_goto (pc := 43) (tgt := 47) dX12_isSignByte_43 (by decide) ?_
          exact sn_zret (pc := 47) dX12_isSignByte_47 rfl
        · refine sn_iload_n (pc := 24) (j := 0) dX12_isSignByte_24 rfl rfl ?_
          refine sn_bipush (pc := 25) (v := 60) dX12_isSignByte_25 (by decide) ?_
          refine sn_icmp_eq (pc := 27) (tgt := 42) dX12_isSignByte_27 (by decide) ?_ ?_
          · refine sn_iconst (pc := 42) (v := 1) dX12_isSignByte_42 (by decide) ?_
            refine sn_goto (pc := 43) (tgt := 47) dX12_isSignByte_43 (by decide) ?_
            exact sn_zret (pc := 47) dX12_isSignByte_47 rfl
          · refine sn_iload_n (pc := 30) (j := 0) dX12_isSignByte_30 rfl rfl ?_
            refine sn_bipush (pc := 31) (v := 62) dX12_isSignByte_31 (by decide) ?_
            refine sn_icmp_eq (pc := 33) (tgt := 42) dX12_isSignByte_33 (by decide) ?_ ?_
            · refine sn_iconst (pc := 42) (v := 1) dX12_isSignByte_42 (by decide) ?_
              refine sn_goto (pc := 43) (tgt := 47) dX12_isSignByte_43 (by decide) ?_
              exact sn_zret (pc := 47) dX12_isSignByte_47 rfl
            · refine sn_iload_n (pc := 36) (j := 0) dX12_isSignByte_36 rfl rfl ?_
              refine sn_bipush (pc := 37) (v := 61) dX12_isSignByte_37 (by decide) ?_
              refine sn_icmp_ne (pc := 39) (tgt := 46) dX12_isSignByte_39 (by decide) ?_ ?_
              · refine sn_iconst (pc := 46) (v := 0) dX12_isSignByte_46 (by decide) ?_
                exact sn_zret (pc := 47) dX12_isSignByte_47 rfl
              · refine sn_iconst (pc := 42) (v := 1) dX12_isSignByte_42 (by decide) ?_
                refine sn_goto (pc := 43) (tgt := 47) dX12_isSignByte_43 (by decide) ?_
                exact sn_zret (pc := 47) dX12_isSignByte_47 rfl
theorem iX12_isSignByte : MI yX12_isSignByte cX12_isSignByte 1 (some .boolean) 1 := ⟨wt1_10, wt6_179, by decide +kernel, by decide⟩
-- NeedleHomesModel step()V
theorem dX12_step_0 : decode cX12_step 0 = .ok (.aload_n 0, 1) := by decide +kernel
theorem dX12_step_1 : decode cX12_step 1 = .ok (.aload_n 0, 1) := by decide +kernel
theorem dX12_step_2 : decode cX12_step 2 = .ok (.getfield 83, 3) := by decide +kernel
theorem dX12_step_5 : decode cX12_step 5 = .ok (.invokevirtual 86, 3) := by decide +kernel
theorem dX12_step_8 : decode cX12_step 8 = .ok (.bipush 10, 2) := by decide +kernel
theorem dX12_step_10 : decode cX12_step 10 = .ok (.if_icmp .eq 16, 3) := by decide +kernel
theorem dX12_step_13 : decode cX12_step 13 = .ok (.aload_n 0, 1) := by decide +kernel
theorem dX12_step_14 : decode cX12_step 14 = .ok (.aload_n 0, 1) := by decide +kernel
theorem dX12_step_15 : decode cX12_step 15 = .ok (.getfield 83, 3) := by decide +kernel
theorem dX12_step_18 : decode cX12_step 18 = .ok (.invokevirtual 86, 3) := by decide +kernel
theorem dX12_step_21 : decode cX12_step 21 = .ok (.bipush 32, 2) := by decide +kernel
theorem dX12_step_23 : decode cX12_step 23 = .ok (.if_icmp .ne 16, 3) := by decide +kernel
theorem dX12_step_26 : decode cX12_step 26 = .ok (.aload_n 0, 1) := by decide +kernel
theorem dX12_step_27 : decode cX12_step 27 = .ok (.dup, 1) := by decide +kernel
theorem dX12_step_28 : decode cX12_step 28 = .ok (.getfield 83, 3) := by decide +kernel
theorem dX12_step_31 : decode cX12_step 31 = .ok (.iconst 1, 1) := by decide +kernel
theorem dX12_step_32 : decode cX12_step 32 = .ok (.iadd, 1) := by decide +kernel
theorem dX12_step_33 : decode cX12_step 33 = .ok (.putfield 83, 3) := by decide +kernel
theorem dX12_step_36 : decode cX12_step 36 = .ok (.goto (-36), 3) := by decide +kernel
theorem dX12_step_39 : decode cX12_step 39 = .ok (.aload_n 0, 1) := by decide +kernel
theorem dX12_step_40 : decode cX12_step 40 = .ok (.aload_n 0, 1) := by decide +kernel
theorem dX12_step_41 : decode cX12_step 41 = .ok (.getfield 83, 3) := by decide +kernel
theorem dX12_step_44 : decode cX12_step 44 = .ok (.putfield 90, 3) := by decide +kernel
theorem dX12_step_47 : decode cX12_step 47 = .ok (.aload_n 0, 1) := by decide +kernel
theorem dX12_step_48 : decode cX12_step 48 = .ok (.aload_n 0, 1) := by decide +kernel
theorem dX12_step_49 : decode cX12_step 49 = .ok (.getfield 83, 3) := by decide +kernel
theorem dX12_step_52 : decode cX12_step 52 = .ok (.invokevirtual 86, 3) := by decide +kernel
theorem dX12_step_55 : decode cX12_step 55 = .ok (.istore_n 1, 1) := by decide +kernel
theorem dX12_step_56 : decode cX12_step 56 = .ok (.iload_n 1, 1) := by decide +kernel
theorem dX12_step_57 : decode cX12_step 57 = .ok (.ifCond .ge 11, 3) := by decide +kernel
theorem dX12_step_60 : decode cX12_step 60 = .ok (.aload_n 0, 1) := by decide +kernel
theorem dX12_step_61 : decode cX12_step 61 = .ok (.iconst 0, 1) := by decide +kernel
theorem dX12_step_62 : decode cX12_step 62 = .ok (.putfield 93, 3) := by decide +kernel
theorem dX12_step_65 : decode cX12_step 65 = .ok (.goto 252, 3) := by decide +kernel
theorem dX12_step_68 : decode cX12_step 68 = .ok (.iload_n 1, 1) := by decide +kernel
theorem dX12_step_69 : decode cX12_step 69 = .ok (.invokestatic 96, 3) := by decide +kernel
theorem dX12_step_72 : decode cX12_step 72 = .ok (.ifCond .eq 114, 3) := by decide +kernel
theorem dX12_step_75 : decode cX12_step 75 = .ok (.lconst 0, 1) := by decide +kernel
theorem dX12_step_76 : decode cX12_step 76 = .ok (.lstore_n 2, 1) := by decide +kernel
theorem dX12_step_77 : decode cX12_step 77 = .ok (.aload_n 0, 1) := by decide +kernel
theorem dX12_step_78 : decode cX12_step 78 = .ok (.aload_n 0, 1) := by decide +kernel
theorem dX12_step_79 : decode cX12_step 79 = .ok (.getfield 83, 3) := by decide +kernel
theorem dX12_step_82 : decode cX12_step 82 = .ok (.invokevirtual 86, 3) := by decide +kernel
theorem dX12_step_85 : decode cX12_step 85 = .ok (.invokestatic 96, 3) := by decide +kernel
theorem dX12_step_88 : decode cX12_step 88 = .ok (.ifCond .eq 50, 3) := by decide +kernel
theorem dX12_step_91 : decode cX12_step 91 = .ok (.aload_n 0, 1) := by decide +kernel
theorem dX12_step_92 : decode cX12_step 92 = .ok (.getfield 83, 3) := by decide +kernel
theorem dX12_step_95 : decode cX12_step 95 = .ok (.aload_n 0, 1) := by decide +kernel
theorem dX12_step_96 : decode cX12_step 96 = .ok (.getfield 90, 3) := by decide +kernel
theorem dX12_step_99 : decode cX12_step 99 = .ok (.isub, 1) := by decide +kernel
theorem dX12_step_100 : decode cX12_step 100 = .ok (.bipush 7, 2) := by decide +kernel
theorem dX12_step_102 : decode cX12_step 102 = .ok (.if_icmp .ge 23, 3) := by decide +kernel
theorem dX12_step_105 : decode cX12_step 105 = .ok (.ldc2_w 59, 3) := by decide +kernel
theorem dX12_step_108 : decode cX12_step 108 = .ok (.lload_n 2, 1) := by decide +kernel
theorem dX12_step_109 : decode cX12_step 109 = .ok (.lmul, 1) := by decide +kernel
theorem dX12_step_110 : decode cX12_step 110 = .ok (.aload_n 0, 1) := by decide +kernel
theorem dX12_step_111 : decode cX12_step 111 = .ok (.aload_n 0, 1) := by decide +kernel
theorem dX12_step_112 : decode cX12_step 112 = .ok (.getfield 83, 3) := by decide +kernel
theorem dX12_step_115 : decode cX12_step 115 = .ok (.invokevirtual 86, 3) := by decide +kernel
theorem dX12_step_118 : decode cX12_step 118 = .ok (.i2l, 1) := by decide +kernel
theorem dX12_step_119 : decode cX12_step 119 = .ok (.ladd, 1) := by decide +kernel
theorem dX12_step_120 : decode cX12_step 120 = .ok (.ldc2_w 61, 3) := by decide +kernel
theorem dX12_step_123 : decode cX12_step 123 = .ok (.lsub, 1) := by decide +kernel
theorem dX12_step_124 : decode cX12_step 124 = .ok (.lstore_n 2, 1) := by decide +kernel
theorem dX12_step_125 : decode cX12_step 125 = .ok (.aload_n 0, 1) := by decide +kernel
theorem dX12_step_126 : decode cX12_step 126 = .ok (.dup, 1) := by decide +kernel
theorem dX12_step_127 : decode cX12_step 127 = .ok (.getfield 83, 3) := by decide +kernel
theorem dX12_step_130 : decode cX12_step 130 = .ok (.iconst 1, 1) := by decide +kernel
theorem dX12_step_131 : decode cX12_step 131 = .ok (.iadd, 1) := by decide +kernel
theorem dX12_step_132 : decode cX12_step 132 = .ok (.putfield 83, 3) := by decide +kernel
theorem dX12_step_135 : decode cX12_step 135 = .ok (.goto (-58), 3) := by decide +kernel
theorem dX12_step_138 : decode cX12_step 138 = .ok (.aload_n 0, 1) := by decide +kernel
theorem dX12_step_139 : decode cX12_step 139 = .ok (.aload_n 0, 1) := by decide +kernel
theorem dX12_step_140 : decode cX12_step 140 = .ok (.getfield 83, 3) := by decide +kernel
theorem dX12_step_143 : decode cX12_step 143 = .ok (.aload_n 0, 1) := by decide +kernel
theorem dX12_step_144 : decode cX12_step 144 = .ok (.getfield 90, 3) := by decide +kernel
theorem dX12_step_147 : decode cX12_step 147 = .ok (.isub, 1) := by decide +kernel
theorem dX12_step_148 : decode cX12_step 148 = .ok (.bipush 6, 2) := by decide +kernel
theorem dX12_step_150 : decode cX12_step 150 = .ok (.if_icmp .le 8, 3) := by decide +kernel
theorem dX12_step_153 : decode cX12_step 153 = .ok (.bipush 99, 2) := by decide +kernel
theorem dX12_step_155 : decode cX12_step 155 = .ok (.goto 7, 3) := by decide +kernel
theorem dX12_step_158 : decode cX12_step 158 = .ok (.lload_n 2, 1) := by decide +kernel
theorem dX12_step_159 : decode cX12_step 159 = .ok (.invokestatic 100, 3) := by decide +kernel
theorem dX12_step_162 : decode cX12_step 162 = .ok (.putfield 104, 3) := by decide +kernel
theorem dX12_step_165 : decode cX12_step 165 = .ok (.aload_n 0, 1) := by decide +kernel
theorem dX12_step_166 : decode cX12_step 166 = .ok (.aload_n 0, 1) := by decide +kernel
theorem dX12_step_167 : decode cX12_step 167 = .ok (.getfield 104, 3) := by decide +kernel
theorem dX12_step_170 : decode cX12_step 170 = .ok (.bipush 99, 2) := by decide +kernel
theorem dX12_step_172 : decode cX12_step 172 = .ok (.if_icmp .ne 7, 3) := by decide +kernel
theorem dX12_step_175 : decode cX12_step 175 = .ok (.iconst 4, 1) := by decide +kernel
theorem dX12_step_176 : decode cX12_step 176 = .ok (.goto 4, 3) := by decide +kernel
theorem dX12_step_179 : decode cX12_step 179 = .ok (.iconst 3, 1) := by decide +kernel
theorem dX12_step_180 : decode cX12_step 180 = .ok (.putfield 93, 3) := by decide +kernel
theorem dX12_step_183 : decode cX12_step 183 = .ok (.goto 134, 3) := by decide +kernel
theorem dX12_step_186 : decode cX12_step 186 = .ok (.iload_n 1, 1) := by decide +kernel
theorem dX12_step_187 : decode cX12_step 187 = .ok (.invokestatic 107, 3) := by decide +kernel
theorem dX12_step_190 : decode cX12_step 190 = .ok (.ifCond .eq 96, 3) := by decide +kernel
theorem dX12_step_193 : decode cX12_step 193 = .ok (.aload_n 0, 1) := by decide +kernel
theorem dX12_step_194 : decode cX12_step 194 = .ok (.iconst 0, 1) := by decide +kernel
theorem dX12_step_195 : decode cX12_step 195 = .ok (.putfield 110, 3) := by decide +kernel
theorem dX12_step_198 : decode cX12_step 198 = .ok (.aload_n 0, 1) := by decide +kernel
theorem dX12_step_199 : decode cX12_step 199 = .ok (.aload_n 0, 1) := by decide +kernel
theorem dX12_step_200 : decode cX12_step 200 = .ok (.getfield 83, 3) := by decide +kernel
theorem dX12_step_203 : decode cX12_step 203 = .ok (.invokevirtual 86, 3) := by decide +kernel
theorem dX12_step_206 : decode cX12_step 206 = .ok (.invokestatic 107, 3) := by decide +kernel
theorem dX12_step_209 : decode cX12_step 209 = .ok (.ifCond .eq 52, 3) := by decide +kernel
theorem dX12_step_212 : decode cX12_step 212 = .ok (.aload_n 0, 1) := by decide +kernel
theorem dX12_step_213 : decode cX12_step 213 = .ok (.getfield 83, 3) := by decide +kernel
theorem dX12_step_216 : decode cX12_step 216 = .ok (.aload_n 0, 1) := by decide +kernel
theorem dX12_step_217 : decode cX12_step 217 = .ok (.getfield 90, 3) := by decide +kernel
theorem dX12_step_220 : decode cX12_step 220 = .ok (.isub, 1) := by decide +kernel
theorem dX12_step_221 : decode cX12_step 221 = .ok (.iconst 4, 1) := by decide +kernel
theorem dX12_step_222 : decode cX12_step 222 = .ok (.if_icmp .ge 26, 3) := by decide +kernel
theorem dX12_step_225 : decode cX12_step 225 = .ok (.aload_n 0, 1) := by decide +kernel
theorem dX12_step_226 : decode cX12_step 226 = .ok (.bipush 10, 2) := by decide +kernel
theorem dX12_step_228 : decode cX12_step 228 = .ok (.aload_n 0, 1) := by decide +kernel
theorem dX12_step_229 : decode cX12_step 229 = .ok (.getfield 110, 3) := by decide +kernel
theorem dX12_step_232 : decode cX12_step 232 = .ok (.imul, 1) := by decide +kernel
theorem dX12_step_233 : decode cX12_step 233 = .ok (.aload_n 0, 1) := by decide +kernel
theorem dX12_step_234 : decode cX12_step 234 = .ok (.aload_n 0, 1) := by decide +kernel
theorem dX12_step_235 : decode cX12_step 235 = .ok (.getfield 83, 3) := by decide +kernel
theorem dX12_step_238 : decode cX12_step 238 = .ok (.invokevirtual 86, 3) := by decide +kernel
theorem dX12_step_241 : decode cX12_step 241 = .ok (.iadd, 1) := by decide +kernel
theorem dX12_step_242 : decode cX12_step 242 = .ok (.bipush 48, 2) := by decide +kernel
theorem dX12_step_244 : decode cX12_step 244 = .ok (.isub, 1) := by decide +kernel
theorem dX12_step_245 : decode cX12_step 245 = .ok (.putfield 110, 3) := by decide +kernel
theorem dX12_step_248 : decode cX12_step 248 = .ok (.aload_n 0, 1) := by decide +kernel
theorem dX12_step_249 : decode cX12_step 249 = .ok (.dup, 1) := by decide +kernel
theorem dX12_step_250 : decode cX12_step 250 = .ok (.getfield 83, 3) := by decide +kernel
theorem dX12_step_253 : decode cX12_step 253 = .ok (.iconst 1, 1) := by decide +kernel
theorem dX12_step_254 : decode cX12_step 254 = .ok (.iadd, 1) := by decide +kernel
theorem dX12_step_255 : decode cX12_step 255 = .ok (.putfield 83, 3) := by decide +kernel
theorem dX12_step_258 : decode cX12_step 258 = .ok (.goto (-60), 3) := by decide +kernel
theorem dX12_step_261 : decode cX12_step 261 = .ok (.aload_n 0, 1) := by decide +kernel
theorem dX12_step_262 : decode cX12_step 262 = .ok (.aload_n 0, 1) := by decide +kernel
theorem dX12_step_263 : decode cX12_step 263 = .ok (.getfield 83, 3) := by decide +kernel
theorem dX12_step_266 : decode cX12_step 266 = .ok (.aload_n 0, 1) := by decide +kernel
theorem dX12_step_267 : decode cX12_step 267 = .ok (.getfield 90, 3) := by decide +kernel
theorem dX12_step_270 : decode cX12_step 270 = .ok (.isub, 1) := by decide +kernel
theorem dX12_step_271 : decode cX12_step 271 = .ok (.iconst 4, 1) := by decide +kernel
theorem dX12_step_272 : decode cX12_step 272 = .ok (.if_icmp .le 7, 3) := by decide +kernel
theorem dX12_step_275 : decode cX12_step 275 = .ok (.iconst 4, 1) := by decide +kernel
theorem dX12_step_276 : decode cX12_step 276 = .ok (.goto 4, 3) := by decide +kernel
theorem dX12_step_279 : decode cX12_step 279 = .ok (.iconst 1, 1) := by decide +kernel
theorem dX12_step_280 : decode cX12_step 280 = .ok (.putfield 93, 3) := by decide +kernel
theorem dX12_step_283 : decode cX12_step 283 = .ok (.goto 34, 3) := by decide +kernel
theorem dX12_step_286 : decode cX12_step 286 = .ok (.aload_n 0, 1) := by decide +kernel
theorem dX12_step_287 : decode cX12_step 287 = .ok (.dup, 1) := by decide +kernel
theorem dX12_step_288 : decode cX12_step 288 = .ok (.getfield 83, 3) := by decide +kernel
theorem dX12_step_291 : decode cX12_step 291 = .ok (.iconst 1, 1) := by decide +kernel
theorem dX12_step_292 : decode cX12_step 292 = .ok (.iadd, 1) := by decide +kernel
theorem dX12_step_293 : decode cX12_step 293 = .ok (.putfield 83, 3) := by decide +kernel
theorem dX12_step_296 : decode cX12_step 296 = .ok (.aload_n 0, 1) := by decide +kernel
theorem dX12_step_297 : decode cX12_step 297 = .ok (.iload_n 1, 1) := by decide +kernel
theorem dX12_step_298 : decode cX12_step 298 = .ok (.putfield 113, 3) := by decide +kernel
theorem dX12_step_301 : decode cX12_step 301 = .ok (.aload_n 0, 1) := by decide +kernel
theorem dX12_step_302 : decode cX12_step 302 = .ok (.iload_n 1, 1) := by decide +kernel
theorem dX12_step_303 : decode cX12_step 303 = .ok (.invokestatic 116, 3) := by decide +kernel
theorem dX12_step_306 : decode cX12_step 306 = .ok (.ifCond .eq 7, 3) := by decide +kernel
theorem dX12_step_309 : decode cX12_step 309 = .ok (.iconst 2, 1) := by decide +kernel
theorem dX12_step_310 : decode cX12_step 310 = .ok (.goto 4, 3) := by decide +kernel
theorem dX12_step_313 : decode cX12_step 313 = .ok (.iconst 4, 1) := by decide +kernel
theorem dX12_step_314 : decode cX12_step 314 = .ok (.putfield 93, 3) := by decide +kernel
theorem dX12_step_317 : decode cX12_step 317 = .ok (.return_, 1) := by decide +kernel
abbrev dpX12_step : Nat := 3
def fX12_step_26 (k0 : Nat → St → Option (Unit × St)) (a0 : Nat) : St → Option (Unit × St) :=
 gI 13 a0 3 fun v2001 =>
 pI 13 a0 3 (v2001 + 1) <|
 k0 a0
set_option maxHeartbeats 4000000 in
set_option maxRecDepth 100000 in
theorem sfX12_step_26 {E : Ev} {l : Launch} (k0 : Nat → St → Option (Unit × St)) (hk0 : ∀ p : Nat, Snd E l (dpX12_step, RX12, cX12_step, 4, none, "step") rvV 0 [(0, .ref (E.1 + p))] [] (k0 p)) (a0 : Nat) : Snd E l (dpX12_step, RX12, cX12_step, 4, none, "step") rvV 26 [(0, .ref (E.1 + a0))] [] (fX12_step_26 k0 a0) := by
  unfold fX12_step_26
  refine sn_aload_n (pc := 26) (j := 0) dX12_step_26 rfl rfl ?_
  refine sn_dup (pc := 27) dX12_step_27 rfl ?_
  refine sn_gI (pc := 28) dX12_step_28 flX12_83 rfl (fun v2001 => ?_)
  refine sn_iconst (pc := 31) (v := 1) dX12_step_31 (by decide) ?_
  refine sn_iadd (pc := 32) dX12_step_32 ?_
  refine sn_pI (pc := 33) dX12_step_33 flX12_83 rfl rfl (Or.inl rfl) ?_
  refine sn_goto (pc := 36) (tgt := 0) dX12_step_36 (by decide) ?_
  exact sn_sub (lv' := [(0, .ref (E.1 + a0))]) [0] rfl (hk0 a0)
def fX12_step_125 (k77 : (Nat × Int64) → St → Option (Unit × St)) (a0 : Nat) (x2 : Int64) : St → Option (Unit × St) :=
 gI 13 a0 3 fun v4001 =>
 pI 13 a0 3 (v4001 + 1) <|
 k77 (a0, x2)
set_option maxHeartbeats 4000000 in
set_option maxRecDepth 100000 in
theorem sfX12_step_125 {E : Ev} {l : Launch} (k77 : (Nat × Int64) → St → Option (Unit × St)) (hk77 : ∀ p : Nat × Int64, Snd E l (dpX12_step, RX12, cX12_step, 4, none, "step") rvV 77 [(0, .ref (E.1 + p.1)), (2, .long p.2)] [] (k77 p)) (a0 : Nat) (x2 : Int64) : Snd E l (dpX12_step, RX12, cX12_step, 4, none, "step") rvV 125 [(0, .ref (E.1 + a0)), (2, .long x2)] [] (fX12_step_125 k77 a0 x2) := by
  unfold fX12_step_125
  refine sn_aload_n (pc := 125) (j := 0) dX12_step_125 rfl rfl ?_
  refine sn_dup (pc := 126) dX12_step_126 rfl ?_
  refine sn_gI (pc := 127) dX12_step_127 flX12_83 rfl (fun v4001 => ?_)
  refine sn_iconst (pc := 130) (v := 1) dX12_step_130 (by decide) ?_
  refine sn_iadd (pc := 131) dX12_step_131 ?_
  refine sn_pI (pc := 132) dX12_step_132 flX12_83 rfl rfl (Or.inl rfl) ?_
  refine sn_goto (pc := 135) (tgt := 77) dX12_step_135 (by decide) ?_
  exact sn_sub (lv' := [(0, .ref (E.1 + a0)), (2, .long x2)]) [0, 1] rfl (hk77 (a0, x2))
def fX12_step_162 (a0 : Nat) (y0 : Int32) (y1 : Nat) : St → Option (Unit × St) :=
 pI 13 y1 8 y0 <|
 gI 13 a0 8 fun v5001 =>
 br (v5001 = 99) (pI 13 a0 5 4 <|
 rt ())
 (pI 13 a0 5 3 <|
 rt ())
set_option maxHeartbeats 4000000 in
set_option maxRecDepth 100000 in
theorem sfX12_step_162 {E : Ev} {l : Launch} (a0 : Nat) (y0 : Int32) (y1 : Nat) : Snd E l (dpX12_step, RX12, cX12_step, 4, none, "step") rvV 162 [(0, .ref (E.1 + a0))] [.int y0, .ref (E.1 + y1)] (fX12_step_162 a0 y0 y1) := by
  unfold fX12_step_162
  refine sn_pI (pc := 162) dX12_step_162 flX12_104 rfl rfl (Or.inl rfl) ?_
  refine sn_aload_n (pc := 165) (j := 0) dX12_step_165 rfl rfl ?_
  refine sn_aload_n (pc := 166) (j := 0) dX12_step_166 rfl rfl ?_
  refine sn_gI (pc := 167) dX12_step_167 flX12_104 rfl (fun v5001 => ?_)
  refine sn_bipush (pc := 170) (v := 99) dX12_step_170 (by decide) ?_
  refine sn_icmp_ne (pc := 172) (tgt := 179) dX12_step_172 (by decide) ?_ ?_
  · refine sn_iconst (pc := 179) (v := 3) dX12_step_179 (by decide) ?_
    refine sn_pI (pc := 180) dX12_step_180 flX12_93 rfl rfl (Or.inl rfl) ?_
    refine sn_goto (pc := 183) (tgt := 317) dX12_step_183 (by decide) ?_
    exact sn_vret (pc := 317) dX12_step_317 rfl
  · refine sn_iconst (pc := 175) (v := 4) dX12_step_175 (by decide) ?_
    refine sn_goto (pc := 176) (tgt := 180) dX12_step_176 (by decide) ?_
    refine sn_pI (pc := 180) dX12_step_180 flX12_93 rfl rfl (Or.inl rfl) ?_
    refine sn_goto (pc := 183) (tgt := 317) dX12_step_183 (by decide) ?_
    exact sn_vret (pc := 317) dX12_step_317 rfl
def fX12_step_77 (k77 : (Nat × Int64) → St → Option (Unit × St)) (a0 : Nat) (x2 : Int64) : St → Option (Unit × St) :=
 gI 13 a0 3 fun v3001 =>
 ck 13 a0 <| cl (fX12_byteAt a0 v3001) fun v3002 =>
 cl (fX12_isLetter v3002) fun v3003 =>
 br ((bi v3003) = 0) (gI 13 a0 3 fun v3004 =>
 gI 13 a0 4 fun v3005 =>
 br ((v3004 - v3005) ≤ 6) (cl (fX12_wordOf x2) fun v3006 =>
 fX12_step_162  a0 v3006 a0)
 (fX12_step_162  a0 99 a0))
 (gI 13 a0 3 fun v3007 =>
 gI 13 a0 4 fun v3008 =>
 br (7 ≤ (v3007 - v3008)) (fX12_step_125 k77 a0 x2)
 (gI 13 a0 3 fun v3009 =>
 ck 13 a0 <| cl (fX12_byteAt a0 v3009) fun v3010 =>
 fX12_step_125 k77 a0 (((32 * x2) + v3010.toInt64) - 96)))
set_option maxHeartbeats 4000000 in
set_option maxRecDepth 100000 in
theorem sfX12_step_77 {E : Ev} {l : Launch} (k77 : (Nat × Int64) → St → Option (Unit × St)) (hk77 : ∀ p : Nat × Int64, Snd E l (dpX12_step, RX12, cX12_step, 4, none, "step") rvV 77 [(0, .ref (E.1 + p.1)), (2, .long p.2)] [] (k77 p)) (a0 : Nat) (x2 : Int64) : Snd E l (dpX12_step, RX12, cX12_step, 4, none, "step") rvV 77 [(0, .ref (E.1 + a0)), (2, .long x2)] [] (fX12_step_77 k77 a0 x2) := by
  unfold fX12_step_77
  refine sn_aload_n (pc := 77) (j := 0) dX12_step_77 rfl rfl ?_
  refine sn_aload_n (pc := 78) (j := 0) dX12_step_78 rfl rfl ?_
  refine sn_gI (pc := 79) dX12_step_79 flX12_83 rfl (fun v3001 => ?_)
  refine sn_callV (ci := 12) (pc := 82) dX12_step_82 iX12_byteAt wt6_151 ws_43 wt6_149 ⟨_, rfl, rfl⟩ (by decide) (mX12_byteAt a0 v3001) (by decide) rfl rfl (Nat.le_of_ble_eq_true rfl) (fun v3002 => ?_)
  refine sn_callS (pc := 85) dX12_step_85 iX12_isLetter wt6_154 wt6_153 (mX12_isLetter v3002) (by decide) rfl rfl (Nat.le_of_ble_eq_true rfl) (fun v3003 => ?_)
  refine sn_if_eq (pc := 88) (tgt := 138) dX12_step_88 (by decide) ?_ ?_
  · refine sn_aload_n (pc := 138) (j := 0) dX12_step_138 rfl rfl ?_
    refine sn_aload_n (pc := 139) (j := 0) dX12_step_139 rfl rfl ?_
    refine sn_gI (pc := 140) dX12_step_140 flX12_83 rfl (fun v3004 => ?_)
    refine sn_aload_n (pc := 143) (j := 0) dX12_step_143 rfl rfl ?_
    refine sn_gI (pc := 144) dX12_step_144 flX12_90 rfl (fun v3005 => ?_)
    refine sn_isub (pc := 147) dX12_step_147 ?_
    refine sn_bipush (pc := 148) (v := 6) dX12_step_148 (by decide) ?_
    refine sn_icmp_le (pc := 150) (tgt := 158) dX12_step_150 (by decide) ?_ ?_
    · refine sn_lload_n (pc := 158) (j := 1) dX12_step_158 rfl rfl ?_
      refine sn_callS (pc := 159) dX12_step_159 iX12_wordOf wt6_159 wt6_158 (mX12_wordOf x2) (by decide) rfl rfl (Nat.le_of_ble_eq_true rfl) (fun v3006 => ?_)
      exact sn_sub (lv' := [(0, .ref (E.1 + a0))]) [0] rfl (sfX12_step_162  a0 v3006 a0)
    · refine sn_bipush (pc := 153) (v := 99) dX12_step_153 (by decide) ?_
      refine sn_goto (pc := 155) (tgt := 162) dX12_step_155 (by decide) ?_
      exact sn_sub (lv' := [(0, .ref (E.1 + a0))]) [0] rfl (sfX12_step_162  a0 99 a0)
  · refine sn_aload_n (pc := 91) (j := 0) dX12_step_91 rfl rfl ?_
    refine sn_gI (pc := 92) dX12_step_92 flX12_83 rfl (fun v3007 => ?_)
    refine sn_aload_n (pc := 95) (j := 0) dX12_step_95 rfl rfl ?_
    refine sn_gI (pc := 96) dX12_step_96 flX12_90 rfl (fun v3008 => ?_)
    refine sn_isub (pc := 99) dX12_step_99 ?_
    refine sn_bipush (pc := 100) (v := 7) dX12_step_100 (by decide) ?_
    refine sn_icmp_ge (pc := 102) (tgt := 125) dX12_step_102 (by decide) ?_ ?_
    · exact sn_sub (lv' := [(0, .ref (E.1 + a0)), (2, .long x2)]) [0, 1] rfl (sfX12_step_125 k77 hk77 a0 x2)
    · refine sn_ldc2 (pc := 105) (v := 32) dX12_step_105 wt6_156 ?_
      refine sn_lload_n (pc := 108) (j := 1) dX12_step_108 rfl rfl ?_
      refine sn_lmul (pc := 109) dX12_step_109 ?_
      refine sn_aload_n (pc := 110) (j := 0) dX12_step_110 rfl rfl ?_
      refine sn_aload_n (pc := 111) (j := 0) dX12_step_111 rfl rfl ?_
      refine sn_gI (pc := 112) dX12_step_112 flX12_83 rfl (fun v3009 => ?_)
      refine sn_callV (ci := 12) (pc := 115) dX12_step_115 iX12_byteAt wt6_151 ws_43 wt6_149 ⟨_, rfl, rfl⟩ (by decide) (mX12_byteAt a0 v3009) (by decide) rfl rfl (Nat.le_of_ble_eq_true rfl) (fun v3010 => ?_)
      refine sn_i2l (pc := 118) dX12_step_118 ?_
      refine sn_ladd (pc := 119) dX12_step_119 ?_
      refine sn_ldc2 (pc := 120) (v := 96) dX12_step_120 wt6_157 ?_
      refine sn_lsub (pc := 123) dX12_step_123 ?_
      refine sn_lstore_n (pc := 124) (i := 2) (lv' := [(2, .long (((32 * x2) + v3010.toInt64) - 96)), (0, .ref (E.1 + a0))]) dX12_step_124 rfl (by decide) rfl ?_
      exact sn_sub (lv' := [(0, .ref (E.1 + a0)), (2, .long (((32 * x2) + v3010.toInt64) - 96))]) [1, 0] rfl (sfX12_step_125 k77 hk77 a0 (((32 * x2) + v3010.toInt64) - 96))
def fX12_step_248 (k198 : Nat → St → Option (Unit × St)) (a0 : Nat) : St → Option (Unit × St) :=
 gI 13 a0 3 fun v7001 =>
 pI 13 a0 3 (v7001 + 1) <|
 k198 a0
set_option maxHeartbeats 4000000 in
set_option maxRecDepth 100000 in
theorem sfX12_step_248 {E : Ev} {l : Launch} (k198 : Nat → St → Option (Unit × St)) (hk198 : ∀ p : Nat, Snd E l (dpX12_step, RX12, cX12_step, 4, none, "step") rvV 198 [(0, .ref (E.1 + p))] [] (k198 p)) (a0 : Nat) : Snd E l (dpX12_step, RX12, cX12_step, 4, none, "step") rvV 248 [(0, .ref (E.1 + a0))] [] (fX12_step_248 k198 a0) := by
  unfold fX12_step_248
  refine sn_aload_n (pc := 248) (j := 0) dX12_step_248 rfl rfl ?_
  refine sn_dup (pc := 249) dX12_step_249 rfl ?_
  refine sn_gI (pc := 250) dX12_step_250 flX12_83 rfl (fun v7001 => ?_)
  refine sn_iconst (pc := 253) (v := 1) dX12_step_253 (by decide) ?_
  refine sn_iadd (pc := 254) dX12_step_254 ?_
  refine sn_pI (pc := 255) dX12_step_255 flX12_83 rfl rfl (Or.inl rfl) ?_
  refine sn_goto (pc := 258) (tgt := 198) dX12_step_258 (by decide) ?_
  exact sn_sub (lv' := [(0, .ref (E.1 + a0))]) [0] rfl (hk198 a0)
def fX12_step_198 (k198 : Nat → St → Option (Unit × St)) (a0 : Nat) : St → Option (Unit × St) :=
 gI 13 a0 3 fun v6001 =>
 ck 13 a0 <| cl (fX12_byteAt a0 v6001) fun v6002 =>
 cl (fX12_isDigit v6002) fun v6003 =>
 br ((bi v6003) = 0) (gI 13 a0 3 fun v6004 =>
 gI 13 a0 4 fun v6005 =>
 br ((v6004 - v6005) ≤ 4) (pI 13 a0 5 1 <|
 rt ())
 (pI 13 a0 5 4 <|
 rt ()))
 (gI 13 a0 3 fun v6006 =>
 gI 13 a0 4 fun v6007 =>
 br (4 ≤ (v6006 - v6007)) (fX12_step_248 k198 a0)
 (gI 13 a0 6 fun v6008 =>
 gI 13 a0 3 fun v6009 =>
 ck 13 a0 <| cl (fX12_byteAt a0 v6009) fun v6010 =>
 pI 13 a0 6 (((10 * v6008) + v6010) - 48) <|
 fX12_step_248 k198 a0))
set_option maxHeartbeats 4000000 in
set_option maxRecDepth 100000 in
theorem sfX12_step_198 {E : Ev} {l : Launch} (k198 : Nat → St → Option (Unit × St)) (hk198 : ∀ p : Nat, Snd E l (dpX12_step, RX12, cX12_step, 4, none, "step") rvV 198 [(0, .ref (E.1 + p))] [] (k198 p)) (a0 : Nat) : Snd E l (dpX12_step, RX12, cX12_step, 4, none, "step") rvV 198 [(0, .ref (E.1 + a0))] [] (fX12_step_198 k198 a0) := by
  unfold fX12_step_198
  refine sn_aload_n (pc := 198) (j := 0) dX12_step_198 rfl rfl ?_
  refine sn_aload_n (pc := 199) (j := 0) dX12_step_199 rfl rfl ?_
  refine sn_gI (pc := 200) dX12_step_200 flX12_83 rfl (fun v6001 => ?_)
  refine sn_callV (ci := 12) (pc := 203) dX12_step_203 iX12_byteAt wt6_151 ws_43 wt6_149 ⟨_, rfl, rfl⟩ (by decide) (mX12_byteAt a0 v6001) (by decide) rfl rfl (Nat.le_of_ble_eq_true rfl) (fun v6002 => ?_)
  refine sn_callS (pc := 206) dX12_step_206 iX12_isDigit wt6_175 wt6_174 (mX12_isDigit v6002) (by decide) rfl rfl (Nat.le_of_ble_eq_true rfl) (fun v6003 => ?_)
  refine sn_if_eq (pc := 209) (tgt := 261) dX12_step_209 (by decide) ?_ ?_
  · refine sn_aload_n (pc := 261) (j := 0) dX12_step_261 rfl rfl ?_
    refine sn_aload_n (pc := 262) (j := 0) dX12_step_262 rfl rfl ?_
    refine sn_gI (pc := 263) dX12_step_263 flX12_83 rfl (fun v6004 => ?_)
    refine sn_aload_n (pc := 266) (j := 0) dX12_step_266 rfl rfl ?_
    refine sn_gI (pc := 267) dX12_step_267 flX12_90 rfl (fun v6005 => ?_)
    refine sn_isub (pc := 270) dX12_step_270 ?_
    refine sn_iconst (pc := 271) (v := 4) dX12_step_271 (by decide) ?_
    refine sn_icmp_le (pc := 272) (tgt := 279) dX12_step_272 (by decide) ?_ ?_
    · refine sn_iconst (pc := 279) (v := 1) dX12_step_279 (by decide) ?_
      refine sn_pI (pc := 280) dX12_step_280 flX12_93 rfl rfl (Or.inl rfl) ?_
      refine sn_goto (pc := 283) (tgt := 317) dX12_step_283 (by decide) ?_
      exact sn_vret (pc := 317) dX12_step_317 rfl
    · refine sn_iconst (pc := 275) (v := 4) dX12_step_275 (by decide) ?_
      refine sn_goto (pc := 276) (tgt := 280) dX12_step_276 (by decide) ?_
      refine sn_pI (pc := 280) dX12_step_280 flX12_93 rfl rfl (Or.inl rfl) ?_
      refine sn_goto (pc := 283) (tgt := 317) dX12_step_283 (by decide) ?_
      exact sn_vret (pc := 317) dX12_step_317 rfl
  · refine sn_aload_n (pc := 212) (j := 0) dX12_step_212 rfl rfl ?_
    refine sn_gI (pc := 213) dX12_step_213 flX12_83 rfl (fun v6006 => ?_)
    refine sn_aload_n (pc := 216) (j := 0) dX12_step_216 rfl rfl ?_
    refine sn_gI (pc := 217) dX12_step_217 flX12_90 rfl (fun v6007 => ?_)
    refine sn_isub (pc := 220) dX12_step_220 ?_
    refine sn_iconst (pc := 221) (v := 4) dX12_step_221 (by decide) ?_
    refine sn_icmp_ge (pc := 222) (tgt := 248) dX12_step_222 (by decide) ?_ ?_
    · exact sn_sub (lv' := [(0, .ref (E.1 + a0))]) [0] rfl (sfX12_step_248 k198 hk198 a0)
    · refine sn_aload_n (pc := 225) (j := 0) dX12_step_225 rfl rfl ?_
      refine sn_bipush (pc := 226) (v := 10) dX12_step_226 (by decide) ?_
      refine sn_aload_n (pc := 228) (j := 0) dX12_step_228 rfl rfl ?_
      refine sn_gI (pc := 229) dX12_step_229 flX12_110 rfl (fun v6008 => ?_)
      refine sn_imul (pc := 232) dX12_step_232 ?_
      refine sn_aload_n (pc := 233) (j := 0) dX12_step_233 rfl rfl ?_
      refine sn_aload_n (pc := 234) (j := 0) dX12_step_234 rfl rfl ?_
      refine sn_gI (pc := 235) dX12_step_235 flX12_83 rfl (fun v6009 => ?_)
      refine sn_callV (ci := 12) (pc := 238) dX12_step_238 iX12_byteAt wt6_151 ws_43 wt6_149 ⟨_, rfl, rfl⟩ (by decide) (mX12_byteAt a0 v6009) (by decide) rfl rfl (Nat.le_of_ble_eq_true rfl) (fun v6010 => ?_)
      refine sn_iadd (pc := 241) dX12_step_241 ?_
      refine sn_bipush (pc := 242) (v := 48) dX12_step_242 (by decide) ?_
      refine sn_isub (pc := 244) dX12_step_244 ?_
      refine sn_pI (pc := 245) dX12_step_245 flX12_110 rfl rfl (Or.inl rfl) ?_
      exact sn_sub (lv' := [(0, .ref (E.1 + a0))]) [0] rfl (sfX12_step_248 k198 hk198 a0)
def fX12_step_0 (k0 : Nat → St → Option (Unit × St)) (a0 : Nat) : St → Option (Unit × St) :=
 gI 13 a0 3 fun v1001 =>
 ck 13 a0 <| cl (fX12_byteAt a0 v1001) fun v1002 =>
 br (v1002 = 10) (fX12_step_26 k0 a0)
 (gI 13 a0 3 fun v1003 =>
 ck 13 a0 <| cl (fX12_byteAt a0 v1003) fun v1004 =>
 br (v1004 = 32) (fX12_step_26 k0 a0)
 (gI 13 a0 3 fun v1005 =>
 pI 13 a0 4 v1005 <|
 gI 13 a0 3 fun v1006 =>
 ck 13 a0 <| cl (fX12_byteAt a0 v1006) fun v1007 =>
 br (0 ≤ v1007) (cl (fX12_isLetter v1007) fun v1008 =>
 br ((bi v1008) = 0) (cl (fX12_isDigit v1007) fun v1009 =>
 br ((bi v1009) = 0) (gI 13 a0 3 fun v1010 =>
 pI 13 a0 3 (v1010 + 1) <|
 pI 13 a0 7 v1007 <|
 cl (fX12_isSignByte v1007) fun v1011 =>
 br ((bi v1011) = 0) (pI 13 a0 5 4 <|
 rt ())
 (pI 13 a0 5 2 <|
 rt ()))
 (pI 13 a0 6 0 <|
 itr (fun k (p : Nat) => fX12_step_198  k p) FU a0))
 (itr (fun k (p : Nat × Int64) => fX12_step_77  k p.1 p.2) FU (a0, 0)))
 (pI 13 a0 5 0 <|
 rt ())))
set_option maxHeartbeats 4000000 in
set_option maxRecDepth 100000 in
theorem sfX12_step_0 {E : Ev} {l : Launch} (k0 : Nat → St → Option (Unit × St)) (hk0 : ∀ p : Nat, Snd E l (dpX12_step, RX12, cX12_step, 4, none, "step") rvV 0 [(0, .ref (E.1 + p))] [] (k0 p)) (a0 : Nat) : Snd E l (dpX12_step, RX12, cX12_step, 4, none, "step") rvV 0 [(0, .ref (E.1 + a0))] [] (fX12_step_0 k0 a0) := by
  unfold fX12_step_0
  refine sn_aload_n (pc := 0) (j := 0) dX12_step_0 rfl rfl ?_
  refine sn_aload_n (pc := 1) (j := 0) dX12_step_1 rfl rfl ?_
  refine sn_gI (pc := 2) dX12_step_2 flX12_83 rfl (fun v1001 => ?_)
  refine sn_callV (ci := 12) (pc := 5) dX12_step_5 iX12_byteAt wt6_151 ws_43 wt6_149 ⟨_, rfl, rfl⟩ (by decide) (mX12_byteAt a0 v1001) (by decide) rfl rfl (Nat.le_of_ble_eq_true rfl) (fun v1002 => ?_)
  refine sn_bipush (pc := 8) (v := 10) dX12_step_8 (by decide) ?_
  refine sn_icmp_eq (pc := 10) (tgt := 26) dX12_step_10 (by decide) ?_ ?_
  · exact sn_sub (lv' := [(0, .ref (E.1 + a0))]) [0] rfl (sfX12_step_26 k0 hk0 a0)
  · refine sn_aload_n (pc := 13) (j := 0) dX12_step_13 rfl rfl ?_
    refine sn_aload_n (pc := 14) (j := 0) dX12_step_14 rfl rfl ?_
    refine sn_gI (pc := 15) dX12_step_15 flX12_83 rfl (fun v1003 => ?_)
    refine sn_callV (ci := 12) (pc := 18) dX12_step_18 iX12_byteAt wt6_151 ws_43 wt6_149 ⟨_, rfl, rfl⟩ (by decide) (mX12_byteAt a0 v1003) (by decide) rfl rfl (Nat.le_of_ble_eq_true rfl) (fun v1004 => ?_)
    refine sn_bipush (pc := 21) (v := 32) dX12_step_21 (by decide) ?_
    refine sn_icmp_ne (pc := 23) (tgt := 39) dX12_step_23 (by decide) ?_ ?_
    · refine sn_aload_n (pc := 39) (j := 0) dX12_step_39 rfl rfl ?_
      refine sn_aload_n (pc := 40) (j := 0) dX12_step_40 rfl rfl ?_
      refine sn_gI (pc := 41) dX12_step_41 flX12_83 rfl (fun v1005 => ?_)
      refine sn_pI (pc := 44) dX12_step_44 flX12_90 rfl rfl (Or.inl rfl) ?_
      refine sn_aload_n (pc := 47) (j := 0) dX12_step_47 rfl rfl ?_
      refine sn_aload_n (pc := 48) (j := 0) dX12_step_48 rfl rfl ?_
      refine sn_gI (pc := 49) dX12_step_49 flX12_83 rfl (fun v1006 => ?_)
      refine sn_callV (ci := 12) (pc := 52) dX12_step_52 iX12_byteAt wt6_151 ws_43 wt6_149 ⟨_, rfl, rfl⟩ (by decide) (mX12_byteAt a0 v1006) (by decide) rfl rfl (Nat.le_of_ble_eq_true rfl) (fun v1007 => ?_)
      refine sn_istore_n (pc := 55) (i := 1) (lv' := [(1, .int v1007), (0, .ref (E.1 + a0))]) dX12_step_55 rfl (by decide) rfl ?_
      refine sn_iload_n (pc := 56) (j := 0) dX12_step_56 rfl rfl ?_
      refine sn_if_ge (pc := 57) (tgt := 68) dX12_step_57 (by decide) ?_ ?_
      · refine sn_iload_n (pc := 68) (j := 0) dX12_step_68 rfl rfl ?_
        refine sn_callS (pc := 69) dX12_step_69 iX12_isLetter wt6_154 wt6_153 (mX12_isLetter v1007) (by decide) rfl rfl (Nat.le_of_ble_eq_true rfl) (fun v1008 => ?_)
        refine sn_if_eq (pc := 72) (tgt := 186) dX12_step_72 (by decide) ?_ ?_
        · refine sn_iload_n (pc := 186) (j := 0) dX12_step_186 rfl rfl ?_
          refine sn_callS (pc := 187) dX12_step_187 iX12_isDigit wt6_175 wt6_174 (mX12_isDigit v1007) (by decide) rfl rfl (Nat.le_of_ble_eq_true rfl) (fun v1009 => ?_)
          refine sn_if_eq (pc := 190) (tgt := 286) dX12_step_190 (by decide) ?_ ?_
          · refine sn_aload_n (pc := 286) (j := 1) dX12_step_286 rfl rfl ?_
            refine sn_dup (pc := 287) dX12_step_287 rfl ?_
            refine sn_gI (pc := 288) dX12_step_288 flX12_83 rfl (fun v1010 => ?_)
            refine sn_iconst (pc := 291) (v := 1) dX12_step_291 (by decide) ?_
            refine sn_iadd (pc := 292) dX12_step_292 ?_
            refine sn_pI (pc := 293) dX12_step_293 flX12_83 rfl rfl (Or.inl rfl) ?_
            refine sn_aload_n (pc := 296) (j := 1) dX12_step_296 rfl rfl ?_
            refine sn_iload_n (pc := 297) (j := 0) dX12_step_297 rfl rfl ?_
            refine sn_pI (pc := 298) dX12_step_298 flX12_113 rfl rfl (Or.inl rfl) ?_
            refine sn_aload_n (pc := 301) (j := 1) dX12_step_301 rfl rfl ?_
            refine sn_iload_n (pc := 302) (j := 0) dX12_step_302 rfl rfl ?_
            refine sn_callS (pc := 303) dX12_step_303 iX12_isSignByte wt6_178 wt6_177 (mX12_isSignByte v1007) (by decide) rfl rfl (Nat.le_of_ble_eq_true rfl) (fun v1011 => ?_)
            refine sn_if_eq (pc := 306) (tgt := 313) dX12_step_306 (by decide) ?_ ?_
            · refine sn_iconst (pc := 313) (v := 4) dX12_step_313 (by decide) ?_
              refine sn_pI (pc := 314) dX12_step_314 flX12_93 rfl rfl (Or.inl rfl) ?_
              exact sn_vret (pc := 317) dX12_step_317 rfl
            · refine sn_iconst (pc := 309) (v := 2) dX12_step_309 (by decide) ?_
              refine sn_goto (pc := 310) (tgt := 314) dX12_step_310 (by decide) ?_
              refine sn_pI (pc := 314) dX12_step_314 flX12_93 rfl rfl (Or.inl rfl) ?_
              exact sn_vret (pc := 317) dX12_step_317 rfl
          · refine sn_aload_n (pc := 193) (j := 1) dX12_step_193 rfl rfl ?_
            refine sn_iconst (pc := 194) (v := 0) dX12_step_194 (by decide) ?_
            refine sn_pI (pc := 195) dX12_step_195 flX12_110 rfl rfl (Or.inl rfl) ?_
            exact sn_sub (lv' := [(0, .ref (E.1 + a0))]) [1] rfl (sn_itr (lvf := fun p => [(0, .ref (E.1 + p))]) (stf := fun p => []) (fun k hk p => sfX12_step_198  k hk p) FU a0)
        · refine sn_lconst (pc := 75) (v := 0) dX12_step_75 (by decide) ?_
          refine sn_lstore_n (pc := 76) (i := 2) (lv' := [(2, .long 0), (1, .int v1007), (0, .ref (E.1 + a0))]) dX12_step_76 rfl (by decide) rfl ?_
          exact sn_sub (lv' := [(0, .ref (E.1 + a0)), (2, .long 0)]) [2, 0] rfl (sn_itr (lvf := fun p => [(0, .ref (E.1 + p.1)), (2, .long p.2)]) (stf := fun p => []) (fun k hk p => sfX12_step_77  k hk p.1 p.2) FU (a0, 0))
      · refine sn_aload_n (pc := 60) (j := 1) dX12_step_60 rfl rfl ?_
        refine sn_iconst (pc := 61) (v := 0) dX12_step_61 (by decide) ?_
        refine sn_pI (pc := 62) dX12_step_62 flX12_93 rfl rfl (Or.inl rfl) ?_
        refine sn_goto (pc := 65) (tgt := 317) dX12_step_65 (by decide) ?_
        exact sn_vret (pc := 317) dX12_step_317 rfl
    · exact sn_sub (lv' := [(0, .ref (E.1 + a0))]) [0] rfl (sfX12_step_26 k0 hk0 a0)
def fX12_step (a0 : Nat) : St → Option (Unit × St) :=
 itr (fun k (p : Nat) => fX12_step_0  k p) FU a0
set_option maxHeartbeats 4000000 in
set_option maxRecDepth 100000 in
theorem mX12_step {E : Ev} {l : Launch} (a0 : Nat) : MF E l dpX12_step yX12_step cX12_step 4 none rvV [.ref (E.1 + a0)] (fX12_step a0) := by
  refine MF.of (lv := [(0, .ref (E.1 + a0))]) (by decide) (Nat.le_of_ble_eq_true rfl) rfl ?_
  unfold fX12_step
  exact sn_sub (lv' := [(0, .ref (E.1 + a0))]) [0] rfl (sn_itr (lvf := fun p => [(0, .ref (E.1 + p))]) (stf := fun p => []) (fun k hk p => sfX12_step_0  k hk p) FU a0)
theorem iX12_step : MI yX12_step cX12_step 4 none 0 := ⟨wt1_10, wt6_148, by decide +kernel, by decide⟩
