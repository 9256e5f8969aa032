-- NeedleHomesModel again(I)Z
theorem dX12_again_0 : decode cX12_again 0 = .ok (.iload_n 1, 1) := by decide +kernel
theorem dX12_again_1 : decode cX12_again 1 = .ok (.iconst 0, 1) := by decide +kernel
theorem dX12_again_2 : decode cX12_again 2 = .ok (.iconst 2, 1) := by decide +kernel
theorem dX12_again_3 : decode cX12_again 3 = .ok (.invokestatic 51, 3) := by decide +kernel
theorem dX12_again_6 : decode cX12_again 6 = .ok (.ifCond .eq 12, 3) := by decide +kernel
theorem dX12_again_9 : decode cX12_again 9 = .ok (.aload_n 0, 1) := by decide +kernel
theorem dX12_again_10 : decode cX12_again 10 = .ok (.getfield 13, 3) := by decide +kernel
theorem dX12_again_13 : decode cX12_again 13 = .ok (.iload_n 1, 1) := by decide +kernel
theorem dX12_again_14 : decode cX12_again 14 = .ok (.baload, 1) := by decide +kernel
theorem dX12_again_15 : decode cX12_again 15 = .ok (.ifCond .ne 5, 3) := by decide +kernel
theorem dX12_again_18 : decode cX12_again 18 = .ok (.iconst 0, 1) := by decide +kernel
theorem dX12_again_19 : decode cX12_again 19 = .ok (.ireturn, 1) := by decide +kernel
theorem dX12_again_20 : decode cX12_again 20 = .ok (.iconst 0, 1) := by decide +kernel
theorem dX12_again_21 : decode cX12_again 21 = .ok (.istore_n 2, 1) := by decide +kernel
theorem dX12_again_22 : decode cX12_again 22 = .ok (.iload_n 2, 1) := by decide +kernel
theorem dX12_again_23 : decode cX12_again 23 = .ok (.sipush 7440, 3) := by decide +kernel
theorem dX12_again_26 : decode cX12_again 26 = .ok (.if_icmp .ge 29, 3) := by decide +kernel
theorem dX12_again_29 : decode cX12_again 29 = .ok (.aload_n 0, 1) := by decide +kernel
theorem dX12_again_30 : decode cX12_again 30 = .ok (.getfield 7, 3) := by decide +kernel
theorem dX12_again_33 : decode cX12_again 33 = .ok (.iload_n 2, 1) := by decide +kernel
theorem dX12_again_34 : decode cX12_again 34 = .ok (.aload_n 0, 1) := by decide +kernel
theorem dX12_again_35 : decode cX12_again 35 = .ok (.getfield 7, 3) := by decide +kernel
theorem dX12_again_38 : decode cX12_again 38 = .ok (.sipush 7440, 3) := by decide +kernel
theorem dX12_again_41 : decode cX12_again 41 = .ok (.iload_n 1, 1) := by decide +kernel
theorem dX12_again_42 : decode cX12_again 42 = .ok (.iconst 1, 1) := by decide +kernel
theorem dX12_again_43 : decode cX12_again 43 = .ok (.iadd, 1) := by decide +kernel
theorem dX12_again_44 : decode cX12_again 44 = .ok (.imul, 1) := by decide +kernel
theorem dX12_again_45 : decode cX12_again 45 = .ok (.iload_n 2, 1) := by decide +kernel
theorem dX12_again_46 : decode cX12_again 46 = .ok (.iadd, 1) := by decide +kernel
theorem dX12_again_47 : decode cX12_again 47 = .ok (.iaload, 1) := by decide +kernel
theorem dX12_again_48 : decode cX12_again 48 = .ok (.iastore, 1) := by decide +kernel
theorem dX12_again_49 : decode cX12_again 49 = .ok (.iinc 2 1, 3) := by decide +kernel
theorem dX12_again_52 : decode cX12_again 52 = .ok (.goto (-30), 3) := by decide +kernel
theorem dX12_again_55 : decode cX12_again 55 = .ok (.iconst 1, 1) := by decide +kernel
theorem dX12_again_56 : decode cX12_again 56 = .ok (.ireturn, 1) := by decide +kernel
abbrev dpX12_again : Nat := 1
def fX12_again_22 (k22 : (Nat × Int32 × Int32) → St → Option (Bool × St)) (a0 : Nat) (x1 : Int32) (x2 : Int32) : St → Option (Bool × St) :=
 br (7440 ≤ x2) (rtZ 1)
 (gR 13 a0 0 fun v1001 =>
 gR 13 a0 0 fun v1002 =>
 nn v1002 fun a1004 =>
 aI 15 a1004 ((7440 * (x1 + 1)) + x2) fun v1003 =>
 nn v1001 fun a1005 =>
 wI a1005 x2 v1003 <|
 k22 (a0, x1, (x2 + 1)))
set_option maxHeartbeats 4000000 in
set_option maxRecDepth 100000 in
theorem sfX12_again_22 {E : Ev} {l : Launch} (k22 : (Nat × Int32 × Int32) → St → Option (Bool × St)) (hk22 : ∀ p : Nat × Int32 × Int32, Snd E l (dpX12_again, RX12, cX12_again, 3, (some .boolean), "again") rvZ 22 [(0, .ref (E.1 + p.1)), (1, .int p.2.1), (2, .int p.2.2)] [] (k22 p)) (a0 : Nat) (x1 : Int32) (x2 : Int32) : Snd E l (dpX12_again, RX12, cX12_again, 3, (some .boolean), "again") rvZ 22 [(0, .ref (E.1 + a0)), (1, .int x1), (2, .int x2)] [] (fX12_again_22 k22 a0 x1 x2) := by
  unfold fX12_again_22
  refine sn_iload_n (pc := 22) (j := 2) dX12_again_22 rfl rfl ?_
  refine sn_sipush (pc := 23) (v := 7440) dX12_again_23 (by decide) ?_
  refine sn_icmp_ge (pc := 26) (tgt := 55) dX12_again_26 (by decide) ?_ ?_
  · refine sn_iconst (pc := 55) (v := 1) dX12_again_55 (by decide) ?_
    exact sn_zret (pc := 56) dX12_again_56 rfl
  · refine sn_aload_n (pc := 29) (j := 0) dX12_again_29 rfl rfl ?_
    refine sn_gR (pc := 30) dX12_again_30 flX12_7 rfl (fun v1001 => ?_)
    refine sn_iload_n (pc := 33) (j := 2) dX12_again_33 rfl rfl ?_
    refine sn_aload_n (pc := 34) (j := 0) dX12_again_34 rfl rfl ?_
    refine sn_gR (pc := 35) dX12_again_35 flX12_7 rfl (fun v1002 => ?_)
    refine sn_sipush (pc := 38) (v := 7440) dX12_again_38 (by decide) ?_
    refine sn_iload_n (pc := 41) (j := 1) dX12_again_41 rfl rfl ?_
    refine sn_iconst (pc := 42) (v := 1) dX12_again_42 (by decide) ?_
    refine sn_iadd (pc := 43) dX12_again_43 ?_
    refine sn_imul (pc := 44) dX12_again_44 ?_
    refine sn_iload_n (pc := 45) (j := 2) dX12_again_45 rfl rfl ?_
    refine sn_iadd (pc := 46) dX12_again_46 ?_
    rcases v1002 with _ | a1004
    · exact sn_no
    refine sn_nn ?_
    refine sn_iald (pc := 47) dX12_again_47 (fun v1003 => ?_)
    rcases v1001 with _ | a1005
    · exact sn_no
    refine sn_nn ?_
    refine sn_iast (pc := 48) dX12_again_48 ?_
    refine sn_iinc (pc := 49) (v := x2 + 1) (lv' := [(2, .int (x2 + 1)), (0, .ref (E.1 + a0)), (1, .int x1)]) (j := 2) dX12_again_49 rfl rfl (by decide) rfl ?_
    refine sn_goto (pc := 52) (tgt := 22) dX12_again_52 (by decide) ?_
    exact sn_sub (lv' := [(0, .ref (E.1 + a0)), (1, .int x1), (2, .int (x2 + 1))]) [1, 2, 0] rfl (hk22 (a0, x1, (x2 + 1)))
def fX12_again (a0 : Nat) (x1 : Int32) : St → Option (Bool × St) :=
 cl (fX12_isIn x1 0 2) fun v1 =>
 br ((bi v1) = 0) (rtZ 0)
 (gR 13 a0 1 fun v2 =>
 nn v2 fun a4 =>
 aI 17 a4 x1 fun v3 =>
 br (v3 = 0) (rtZ 0)
 (itr (fun k (p : Nat × Int32 × Int32) => fX12_again_22  k p.1 p.2.1 p.2.2) FU (a0, x1, 0)))
set_option maxHeartbeats 4000000 in
set_option maxRecDepth 100000 in
theorem mX12_again {E : Ev} {l : Launch} (a0 : Nat) (x1 : Int32) : MF E l dpX12_again yX12_again cX12_again 3 (some .boolean) rvZ [.ref (E.1 + a0), .int x1] (fX12_again a0 x1) := by
  refine MF.of (lv := [(0, .ref (E.1 + a0)), (1, .int x1)]) (by decide) (Nat.le_of_ble_eq_true rfl) rfl ?_
  unfold fX12_again
  refine sn_iload_n (pc := 0) (j := 1) dX12_again_0 rfl rfl ?_
  refine sn_iconst (pc := 1) (v := 0) dX12_again_1 (by decide) ?_
  refine sn_iconst (pc := 2) (v := 2) dX12_again_2 (by decide) ?_
  refine sn_callS (pc := 3) dX12_again_3 iX12_isIn wt6_138 wt6_137 (mX12_isIn x1 0 2) (by decide) rfl rfl (Nat.le_of_ble_eq_true rfl) (fun v1 => ?_)
  refine sn_if_eq (pc := 6) (tgt := 18) dX12_again_6 (by decide) ?_ ?_
  · refine sn_iconst (pc := 18) (v := 0) dX12_again_18 (by decide) ?_
    exact sn_zret (pc := 19) dX12_again_19 rfl
  · refine sn_aload_n (pc := 9) (j := 0) dX12_again_9 rfl rfl ?_
    refine sn_gR (pc := 10) dX12_again_10 flX12_13 rfl (fun v2 => ?_)
    refine sn_iload_n (pc := 13) (j := 1) dX12_again_13 rfl rfl ?_
    rcases v2 with _ | a4
    · exact sn_no
    refine sn_nn ?_
    refine sn_zald (pc := 14) dX12_again_14 (fun v3 => ?_)
    refine sn_if_ne (pc := 15) (tgt := 20) dX12_again_15 (by decide) ?_ ?_
    · refine sn_iconst (pc := 20) (v := 0) dX12_again_20 (by decide) ?_
      refine sn_istore_n (pc := 21) (i := 2) (lv' := [(2, .int 0), (0, .ref (E.1 + a0)), (1, .int x1)]) dX12_again_21 rfl (by decide) rfl ?_
      exact sn_sub (lv' := [(0, .ref (E.1 + a0)), (1, .int x1), (2, .int 0)]) [1, 2, 0] rfl (sn_itr (lvf := fun p => [(0, .ref (E.1 + p.1)), (1, .int p.2.1), (2, .int p.2.2)]) (stf := fun p => []) (fun k hk p => sfX12_again_22  k hk p.1 p.2.1 p.2.2) FU (a0, x1, 0))
    · refine sn_iconst (pc := 18) (v := 0) dX12_again_18 (by decide) ?_
      exact sn_zret (pc := 19) dX12_again_19 rfl
theorem iX12_again : MI yX12_again cX12_again 3 (some .boolean) 1 := ⟨wt1_10, wt7_213, by decide +kernel, by decide⟩
