-- NeedleHomesModel spreadOf(I)I
theorem dX12_spreadOf_0 : decode cX12_spreadOf 0 = .ok (.sipush 1000, 3) := by decide +kernel
theorem dX12_spreadOf_3 : decode cX12_spreadOf 3 = .ok (.istore_n 2, 1) := by decide +kernel
theorem dX12_spreadOf_4 : decode cX12_spreadOf 4 = .ok (.iconst 0, 1) := by decide +kernel
theorem dX12_spreadOf_5 : decode cX12_spreadOf 5 = .ok (.istore_n 3, 1) := by decide +kernel
theorem dX12_spreadOf_6 : decode cX12_spreadOf 6 = .ok (.iconst 0, 1) := by decide +kernel
theorem dX12_spreadOf_7 : decode cX12_spreadOf 7 = .ok (.istore 4, 2) := by decide +kernel
theorem dX12_spreadOf_9 : decode cX12_spreadOf 9 = .ok (.iload 4, 2) := by decide +kernel
theorem dX12_spreadOf_11 : decode cX12_spreadOf 11 = .ok (.aload_n 0, 1) := by decide +kernel
theorem dX12_spreadOf_12 : decode cX12_spreadOf 12 = .ok (.getfield 7, 3) := by decide +kernel
theorem dX12_spreadOf_15 : decode cX12_spreadOf 15 = .ok (.iconst 2, 1) := by decide +kernel
theorem dX12_spreadOf_16 : decode cX12_spreadOf 16 = .ok (.iaload, 1) := by decide +kernel
theorem dX12_spreadOf_17 : decode cX12_spreadOf 17 = .ok (.if_icmp .ge 67, 3) := by decide +kernel
theorem dX12_spreadOf_20 : decode cX12_spreadOf 20 = .ok (.iload_n 1, 1) := by decide +kernel
theorem dX12_spreadOf_21 : decode cX12_spreadOf 21 = .ok (.iload 4, 2) := by decide +kernel
theorem dX12_spreadOf_23 : decode cX12_spreadOf 23 = .ok (.ishr, 1) := by decide +kernel
theorem dX12_spreadOf_24 : decode cX12_spreadOf 24 = .ok (.iconst 1, 1) := by decide +kernel
theorem dX12_spreadOf_25 : decode cX12_spreadOf 25 = .ok (.iand, 1) := by decide +kernel
theorem dX12_spreadOf_26 : decode cX12_spreadOf 26 = .ok (.ifCond .ne 6, 3) := by decide +kernel
theorem dX12_spreadOf_29 : decode cX12_spreadOf 29 = .ok (.goto 49, 3) := by decide +kernel
theorem dX12_spreadOf_32 : decode cX12_spreadOf 32 = .ok (.aload_n 0, 1) := by decide +kernel
theorem dX12_spreadOf_33 : decode cX12_spreadOf 33 = .ok (.iload 4, 2) := by decide +kernel
theorem dX12_spreadOf_35 : decode cX12_spreadOf 35 = .ok (.iconst 0, 1) := by decide +kernel
theorem dX12_spreadOf_36 : decode cX12_spreadOf 36 = .ok (.invokevirtual 211, 3) := by decide +kernel
theorem dX12_spreadOf_39 : decode cX12_spreadOf 39 = .ok (.iload_n 2, 1) := by decide +kernel
theorem dX12_spreadOf_40 : decode cX12_spreadOf 40 = .ok (.if_icmp .ge 13, 3) := by decide +kernel
theorem dX12_spreadOf_43 : decode cX12_spreadOf 43 = .ok (.aload_n 0, 1) := by decide +kernel
theorem dX12_spreadOf_44 : decode cX12_spreadOf 44 = .ok (.iload 4, 2) := by decide +kernel
theorem dX12_spreadOf_46 : decode cX12_spreadOf 46 = .ok (.iconst 0, 1) := by decide +kernel
theorem dX12_spreadOf_47 : decode cX12_spreadOf 47 = .ok (.invokevirtual 211, 3) := by decide +kernel
theorem dX12_spreadOf_50 : decode cX12_spreadOf 50 = .ok (.goto 4, 3) := by decide +kernel
theorem dX12_spreadOf_53 : decode cX12_spreadOf 53 = .ok (.iload_n 2, 1) := by decide +kernel
theorem dX12_spreadOf_54 : decode cX12_spreadOf 54 = .ok (.istore_n 2, 1) := by decide +kernel
theorem dX12_spreadOf_55 : decode cX12_spreadOf 55 = .ok (.aload_n 0, 1) := by decide +kernel
theorem dX12_spreadOf_56 : decode cX12_spreadOf 56 = .ok (.iload 4, 2) := by decide +kernel
theorem dX12_spreadOf_58 : decode cX12_spreadOf 58 = .ok (.iconst 0, 1) := by decide +kernel
theorem dX12_spreadOf_59 : decode cX12_spreadOf 59 = .ok (.invokevirtual 211, 3) := by decide +kernel
theorem dX12_spreadOf_62 : decode cX12_spreadOf 62 = .ok (.iload_n 3, 1) := by decide +kernel
theorem dX12_spreadOf_63 : decode cX12_spreadOf 63 = .ok (.if_icmp .le 13, 3) := by decide +kernel
theorem dX12_spreadOf_66 : decode cX12_spreadOf 66 = .ok (.aload_n 0, 1) := by decide +kernel
theorem dX12_spreadOf_67 : decode cX12_spreadOf 67 = .ok (.iload 4, 2) := by decide +kernel
theorem dX12_spreadOf_69 : decode cX12_spreadOf 69 = .ok (.iconst 0, 1) := by decide +kernel
theorem dX12_spreadOf_70 : decode cX12_spreadOf 70 = .ok (.invokevirtual 211, 3) := by decide +kernel
theorem dX12_spreadOf_73 : decode cX12_spreadOf 73 = .ok (.goto 4, 3) := by decide +kernel
theorem dX12_spreadOf_76 : decode cX12_spreadOf 76 = .ok (.iload_n 3, 1) := by decide +kernel
theorem dX12_spreadOf_77 : decode cX12_spreadOf 77 = .ok (.istore_n 3, 1) := by decide +kernel
theorem dX12_spreadOf_78 : decode cX12_spreadOf 78 = .ok (.iinc 4 1, 3) := by decide +kernel
theorem dX12_spreadOf_81 : decode cX12_spreadOf 81 = .ok (.goto (-72), 3) := by decide +kernel
theorem dX12_spreadOf_84 : decode cX12_spreadOf 84 = .ok (.iload_n 3, 1) := by decide +kernel
theorem dX12_spreadOf_85 : decode cX12_spreadOf 85 = .ok (.iload_n 2, 1) := by decide +kernel
theorem dX12_spreadOf_86 : decode cX12_spreadOf 86 = .ok (.isub, 1) := by decide +kernel
theorem dX12_spreadOf_87 : decode cX12_spreadOf 87 = .ok (.ireturn, 1) := by decide +kernel
abbrev dpX12_spreadOf : Nat := 1
def fX12_spreadOf_78 (k9 : (Nat × Int32 × Int32 × Int32 × Int32) → St → Option (Int32 × St)) (a0 : Nat) (x1 : Int32) (x2 : Int32) (x3 : Int32) (x4 : Int32) : St → Option (Int32 × St) :=
 k9 (a0, x1, x2, x3, (x4 + 1))
set_option maxHeartbeats 4000000 in
set_option maxRecDepth 100000 in
theorem sfX12_spreadOf_78 {E : Ev} {l : Launch} (k9 : (Nat × Int32 × Int32 × Int32 × Int32) → St → Option (Int32 × St)) (hk9 : ∀ p : Nat × Int32 × Int32 × Int32 × Int32, Snd E l (dpX12_spreadOf, RX12, cX12_spreadOf, 5, (some .int), "spreadOf") rvI 9 [(0, .ref (E.1 + p.1)), (1, .int p.2.1), (2, .int p.2.2.1), (3, .int p.2.2.2.1), (4, .int p.2.2.2.2)] [] (k9 p)) (a0 : Nat) (x1 : Int32) (x2 : Int32) (x3 : Int32) (x4 : Int32) : Snd E l (dpX12_spreadOf, RX12, cX12_spreadOf, 5, (some .int), "spreadOf") rvI 78 [(0, .ref (E.1 + a0)), (1, .int x1), (2, .int x2), (3, .int x3), (4, .int x4)] [] (fX12_spreadOf_78 k9 a0 x1 x2 x3 x4) := by
  unfold fX12_spreadOf_78
  refine sn_iinc (pc := 78) (v := x4 + 1) (lv' := [(4, .int (x4 + 1)), (0, .ref (E.1 + a0)), (1, .int x1), (2, .int x2), (3, .int x3)]) (j := 4) dX12_spreadOf_78 rfl rfl (by decide) rfl ?_
  refine sn_goto (pc := 81) (tgt := 9) dX12_spreadOf_81 (by decide) ?_
  exact sn_sub (lv' := [(0, .ref (E.1 + a0)), (1, .int x1), (2, .int x2), (3, .int x3), (4, .int (x4 + 1))]) [1, 2, 3, 4, 0] rfl (hk9 (a0, x1, x2, x3, (x4 + 1)))
def fX12_spreadOf_77 (k9 : (Nat × Int32 × Int32 × Int32 × Int32) → St → Option (Int32 × St)) (a0 : Nat) (x1 : Int32) (x2 : Int32) (x4 : Int32) (y0 : Int32) : St → Option (Int32 × St) :=
 fX12_spreadOf_78 k9 a0 x1 x2 y0 x4
set_option maxHeartbeats 4000000 in
set_option maxRecDepth 100000 in
theorem sfX12_spreadOf_77 {E : Ev} {l : Launch} (k9 : (Nat × Int32 × Int32 × Int32 × Int32) → St → Option (Int32 × St)) (hk9 : ∀ p : Nat × Int32 × Int32 × Int32 × Int32, Snd E l (dpX12_spreadOf, RX12, cX12_spreadOf, 5, (some .int), "spreadOf") rvI 9 [(0, .ref (E.1 + p.1)), (1, .int p.2.1), (2, .int p.2.2.1), (3, .int p.2.2.2.1), (4, .int p.2.2.2.2)] [] (k9 p)) (a0 : Nat) (x1 : Int32) (x2 : Int32) (x4 : Int32) (y0 : Int32) : Snd E l (dpX12_spreadOf, RX12, cX12_spreadOf, 5, (some .int), "spreadOf") rvI 77 [(0, .ref (E.1 + a0)), (1, .int x1), (2, .int x2), (4, .int x4)] [.int y0] (fX12_spreadOf_77 k9 a0 x1 x2 x4 y0) := by
  unfold fX12_spreadOf_77
  refine sn_istore_n (pc := 77) (i := 3) (lv' := [(3, .int y0), (0, .ref (E.1 + a0)), (1, .int x1), (2, .int x2), (4, .int x4)]) dX12_spreadOf_77 rfl (by decide) rfl ?_
  exact sn_sub (lv' := [(0, .ref (E.1 + a0)), (1, .int x1), (2, .int x2), (3, .int y0), (4, .int x4)]) [1, 2, 3, 0, 4] rfl (sfX12_spreadOf_78 k9 hk9 a0 x1 x2 y0 x4)
def fX12_spreadOf_54 (k9 : (Nat × Int32 × Int32 × Int32 × Int32) → St → Option (Int32 × St)) (a0 : Nat) (x1 : Int32) (x3 : Int32) (x4 : Int32) (y0 : Int32) : St → Option (Int32 × St) :=
 ck 13 a0 <| cl (fX12_handOf a0 x4 0) fun v2001 =>
 br (v2001 ≤ x3) (fX12_spreadOf_77 k9 a0 x1 y0 x4 x3)
 (ck 13 a0 <| cl (fX12_handOf a0 x4 0) fun v2002 =>
 fX12_spreadOf_77 k9 a0 x1 y0 x4 v2002)
set_option maxHeartbeats 4000000 in
set_option maxRecDepth 100000 in
theorem sfX12_spreadOf_54 {E : Ev} {l : Launch} (k9 : (Nat × Int32 × Int32 × Int32 × Int32) → St → Option (Int32 × St)) (hk9 : ∀ p : Nat × Int32 × Int32 × Int32 × Int32, Snd E l (dpX12_spreadOf, RX12, cX12_spreadOf, 5, (some .int), "spreadOf") rvI 9 [(0, .ref (E.1 + p.1)), (1, .int p.2.1), (2, .int p.2.2.1), (3, .int p.2.2.2.1), (4, .int p.2.2.2.2)] [] (k9 p)) (a0 : Nat) (x1 : Int32) (x3 : Int32) (x4 : Int32) (y0 : Int32) : Snd E l (dpX12_spreadOf, RX12, cX12_spreadOf, 5, (some .int), "spreadOf") rvI 54 [(0, .ref (E.1 + a0)), (1, .int x1), (3, .int x3), (4, .int x4)] [.int y0] (fX12_spreadOf_54 k9 a0 x1 x3 x4 y0) := by
  unfold fX12_spreadOf_54
  refine sn_istore_n (pc := 54) (i := 2) (lv' := [(2, .int y0), (0, .ref (E.1 + a0)), (1, .int x1), (3, .int x3), (4, .int x4)]) dX12_spreadOf_54 rfl (by decide) rfl ?_
  refine sn_aload_n (pc := 55) (j := 1) dX12_spreadOf_55 rfl rfl ?_
  refine sn_iload (pc := 56) (j := 4) dX12_spreadOf_56 rfl ?_
  refine sn_iconst (pc := 58) (v := 0) dX12_spreadOf_58 (by decide) ?_
  refine sn_callV (ci := 12) (pc := 59) dX12_spreadOf_59 iX12_handOf wt7_50 ws_62 wt7_48 ⟨_, rfl, rfl⟩ (by decide) (mX12_handOf a0 x4 0) (by decide) rfl rfl (Nat.le_of_ble_eq_true rfl) (fun v2001 => ?_)
  refine sn_iload_n (pc := 62) (j := 3) dX12_spreadOf_62 rfl rfl ?_
  refine sn_icmp_le (pc := 63) (tgt := 76) dX12_spreadOf_63 (by decide) ?_ ?_
  · refine sn_iload_n (pc := 76) (j := 3) dX12_spreadOf_76 rfl rfl ?_
    exact sn_sub (lv' := [(0, .ref (E.1 + a0)), (1, .int x1), (2, .int y0), (4, .int x4)]) [1, 2, 0, 4] rfl (sfX12_spreadOf_77 k9 hk9 a0 x1 y0 x4 x3)
  · refine sn_aload_n (pc := 66) (j := 1) dX12_spreadOf_66 rfl rfl ?_
    refine sn_iload (pc := 67) (j := 4) dX12_spreadOf_67 rfl ?_
    refine sn_iconst (pc := 69) (v := 0) dX12_spreadOf_69 (by decide) ?_
    refine sn_callV (ci := 12) (pc := 70) dX12_spreadOf_70 iX12_handOf wt7_50 ws_62 wt7_48 ⟨_, rfl, rfl⟩ (by decide) (mX12_handOf a0 x4 0) (by decide) rfl rfl (Nat.le_of_ble_eq_true rfl) (fun v2002 => ?_)
    refine sn_goto (pc := 73) (tgt := 77) dX12_spreadOf_73 (by decide) ?_
    exact sn_sub (lv' := [(0, .ref (E.1 + a0)), (1, .int x1), (2, .int y0), (4, .int x4)]) [1, 2, 0, 4] rfl (sfX12_spreadOf_77 k9 hk9 a0 x1 y0 x4 v2002)
def fX12_spreadOf_9 (k9 : (Nat × Int32 × Int32 × Int32 × Int32) → St → Option (Int32 × St)) (a0 : Nat) (x1 : Int32) (x2 : Int32) (x3 : Int32) (x4 : Int32) : St → Option (Int32 × St) :=
 gR 13 a0 0 fun v1001 =>
 nn v1001 fun a1003 =>
 aI 15 a1003 2 fun v1002 =>
 br (v1002 ≤ x4) (rt (x3 - x2))
 (br (((x1 >>> (x4 &&& 31)) &&& 1) = 0) (fX12_spreadOf_78 k9 a0 x1 x2 x3 x4)
 (ck 13 a0 <| cl (fX12_handOf a0 x4 0) fun v1004 =>
 br (x2 ≤ v1004) (fX12_spreadOf_54 k9 a0 x1 x3 x4 x2)
 (ck 13 a0 <| cl (fX12_handOf a0 x4 0) fun v1005 =>
 fX12_spreadOf_54 k9 a0 x1 x3 x4 v1005)))
set_option maxHeartbeats 4000000 in
set_option maxRecDepth 100000 in
theorem sfX12_spreadOf_9 {E : Ev} {l : Launch} (k9 : (Nat × Int32 × Int32 × Int32 × Int32) → St → Option (Int32 × St)) (hk9 : ∀ p : Nat × Int32 × Int32 × Int32 × Int32, Snd E l (dpX12_spreadOf, RX12, cX12_spreadOf, 5, (some .int), "spreadOf") rvI 9 [(0, .ref (E.1 + p.1)), (1, .int p.2.1), (2, .int p.2.2.1), (3, .int p.2.2.2.1), (4, .int p.2.2.2.2)] [] (k9 p)) (a0 : Nat) (x1 : Int32) (x2 : Int32) (x3 : Int32) (x4 : Int32) : Snd E l (dpX12_spreadOf, RX12, cX12_spreadOf, 5, (some .int), "spreadOf") rvI 9 [(0, .ref (E.1 + a0)), (1, .int x1), (2, .int x2), (3, .int x3), (4, .int x4)] [] (fX12_spreadOf_9 k9 a0 x1 x2 x3 x4) := by
  unfold fX12_spreadOf_9
  refine sn_iload (pc := 9) (j := 4) dX12_spreadOf_9 rfl ?_
  refine sn_aload_n (pc := 11) (j := 0) dX12_spreadOf_11 rfl rfl ?_
  refine sn_gR (pc := 12) dX12_spreadOf_12 flX12_7 rfl (fun v1001 => ?_)
  refine sn_iconst (pc := 15) (v := 2) dX12_spreadOf_15 (by decide) ?_
  rcases v1001 with _ | a1003
  · exact sn_no
  refine sn_nn ?_
  refine sn_iald (pc := 16) dX12_spreadOf_16 (fun v1002 => ?_)
  refine sn_icmp_ge (pc := 17) (tgt := 84) dX12_spreadOf_17 (by decide) ?_ ?_
  · refine sn_iload_n (pc := 84) (j := 3) dX12_spreadOf_84 rfl rfl ?_
    refine sn_iload_n (pc := 85) (j := 2) dX12_spreadOf_85 rfl rfl ?_
    refine sn_isub (pc := 86) dX12_spreadOf_86 ?_
    exact sn_iret (pc := 87) dX12_spreadOf_87 rfl
  · refine sn_iload_n (pc := 20) (j := 1) dX12_spreadOf_20 rfl rfl ?_
    refine sn_iload (pc := 21) (j := 4) dX12_spreadOf_21 rfl ?_
    refine sn_ishr (pc := 23) dX12_spreadOf_23 ?_
    refine sn_iconst (pc := 24) (v := 1) dX12_spreadOf_24 (by decide) ?_
    refine sn_iand (pc := 25) dX12_spreadOf_25 ?_
    refine sn_if_ne (pc := 26) (tgt := 32) dX12_spreadOf_26 (by decide) ?_ ?_
    · refine sn_aload_n (pc := 32) (j := 0) dX12_spreadOf_32 rfl rfl ?_
      refine sn_iload (pc := 33) (j := 4) dX12_spreadOf_33 rfl ?_
      refine sn_iconst (pc := 35) (v := 0) dX12_spreadOf_35 (by decide) ?_
      refine sn_callV (ci := 12) (pc := 36) dX12_spreadOf_36 iX12_handOf wt7_50 ws_62 wt7_48 ⟨_, rfl, rfl⟩ (by decide) (mX12_handOf a0 x4 0) (by decide) rfl rfl (Nat.le_of_ble_eq_true rfl) (fun v1004 => ?_)
      refine sn_iload_n (pc := 39) (j := 2) dX12_spreadOf_39 rfl rfl ?_
      refine sn_icmp_ge (pc := 40) (tgt := 53) dX12_spreadOf_40 (by decide) ?_ ?_
      · refine sn_iload_n (pc := 53) (j := 2) dX12_spreadOf_53 rfl rfl ?_
        exact sn_sub (lv' := [(0, .ref (E.1 + a0)), (1, .int x1), (3, .int x3), (4, .int x4)]) [0, 1, 3, 4] rfl (sfX12_spreadOf_54 k9 hk9 a0 x1 x3 x4 x2)
      · refine sn_aload_n (pc := 43) (j := 0) dX12_spreadOf_43 rfl rfl ?_
        refine sn_iload (pc := 44) (j := 4) dX12_spreadOf_44 rfl ?_
        refine sn_iconst (pc := 46) (v := 0) dX12_spreadOf_46 (by decide) ?_
        refine sn_callV (ci := 12) (pc := 47) dX12_spreadOf_47 iX12_handOf wt7_50 ws_62 wt7_48 ⟨_, rfl, rfl⟩ (by decide) (mX12_handOf a0 x4 0) (by decide) rfl rfl (Nat.le_of_ble_eq_true rfl) (fun v1005 => ?_)
        refine sn_goto (pc := 50) (tgt := 54) dX12_spreadOf_50 (by decide) ?_
        exact sn_sub (lv' := [(0, .ref (E.1 + a0)), (1, .int x1), (3, .int x3), (4, .int x4)]) [0, 1, 3, 4] rfl (sfX12_spreadOf_54 k9 hk9 a0 x1 x3 x4 v1005)
    · refine sn_goto (pc := 29) (tgt := 78) dX12_spreadOf_29 (by decide) ?_
      exact sn_sub (lv' := [(0, .ref (E.1 + a0)), (1, .int x1), (2, .int x2), (3, .int x3), (4, .int x4)]) [0, 1, 2, 3, 4] rfl (sfX12_spreadOf_78 k9 hk9 a0 x1 x2 x3 x4)
def fX12_spreadOf (a0 : Nat) (x1 : Int32) : St → Option (Int32 × St) :=
 itr (fun k (p : Nat × Int32 × Int32 × Int32 × Int32) => fX12_spreadOf_9  k p.1 p.2.1 p.2.2.1 p.2.2.2.1 p.2.2.2.2) FU (a0, x1, 1000, 0, 0)
set_option maxHeartbeats 4000000 in
set_option maxRecDepth 100000 in
theorem mX12_spreadOf {E : Ev} {l : Launch} (a0 : Nat) (x1 : Int32) : MF E l dpX12_spreadOf yX12_spreadOf cX12_spreadOf 5 (some .int) rvI [.ref (E.1 + a0), .int x1] (fX12_spreadOf a0 x1) := by
  refine MF.of (lv := [(0, .ref (E.1 + a0)), (1, .int x1)]) (by decide) (Nat.le_of_ble_eq_true rfl) rfl ?_
  unfold fX12_spreadOf
  refine sn_sipush (pc := 0) (v := 1000) dX12_spreadOf_0 (by decide) ?_
  refine sn_istore_n (pc := 3) (i := 2) (lv' := [(2, .int 1000), (0, .ref (E.1 + a0)), (1, .int x1)]) dX12_spreadOf_3 rfl (by decide) rfl ?_
  refine sn_iconst (pc := 4) (v := 0) dX12_spreadOf_4 (by decide) ?_
  refine sn_istore_n (pc := 5) (i := 3) (lv' := [(3, .int 0), (2, .int 1000), (0, .ref (E.1 + a0)), (1, .int x1)]) dX12_spreadOf_5 rfl (by decide) rfl ?_
  refine sn_iconst (pc := 6) (v := 0) dX12_spreadOf_6 (by decide) ?_
  refine sn_istore (pc := 7) (i := 4) (lv' := [(4, .int 0), (3, .int 0), (2, .int 1000), (0, .ref (E.1 + a0)), (1, .int x1)]) dX12_spreadOf_7 (by decide) rfl ?_
  exact sn_sub (lv' := [(0, .ref (E.1 + a0)), (1, .int x1), (2, .int 1000), (3, .int 0), (4, .int 0)]) [3, 4, 2, 1, 0] rfl (sn_itr (lvf := fun p => [(0, .ref (E.1 + p.1)), (1, .int p.2.1), (2, .int p.2.2.1), (3, .int p.2.2.2.1), (4, .int p.2.2.2.2)]) (stf := fun p => []) (fun k hk p => sfX12_spreadOf_9  k hk p.1 p.2.1 p.2.2.1 p.2.2.2.1 p.2.2.2.2) FU (a0, x1, 1000, 0, 0))
theorem iX12_spreadOf : MI yX12_spreadOf cX12_spreadOf 5 (some .int) 1 := ⟨wt1_10, wt7_161, by decide +kernel, by decide⟩
-- NeedleHomesModel isSet(II)Z
theorem dX12_isSet_0 : decode cX12_isSet 0 = .ok (.iconst 0, 1) := by decide +kernel
theorem dX12_isSet_1 : decode cX12_isSet 1 = .ok (.istore_n 3, 1) := by decide +kernel
theorem dX12_isSet_2 : decode cX12_isSet 2 = .ok (.iconst 1, 1) := by decide +kernel
theorem dX12_isSet_3 : decode cX12_isSet 3 = .ok (.istore 4, 2) := by decide +kernel
theorem dX12_isSet_5 : decode cX12_isSet 5 = .ok (.iconst 0, 1) := by decide +kernel
theorem dX12_isSet_6 : decode cX12_isSet 6 = .ok (.istore 5, 2) := by decide +kernel
theorem dX12_isSet_8 : decode cX12_isSet 8 = .ok (.iload 5, 2) := by decide +kernel
theorem dX12_isSet_10 : decode cX12_isSet 10 = .ok (.aload_n 0, 1) := by decide +kernel
theorem dX12_isSet_11 : decode cX12_isSet 11 = .ok (.getfield 7, 3) := by decide +kernel
theorem dX12_isSet_14 : decode cX12_isSet 14 = .ok (.iconst 2, 1) := by decide +kernel
theorem dX12_isSet_15 : decode cX12_isSet 15 = .ok (.iaload, 1) := by decide +kernel
theorem dX12_isSet_16 : decode cX12_isSet 16 = .ok (.if_icmp .ge 53, 3) := by decide +kernel
theorem dX12_isSet_19 : decode cX12_isSet 19 = .ok (.iload_n 1, 1) := by decide +kernel
theorem dX12_isSet_20 : decode cX12_isSet 20 = .ok (.iload 5, 2) := by decide +kernel
theorem dX12_isSet_22 : decode cX12_isSet 22 = .ok (.ishr, 1) := by decide +kernel
theorem dX12_isSet_23 : decode cX12_isSet 23 = .ok (.iconst 1, 1) := by decide +kernel
theorem dX12_isSet_24 : decode cX12_isSet 24 = .ok (.iand, 1) := by decide +kernel
theorem dX12_isSet_25 : decode cX12_isSet 25 = .ok (.ifCond .ne 6, 3) := by decide +kernel
theorem dX12_isSet_28 : decode cX12_isSet 28 = .ok (.goto 35, 3) := by decide +kernel
theorem dX12_isSet_31 : decode cX12_isSet 31 = .ok (.iload 4, 2) := by decide +kernel
theorem dX12_isSet_33 : decode cX12_isSet 33 = .ok (.ifCond .eq 17, 3) := by decide +kernel
theorem dX12_isSet_36 : decode cX12_isSet 36 = .ok (.aload_n 0, 1) := by decide +kernel
theorem dX12_isSet_37 : decode cX12_isSet 37 = .ok (.getfield 36, 3) := by decide +kernel
theorem dX12_isSet_40 : decode cX12_isSet 40 = .ok (.iload 5, 2) := by decide +kernel
theorem dX12_isSet_42 : decode cX12_isSet 42 = .ok (.iaload, 1) := by decide +kernel
theorem dX12_isSet_43 : decode cX12_isSet 43 = .ok (.ifCond .le 7, 3) := by decide +kernel
theorem dX12_isSet_46 : decode cX12_isSet 46 = .ok (.iconst 1, 1) := by decide +kernel
theorem dX12_isSet_47 : decode cX12_isSet 47 = .ok (.goto 4, 3) := by decide +kernel
theorem dX12_isSet_50 : decode cX12_isSet 50 = .ok (.iconst 0, 1) := by decide +kernel
theorem dX12_isSet_51 : decode cX12_isSet 51 = .ok (.istore 4, 2) := by decide +kernel
theorem dX12_isSet_53 : decode cX12_isSet 53 = .ok (.iload_n 3, 1) := by decide +kernel
theorem dX12_isSet_54 : decode cX12_isSet 54 = .ok (.aload_n 0, 1) := by decide +kernel
theorem dX12_isSet_55 : decode cX12_isSet 55 = .ok (.getfield 36, 3) := by decide +kernel
theorem dX12_isSet_58 : decode cX12_isSet 58 = .ok (.iload 5, 2) := by decide +kernel
theorem dX12_isSet_60 : decode cX12_isSet 60 = .ok (.iaload, 1) := by decide +kernel
theorem dX12_isSet_61 : decode cX12_isSet 61 = .ok (.iadd, 1) := by decide +kernel
theorem dX12_isSet_62 : decode cX12_isSet 62 = .ok (.istore_n 3, 1) := by decide +kernel
theorem dX12_isSet_63 : decode cX12_isSet 63 = .ok (.iinc 5 1, 3) := by decide +kernel
theorem dX12_isSet_66 : decode cX12_isSet 66 = .ok (.goto (-58), 3) := by decide +kernel
theorem dX12_isSet_69 : decode cX12_isSet 69 = .ok (.iload 4, 2) := by decide +kernel
theorem dX12_isSet_71 : decode cX12_isSet 71 = .ok (.ifCond .eq 12, 3) := by decide +kernel
theorem dX12_isSet_74 : decode cX12_isSet 74 = .ok (.iload_n 3, 1) := by decide +kernel
theorem dX12_isSet_75 : decode cX12_isSet 75 = .ok (.iload_n 2, 1) := by decide +kernel
theorem dX12_isSet_76 : decode cX12_isSet 76 = .ok (.if_icmp .lt 7, 3) := by decide +kernel
theorem dX12_isSet_79 : decode cX12_isSet 79 = .ok (.iconst 1, 1) := by decide +kernel
theorem dX12_isSet_80 : decode cX12_isSet 80 = .ok (.goto 4, 3) := by decide +kernel
theorem dX12_isSet_83 : decode cX12_isSet 83 = .ok (.iconst 0, 1) := by decide +kernel
theorem dX12_isSet_84 : decode cX12_isSet 84 = .ok (.ireturn, 1) := by decide +kernel
abbrev dpX12_isSet : Nat := 0
def fX12_isSet_63 (k8 : (Nat × Int32 × Int32 × Int32 × Int32 × Int32) → St → Option (Bool × St)) (a0 : Nat) (x1 : Int32) (x2 : Int32) (x3 : Int32) (x4 : Int32) (x5 : Int32) : St → Option (Bool × St) :=
 k8 (a0, x1, x2, x3, x4, (x5 + 1))
set_option maxHeartbeats 4000000 in
set_option maxRecDepth 100000 in
theorem sfX12_isSet_63 {E : Ev} {l : Launch} (k8 : (Nat × Int32 × Int32 × Int32 × Int32 × Int32) → St → Option (Bool × St)) (hk8 : ∀ p : Nat × Int32 × Int32 × Int32 × Int32 × Int32, Snd E l (dpX12_isSet, RX12, cX12_isSet, 6, (some .boolean), "isSet") rvZ 8 [(0, .ref (E.1 + p.1)), (1, .int p.2.1), (2, .int p.2.2.1), (3, .int p.2.2.2.1), (4, .int p.2.2.2.2.1), (5, .int p.2.2.2.2.2)] [] (k8 p)) (a0 : Nat) (x1 : Int32) (x2 : Int32) (x3 : Int32) (x4 : Int32) (x5 : Int32) : Snd E l (dpX12_isSet, RX12, cX12_isSet, 6, (some .boolean), "isSet") rvZ 63 [(0, .ref (E.1 + a0)), (1, .int x1), (2, .int x2), (3, .int x3), (4, .int x4), (5, .int x5)] [] (fX12_isSet_63 k8 a0 x1 x2 x3 x4 x5) := by
  unfold fX12_isSet_63
  refine sn_iinc (pc := 63) (v := x5 + 1) (lv' := [(5, .int (x5 + 1)), (0, .ref (E.1 + a0)), (1, .int x1), (2, .int x2), (3, .int x3), (4, .int x4)]) (j := 5) dX12_isSet_63 rfl rfl (by decide) rfl ?_
  refine sn_goto (pc := 66) (tgt := 8) dX12_isSet_66 (by decide) ?_
  exact sn_sub (lv' := [(0, .ref (E.1 + a0)), (1, .int x1), (2, .int x2), (3, .int x3), (4, .int x4), (5, .int (x5 + 1))]) [1, 2, 3, 4, 5, 0] rfl (hk8 (a0, x1, x2, x3, x4, (x5 + 1)))
def fX12_isSet_51 (k8 : (Nat × Int32 × Int32 × Int32 × Int32 × Int32) → St → Option (Bool × St)) (a0 : Nat) (x1 : Int32) (x2 : Int32) (x3 : Int32) (x5 : Int32) (y0 : Int32) : St → Option (Bool × St) :=
 gR 13 a0 31 fun v3001 =>
 nn v3001 fun a3003 =>
 aI 15 a3003 x5 fun v3002 =>
 fX12_isSet_63 k8 a0 x1 x2 (x3 + v3002) y0 x5
set_option maxHeartbeats 4000000 in
set_option maxRecDepth 100000 in
theorem sfX12_isSet_51 {E : Ev} {l : Launch} (k8 : (Nat × Int32 × Int32 × Int32 × Int32 × Int32) → St → Option (Bool × St)) (hk8 : ∀ p : Nat × Int32 × Int32 × Int32 × Int32 × Int32, Snd E l (dpX12_isSet, RX12, cX12_isSet, 6, (some .boolean), "isSet") rvZ 8 [(0, .ref (E.1 + p.1)), (1, .int p.2.1), (2, .int p.2.2.1), (3, .int p.2.2.2.1), (4, .int p.2.2.2.2.1), (5, .int p.2.2.2.2.2)] [] (k8 p)) (a0 : Nat) (x1 : Int32) (x2 : Int32) (x3 : Int32) (x5 : Int32) (y0 : Int32) : Snd E l (dpX12_isSet, RX12, cX12_isSet, 6, (some .boolean), "isSet") rvZ 51 [(0, .ref (E.1 + a0)), (1, .int x1), (2, .int x2), (3, .int x3), (5, .int x5)] [.int y0] (fX12_isSet_51 k8 a0 x1 x2 x3 x5 y0) := by
  unfold fX12_isSet_51
  refine sn_istore (pc := 51) (i := 4) (lv' := [(4, .int y0), (0, .ref (E.1 + a0)), (1, .int x1), (2, .int x2), (3, .int x3), (5, .int x5)]) dX12_isSet_51 (by decide) rfl ?_
  refine sn_iload_n (pc := 53) (j := 4) dX12_isSet_53 rfl rfl ?_
  refine sn_aload_n (pc := 54) (j := 1) dX12_isSet_54 rfl rfl ?_
  refine sn_gR (pc := 55) dX12_isSet_55 flX12_36 rfl (fun v3001 => ?_)
  refine sn_iload (pc := 58) (j := 5) dX12_isSet_58 rfl ?_
  rcases v3001 with _ | a3003
  · exact sn_no
  refine sn_nn ?_
  refine sn_iald (pc := 60) dX12_isSet_60 (fun v3002 => ?_)
  refine sn_iadd (pc := 61) dX12_isSet_61 ?_
  refine sn_istore_n (pc := 62) (i := 3) (lv' := [(3, .int (x3 + v3002)), (4, .int y0), (0, .ref (E.1 + a0)), (1, .int x1), (2, .int x2), (5, .int x5)]) dX12_isSet_62 rfl (by decide) rfl ?_
  exact sn_sub (lv' := [(0, .ref (E.1 + a0)), (1, .int x1), (2, .int x2), (3, .int (x3 + v3002)), (4, .int y0), (5, .int x5)]) [2, 3, 4, 0, 1, 5] rfl (sfX12_isSet_63 k8 hk8 a0 x1 x2 (x3 + v3002) y0 x5)
def fX12_isSet_50 (k8 : (Nat × Int32 × Int32 × Int32 × Int32 × Int32) → St → Option (Bool × St)) (a0 : Nat) (x1 : Int32) (x2 : Int32) (x3 : Int32) (x5 : Int32) : St → Option (Bool × St) :=
 fX12_isSet_51 k8 a0 x1 x2 x3 x5 0
set_option maxHeartbeats 4000000 in
set_option maxRecDepth 100000 in
theorem sfX12_isSet_50 {E : Ev} {l : Launch} (k8 : (Nat × Int32 × Int32 × Int32 × Int32 × Int32) → St → Option (Bool × St)) (hk8 : ∀ p : Nat × Int32 × Int32 × Int32 × Int32 × Int32, Snd E l (dpX12_isSet, RX12, cX12_isSet, 6, (some .boolean), "isSet") rvZ 8 [(0, .ref (E.1 + p.1)), (1, .int p.2.1), (2, .int p.2.2.1), (3, .int p.2.2.2.1), (4, .int p.2.2.2.2.1), (5, .int p.2.2.2.2.2)] [] (k8 p)) (a0 : Nat) (x1 : Int32) (x2 : Int32) (x3 : Int32) (x5 : Int32) : Snd E l (dpX12_isSet, RX12, cX12_isSet, 6, (some .boolean), "isSet") rvZ 50 [(0, .ref (E.1 + a0)), (1, .int x1), (2, .int x2), (3, .int x3), (5, .int x5)] [] (fX12_isSet_50 k8 a0 x1 x2 x3 x5) := by
  unfold fX12_isSet_50
  refine sn_iconst (pc := 50) (v := 0) dX12_isSet_50 (by decide) ?_
  exact sn_sub (lv' := [(0, .ref (E.1 + a0)), (1, .int x1), (2, .int x2), (3, .int x3), (5, .int x5)]) [0, 1, 2, 3, 4] rfl (sfX12_isSet_51 k8 hk8 a0 x1 x2 x3 x5 0)
def fX12_isSet_8 (k8 : (Nat × Int32 × Int32 × Int32 × Int32 × Int32) → St → Option (Bool × St)) (a0 : Nat) (x1 : Int32) (x2 : Int32) (x3 : Int32) (x4 : Int32) (x5 : Int32) : St → Option (Bool × St) :=
 gR 13 a0 0 fun v1001 =>
 nn v1001 fun a1003 =>
 aI 15 a1003 2 fun v1002 =>
 br (v1002 ≤ x5) (br (x4 = 0) (rtZ 0)
 (br (x3 < x2) (rtZ 0)
 (rtZ 1)))
 (br (((x1 >>> (x5 &&& 31)) &&& 1) = 0) (fX12_isSet_63 k8 a0 x1 x2 x3 x4 x5)
 (br (x4 = 0) (fX12_isSet_50 k8 a0 x1 x2 x3 x5)
 (gR 13 a0 31 fun v1004 =>
 nn v1004 fun a1006 =>
 aI 15 a1006 x5 fun v1005 =>
 br (v1005 ≤ 0) (fX12_isSet_50 k8 a0 x1 x2 x3 x5)
 (fX12_isSet_51 k8 a0 x1 x2 x3 x5 1))))
set_option maxHeartbeats 4000000 in
set_option maxRecDepth 100000 in
theorem sfX12_isSet_8 {E : Ev} {l : Launch} (k8 : (Nat × Int32 × Int32 × Int32 × Int32 × Int32) → St → Option (Bool × St)) (hk8 : ∀ p : Nat × Int32 × Int32 × Int32 × Int32 × Int32, Snd E l (dpX12_isSet, RX12, cX12_isSet, 6, (some .boolean), "isSet") rvZ 8 [(0, .ref (E.1 + p.1)), (1, .int p.2.1), (2, .int p.2.2.1), (3, .int p.2.2.2.1), (4, .int p.2.2.2.2.1), (5, .int p.2.2.2.2.2)] [] (k8 p)) (a0 : Nat) (x1 : Int32) (x2 : Int32) (x3 : Int32) (x4 : Int32) (x5 : Int32) : Snd E l (dpX12_isSet, RX12, cX12_isSet, 6, (some .boolean), "isSet") rvZ 8 [(0, .ref (E.1 + a0)), (1, .int x1), (2, .int x2), (3, .int x3), (4, .int x4), (5, .int x5)] [] (fX12_isSet_8 k8 a0 x1 x2 x3 x4 x5) := by
  unfold fX12_isSet_8
  refine sn_iload (pc := 8) (j := 5) dX12_isSet_8 rfl ?_
  refine sn_aload_n (pc := 10) (j := 0) dX12_isSet_10 rfl rfl ?_
  refine sn_gR (pc := 11) dX12_isSet_11 flX12_7 rfl (fun v1001 => ?_)
  refine sn_iconst (pc := 14) (v := 2) dX12_isSet_14 (by decide) ?_
  rcases v1001 with _ | a1003
  · exact sn_no
  refine sn_nn ?_
  refine sn_iald (pc := 15) dX12_isSet_15 (fun v1002 => ?_)
  refine sn_icmp_ge (pc := 16) (tgt := 69) dX12_isSet_16 (by decide) ?_ ?_
  · refine sn_iload (pc := 69) (j := 4) dX12_isSet_69 rfl ?_
    refine sn_if_eq (pc := 71) (tgt := 83) dX12_isSet_71 (by decide) ?_ ?_
    · refine sn_iconst (pc := 83) (v := 0) dX12_isSet_83 (by decide) ?_
      exact sn_zret (pc := 84) dX12_isSet_84 rfl
    · refine sn_iload_n (pc := 74) (j := 3) dX12_isSet_74 rfl rfl ?_
      refine sn_iload_n (pc := 75) (j := 2) dX12_isSet_75 rfl rfl ?_
      refine sn_icmp_lt (pc := 76) (tgt := 83) dX12_isSet_76 (by decide) ?_ ?_
      · refine sn_iconst (pc := 83) (v := 0) dX12_isSet_83 (by decide) ?_
        exact sn_zret (pc := 84) dX12_isSet_84 rfl
      · refine sn_iconst (pc := 79) (v := 1) dX12_isSet_79 (by decide) ?_
        refine sn_goto (pc := 80) (tgt := 84) dX12_isSet_80 (by decide) ?_
        exact sn_zret (pc := 84) dX12_isSet_84 rfl
  · refine sn_iload_n (pc := 19) (j := 1) dX12_isSet_19 rfl rfl ?_
    refine sn_iload (pc := 20) (j := 5) dX12_isSet_20 rfl ?_
    refine sn_ishr (pc := 22) dX12_isSet_22 ?_
    refine sn_iconst (pc := 23) (v := 1) dX12_isSet_23 (by decide) ?_
    refine sn_iand (pc := 24) dX12_isSet_24 ?_
    refine sn_if_ne (pc := 25) (tgt := 31) dX12_isSet_25 (by decide) ?_ ?_
    · refine sn_iload (pc := 31) (j := 4) dX12_isSet_31 rfl ?_
      refine sn_if_eq (pc := 33) (tgt := 50) dX12_isSet_33 (by decide) ?_ ?_
      · exact sn_sub (lv' := [(0, .ref (E.1 + a0)), (1, .int x1), (2, .int x2), (3, .int x3), (5, .int x5)]) [0, 1, 2, 3, 5] rfl (sfX12_isSet_50 k8 hk8 a0 x1 x2 x3 x5)
      · refine sn_aload_n (pc := 36) (j := 0) dX12_isSet_36 rfl rfl ?_
        refine sn_gR (pc := 37) dX12_isSet_37 flX12_36 rfl (fun v1004 => ?_)
        refine sn_iload (pc := 40) (j := 5) dX12_isSet_40 rfl ?_
        rcases v1004 with _ | a1006
        · exact sn_no
        refine sn_nn ?_
        refine sn_iald (pc := 42) dX12_isSet_42 (fun v1005 => ?_)
        refine sn_if_le (pc := 43) (tgt := 50) dX12_isSet_43 (by decide) ?_ ?_
        · exact sn_sub (lv' := [(0, .ref (E.1 + a0)), (1, .int x1), (2, .int x2), (3, .int x3), (5, .int x5)]) [0, 1, 2, 3, 5] rfl (sfX12_isSet_50 k8 hk8 a0 x1 x2 x3 x5)
        · refine sn_iconst (pc := 46) (v := 1) dX12_isSet_46 (by decide) ?_
          refine sn_goto (pc := 47) (tgt := 51) dX12_isSet_47 (by decide) ?_
          exact sn_sub (lv' := [(0, .ref (E.1 + a0)), (1, .int x1), (2, .int x2), (3, .int x3), (5, .int x5)]) [0, 1, 2, 3, 5] rfl (sfX12_isSet_51 k8 hk8 a0 x1 x2 x3 x5 1)
    · refine sn_goto (pc := 28) (tgt := 63) dX12_isSet_28 (by decide) ?_
      exact sn_sub (lv' := [(0, .ref (E.1 + a0)), (1, .int x1), (2, .int x2), (3, .int x3), (4, .int x4), (5, .int x5)]) [0, 1, 2, 3, 4, 5] rfl (sfX12_isSet_63 k8 hk8 a0 x1 x2 x3 x4 x5)
def fX12_isSet (a0 : Nat) (x1 : Int32) (x2 : Int32) : St → Option (Bool × St) :=
 itr (fun k (p : Nat × Int32 × Int32 × Int32 × Int32 × Int32) => fX12_isSet_8  k p.1 p.2.1 p.2.2.1 p.2.2.2.1 p.2.2.2.2.1 p.2.2.2.2.2) FU (a0, x1, x2, 0, 1, 0)
set_option maxHeartbeats 4000000 in
set_option maxRecDepth 100000 in
theorem mX12_isSet {E : Ev} {l : Launch} (a0 : Nat) (x1 : Int32) (x2 : Int32) : MF E l dpX12_isSet yX12_isSet cX12_isSet 6 (some .boolean) rvZ [.ref (E.1 + a0), .int x1, .int x2] (fX12_isSet a0 x1 x2) := by
  refine MF.of (lv := [(0, .ref (E.1 + a0)), (1, .int x1), (2, .int x2)]) (by decide) (Nat.le_of_ble_eq_true rfl) rfl ?_
  unfold fX12_isSet
  refine sn_iconst (pc := 0) (v := 0) dX12_isSet_0 (by decide) ?_
  refine sn_istore_n (pc := 1) (i := 3) (lv' := [(3, .int 0), (0, .ref (E.1 + a0)), (1, .int x1), (2, .int x2)]) dX12_isSet_1 rfl (by decide) rfl ?_
  refine sn_iconst (pc := 2) (v := 1) dX12_isSet_2 (by decide) ?_
  refine sn_istore (pc := 3) (i := 4) (lv' := [(4, .int 1), (3, .int 0), (0, .ref (E.1 + a0)), (1, .int x1), (2, .int x2)]) dX12_isSet_3 (by decide) rfl ?_
  refine sn_iconst (pc := 5) (v := 0) dX12_isSet_5 (by decide) ?_
  refine sn_istore (pc := 6) (i := 5) (lv' := [(5, .int 0), (4, .int 1), (3, .int 0), (0, .ref (E.1 + a0)), (1, .int x1), (2, .int x2)]) dX12_isSet_6 (by decide) rfl ?_
  exact sn_sub (lv' := [(0, .ref (E.1 + a0)), (1, .int x1), (2, .int x2), (3, .int 0), (4, .int 1), (5, .int 0)]) [3, 4, 5, 2, 1, 0] rfl (sn_itr (lvf := fun p => [(0, .ref (E.1 + p.1)), (1, .int p.2.1), (2, .int p.2.2.1), (3, .int p.2.2.2.1), (4, .int p.2.2.2.2.1), (5, .int p.2.2.2.2.2)]) (stf := fun p => []) (fun k hk p => sfX12_isSet_8  k hk p.1 p.2.1 p.2.2.1 p.2.2.2.1 p.2.2.2.2.1 p.2.2.2.2.2) FU (a0, x1, x2, 0, 1, 0))
theorem iX12_isSet : MI yX12_isSet cX12_isSet 6 (some .boolean) 2 := ⟨wt1_10, wt7_157, by decide +kernel, by decide⟩
-- NeedleHomesModel parts(III)Z
theorem dX12_parts_0 : decode cX12_parts 0 = .ok (.aload_n 0, 1) := by decide +kernel
theorem dX12_parts_1 : decode cX12_parts 1 = .ok (.iload_n 1, 1) := by decide +kernel
theorem dX12_parts_2 : decode cX12_parts 2 = .ok (.iconst 0, 1) := by decide +kernel
theorem dX12_parts_3 : decode cX12_parts 3 = .ok (.invokevirtual 178, 3) := by decide +kernel
theorem dX12_parts_6 : decode cX12_parts 6 = .ok (.ifCond .eq 23, 3) := by decide +kernel
theorem dX12_parts_9 : decode cX12_parts 9 = .ok (.iload_n 2, 1) := by decide +kernel
theorem dX12_parts_10 : decode cX12_parts 10 = .ok (.iconst 1, 1) := by decide +kernel
theorem dX12_parts_11 : decode cX12_parts 11 = .ok (.bipush 40, 2) := by decide +kernel
theorem dX12_parts_13 : decode cX12_parts 13 = .ok (.invokestatic 51, 3) := by decide +kernel
theorem dX12_parts_16 : decode cX12_parts 16 = .ok (.ifCond .eq 13, 3) := by decide +kernel
theorem dX12_parts_19 : decode cX12_parts 19 = .ok (.iload_n 3, 1) := by decide +kernel
theorem dX12_parts_20 : decode cX12_parts 20 = .ok (.iconst 1, 1) := by decide +kernel
theorem dX12_parts_21 : decode cX12_parts 21 = .ok (.bipush 60, 2) := by decide +kernel
theorem dX12_parts_23 : decode cX12_parts 23 = .ok (.invokestatic 51, 3) := by decide +kernel
theorem dX12_parts_26 : decode cX12_parts 26 = .ok (.ifCond .ne 5, 3) := by decide +kernel
theorem dX12_parts_29 : decode cX12_parts 29 = .ok (.iconst 0, 1) := by decide +kernel
theorem dX12_parts_30 : decode cX12_parts 30 = .ok (.ireturn, 1) := by decide +kernel
theorem dX12_parts_31 : decode cX12_parts 31 = .ok (.aload_n 0, 1) := by decide +kernel
theorem dX12_parts_32 : decode cX12_parts 32 = .ok (.iload_n 1, 1) := by decide +kernel
theorem dX12_parts_33 : decode cX12_parts 33 = .ok (.iload_n 3, 1) := by decide +kernel
theorem dX12_parts_34 : decode cX12_parts 34 = .ok (.invokevirtual 286, 3) := by decide +kernel
theorem dX12_parts_37 : decode cX12_parts 37 = .ok (.aload_n 0, 1) := by decide +kernel
theorem dX12_parts_38 : decode cX12_parts 38 = .ok (.iconst 0, 1) := by decide +kernel
theorem dX12_parts_39 : decode cX12_parts 39 = .ok (.putfield 289, 3) := by decide +kernel
theorem dX12_parts_42 : decode cX12_parts 42 = .ok (.aload_n 0, 1) := by decide +kernel
theorem dX12_parts_43 : decode cX12_parts 43 = .ok (.iconst 0, 1) := by decide +kernel
theorem dX12_parts_44 : decode cX12_parts 44 = .ok (.putfield 292, 3) := by decide +kernel
theorem dX12_parts_47 : decode cX12_parts 47 = .ok (.iconst 1, 1) := by decide +kernel
theorem dX12_parts_48 : decode cX12_parts 48 = .ok (.istore 4, 2) := by decide +kernel
theorem dX12_parts_50 : decode cX12_parts 50 = .ok (.iload 4, 2) := by decide +kernel
theorem dX12_parts_52 : decode cX12_parts 52 = .ok (.iconst 1, 1) := by decide +kernel
theorem dX12_parts_53 : decode cX12_parts 53 = .ok (.aload_n 0, 1) := by decide +kernel
theorem dX12_parts_54 : decode cX12_parts 54 = .ok (.getfield 7, 3) := by decide +kernel
theorem dX12_parts_57 : decode cX12_parts 57 = .ok (.iconst 2, 1) := by decide +kernel
theorem dX12_parts_58 : decode cX12_parts 58 = .ok (.iaload, 1) := by decide +kernel
theorem dX12_parts_59 : decode cX12_parts 59 = .ok (.ishl, 1) := by decide +kernel
theorem dX12_parts_60 : decode cX12_parts 60 = .ok (.if_icmp .ge 103, 3) := by decide +kernel
theorem dX12_parts_63 : decode cX12_parts 63 = .ok (.aload_n 0, 1) := by decide +kernel
theorem dX12_parts_64 : decode cX12_parts 64 = .ok (.iload 4, 2) := by decide +kernel
theorem dX12_parts_66 : decode cX12_parts 66 = .ok (.iload_n 2, 1) := by decide +kernel
theorem dX12_parts_67 : decode cX12_parts 67 = .ok (.invokevirtual 295, 3) := by decide +kernel
theorem dX12_parts_70 : decode cX12_parts 70 = .ok (.ifCond .ne 6, 3) := by decide +kernel
theorem dX12_parts_73 : decode cX12_parts 73 = .ok (.goto 84, 3) := by decide +kernel
theorem dX12_parts_76 : decode cX12_parts 76 = .ok (.aload_n 0, 1) := by decide +kernel
theorem dX12_parts_77 : decode cX12_parts 77 = .ok (.iload 4, 2) := by decide +kernel
theorem dX12_parts_79 : decode cX12_parts 79 = .ok (.invokevirtual 298, 3) := by decide +kernel
theorem dX12_parts_82 : decode cX12_parts 82 = .ok (.istore 5, 2) := by decide +kernel
theorem dX12_parts_84 : decode cX12_parts 84 = .ok (.aload_n 0, 1) := by decide +kernel
theorem dX12_parts_85 : decode cX12_parts 85 = .ok (.getfield 289, 3) := by decide +kernel
theorem dX12_parts_88 : decode cX12_parts 88 = .ok (.ifCond .eq 42, 3) := by decide +kernel
theorem dX12_parts_91 : decode cX12_parts 91 = .ok (.iload 4, 2) := by decide +kernel
theorem dX12_parts_93 : decode cX12_parts 93 = .ok (.invokestatic 186, 3) := by decide +kernel
theorem dX12_parts_96 : decode cX12_parts 96 = .ok (.aload_n 0, 1) := by decide +kernel
theorem dX12_parts_97 : decode cX12_parts 97 = .ok (.getfield 289, 3) := by decide +kernel
theorem dX12_parts_100 : decode cX12_parts 100 = .ok (.invokestatic 186, 3) := by decide +kernel
theorem dX12_parts_103 : decode cX12_parts 103 = .ok (.if_icmp .lt 27, 3) := by decide +kernel
theorem dX12_parts_106 : decode cX12_parts 106 = .ok (.iload 4, 2) := by decide +kernel
theorem dX12_parts_108 : decode cX12_parts 108 = .ok (.invokestatic 186, 3) := by decide +kernel
theorem dX12_parts_111 : decode cX12_parts 111 = .ok (.aload_n 0, 1) := by decide +kernel
theorem dX12_parts_112 : decode cX12_parts 112 = .ok (.getfield 289, 3) := by decide +kernel
theorem dX12_parts_115 : decode cX12_parts 115 = .ok (.invokestatic 186, 3) := by decide +kernel
theorem dX12_parts_118 : decode cX12_parts 118 = .ok (.if_icmp .ne 16, 3) := by decide +kernel
theorem dX12_parts_121 : decode cX12_parts 121 = .ok (.iload 5, 2) := by decide +kernel
theorem dX12_parts_123 : decode cX12_parts 123 = .ok (.aload_n 0, 1) := by decide +kernel
theorem dX12_parts_124 : decode cX12_parts 124 = .ok (.getfield 292, 3) := by decide +kernel
theorem dX12_parts_127 : decode cX12_parts 127 = .ok (.if_icmp .ge 7, 3) := by decide +kernel
theorem dX12_parts_130 : decode cX12_parts 130 = .ok (.iconst 1, 1) := by decide +kernel
theorem dX12_parts_131 : decode cX12_parts 131 = .ok (.goto 4, 3) := by decide +kernel
theorem dX12_parts_134 : decode cX12_parts 134 = .ok (.iconst 0, 1) := by decide +kernel
theorem dX12_parts_135 : decode cX12_parts 135 = .ok (.istore 6, 2) := by decide +kernel
theorem dX12_parts_137 : decode cX12_parts 137 = .ok (.iload 6, 2) := by decide +kernel
theorem dX12_parts_139 : decode cX12_parts 139 = .ok (.ifCond .ne 6, 3) := by decide +kernel
theorem dX12_parts_142 : decode cX12_parts 142 = .ok (.goto 15, 3) := by decide +kernel
theorem dX12_parts_145 : decode cX12_parts 145 = .ok (.aload_n 0, 1) := by decide +kernel
theorem dX12_parts_146 : decode cX12_parts 146 = .ok (.iload 4, 2) := by decide +kernel
theorem dX12_parts_148 : decode cX12_parts 148 = .ok (.putfield 289, 3) := by decide +kernel
theorem dX12_parts_151 : decode cX12_parts 151 = .ok (.aload_n 0, 1) := by decide +kernel
theorem dX12_parts_152 : decode cX12_parts 152 = .ok (.iload 5, 2) := by decide +kernel
theorem dX12_parts_154 : decode cX12_parts 154 = .ok (.putfield 292, 3) := by decide +kernel
theorem dX12_parts_157 : decode cX12_parts 157 = .ok (.iinc 4 1, 3) := by decide +kernel
theorem dX12_parts_160 : decode cX12_parts 160 = .ok (.goto (-110), 3) := by decide +kernel
theorem dX12_parts_163 : decode cX12_parts 163 = .ok (.aload_n 0, 1) := by decide +kernel
theorem dX12_parts_164 : decode cX12_parts 164 = .ok (.getfield 289, 3) := by decide +kernel
theorem dX12_parts_167 : decode cX12_parts 167 = .ok (.ifCond .le 7, 3) := by decide +kernel
theorem dX12_parts_170 : decode cX12_parts 170 = .ok (.iconst 1, 1) := by decide +kernel
theorem dX12_parts_171 : decode cX12_parts 171 = .ok (.goto 4, 3) := by decide +kernel
theorem dX12_parts_174 : decode cX12_parts 174 = .ok (.iconst 0, 1) := by decide +kernel
theorem dX12_parts_175 : decode cX12_parts 175 = .ok (.ireturn, 1) := by decide +kernel
abbrev dpX12_parts : Nat := 3
def fX12_parts_157 (k50 : (Nat × Int32 × Int32) → St → Option (Bool × St)) (a0 : Nat) (x2 : Int32) (x4 : Int32) : St → Option (Bool × St) :=
 k50 (a0, x2, (x4 + 1))
set_option maxHeartbeats 4000000 in
set_option maxRecDepth 100000 in
theorem sfX12_parts_157 {E : Ev} {l : Launch} (k50 : (Nat × Int32 × Int32) → St → Option (Bool × St)) (hk50 : ∀ p : Nat × Int32 × Int32, Snd E l (dpX12_parts, RX12, cX12_parts, 7, (some .boolean), "parts") rvZ 50 [(0, .ref (E.1 + p.1)), (2, .int p.2.1), (4, .int p.2.2)] [] (k50 p)) (a0 : Nat) (x2 : Int32) (x4 : Int32) : Snd E l (dpX12_parts, RX12, cX12_parts, 7, (some .boolean), "parts") rvZ 157 [(0, .ref (E.1 + a0)), (2, .int x2), (4, .int x4)] [] (fX12_parts_157 k50 a0 x2 x4) := by
  unfold fX12_parts_157
  refine sn_iinc (pc := 157) (v := x4 + 1) (lv' := [(4, .int (x4 + 1)), (0, .ref (E.1 + a0)), (2, .int x2)]) (j := 2) dX12_parts_157 rfl rfl (by decide) rfl ?_
  refine sn_goto (pc := 160) (tgt := 50) dX12_parts_160 (by decide) ?_
  exact sn_sub (lv' := [(0, .ref (E.1 + a0)), (2, .int x2), (4, .int (x4 + 1))]) [1, 2, 0] rfl (hk50 (a0, x2, (x4 + 1)))
def fX12_parts_135 (k50 : (Nat × Int32 × Int32) → St → Option (Bool × St)) (a0 : Nat) (x2 : Int32) (x4 : Int32) (x5 : Int32) (y0 : Int32) : St → Option (Bool × St) :=
 br (y0 = 0) (fX12_parts_157 k50 a0 x2 x4)
 (pI 13 a0 33 x4 <|
 pI 13 a0 34 x5 <|
 fX12_parts_157 k50 a0 x2 x4)
set_option maxHeartbeats 4000000 in
set_option maxRecDepth 100000 in
theorem sfX12_parts_135 {E : Ev} {l : Launch} (k50 : (Nat × Int32 × Int32) → St → Option (Bool × St)) (hk50 : ∀ p : Nat × Int32 × Int32, Snd E l (dpX12_parts, RX12, cX12_parts, 7, (some .boolean), "parts") rvZ 50 [(0, .ref (E.1 + p.1)), (2, .int p.2.1), (4, .int p.2.2)] [] (k50 p)) (a0 : Nat) (x2 : Int32) (x4 : Int32) (x5 : Int32) (y0 : Int32) : Snd E l (dpX12_parts, RX12, cX12_parts, 7, (some .boolean), "parts") rvZ 135 [(0, .ref (E.1 + a0)), (2, .int x2), (4, .int x4), (5, .int x5)] [.int y0] (fX12_parts_135 k50 a0 x2 x4 x5 y0) := by
  unfold fX12_parts_135
  refine sn_istore (pc := 135) (i := 6) (lv' := [(6, .int y0), (0, .ref (E.1 + a0)), (2, .int x2), (4, .int x4), (5, .int x5)]) dX12_parts_135 (by decide) rfl ?_
  refine sn_iload (pc := 137) (j := 0) dX12_parts_137 rfl ?_
  refine sn_if_ne (pc := 139) (tgt := 145) dX12_parts_139 (by decide) ?_ ?_
  · refine sn_aload_n (pc := 145) (j := 1) dX12_parts_145 rfl rfl ?_
    refine sn_iload (pc := 146) (j := 3) dX12_parts_146 rfl ?_
    refine sn_pI (pc := 148) dX12_parts_148 flX12_289 rfl rfl (Or.inl rfl) ?_
    refine sn_aload_n (pc := 151) (j := 1) dX12_parts_151 rfl rfl ?_
    refine sn_iload (pc := 152) (j := 4) dX12_parts_152 rfl ?_
    refine sn_pI (pc := 154) dX12_parts_154 flX12_292 rfl rfl (Or.inl rfl) ?_
    exact sn_sub (lv' := [(0, .ref (E.1 + a0)), (2, .int x2), (4, .int x4)]) [1, 2, 3] rfl (sfX12_parts_157 k50 hk50 a0 x2 x4)
  · refine sn_goto (pc := 142) (tgt := 157) dX12_parts_142 (by decide) ?_
    exact sn_sub (lv' := [(0, .ref (E.1 + a0)), (2, .int x2), (4, .int x4)]) [1, 2, 3] rfl (sfX12_parts_157 k50 hk50 a0 x2 x4)
def fX12_parts_130 (k50 : (Nat × Int32 × Int32) → St → Option (Bool × St)) (a0 : Nat) (x2 : Int32) (x4 : Int32) (x5 : Int32) : St → Option (Bool × St) :=
 fX12_parts_135 k50 a0 x2 x4 x5 1
set_option maxHeartbeats 4000000 in
set_option maxRecDepth 100000 in
theorem sfX12_parts_130 {E : Ev} {l : Launch} (k50 : (Nat × Int32 × Int32) → St → Option (Bool × St)) (hk50 : ∀ p : Nat × Int32 × Int32, Snd E l (dpX12_parts, RX12, cX12_parts, 7, (some .boolean), "parts") rvZ 50 [(0, .ref (E.1 + p.1)), (2, .int p.2.1), (4, .int p.2.2)] [] (k50 p)) (a0 : Nat) (x2 : Int32) (x4 : Int32) (x5 : Int32) : Snd E l (dpX12_parts, RX12, cX12_parts, 7, (some .boolean), "parts") rvZ 130 [(0, .ref (E.1 + a0)), (2, .int x2), (4, .int x4), (5, .int x5)] [] (fX12_parts_130 k50 a0 x2 x4 x5) := by
  unfold fX12_parts_130
  refine sn_iconst (pc := 130) (v := 1) dX12_parts_130 (by decide) ?_
  refine sn_goto (pc := 131) (tgt := 135) dX12_parts_131 (by decide) ?_
  exact sn_sub (lv' := [(0, .ref (E.1 + a0)), (2, .int x2), (4, .int x4), (5, .int x5)]) [0, 1, 2, 3] rfl (sfX12_parts_135 k50 hk50 a0 x2 x4 x5 1)
def fX12_parts_134 (k50 : (Nat × Int32 × Int32) → St → Option (Bool × St)) (a0 : Nat) (x2 : Int32) (x4 : Int32) (x5 : Int32) : St → Option (Bool × St) :=
 fX12_parts_135 k50 a0 x2 x4 x5 0
set_option maxHeartbeats 4000000 in
set_option maxRecDepth 100000 in
theorem sfX12_parts_134 {E : Ev} {l : Launch} (k50 : (Nat × Int32 × Int32) → St → Option (Bool × St)) (hk50 : ∀ p : Nat × Int32 × Int32, Snd E l (dpX12_parts, RX12, cX12_parts, 7, (some .boolean), "parts") rvZ 50 [(0, .ref (E.1 + p.1)), (2, .int p.2.1), (4, .int p.2.2)] [] (k50 p)) (a0 : Nat) (x2 : Int32) (x4 : Int32) (x5 : Int32) : Snd E l (dpX12_parts, RX12, cX12_parts, 7, (some .boolean), "parts") rvZ 134 [(0, .ref (E.1 + a0)), (2, .int x2), (4, .int x4), (5, .int x5)] [] (fX12_parts_134 k50 a0 x2 x4 x5) := by
  unfold fX12_parts_134
  refine sn_iconst (pc := 134) (v := 0) dX12_parts_134 (by decide) ?_
  exact sn_sub (lv' := [(0, .ref (E.1 + a0)), (2, .int x2), (4, .int x4), (5, .int x5)]) [0, 1, 2, 3] rfl (sfX12_parts_135 k50 hk50 a0 x2 x4 x5 0)
def fX12_parts_50 (k50 : (Nat × Int32 × Int32) → St → Option (Bool × St)) (a0 : Nat) (x2 : Int32) (x4 : Int32) : St → Option (Bool × St) :=
 gR 13 a0 0 fun v1001 =>
 nn v1001 fun a1003 =>
 aI 15 a1003 2 fun v1002 =>
 br ((1 <<< (v1002 &&& 31)) ≤ x4) (gI 13 a0 33 fun v1004 =>
 br (v1004 ≤ 0) (rtZ 0)
 (rtZ 1))
 (ck 13 a0 <| cl (fX12_isSet a0 x4 x2) fun v1005 =>
 br ((bi v1005) = 0) (fX12_parts_157 k50 a0 x2 x4)
 (ck 13 a0 <| cl (fX12_spreadOf a0 x4) fun v1006 =>
 gI 13 a0 33 fun v1007 =>
 br (v1007 = 0) (fX12_parts_130 k50 a0 x2 x4 v1006)
 (cl (fX12_ones x4) fun v1008 =>
 gI 13 a0 33 fun v1009 =>
 cl (fX12_ones v1009) fun v1010 =>
 br (v1008 < v1010) (fX12_parts_130 k50 a0 x2 x4 v1006)
 (cl (fX12_ones x4) fun v1011 =>
 gI 13 a0 33 fun v1012 =>
 cl (fX12_ones v1012) fun v1013 =>
 br (v1011 = v1013) (gI 13 a0 34 fun v1014 =>
 br (v1014 ≤ v1006) (fX12_parts_134 k50 a0 x2 x4 v1006)
 (fX12_parts_130 k50 a0 x2 x4 v1006))
 (fX12_parts_134 k50 a0 x2 x4 v1006)))))
set_option maxHeartbeats 4000000 in
set_option maxRecDepth 100000 in
theorem sfX12_parts_50 {E : Ev} {l : Launch} (k50 : (Nat × Int32 × Int32) → St → Option (Bool × St)) (hk50 : ∀ p : Nat × Int32 × Int32, Snd E l (dpX12_parts, RX12, cX12_parts, 7, (some .boolean), "parts") rvZ 50 [(0, .ref (E.1 + p.1)), (2, .int p.2.1), (4, .int p.2.2)] [] (k50 p)) (a0 : Nat) (x2 : Int32) (x4 : Int32) : Snd E l (dpX12_parts, RX12, cX12_parts, 7, (some .boolean), "parts") rvZ 50 [(0, .ref (E.1 + a0)), (2, .int x2), (4, .int x4)] [] (fX12_parts_50 k50 a0 x2 x4) := by
  unfold fX12_parts_50
  refine sn_iload (pc := 50) (j := 2) dX12_parts_50 rfl ?_
  refine sn_iconst (pc := 52) (v := 1) dX12_parts_52 (by decide) ?_
  refine sn_aload_n (pc := 53) (j := 0) dX12_parts_53 rfl rfl ?_
  refine sn_gR (pc := 54) dX12_parts_54 flX12_7 rfl (fun v1001 => ?_)
  refine sn_iconst (pc := 57) (v := 2) dX12_parts_57 (by decide) ?_
  rcases v1001 with _ | a1003
  · exact sn_no
  refine sn_nn ?_
  refine sn_iald (pc := 58) dX12_parts_58 (fun v1002 => ?_)
  refine sn_ishl (pc := 59) dX12_parts_59 ?_
  refine sn_icmp_ge (pc := 60) (tgt := 163) dX12_parts_60 (by decide) ?_ ?_
  · refine sn_aload_n (pc := 163) (j := 0) dX12_parts_163 rfl rfl ?_
    refine sn_gI (pc := 164) dX12_parts_164 flX12_289 rfl (fun v1004 => ?_)
    refine sn_if_le (pc := 167) (tgt := 174) dX12_parts_167 (by decide) ?_ ?_
    · refine sn_iconst (pc := 174) (v := 0) dX12_parts_174 (by decide) ?_
      exact sn_zret (pc := 175) dX12_parts_175 rfl
    · refine sn_iconst (pc := 170) (v := 1) dX12_parts_170 (by decide) ?_
      refine sn_goto (pc := 171) (tgt := 175) dX12_parts_171 (by decide) ?_
      exact sn_zret (pc := 175) dX12_parts_175 rfl
  · refine sn_aload_n (pc := 63) (j := 0) dX12_parts_63 rfl rfl ?_
    refine sn_iload (pc := 64) (j := 2) dX12_parts_64 rfl ?_
    refine sn_iload_n (pc := 66) (j := 1) dX12_parts_66 rfl rfl ?_
    refine sn_callV (ci := 12) (pc := 67) dX12_parts_67 iX12_isSet wt7_156 ws_73 wt7_154 ⟨_, rfl, rfl⟩ (by decide) (mX12_isSet a0 x4 x2) (by decide) rfl rfl (Nat.le_of_ble_eq_true rfl) (fun v1005 => ?_)
    refine sn_if_ne (pc := 70) (tgt := 76) dX12_parts_70 (by decide) ?_ ?_
    · refine sn_aload_n (pc := 76) (j := 0) dX12_parts_76 rfl rfl ?_
      refine sn_iload (pc := 77) (j := 2) dX12_parts_77 rfl ?_
      refine sn_callV (ci := 12) (pc := 79) dX12_parts_79 iX12_spreadOf wt7_160 ws_74 wt7_158 ⟨_, rfl, rfl⟩ (by decide) (mX12_spreadOf a0 x4) (by decide) rfl rfl (Nat.le_of_ble_eq_true rfl) (fun v1006 => ?_)
      refine sn_istore (pc := 82) (i := 5) (lv' := [(5, .int v1006), (0, .ref (E.1 + a0)), (2, .int x2), (4, .int x4)]) dX12_parts_82 (by decide) rfl ?_
      refine sn_aload_n (pc := 84) (j := 1) dX12_parts_84 rfl rfl ?_
      refine sn_gI (pc := 85) dX12_parts_85 flX12_289 rfl (fun v1007 => ?_)
      refine sn_if_eq (pc := 88) (tgt := 130) dX12_parts_88 (by decide) ?_ ?_
      · exact sn_sub (lv' := [(0, .ref (E.1 + a0)), (2, .int x2), (4, .int x4), (5, .int v1006)]) [1, 2, 3, 0] rfl (sfX12_parts_130 k50 hk50 a0 x2 x4 v1006)
      · refine sn_iload (pc := 91) (j := 3) dX12_parts_91 rfl ?_
        refine sn_callS (pc := 93) dX12_parts_93 iX12_ones wt7_6 wt7_5 (mX12_ones x4) (by decide) rfl rfl (Nat.le_of_ble_eq_true rfl) (fun v1008 => ?_)
        refine sn_aload_n (pc := 96) (j := 1) dX12_parts_96 rfl rfl ?_
        refine sn_gI (pc := 97) dX12_parts_97 flX12_289 rfl (fun v1009 => ?_)
        refine sn_callS (pc := 100) dX12_parts_100 iX12_ones wt7_6 wt7_5 (mX12_ones v1009) (by decide) rfl rfl (Nat.le_of_ble_eq_true rfl) (fun v1010 => ?_)
        refine sn_icmp_lt (pc := 103) (tgt := 130) dX12_parts_103 (by decide) ?_ ?_
        · exact sn_sub (lv' := [(0, .ref (E.1 + a0)), (2, .int x2), (4, .int x4), (5, .int v1006)]) [1, 2, 3, 0] rfl (sfX12_parts_130 k50 hk50 a0 x2 x4 v1006)
        · refine sn_iload (pc := 106) (j := 3) dX12_parts_106 rfl ?_
          refine sn_callS (pc := 108) dX12_parts_108 iX12_ones wt7_6 wt7_5 (mX12_ones x4) (by decide) rfl rfl (Nat.le_of_ble_eq_true rfl) (fun v1011 => ?_)
          refine sn_aload_n (pc := 111) (j := 1) dX12_parts_111 rfl rfl ?_
          refine sn_gI (pc := 112) dX12_parts_112 flX12_289 rfl (fun v1012 => ?_)
          refine sn_callS (pc := 115) dX12_parts_115 iX12_ones wt7_6 wt7_5 (mX12_ones v1012) (by decide) rfl rfl (Nat.le_of_ble_eq_true rfl) (fun v1013 => ?_)
          refine sn_icmp_ne (pc := 118) (tgt := 134) dX12_parts_118 (by decide) ?_ ?_
          · exact sn_sub (lv' := [(0, .ref (E.1 + a0)), (2, .int x2), (4, .int x4), (5, .int v1006)]) [1, 2, 3, 0] rfl (sfX12_parts_134 k50 hk50 a0 x2 x4 v1006)
          · refine sn_iload (pc := 121) (j := 0) dX12_parts_121 rfl ?_
            refine sn_aload_n (pc := 123) (j := 1) dX12_parts_123 rfl rfl ?_
            refine sn_gI (pc := 124) dX12_parts_124 flX12_292 rfl (fun v1014 => ?_)
            refine sn_icmp_ge (pc := 127) (tgt := 134) dX12_parts_127 (by decide) ?_ ?_
            · exact sn_sub (lv' := [(0, .ref (E.1 + a0)), (2, .int x2), (4, .int x4), (5, .int v1006)]) [1, 2, 3, 0] rfl (sfX12_parts_134 k50 hk50 a0 x2 x4 v1006)
            · exact sn_sub (lv' := [(0, .ref (E.1 + a0)), (2, .int x2), (4, .int x4), (5, .int v1006)]) [1, 2, 3, 0] rfl (sfX12_parts_130 k50 hk50 a0 x2 x4 v1006)
    · refine sn_goto (pc := 73) (tgt := 157) dX12_parts_73 (by decide) ?_
      exact sn_sub (lv' := [(0, .ref (E.1 + a0)), (2, .int x2), (4, .int x4)]) [0, 1, 2] rfl (sfX12_parts_157 k50 hk50 a0 x2 x4)
def fX12_parts (a0 : Nat) (x1 : Int32) (x2 : Int32) (x3 : Int32) : St → Option (Bool × St) :=
 ck 13 a0 <| cl (fX12_isOf a0 x1 0) fun v1 =>
 br ((bi v1) = 0) (rtZ 0)
 (cl (fX12_isIn x2 1 40) fun v2 =>
 br ((bi v2) = 0) (rtZ 0)
 (cl (fX12_isIn x3 1 60) fun v3 =>
 br ((bi v3) = 0) (rtZ 0)
 (ck 13 a0 <| cl (fX12_counts a0 x1 x3) fun v4 =>
 pI 13 a0 33 0 <|
 pI 13 a0 34 0 <|
 itr (fun k (p : Nat × Int32 × Int32) => fX12_parts_50  k p.1 p.2.1 p.2.2) FU (a0, x2, 1))))
set_option maxHeartbeats 4000000 in
set_option maxRecDepth 100000 in
theorem mX12_parts {E : Ev} {l : Launch} (a0 : Nat) (x1 : Int32) (x2 : Int32) (x3 : Int32) : MF E l dpX12_parts yX12_parts cX12_parts 7 (some .boolean) rvZ [.ref (E.1 + a0), .int x1, .int x2, .int x3] (fX12_parts a0 x1 x2 x3) := by
  refine MF.of (lv := [(0, .ref (E.1 + a0)), (1, .int x1), (2, .int x2), (3, .int x3)]) (by decide) (Nat.le_of_ble_eq_true rfl) rfl ?_
  unfold fX12_parts
  refine sn_aload_n (pc := 0) (j := 0) dX12_parts_0 rfl rfl ?_
  refine sn_iload_n (pc := 1) (j := 1) dX12_parts_1 rfl rfl ?_
  refine sn_iconst (pc := 2) (v := 0) dX12_parts_2 (by decide) ?_
  refine sn_callV (ci := 12) (pc := 3) dX12_parts_3 iX12_isOf wt6_235 ws_54 wt6_233 ⟨_, rfl, rfl⟩ (by decide) (mX12_isOf a0 x1 0) (by decide) rfl rfl (Nat.le_of_ble_eq_true rfl) (fun v1 => ?_)
  refine sn_if_eq (pc := 6) (tgt := 29) dX12_parts_6 (by decide) ?_ ?_
  · refine sn_iconst (pc := 29) (v := 0) dX12_parts_29 (by decide) ?_
    exact sn_zret (pc := 30) dX12_parts_30 rfl
  · refine sn_iload_n (pc := 9) (j := 2) dX12_parts_9 rfl rfl ?_
    refine sn_iconst (pc := 10) (v := 1) dX12_parts_10 (by decide) ?_
    refine sn_bipush (pc := 11) (v := 40) dX12_parts_11 (by decide) ?_
    refine sn_callS (pc := 13) dX12_parts_13 iX12_isIn wt6_138 wt6_137 (mX12_isIn x2 1 40) (by decide) rfl rfl (Nat.le_of_ble_eq_true rfl) (fun v2 => ?_)
    refine sn_if_eq (pc := 16) (tgt := 29) dX12_parts_16 (by decide) ?_ ?_
    · refine sn_iconst (pc := 29) (v := 0) dX12_parts_29 (by decide) ?_
      exact sn_zret (pc := 30) dX12_parts_30 rfl
    · refine sn_iload_n (pc := 19) (j := 3) dX12_parts_19 rfl rfl ?_
      refine sn_iconst (pc := 20) (v := 1) dX12_parts_20 (by decide) ?_
      refine sn_bipush (pc := 21) (v := 60) dX12_parts_21 (by decide) ?_
      refine sn_callS (pc := 23) dX12_parts_23 iX12_isIn wt6_138 wt6_137 (mX12_isIn x3 1 60) (by decide) rfl rfl (Nat.le_of_ble_eq_true rfl) (fun v3 => ?_)
      refine sn_if_ne (pc := 26) (tgt := 31) dX12_parts_26 (by decide) ?_ ?_
      · refine sn_aload_n (pc := 31) (j := 0) dX12_parts_31 rfl rfl ?_
        refine sn_iload_n (pc := 32) (j := 1) dX12_parts_32 rfl rfl ?_
        refine sn_iload_n (pc := 33) (j := 3) dX12_parts_33 rfl rfl ?_
        refine sn_callV (ci := 12) (pc := 34) dX12_parts_34 iX12_counts wt7_152 ws_72 wt7_150 ⟨_, rfl, rfl⟩ (by decide) (mX12_counts a0 x1 x3) (by decide) rfl rfl (Nat.le_of_ble_eq_true rfl) (fun v4 => ?_)
        refine sn_aload_n (pc := 37) (j := 0) dX12_parts_37 rfl rfl ?_
        refine sn_iconst (pc := 38) (v := 0) dX12_parts_38 (by decide) ?_
        refine sn_pI (pc := 39) dX12_parts_39 flX12_289 rfl rfl (Or.inl rfl) ?_
        refine sn_aload_n (pc := 42) (j := 0) dX12_parts_42 rfl rfl ?_
        refine sn_iconst (pc := 43) (v := 0) dX12_parts_43 (by decide) ?_
        refine sn_pI (pc := 44) dX12_parts_44 flX12_292 rfl rfl (Or.inl rfl) ?_
        refine sn_iconst (pc := 47) (v := 1) dX12_parts_47 (by decide) ?_
        refine sn_istore (pc := 48) (i := 4) (lv' := [(4, .int 1), (0, .ref (E.1 + a0)), (1, .int x1), (2, .int x2), (3, .int x3)]) dX12_parts_48 (by decide) rfl ?_
        exact sn_sub (lv' := [(0, .ref (E.1 + a0)), (2, .int x2), (4, .int 1)]) [1, 3, 0] rfl (sn_itr (lvf := fun p => [(0, .ref (E.1 + p.1)), (2, .int p.2.1), (4, .int p.2.2)]) (stf := fun p => []) (fun k hk p => sfX12_parts_50  k hk p.1 p.2.1 p.2.2) FU (a0, x2, 1))
      · refine sn_iconst (pc := 29) (v := 0) dX12_parts_29 (by decide) ?_
        exact sn_zret (pc := 30) dX12_parts_30 rfl
theorem iX12_parts : MI yX12_parts cX12_parts 7 (some .boolean) 3 := ⟨wt1_10, wt7_149, by decide +kernel, by decide⟩
-- NeedleHomesModel part(IIII)I
theorem dX12_part_0 : decode cX12_part 0 = .ok (.iload 4, 2) := by decide +kernel
theorem dX12_part_2 : decode cX12_part 2 = .ok (.iconst 0, 1) := by decide +kernel
theorem dX12_part_3 : decode cX12_part 3 = .ok (.iconst 2, 1) := by decide +kernel
theorem dX12_part_4 : decode cX12_part 4 = .ok (.invokestatic 51, 3) := by decide +kernel
theorem dX12_part_7 : decode cX12_part 7 = .ok (.ifCond .eq 48, 3) := by decide +kernel
theorem dX12_part_10 : decode cX12_part 10 = .ok (.aload_n 0, 1) := by decide +kernel
theorem dX12_part_11 : decode cX12_part 11 = .ok (.iload_n 1, 1) := by decide +kernel
theorem dX12_part_12 : decode cX12_part 12 = .ok (.iload_n 2, 1) := by decide +kernel
theorem dX12_part_13 : decode cX12_part 13 = .ok (.iload_n 3, 1) := by decide +kernel
theorem dX12_part_14 : decode cX12_part 14 = .ok (.invokevirtual 301, 3) := by decide +kernel
theorem dX12_part_17 : decode cX12_part 17 = .ok (.ifCond .eq 38, 3) := by decide +kernel
theorem dX12_part_20 : decode cX12_part 20 = .ok (.iload 4, 2) := by decide +kernel
theorem dX12_part_22 : decode cX12_part 22 = .ok (.ifCond .ne 13, 3) := by decide +kernel
theorem dX12_part_25 : decode cX12_part 25 = .ok (.aload_n 0, 1) := by decide +kernel
theorem dX12_part_26 : decode cX12_part 26 = .ok (.getfield 289, 3) := by decide +kernel
theorem dX12_part_29 : decode cX12_part 29 = .ok (.invokestatic 186, 3) := by decide +kernel
theorem dX12_part_32 : decode cX12_part 32 = .ok (.goto 24, 3) := by decide +kernel
theorem dX12_part_35 : decode cX12_part 35 = .ok (.iload 4, 2) := by decide +kernel
theorem dX12_part_37 : decode cX12_part 37 = .ok (.iconst 1, 1) := by decide +kernel
theorem dX12_part_38 : decode cX12_part 38 = .ok (.if_icmp .ne 10, 3) := by decide +kernel
theorem dX12_part_41 : decode cX12_part 41 = .ok (.aload_n 0, 1) := by decide +kernel
theorem dX12_part_42 : decode cX12_part 42 = .ok (.getfield 292, 3) := by decide +kernel
theorem dX12_part_45 : decode cX12_part 45 = .ok (.goto 11, 3) := by decide +kernel
theorem dX12_part_48 : decode cX12_part 48 = .ok (.aload_n 0, 1) := by decide +kernel
theorem dX12_part_49 : decode cX12_part 49 = .ok (.getfield 289, 3) := by decide +kernel
theorem dX12_part_52 : decode cX12_part 52 = .ok (.goto 4, 3) := by decide +kernel
theorem dX12_part_55 : decode cX12_part 55 = .ok (.iconst (-1), 1) := by decide +kernel
theorem dX12_part_56 : decode cX12_part 56 = .ok (.ireturn, 1) := by decide +kernel
abbrev dpX12_part : Nat := 4
def fX12_part (a0 : Nat) (x1 : Int32) (x2 : Int32) (x3 : Int32) (x4 : Int32) : St → Option (Int32 × St) :=
 cl (fX12_isIn x4 0 2) fun v1 =>
 br ((bi v1) = 0) (rt (-1))
 (ck 13 a0 <| cl (fX12_parts a0 x1 x2 x3) fun v2 =>
 br ((bi v2) = 0) (rt (-1))
 (br (x4 = 0) (gI 13 a0 33 fun v5 =>
 cl (fX12_ones v5) fun v6 =>
 rt v6)
 (br (x4 = 1) (gI 13 a0 34 fun v4 =>
 rt v4)
 (gI 13 a0 33 fun v3 =>
 rt v3))))
set_option maxHeartbeats 4000000 in
set_option maxRecDepth 100000 in
theorem mX12_part {E : Ev} {l : Launch} (a0 : Nat) (x1 : Int32) (x2 : Int32) (x3 : Int32) (x4 : Int32) : MF E l dpX12_part yX12_part cX12_part 5 (some .int) rvI [.ref (E.1 + a0), .int x1, .int x2, .int x3, .int x4] (fX12_part a0 x1 x2 x3 x4) := by
  refine MF.of (lv := [(0, .ref (E.1 + a0)), (1, .int x1), (2, .int x2), (3, .int x3), (4, .int x4)]) (by decide) (Nat.le_of_ble_eq_true rfl) rfl ?_
  unfold fX12_part
  refine sn_iload (pc := 0) (j := 4) dX12_part_0 rfl ?_
  refine sn_iconst (pc := 2) (v := 0) dX12_part_2 (by decide) ?_
  refine sn_iconst (pc := 3) (v := 2) dX12_part_3 (by decide) ?_
  refine sn_callS (pc := 4) dX12_part_4 iX12_isIn wt6_138 wt6_137 (mX12_isIn x4 0 2) (by decide) rfl rfl (Nat.le_of_ble_eq_true rfl) (fun v1 => ?_)
  refine sn_if_eq (pc := 7) (tgt := 55) dX12_part_7 (by decide) ?_ ?_
  · refine sn_iconst (pc := 55) (v := (-1)) dX12_part_55 (by decide) ?_
    exact sn_iret (pc := 56) dX12_part_56 rfl
  · refine sn_aload_n (pc := 10) (j := 0) dX12_part_10 rfl rfl ?_
    refine sn_iload_n (pc := 11) (j := 1) dX12_part_11 rfl rfl ?_
    refine sn_iload_n (pc := 12) (j := 2) dX12_part_12 rfl rfl ?_
    refine sn_iload_n (pc := 13) (j := 3) dX12_part_13 rfl rfl ?_
    refine sn_callV (ci := 12) (pc := 14) dX12_part_14 iX12_parts wt7_148 ws_71 wt7_146 ⟨_, rfl, rfl⟩ (by decide) (mX12_parts a0 x1 x2 x3) (by decide) rfl rfl (Nat.le_of_ble_eq_true rfl) (fun v2 => ?_)
    refine sn_if_eq (pc := 17) (tgt := 55) dX12_part_17 (by decide) ?_ ?_
    · refine sn_iconst (pc := 55) (v := (-1)) dX12_part_55 (by decide) ?_
      exact sn_iret (pc := 56) dX12_part_56 rfl
    · refine sn_iload (pc := 20) (j := 4) dX12_part_20 rfl ?_
      refine sn_if_ne (pc := 22) (tgt := 35) dX12_part_22 (by decide) ?_ ?_
      · refine sn_iload (pc := 35) (j := 4) dX12_part_35 rfl ?_
        refine sn_iconst (pc := 37) (v := 1) dX12_part_37 (by decide) ?_
        refine sn_icmp_ne (pc := 38) (tgt := 48) dX12_part_38 (by decide) ?_ ?_
        · refine sn_aload_n (pc := 48) (j := 0) dX12_part_48 rfl rfl ?_
          refine sn_gI (pc := 49) dX12_part_49 flX12_289 rfl (fun v3 => ?_)
          refine sn_goto (pc := 52) (tgt := 56) dX12_part_52 (by decide) ?_
          exact sn_iret (pc := 56) dX12_part_56 rfl
        · refine sn_aload_n (pc := 41) (j := 0) dX12_part_41 rfl rfl ?_
          refine sn_gI (pc := 42) dX12_part_42 flX12_292 rfl (fun v4 => ?_)
          refine sn_goto (pc := 45) (tgt := 56) dX12_part_45 (by decide) ?_
          exact sn_iret (pc := 56) dX12_part_56 rfl
      · refine sn_aload_n (pc := 25) (j := 0) dX12_part_25 rfl rfl ?_
        refine sn_gI (pc := 26) dX12_part_26 flX12_289 rfl (fun v5 => ?_)
        refine sn_callS (pc := 29) dX12_part_29 iX12_ones wt7_6 wt7_5 (mX12_ones v5) (by decide) rfl rfl (Nat.le_of_ble_eq_true rfl) (fun v6 => ?_)
        refine sn_goto (pc := 32) (tgt := 56) dX12_part_32 (by decide) ?_
        exact sn_iret (pc := 56) dX12_part_56 rfl
theorem iX12_part : MI yX12_part cX12_part 5 (some .int) 4 := ⟨wt1_10, wt7_145, by decide +kernel, by decide⟩
-- NeedleHomesModel parted(IIII)I
theorem dX12_parted_0 : decode cX12_parted 0 = .ok (.aload_n 0, 1) := by decide +kernel
theorem dX12_parted_1 : decode cX12_parted 1 = .ok (.iload 4, 2) := by decide +kernel
theorem dX12_parted_3 : decode cX12_parted 3 = .ok (.iconst 2, 1) := by decide +kernel
theorem dX12_parted_4 : decode cX12_parted 4 = .ok (.invokevirtual 178, 3) := by decide +kernel
theorem dX12_parted_7 : decode cX12_parted 7 = .ok (.ifCond .eq 13, 3) := by decide +kernel
theorem dX12_parted_10 : decode cX12_parted 10 = .ok (.aload_n 0, 1) := by decide +kernel
theorem dX12_parted_11 : decode cX12_parted 11 = .ok (.iload_n 1, 1) := by decide +kernel
theorem dX12_parted_12 : decode cX12_parted 12 = .ok (.iload_n 2, 1) := by decide +kernel
theorem dX12_parted_13 : decode cX12_parted 13 = .ok (.iload_n 3, 1) := by decide +kernel
theorem dX12_parted_14 : decode cX12_parted 14 = .ok (.invokevirtual 301, 3) := by decide +kernel
theorem dX12_parted_17 : decode cX12_parted 17 = .ok (.ifCond .ne 5, 3) := by decide +kernel
theorem dX12_parted_20 : decode cX12_parted 20 = .ok (.iconst (-1), 1) := by decide +kernel
theorem dX12_parted_21 : decode cX12_parted 21 = .ok (.ireturn, 1) := by decide +kernel
theorem dX12_parted_22 : decode cX12_parted 22 = .ok (.iconst 0, 1) := by decide +kernel
theorem dX12_parted_23 : decode cX12_parted 23 = .ok (.istore 5, 2) := by decide +kernel
theorem dX12_parted_25 : decode cX12_parted 25 = .ok (.iload 5, 2) := by decide +kernel
theorem dX12_parted_27 : decode cX12_parted 27 = .ok (.bipush 12, 2) := by decide +kernel
theorem dX12_parted_29 : decode cX12_parted 29 = .ok (.if_icmp .ge 17, 3) := by decide +kernel
theorem dX12_parted_32 : decode cX12_parted 32 = .ok (.aload_n 0, 1) := by decide +kernel
theorem dX12_parted_33 : decode cX12_parted 33 = .ok (.getfield 39, 3) := by decide +kernel
theorem dX12_parted_36 : decode cX12_parted 36 = .ok (.iload 5, 2) := by decide +kernel
theorem dX12_parted_38 : decode cX12_parted 38 = .ok (.iconst 0, 1) := by decide +kernel
theorem dX12_parted_39 : decode cX12_parted 39 = .ok (.iastore, 1) := by decide +kernel
theorem dX12_parted_40 : decode cX12_parted 40 = .ok (.iinc 5 1, 3) := by decide +kernel
theorem dX12_parted_43 : decode cX12_parted 43 = .ok (.goto (-18), 3) := by decide +kernel
theorem dX12_parted_46 : decode cX12_parted 46 = .ok (.iconst 0, 1) := by decide +kernel
theorem dX12_parted_47 : decode cX12_parted 47 = .ok (.istore 5, 2) := by decide +kernel
theorem dX12_parted_49 : decode cX12_parted 49 = .ok (.iload 5, 2) := by decide +kernel
theorem dX12_parted_51 : decode cX12_parted 51 = .ok (.iload_n 2, 1) := by decide +kernel
theorem dX12_parted_52 : decode cX12_parted 52 = .ok (.if_icmp .ge 99, 3) := by decide +kernel
theorem dX12_parted_55 : decode cX12_parted 55 = .ok (.iconst (-1), 1) := by decide +kernel
theorem dX12_parted_56 : decode cX12_parted 56 = .ok (.istore 6, 2) := by decide +kernel
theorem dX12_parted_58 : decode cX12_parted 58 = .ok (.iconst 0, 1) := by decide +kernel
theorem dX12_parted_59 : decode cX12_parted 59 = .ok (.istore 7, 2) := by decide +kernel
theorem dX12_parted_61 : decode cX12_parted 61 = .ok (.iload 7, 2) := by decide +kernel
theorem dX12_parted_63 : decode cX12_parted 63 = .ok (.aload_n 0, 1) := by decide +kernel
theorem dX12_parted_64 : decode cX12_parted 64 = .ok (.getfield 7, 3) := by decide +kernel
theorem dX12_parted_67 : decode cX12_parted 67 = .ok (.iconst 2, 1) := by decide +kernel
theorem dX12_parted_68 : decode cX12_parted 68 = .ok (.iaload, 1) := by decide +kernel
theorem dX12_parted_69 : decode cX12_parted 69 = .ok (.if_icmp .ge 65, 3) := by decide +kernel
theorem dX12_parted_72 : decode cX12_parted 72 = .ok (.aload_n 0, 1) := by decide +kernel
theorem dX12_parted_73 : decode cX12_parted 73 = .ok (.getfield 289, 3) := by decide +kernel
theorem dX12_parted_76 : decode cX12_parted 76 = .ok (.iload 7, 2) := by decide +kernel
theorem dX12_parted_78 : decode cX12_parted 78 = .ok (.ishr, 1) := by decide +kernel
theorem dX12_parted_79 : decode cX12_parted 79 = .ok (.iconst 1, 1) := by decide +kernel
theorem dX12_parted_80 : decode cX12_parted 80 = .ok (.iand, 1) := by decide +kernel
theorem dX12_parted_81 : decode cX12_parted 81 = .ok (.iconst 1, 1) := by decide +kernel
theorem dX12_parted_82 : decode cX12_parted 82 = .ok (.if_icmp .ne 46, 3) := by decide +kernel
theorem dX12_parted_85 : decode cX12_parted 85 = .ok (.aload_n 0, 1) := by decide +kernel
theorem dX12_parted_86 : decode cX12_parted 86 = .ok (.getfield 39, 3) := by decide +kernel
theorem dX12_parted_89 : decode cX12_parted 89 = .ok (.iload 7, 2) := by decide +kernel
theorem dX12_parted_91 : decode cX12_parted 91 = .ok (.iaload, 1) := by decide +kernel
theorem dX12_parted_92 : decode cX12_parted 92 = .ok (.aload_n 0, 1) := by decide +kernel
theorem dX12_parted_93 : decode cX12_parted 93 = .ok (.getfield 36, 3) := by decide +kernel
theorem dX12_parted_96 : decode cX12_parted 96 = .ok (.iload 7, 2) := by decide +kernel
theorem dX12_parted_98 : decode cX12_parted 98 = .ok (.iaload, 1) := by decide +kernel
theorem dX12_parted_99 : decode cX12_parted 99 = .ok (.if_icmp .ge 29, 3) := by decide +kernel
theorem dX12_parted_102 : decode cX12_parted 102 = .ok (.iload 6, 2) := by decide +kernel
theorem dX12_parted_104 : decode cX12_parted 104 = .ok (.ifCond .lt 20, 3) := by decide +kernel
theorem dX12_parted_107 : decode cX12_parted 107 = .ok (.aload_n 0, 1) := by decide +kernel
theorem dX12_parted_108 : decode cX12_parted 108 = .ok (.getfield 39, 3) := by decide +kernel
theorem dX12_parted_111 : decode cX12_parted 111 = .ok (.iload 7, 2) := by decide +kernel
theorem dX12_parted_113 : decode cX12_parted 113 = .ok (.iaload, 1) := by decide +kernel
theorem dX12_parted_114 : decode cX12_parted 114 = .ok (.aload_n 0, 1) := by decide +kernel
theorem dX12_parted_115 : decode cX12_parted 115 = .ok (.getfield 39, 3) := by decide +kernel
theorem dX12_parted_118 : decode cX12_parted 118 = .ok (.iload 6, 2) := by decide +kernel
theorem dX12_parted_120 : decode cX12_parted 120 = .ok (.iaload, 1) := by decide +kernel
theorem dX12_parted_121 : decode cX12_parted 121 = .ok (.if_icmp .ge 7, 3) := by decide +kernel
theorem dX12_parted_124 : decode cX12_parted 124 = .ok (.iload 7, 2) := by decide +kernel
theorem dX12_parted_126 : decode cX12_parted 126 = .ok (.istore 6, 2) := by decide +kernel
theorem dX12_parted_128 : decode cX12_parted 128 = .ok (.iinc 7 1, 3) := by decide +kernel
theorem dX12_parted_131 : decode cX12_parted 131 = .ok (.goto (-70), 3) := by decide +kernel
theorem dX12_parted_134 : decode cX12_parted 134 = .ok (.aload_n 0, 1) := by decide +kernel
theorem dX12_parted_135 : decode cX12_parted 135 = .ok (.getfield 39, 3) := by decide +kernel
theorem dX12_parted_138 : decode cX12_parted 138 = .ok (.iload 6, 2) := by decide +kernel
theorem dX12_parted_140 : decode cX12_parted 140 = .ok (.dup2, 1) := by decide +kernel
theorem dX12_parted_141 : decode cX12_parted 141 = .ok (.iaload, 1) := by decide +kernel
theorem dX12_parted_142 : decode cX12_parted 142 = .ok (.iconst 1, 1) := by decide +kernel
theorem dX12_parted_143 : decode cX12_parted 143 = .ok (.iadd, 1) := by decide +kernel
theorem dX12_parted_144 : decode cX12_parted 144 = .ok (.iastore, 1) := by decide +kernel
theorem dX12_parted_145 : decode cX12_parted 145 = .ok (.iinc 5 1, 3) := by decide +kernel
theorem dX12_parted_148 : decode cX12_parted 148 = .ok (.goto (-99), 3) := by decide +kernel
theorem dX12_parted_151 : decode cX12_parted 151 = .ok (.aload_n 0, 1) := by decide +kernel
theorem dX12_parted_152 : decode cX12_parted 152 = .ok (.getfield 39, 3) := by decide +kernel
theorem dX12_parted_155 : decode cX12_parted 155 = .ok (.iload 4, 2) := by decide +kernel
theorem dX12_parted_157 : decode cX12_parted 157 = .ok (.iaload, 1) := by decide +kernel
theorem dX12_parted_158 : decode cX12_parted 158 = .ok (.ireturn, 1) := by decide +kernel
abbrev dpX12_parted : Nat := 4
def fX12_parted_128 (k49 : (Nat × Int32 × Int32 × Int32) → St → Option (Int32 × St)) (k61 : (Nat × Int32 × Int32 × Int32 × Int32 × Int32) → St → Option (Int32 × St)) (a0 : Nat) (x2 : Int32) (x4 : Int32) (x5 : Int32) (x6 : Int32) (x7 : Int32) : St → Option (Int32 × St) :=
 k61 (a0, x2, x4, x5, x6, (x7 + 1))
set_option maxHeartbeats 4000000 in
set_option maxRecDepth 100000 in
theorem sfX12_parted_128 {E : Ev} {l : Launch} (k49 : (Nat × Int32 × Int32 × Int32) → St → Option (Int32 × St)) (hk49 : ∀ p : Nat × Int32 × Int32 × Int32, Snd E l (dpX12_parted, RX12, cX12_parted, 8, (some .int), "parted") rvI 49 [(0, .ref (E.1 + p.1)), (2, .int p.2.1), (4, .int p.2.2.1), (5, .int p.2.2.2)] [] (k49 p)) (k61 : (Nat × Int32 × Int32 × Int32 × Int32 × Int32) → St → Option (Int32 × St)) (hk61 : ∀ p : Nat × Int32 × Int32 × Int32 × Int32 × Int32, Snd E l (dpX12_parted, RX12, cX12_parted, 8, (some .int), "parted") rvI 61 [(0, .ref (E.1 + p.1)), (2, .int p.2.1), (4, .int p.2.2.1), (5, .int p.2.2.2.1), (6, .int p.2.2.2.2.1), (7, .int p.2.2.2.2.2)] [] (k61 p)) (a0 : Nat) (x2 : Int32) (x4 : Int32) (x5 : Int32) (x6 : Int32) (x7 : Int32) : Snd E l (dpX12_parted, RX12, cX12_parted, 8, (some .int), "parted") rvI 128 [(0, .ref (E.1 + a0)), (2, .int x2), (4, .int x4), (5, .int x5), (6, .int x6), (7, .int x7)] [] (fX12_parted_128 k49 k61 a0 x2 x4 x5 x6 x7) := by
  unfold fX12_parted_128
  refine sn_iinc (pc := 128) (v := x7 + 1) (lv' := [(7, .int (x7 + 1)), (0, .ref (E.1 + a0)), (2, .int x2), (4, .int x4), (5, .int x5), (6, .int x6)]) (j := 5) dX12_parted_128 rfl rfl (by decide) rfl ?_
  refine sn_goto (pc := 131) (tgt := 61) dX12_parted_131 (by decide) ?_
  exact sn_sub (lv' := [(0, .ref (E.1 + a0)), (2, .int x2), (4, .int x4), (5, .int x5), (6, .int x6), (7, .int (x7 + 1))]) [1, 2, 3, 4, 5, 0] rfl (hk61 (a0, x2, x4, x5, x6, (x7 + 1)))
def fX12_parted_124 (k49 : (Nat × Int32 × Int32 × Int32) → St → Option (Int32 × St)) (k61 : (Nat × Int32 × Int32 × Int32 × Int32 × Int32) → St → Option (Int32 × St)) (a0 : Nat) (x2 : Int32) (x4 : Int32) (x5 : Int32) (x7 : Int32) : St → Option (Int32 × St) :=
 fX12_parted_128 k49 k61 a0 x2 x4 x5 x7 x7
set_option maxHeartbeats 4000000 in
set_option maxRecDepth 100000 in
theorem sfX12_parted_124 {E : Ev} {l : Launch} (k49 : (Nat × Int32 × Int32 × Int32) → St → Option (Int32 × St)) (hk49 : ∀ p : Nat × Int32 × Int32 × Int32, Snd E l (dpX12_parted, RX12, cX12_parted, 8, (some .int), "parted") rvI 49 [(0, .ref (E.1 + p.1)), (2, .int p.2.1), (4, .int p.2.2.1), (5, .int p.2.2.2)] [] (k49 p)) (k61 : (Nat × Int32 × Int32 × Int32 × Int32 × Int32) → St → Option (Int32 × St)) (hk61 : ∀ p : Nat × Int32 × Int32 × Int32 × Int32 × Int32, Snd E l (dpX12_parted, RX12, cX12_parted, 8, (some .int), "parted") rvI 61 [(0, .ref (E.1 + p.1)), (2, .int p.2.1), (4, .int p.2.2.1), (5, .int p.2.2.2.1), (6, .int p.2.2.2.2.1), (7, .int p.2.2.2.2.2)] [] (k61 p)) (a0 : Nat) (x2 : Int32) (x4 : Int32) (x5 : Int32) (x7 : Int32) : Snd E l (dpX12_parted, RX12, cX12_parted, 8, (some .int), "parted") rvI 124 [(0, .ref (E.1 + a0)), (2, .int x2), (4, .int x4), (5, .int x5), (7, .int x7)] [] (fX12_parted_124 k49 k61 a0 x2 x4 x5 x7) := by
  unfold fX12_parted_124
  refine sn_iload (pc := 124) (j := 4) dX12_parted_124 rfl ?_
  refine sn_istore (pc := 126) (i := 6) (lv' := [(6, .int x7), (0, .ref (E.1 + a0)), (2, .int x2), (4, .int x4), (5, .int x5), (7, .int x7)]) dX12_parted_126 (by decide) rfl ?_
  exact sn_sub (lv' := [(0, .ref (E.1 + a0)), (2, .int x2), (4, .int x4), (5, .int x5), (6, .int x7), (7, .int x7)]) [1, 2, 3, 4, 0, 5] rfl (sfX12_parted_128 k49 hk49 k61 hk61 a0 x2 x4 x5 x7 x7)
def fX12_parted_61 (k49 : (Nat × Int32 × Int32 × Int32) → St → Option (Int32 × St)) (k61 : (Nat × Int32 × Int32 × Int32 × Int32 × Int32) → St → Option (Int32 × St)) (a0 : Nat) (x2 : Int32) (x4 : Int32) (x5 : Int32) (x6 : Int32) (x7 : Int32) : St → Option (Int32 × St) :=
 gR 13 a0 0 fun v3001 =>
 nn v3001 fun a3003 =>
 aI 15 a3003 2 fun v3002 =>
 br (v3002 ≤ x7) (gR 13 a0 32 fun v3004 =>
 nn v3004 fun a3006 =>
 aI 15 a3006 x6 fun v3005 =>
 wI a3006 x6 (v3005 + 1) <|
 k49 (a0, x2, x4, (x5 + 1)))
 (gI 13 a0 33 fun v3007 =>
 br (((v3007 >>> (x7 &&& 31)) &&& 1) = 1) (gR 13 a0 32 fun v3008 =>
 nn v3008 fun a3010 =>
 aI 15 a3010 x7 fun v3009 =>
 gR 13 a0 31 fun v3011 =>
 nn v3011 fun a3013 =>
 aI 15 a3013 x7 fun v3012 =>
 br (v3012 ≤ v3009) (fX12_parted_128 k49 k61 a0 x2 x4 x5 x6 x7)
 (br (x6 < 0) (fX12_parted_124 k49 k61 a0 x2 x4 x5 x7)
 (gR 13 a0 32 fun v3014 =>
 nn v3014 fun a3016 =>
 aI 15 a3016 x7 fun v3015 =>
 gR 13 a0 32 fun v3017 =>
 nn v3017 fun a3019 =>
 aI 15 a3019 x6 fun v3018 =>
 br (v3018 ≤ v3015) (fX12_parted_128 k49 k61 a0 x2 x4 x5 x6 x7)
 (fX12_parted_124 k49 k61 a0 x2 x4 x5 x7))))
 (fX12_parted_128 k49 k61 a0 x2 x4 x5 x6 x7))
set_option maxHeartbeats 4000000 in
set_option maxRecDepth 100000 in
theorem sfX12_parted_61 {E : Ev} {l : Launch} (k49 : (Nat × Int32 × Int32 × Int32) → St → Option (Int32 × St)) (hk49 : ∀ p : Nat × Int32 × Int32 × Int32, Snd E l (dpX12_parted, RX12, cX12_parted, 8, (some .int), "parted") rvI 49 [(0, .ref (E.1 + p.1)), (2, .int p.2.1), (4, .int p.2.2.1), (5, .int p.2.2.2)] [] (k49 p)) (k61 : (Nat × Int32 × Int32 × Int32 × Int32 × Int32) → St → Option (Int32 × St)) (hk61 : ∀ p : Nat × Int32 × Int32 × Int32 × Int32 × Int32, Snd E l (dpX12_parted, RX12, cX12_parted, 8, (some .int), "parted") rvI 61 [(0, .ref (E.1 + p.1)), (2, .int p.2.1), (4, .int p.2.2.1), (5, .int p.2.2.2.1), (6, .int p.2.2.2.2.1), (7, .int p.2.2.2.2.2)] [] (k61 p)) (a0 : Nat) (x2 : Int32) (x4 : Int32) (x5 : Int32) (x6 : Int32) (x7 : Int32) : Snd E l (dpX12_parted, RX12, cX12_parted, 8, (some .int), "parted") rvI 61 [(0, .ref (E.1 + a0)), (2, .int x2), (4, .int x4), (5, .int x5), (6, .int x6), (7, .int x7)] [] (fX12_parted_61 k49 k61 a0 x2 x4 x5 x6 x7) := by
  unfold fX12_parted_61
  refine sn_iload (pc := 61) (j := 5) dX12_parted_61 rfl ?_
  refine sn_aload_n (pc := 63) (j := 0) dX12_parted_63 rfl rfl ?_
  refine sn_gR (pc := 64) dX12_parted_64 flX12_7 rfl (fun v3001 => ?_)
  refine sn_iconst (pc := 67) (v := 2) dX12_parted_67 (by decide) ?_
  rcases v3001 with _ | a3003
  · exact sn_no
  refine sn_nn ?_
  refine sn_iald (pc := 68) dX12_parted_68 (fun v3002 => ?_)
  refine sn_icmp_ge (pc := 69) (tgt := 134) dX12_parted_69 (by decide) ?_ ?_
  · refine sn_aload_n (pc := 134) (j := 0) dX12_parted_134 rfl rfl ?_
    refine sn_gR (pc := 135) dX12_parted_135 flX12_39 rfl (fun v3004 => ?_)
    refine sn_iload (pc := 138) (j := 4) dX12_parted_138 rfl ?_
    refine sn_dup2 (pc := 140) dX12_parted_140 rfl (rf_cat _ _) ?_
    rcases v3004 with _ | a3006
    · exact sn_no
    refine sn_nn ?_
    refine sn_iald (pc := 141) dX12_parted_141 (fun v3005 => ?_)
    refine sn_iconst (pc := 142) (v := 1) dX12_parted_142 (by decide) ?_
    refine sn_iadd (pc := 143) dX12_parted_143 ?_
    refine sn_iast (pc := 144) dX12_parted_144 ?_
    refine sn_iinc (pc := 145) (v := x5 + 1) (lv' := [(5, .int (x5 + 1)), (0, .ref (E.1 + a0)), (2, .int x2), (4, .int x4), (6, .int x6), (7, .int x7)]) (j := 3) dX12_parted_145 rfl rfl (by decide) rfl ?_
    refine sn_goto (pc := 148) (tgt := 49) dX12_parted_148 (by decide) ?_
    exact sn_sub (lv' := [(0, .ref (E.1 + a0)), (2, .int x2), (4, .int x4), (5, .int (x5 + 1))]) [1, 2, 3, 0] rfl (hk49 (a0, x2, x4, (x5 + 1)))
  · refine sn_aload_n (pc := 72) (j := 0) dX12_parted_72 rfl rfl ?_
    refine sn_gI (pc := 73) dX12_parted_73 flX12_289 rfl (fun v3007 => ?_)
    refine sn_iload (pc := 76) (j := 5) dX12_parted_76 rfl ?_
    refine sn_ishr (pc := 78) dX12_parted_78 ?_
    refine sn_iconst (pc := 79) (v := 1) dX12_parted_79 (by decide) ?_
    refine sn_iand (pc := 80) dX12_parted_80 ?_
    refine sn_iconst (pc := 81) (v := 1) dX12_parted_81 (by decide) ?_
    refine sn_icmp_ne (pc := 82) (tgt := 128) dX12_parted_82 (by decide) ?_ ?_
    · exact sn_sub (lv' := [(0, .ref (E.1 + a0)), (2, .int x2), (4, .int x4), (5, .int x5), (6, .int x6), (7, .int x7)]) [0, 1, 2, 3, 4, 5] rfl (sfX12_parted_128 k49 hk49 k61 hk61 a0 x2 x4 x5 x6 x7)
    · refine sn_aload_n (pc := 85) (j := 0) dX12_parted_85 rfl rfl ?_
      refine sn_gR (pc := 86) dX12_parted_86 flX12_39 rfl (fun v3008 => ?_)
      refine sn_iload (pc := 89) (j := 5) dX12_parted_89 rfl ?_
      rcases v3008 with _ | a3010
      · exact sn_no
      refine sn_nn ?_
      refine sn_iald (pc := 91) dX12_parted_91 (fun v3009 => ?_)
      refine sn_aload_n (pc := 92) (j := 0) dX12_parted_92 rfl rfl ?_
      refine sn_gR (pc := 93) dX12_parted_93 flX12_36 rfl (fun v3011 => ?_)
      refine sn_iload (pc := 96) (j := 5) dX12_parted_96 rfl ?_
      rcases v3011 with _ | a3013
      · exact sn_no
      refine sn_nn ?_
      refine sn_iald (pc := 98) dX12_parted_98 (fun v3012 => ?_)
      refine sn_icmp_ge (pc := 99) (tgt := 128) dX12_parted_99 (by decide) ?_ ?_
      · exact sn_sub (lv' := [(0, .ref (E.1 + a0)), (2, .int x2), (4, .int x4), (5, .int x5), (6, .int x6), (7, .int x7)]) [0, 1, 2, 3, 4, 5] rfl (sfX12_parted_128 k49 hk49 k61 hk61 a0 x2 x4 x5 x6 x7)
      · refine sn_iload (pc := 102) (j := 4) dX12_parted_102 rfl ?_
        refine sn_if_lt (pc := 104) (tgt := 124) dX12_parted_104 (by decide) ?_ ?_
        · exact sn_sub (lv' := [(0, .ref (E.1 + a0)), (2, .int x2), (4, .int x4), (5, .int x5), (7, .int x7)]) [0, 1, 2, 3, 5] rfl (sfX12_parted_124 k49 hk49 k61 hk61 a0 x2 x4 x5 x7)
        · refine sn_aload_n (pc := 107) (j := 0) dX12_parted_107 rfl rfl ?_
          refine sn_gR (pc := 108) dX12_parted_108 flX12_39 rfl (fun v3014 => ?_)
          refine sn_iload (pc := 111) (j := 5) dX12_parted_111 rfl ?_
          rcases v3014 with _ | a3016
          · exact sn_no
          refine sn_nn ?_
          refine sn_iald (pc := 113) dX12_parted_113 (fun v3015 => ?_)
          refine sn_aload_n (pc := 114) (j := 0) dX12_parted_114 rfl rfl ?_
          refine sn_gR (pc := 115) dX12_parted_115 flX12_39 rfl (fun v3017 => ?_)
          refine sn_iload (pc := 118) (j := 4) dX12_parted_118 rfl ?_
          rcases v3017 with _ | a3019
          · exact sn_no
          refine sn_nn ?_
          refine sn_iald (pc := 120) dX12_parted_120 (fun v3018 => ?_)
          refine sn_icmp_ge (pc := 121) (tgt := 128) dX12_parted_121 (by decide) ?_ ?_
          · exact sn_sub (lv' := [(0, .ref (E.1 + a0)), (2, .int x2), (4, .int x4), (5, .int x5), (6, .int x6), (7, .int x7)]) [0, 1, 2, 3, 4, 5] rfl (sfX12_parted_128 k49 hk49 k61 hk61 a0 x2 x4 x5 x6 x7)
          · exact sn_sub (lv' := [(0, .ref (E.1 + a0)), (2, .int x2), (4, .int x4), (5, .int x5), (7, .int x7)]) [0, 1, 2, 3, 5] rfl (sfX12_parted_124 k49 hk49 k61 hk61 a0 x2 x4 x5 x7)
def fX12_parted_49 (k49 : (Nat × Int32 × Int32 × Int32) → St → Option (Int32 × St)) (a0 : Nat) (x2 : Int32) (x4 : Int32) (x5 : Int32) : St → Option (Int32 × St) :=
 br (x2 ≤ x5) (gR 13 a0 32 fun v2001 =>
 nn v2001 fun a2003 =>
 aI 15 a2003 x4 fun v2002 =>
 rt v2002)
 (itr (fun k (p : Nat × Int32 × Int32 × Int32 × Int32 × Int32) => fX12_parted_61 k49 k p.1 p.2.1 p.2.2.1 p.2.2.2.1 p.2.2.2.2.1 p.2.2.2.2.2) FU (a0, x2, x4, x5, (-1), 0))
set_option maxHeartbeats 4000000 in
set_option maxRecDepth 100000 in
theorem sfX12_parted_49 {E : Ev} {l : Launch} (k49 : (Nat × Int32 × Int32 × Int32) → St → Option (Int32 × St)) (hk49 : ∀ p : Nat × Int32 × Int32 × Int32, Snd E l (dpX12_parted, RX12, cX12_parted, 8, (some .int), "parted") rvI 49 [(0, .ref (E.1 + p.1)), (2, .int p.2.1), (4, .int p.2.2.1), (5, .int p.2.2.2)] [] (k49 p)) (a0 : Nat) (x2 : Int32) (x4 : Int32) (x5 : Int32) : Snd E l (dpX12_parted, RX12, cX12_parted, 8, (some .int), "parted") rvI 49 [(0, .ref (E.1 + a0)), (2, .int x2), (4, .int x4), (5, .int x5)] [] (fX12_parted_49 k49 a0 x2 x4 x5) := by
  unfold fX12_parted_49
  refine sn_iload (pc := 49) (j := 3) dX12_parted_49 rfl ?_
  refine sn_iload_n (pc := 51) (j := 1) dX12_parted_51 rfl rfl ?_
  refine sn_icmp_ge (pc := 52) (tgt := 151) dX12_parted_52 (by decide) ?_ ?_
  · refine sn_aload_n (pc := 151) (j := 0) dX12_parted_151 rfl rfl ?_
    refine sn_gR (pc := 152) dX12_parted_152 flX12_39 rfl (fun v2001 => ?_)
    refine sn_iload (pc := 155) (j := 2) dX12_parted_155 rfl ?_
    rcases v2001 with _ | a2003
    · exact sn_no
    refine sn_nn ?_
    refine sn_iald (pc := 157) dX12_parted_157 (fun v2002 => ?_)
    exact sn_iret (pc := 158) dX12_parted_158 rfl
  · refine sn_iconst (pc := 55) (v := (-1)) dX12_parted_55 (by decide) ?_
    refine sn_istore (pc := 56) (i := 6) (lv' := [(6, .int (-1)), (0, .ref (E.1 + a0)), (2, .int x2), (4, .int x4), (5, .int x5)]) dX12_parted_56 (by decide) rfl ?_
    refine sn_iconst (pc := 58) (v := 0) dX12_parted_58 (by decide) ?_
    refine sn_istore (pc := 59) (i := 7) (lv' := [(7, .int 0), (6, .int (-1)), (0, .ref (E.1 + a0)), (2, .int x2), (4, .int x4), (5, .int x5)]) dX12_parted_59 (by decide) rfl ?_
    exact sn_sub (lv' := [(0, .ref (E.1 + a0)), (2, .int x2), (4, .int x4), (5, .int x5), (6, .int (-1)), (7, .int 0)]) [2, 3, 4, 5, 1, 0] rfl (sn_itr (lvf := fun p => [(0, .ref (E.1 + p.1)), (2, .int p.2.1), (4, .int p.2.2.1), (5, .int p.2.2.2.1), (6, .int p.2.2.2.2.1), (7, .int p.2.2.2.2.2)]) (stf := fun p => []) (fun k hk p => sfX12_parted_61 k49 hk49 k hk p.1 p.2.1 p.2.2.1 p.2.2.2.1 p.2.2.2.2.1 p.2.2.2.2.2) FU (a0, x2, x4, x5, (-1), 0))
def fX12_parted_25 (k25 : (Nat × Int32 × Int32 × Int32) → St → Option (Int32 × St)) (a0 : Nat) (x2 : Int32) (x4 : Int32) (x5 : Int32) : St → Option (Int32 × St) :=
 br (12 ≤ x5) (itr (fun k (p : Nat × Int32 × Int32 × Int32) => fX12_parted_49  k p.1 p.2.1 p.2.2.1 p.2.2.2) FU (a0, x2, x4, 0))
 (gR 13 a0 32 fun v1001 =>
 nn v1001 fun a1002 =>
 wI a1002 x5 0 <|
 k25 (a0, x2, x4, (x5 + 1)))
set_option maxHeartbeats 4000000 in
set_option maxRecDepth 100000 in
theorem sfX12_parted_25 {E : Ev} {l : Launch} (k25 : (Nat × Int32 × Int32 × Int32) → St → Option (Int32 × St)) (hk25 : ∀ p : Nat × Int32 × Int32 × Int32, Snd E l (dpX12_parted, RX12, cX12_parted, 8, (some .int), "parted") rvI 25 [(0, .ref (E.1 + p.1)), (2, .int p.2.1), (4, .int p.2.2.1), (5, .int p.2.2.2)] [] (k25 p)) (a0 : Nat) (x2 : Int32) (x4 : Int32) (x5 : Int32) : Snd E l (dpX12_parted, RX12, cX12_parted, 8, (some .int), "parted") rvI 25 [(0, .ref (E.1 + a0)), (2, .int x2), (4, .int x4), (5, .int x5)] [] (fX12_parted_25 k25 a0 x2 x4 x5) := by
  unfold fX12_parted_25
  refine sn_iload (pc := 25) (j := 3) dX12_parted_25 rfl ?_
  refine sn_bipush (pc := 27) (v := 12) dX12_parted_27 (by decide) ?_
  refine sn_icmp_ge (pc := 29) (tgt := 46) dX12_parted_29 (by decide) ?_ ?_
  · refine sn_iconst (pc := 46) (v := 0) dX12_parted_46 (by decide) ?_
    refine sn_istore (pc := 47) (i := 5) (lv' := [(5, .int 0), (0, .ref (E.1 + a0)), (2, .int x2), (4, .int x4)]) dX12_parted_47 (by decide) rfl ?_
    exact sn_sub (lv' := [(0, .ref (E.1 + a0)), (2, .int x2), (4, .int x4), (5, .int 0)]) [1, 2, 3, 0] rfl (sn_itr (lvf := fun p => [(0, .ref (E.1 + p.1)), (2, .int p.2.1), (4, .int p.2.2.1), (5, .int p.2.2.2)]) (stf := fun p => []) (fun k hk p => sfX12_parted_49  k hk p.1 p.2.1 p.2.2.1 p.2.2.2) FU (a0, x2, x4, 0))
  · refine sn_aload_n (pc := 32) (j := 0) dX12_parted_32 rfl rfl ?_
    refine sn_gR (pc := 33) dX12_parted_33 flX12_39 rfl (fun v1001 => ?_)
    refine sn_iload (pc := 36) (j := 3) dX12_parted_36 rfl ?_
    refine sn_iconst (pc := 38) (v := 0) dX12_parted_38 (by decide) ?_
    rcases v1001 with _ | a1002
    · exact sn_no
    refine sn_nn ?_
    refine sn_iast (pc := 39) dX12_parted_39 ?_
    refine sn_iinc (pc := 40) (v := x5 + 1) (lv' := [(5, .int (x5 + 1)), (0, .ref (E.1 + a0)), (2, .int x2), (4, .int x4)]) (j := 3) dX12_parted_40 rfl rfl (by decide) rfl ?_
    refine sn_goto (pc := 43) (tgt := 25) dX12_parted_43 (by decide) ?_
    exact sn_sub (lv' := [(0, .ref (E.1 + a0)), (2, .int x2), (4, .int x4), (5, .int (x5 + 1))]) [1, 2, 3, 0] rfl (hk25 (a0, x2, x4, (x5 + 1)))
def fX12_parted (a0 : Nat) (x1 : Int32) (x2 : Int32) (x3 : Int32) (x4 : Int32) : St → Option (Int32 × St) :=
 ck 13 a0 <| cl (fX12_isOf a0 x4 2) fun v1 =>
 br ((bi v1) = 0) (rt (-1))
 (ck 13 a0 <| cl (fX12_parts a0 x1 x2 x3) fun v2 =>
 br ((bi v2) = 0) (rt (-1))
 (itr (fun k (p : Nat × Int32 × Int32 × Int32) => fX12_parted_25  k p.1 p.2.1 p.2.2.1 p.2.2.2) FU (a0, x2, x4, 0)))
set_option maxHeartbeats 4000000 in
set_option maxRecDepth 100000 in
theorem mX12_parted {E : Ev} {l : Launch} (a0 : Nat) (x1 : Int32) (x2 : Int32) (x3 : Int32) (x4 : Int32) : MF E l dpX12_parted yX12_parted cX12_parted 8 (some .int) rvI [.ref (E.1 + a0), .int x1, .int x2, .int x3, .int x4] (fX12_parted a0 x1 x2 x3 x4) := by
  refine MF.of (lv := [(0, .ref (E.1 + a0)), (1, .int x1), (2, .int x2), (3, .int x3), (4, .int x4)]) (by decide) (Nat.le_of_ble_eq_true rfl) rfl ?_
  unfold fX12_parted
  refine sn_aload_n (pc := 0) (j := 0) dX12_parted_0 rfl rfl ?_
  refine sn_iload (pc := 1) (j := 4) dX12_parted_1 rfl ?_
  refine sn_iconst (pc := 3) (v := 2) dX12_parted_3 (by decide) ?_
  refine sn_callV (ci := 12) (pc := 4) dX12_parted_4 iX12_isOf wt6_235 ws_54 wt6_233 ⟨_, rfl, rfl⟩ (by decide) (mX12_isOf a0 x4 2) (by decide) rfl rfl (Nat.le_of_ble_eq_true rfl) (fun v1 => ?_)
  refine sn_if_eq (pc := 7) (tgt := 20) dX12_parted_7 (by decide) ?_ ?_
  · refine sn_iconst (pc := 20) (v := (-1)) dX12_parted_20 (by decide) ?_
    exact sn_iret (pc := 21) dX12_parted_21 rfl
  · refine sn_aload_n (pc := 10) (j := 0) dX12_parted_10 rfl rfl ?_
    refine sn_iload_n (pc := 11) (j := 1) dX12_parted_11 rfl rfl ?_
    refine sn_iload_n (pc := 12) (j := 2) dX12_parted_12 rfl rfl ?_
    refine sn_iload_n (pc := 13) (j := 3) dX12_parted_13 rfl rfl ?_
    refine sn_callV (ci := 12) (pc := 14) dX12_parted_14 iX12_parts wt7_148 ws_71 wt7_146 ⟨_, rfl, rfl⟩ (by decide) (mX12_parts a0 x1 x2 x3) (by decide) rfl rfl (Nat.le_of_ble_eq_true rfl) (fun v2 => ?_)
    refine sn_if_ne (pc := 17) (tgt := 22) dX12_parted_17 (by decide) ?_ ?_
    · refine sn_iconst (pc := 22) (v := 0) dX12_parted_22 (by decide) ?_
      refine sn_istore (pc := 23) (i := 5) (lv' := [(5, .int 0), (0, .ref (E.1 + a0)), (1, .int x1), (2, .int x2), (3, .int x3), (4, .int x4)]) dX12_parted_23 (by decide) rfl ?_
      exact sn_sub (lv' := [(0, .ref (E.1 + a0)), (2, .int x2), (4, .int x4), (5, .int 0)]) [1, 3, 5, 0] rfl (sn_itr (lvf := fun p => [(0, .ref (E.1 + p.1)), (2, .int p.2.1), (4, .int p.2.2.1), (5, .int p.2.2.2)]) (stf := fun p => []) (fun k hk p => sfX12_parted_25  k hk p.1 p.2.1 p.2.2.1 p.2.2.2) FU (a0, x2, x4, 0))
    · refine sn_iconst (pc := 20) (v := (-1)) dX12_parted_20 (by decide) ?_
      exact sn_iret (pc := 21) dX12_parted_21 rfl
theorem iX12_parted : MI yX12_parted cX12_parted 8 (some .int) 4 := ⟨wt1_10, wt7_165, by decide +kernel, by decide⟩
-- NeedleHomesModel look(IIII)Z
theorem dX12_look_0 : decode cX12_look 0 = .ok (.aload_n 0, 1) := by decide +kernel
theorem dX12_look_1 : decode cX12_look 1 = .ok (.iload_n 1, 1) := by decide +kernel
theorem dX12_look_2 : decode cX12_look 2 = .ok (.iconst 3, 1) := by decide +kernel
theorem dX12_look_3 : decode cX12_look 3 = .ok (.invokevirtual 178, 3) := by decide +kernel
theorem dX12_look_6 : decode cX12_look 6 = .ok (.ifCond .eq 33, 3) := by decide +kernel
theorem dX12_look_9 : decode cX12_look 9 = .ok (.iload_n 2, 1) := by decide +kernel
theorem dX12_look_10 : decode cX12_look 10 = .ok (.iconst 0, 1) := by decide +kernel
theorem dX12_look_11 : decode cX12_look 11 = .ok (.iconst 5, 1) := by decide +kernel
theorem dX12_look_12 : decode cX12_look 12 = .ok (.invokestatic 51, 3) := by decide +kernel
theorem dX12_look_15 : decode cX12_look 15 = .ok (.ifCond .eq 24, 3) := by decide +kernel
theorem dX12_look_18 : decode cX12_look 18 = .ok (.iload_n 3, 1) := by decide +kernel
theorem dX12_look_19 : decode cX12_look 19 = .ok (.iconst 1, 1) := by decide +kernel
theorem dX12_look_20 : decode cX12_look 20 = .ok (.sipush 999, 3) := by decide +kernel
theorem dX12_look_23 : decode cX12_look 23 = .ok (.invokestatic 51, 3) := by decide +kernel
theorem dX12_look_26 : decode cX12_look 26 = .ok (.ifCond .eq 13, 3) := by decide +kernel
theorem dX12_look_29 : decode cX12_look 29 = .ok (.iload 4, 2) := by decide +kernel
theorem dX12_look_31 : decode cX12_look 31 = .ok (.iconst 0, 1) := by decide +kernel
theorem dX12_look_32 : decode cX12_look 32 = .ok (.iload_n 3, 1) := by decide +kernel
theorem dX12_look_33 : decode cX12_look 33 = .ok (.invokestatic 51, 3) := by decide +kernel
theorem dX12_look_36 : decode cX12_look 36 = .ok (.ifCond .ne 5, 3) := by decide +kernel
theorem dX12_look_39 : decode cX12_look 39 = .ok (.iconst 0, 1) := by decide +kernel
theorem dX12_look_40 : decode cX12_look 40 = .ok (.ireturn, 1) := by decide +kernel
theorem dX12_look_41 : decode cX12_look 41 = .ok (.aload_n 0, 1) := by decide +kernel
theorem dX12_look_42 : decode cX12_look 42 = .ok (.getfield 7, 3) := by decide +kernel
theorem dX12_look_45 : decode cX12_look 45 = .ok (.sipush 5360, 3) := by decide +kernel
theorem dX12_look_48 : decode cX12_look 48 = .ok (.bipush 28, 2) := by decide +kernel
theorem dX12_look_50 : decode cX12_look 50 = .ok (.iload_n 1, 1) := by decide +kernel
theorem dX12_look_51 : decode cX12_look 51 = .ok (.imul, 1) := by decide +kernel
theorem dX12_look_52 : decode cX12_look 52 = .ok (.iadd, 1) := by decide +kernel
theorem dX12_look_53 : decode cX12_look 53 = .ok (.bipush 16, 2) := by decide +kernel
theorem dX12_look_55 : decode cX12_look 55 = .ok (.iadd, 1) := by decide +kernel
theorem dX12_look_56 : decode cX12_look 56 = .ok (.iconst 2, 1) := by decide +kernel
theorem dX12_look_57 : decode cX12_look 57 = .ok (.iload_n 2, 1) := by decide +kernel
theorem dX12_look_58 : decode cX12_look 58 = .ok (.imul, 1) := by decide +kernel
theorem dX12_look_59 : decode cX12_look 59 = .ok (.iadd, 1) := by decide +kernel
theorem dX12_look_60 : decode cX12_look 60 = .ok (.iload_n 3, 1) := by decide +kernel
theorem dX12_look_61 : decode cX12_look 61 = .ok (.iastore, 1) := by decide +kernel
theorem dX12_look_62 : decode cX12_look 62 = .ok (.aload_n 0, 1) := by decide +kernel
theorem dX12_look_63 : decode cX12_look 63 = .ok (.getfield 7, 3) := by decide +kernel
theorem dX12_look_66 : decode cX12_look 66 = .ok (.sipush 5360, 3) := by decide +kernel
theorem dX12_look_69 : decode cX12_look 69 = .ok (.bipush 28, 2) := by decide +kernel
theorem dX12_look_71 : decode cX12_look 71 = .ok (.iload_n 1, 1) := by decide +kernel
theorem dX12_look_72 : decode cX12_look 72 = .ok (.imul, 1) := by decide +kernel
theorem dX12_look_73 : decode cX12_look 73 = .ok (.iadd, 1) := by decide +kernel
theorem dX12_look_74 : decode cX12_look 74 = .ok (.bipush 17, 2) := by decide +kernel
theorem dX12_look_76 : decode cX12_look 76 = .ok (.iadd, 1) := by decide +kernel
theorem dX12_look_77 : decode cX12_look 77 = .ok (.iconst 2, 1) := by decide +kernel
theorem dX12_look_78 : decode cX12_look 78 = .ok (.iload_n 2, 1) := by decide +kernel
theorem dX12_look_79 : decode cX12_look 79 = .ok (.imul, 1) := by decide +kernel
theorem dX12_look_80 : decode cX12_look 80 = .ok (.iadd, 1) := by decide +kernel
theorem dX12_look_81 : decode cX12_look 81 = .ok (.iload 4, 2) := by decide +kernel
theorem dX12_look_83 : decode cX12_look 83 = .ok (.iastore, 1) := by decide +kernel
theorem dX12_look_84 : decode cX12_look 84 = .ok (.iconst 1, 1) := by decide +kernel
theorem dX12_look_85 : decode cX12_look 85 = .ok (.ireturn, 1) := by decide +kernel
abbrev dpX12_look : Nat := 2
def fX12_look (a0 : Nat) (x1 : Int32) (x2 : Int32) (x3 : Int32) (x4 : Int32) : St → Option (Bool × St) :=
 ck 13 a0 <| cl (fX12_isOf a0 x1 3) fun v1 =>
 br ((bi v1) = 0) (rtZ 0)
 (cl (fX12_isIn x2 0 5) fun v2 =>
 br ((bi v2) = 0) (rtZ 0)
 (cl (fX12_isIn x3 1 999) fun v3 =>
 br ((bi v3) = 0) (rtZ 0)
 (cl (fX12_isIn x4 0 x3) fun v4 =>
 br ((bi v4) = 0) (rtZ 0)
 (gR 13 a0 0 fun v5 =>
 nn v5 fun a6 =>
 wI a6 (((5360 + (28 * x1)) + 16) + (2 * x2)) x3 <|
 gR 13 a0 0 fun v7 =>
 nn v7 fun a8 =>
 wI a8 (((5360 + (28 * x1)) + 17) + (2 * x2)) x4 <|
 rtZ 1))))
set_option maxHeartbeats 4000000 in
set_option maxRecDepth 100000 in
theorem mX12_look {E : Ev} {l : Launch} (a0 : Nat) (x1 : Int32) (x2 : Int32) (x3 : Int32) (x4 : Int32) : MF E l dpX12_look yX12_look cX12_look 5 (some .boolean) rvZ [.ref (E.1 + a0), .int x1, .int x2, .int x3, .int x4] (fX12_look a0 x1 x2 x3 x4) := by
  refine MF.of (lv := [(0, .ref (E.1 + a0)), (1, .int x1), (2, .int x2), (3, .int x3), (4, .int x4)]) (by decide) (Nat.le_of_ble_eq_true rfl) rfl ?_
  unfold fX12_look
  refine sn_aload_n (pc := 0) (j := 0) dX12_look_0 rfl rfl ?_
  refine sn_iload_n (pc := 1) (j := 1) dX12_look_1 rfl rfl ?_
  refine sn_iconst (pc := 2) (v := 3) dX12_look_2 (by decide) ?_
  refine sn_callV (ci := 12) (pc := 3) dX12_look_3 iX12_isOf wt6_235 ws_54 wt6_233 ⟨_, rfl, rfl⟩ (by decide) (mX12_isOf a0 x1 3) (by decide) rfl rfl (Nat.le_of_ble_eq_true rfl) (fun v1 => ?_)
  refine sn_if_eq (pc := 6) (tgt := 39) dX12_look_6 (by decide) ?_ ?_
  · refine sn_iconst (pc := 39) (v := 0) dX12_look_39 (by decide) ?_
    exact sn_zret (pc := 40) dX12_look_40 rfl
  · refine sn_iload_n (pc := 9) (j := 2) dX12_look_9 rfl rfl ?_
    refine sn_iconst (pc := 10) (v := 0) dX12_look_10 (by decide) ?_
    refine sn_iconst (pc := 11) (v := 5) dX12_look_11 (by decide) ?_
    refine sn_callS (pc := 12) dX12_look_12 iX12_isIn wt6_138 wt6_137 (mX12_isIn x2 0 5) (by decide) rfl rfl (Nat.le_of_ble_eq_true rfl) (fun v2 => ?_)
    refine sn_if_eq (pc := 15) (tgt := 39) dX12_look_15 (by decide) ?_ ?_
    · refine sn_iconst (pc := 39) (v := 0) dX12_look_39 (by decide) ?_
      exact sn_zret (pc := 40) dX12_look_40 rfl
    · refine sn_iload_n (pc := 18) (j := 3) dX12_look_18 rfl rfl ?_
      refine sn_iconst (pc := 19) (v := 1) dX12_look_19 (by decide) ?_
      refine sn_sipush (pc := 20) (v := 999) dX12_look_20 (by decide) ?_
      refine sn_callS (pc := 23) dX12_look_23 iX12_isIn wt6_138 wt6_137 (mX12_isIn x3 1 999) (by decide) rfl rfl (Nat.le_of_ble_eq_true rfl) (fun v3 => ?_)
      refine sn_if_eq (pc := 26) (tgt := 39) dX12_look_26 (by decide) ?_ ?_
      · refine sn_iconst (pc := 39) (v := 0) dX12_look_39 (by decide) ?_
        exact sn_zret (pc := 40) dX12_look_40 rfl
      · refine sn_iload (pc := 29) (j := 4) dX12_look_29 rfl ?_
        refine sn_iconst (pc := 31) (v := 0) dX12_look_31 (by decide) ?_
        refine sn_iload_n (pc := 32) (j := 3) dX12_look_32 rfl rfl ?_
        refine sn_callS (pc := 33) dX12_look_33 iX12_isIn wt6_138 wt6_137 (mX12_isIn x4 0 x3) (by decide) rfl rfl (Nat.le_of_ble_eq_true rfl) (fun v4 => ?_)
        refine sn_if_ne (pc := 36) (tgt := 41) dX12_look_36 (by decide) ?_ ?_
        · refine sn_aload_n (pc := 41) (j := 0) dX12_look_41 rfl rfl ?_
          refine sn_gR (pc := 42) dX12_look_42 flX12_7 rfl (fun v5 => ?_)
          refine sn_sipush (pc := 45) (v := 5360) dX12_look_45 (by decide) ?_
          refine sn_bipush (pc := 48) (v := 28) dX12_look_48 (by decide) ?_
          refine sn_iload_n (pc := 50) (j := 1) dX12_look_50 rfl rfl ?_
          refine sn_imul (pc := 51) dX12_look_51 ?_
          refine sn_iadd (pc := 52) dX12_look_52 ?_
          refine sn_bipush (pc := 53) (v := 16) dX12_look_53 (by decide) ?_
          refine sn_iadd (pc := 55) dX12_look_55 ?_
          refine sn_iconst (pc := 56) (v := 2) dX12_look_56 (by decide) ?_
          refine sn_iload_n (pc := 57) (j := 2) dX12_look_57 rfl rfl ?_
          refine sn_imul (pc := 58) dX12_look_58 ?_
          refine sn_iadd (pc := 59) dX12_look_59 ?_
          refine sn_iload_n (pc := 60) (j := 3) dX12_look_60 rfl rfl ?_
          rcases v5 with _ | a6
          · exact sn_no
          refine sn_nn ?_
          refine sn_iast (pc := 61) dX12_look_61 ?_
          refine sn_aload_n (pc := 62) (j := 0) dX12_look_62 rfl rfl ?_
          refine sn_gR (pc := 63) dX12_look_63 flX12_7 rfl (fun v7 => ?_)
          refine sn_sipush (pc := 66) (v := 5360) dX12_look_66 (by decide) ?_
          refine sn_bipush (pc := 69) (v := 28) dX12_look_69 (by decide) ?_
          refine sn_iload_n (pc := 71) (j := 1) dX12_look_71 rfl rfl ?_
          refine sn_imul (pc := 72) dX12_look_72 ?_
          refine sn_iadd (pc := 73) dX12_look_73 ?_
          refine sn_bipush (pc := 74) (v := 17) dX12_look_74 (by decide) ?_
          refine sn_iadd (pc := 76) dX12_look_76 ?_
          refine sn_iconst (pc := 77) (v := 2) dX12_look_77 (by decide) ?_
          refine sn_iload_n (pc := 78) (j := 2) dX12_look_78 rfl rfl ?_
          refine sn_imul (pc := 79) dX12_look_79 ?_
          refine sn_iadd (pc := 80) dX12_look_80 ?_
          refine sn_iload (pc := 81) (j := 4) dX12_look_81 rfl ?_
          rcases v7 with _ | a8
          · exact sn_no
          refine sn_nn ?_
          refine sn_iast (pc := 83) dX12_look_83 ?_
          refine sn_iconst (pc := 84) (v := 1) dX12_look_84 (by decide) ?_
          exact sn_zret (pc := 85) dX12_look_85 rfl
        · refine sn_iconst (pc := 39) (v := 0) dX12_look_39 (by decide) ?_
          exact sn_zret (pc := 40) dX12_look_40 rfl
theorem iX12_look : MI yX12_look cX12_look 5 (some .boolean) 4 := ⟨wt1_10, wt7_169, by decide +kernel, by decide⟩
-- NeedleHomesModel unlikeness(II)I
theorem dX12_unlikeness_0 : decode cX12_unlikeness 0 = .ok (.iconst 0, 1) := by decide +kernel
theorem dX12_unlikeness_1 : decode cX12_unlikeness 1 = .ok (.istore_n 3, 1) := by decide +kernel
theorem dX12_unlikeness_2 : decode cX12_unlikeness 2 = .ok (.iconst 0, 1) := by decide +kernel
theorem dX12_unlikeness_3 : decode cX12_unlikeness 3 = .ok (.istore 4, 2) := by decide +kernel
theorem dX12_unlikeness_5 : decode cX12_unlikeness 5 = .ok (.iload 4, 2) := by decide +kernel
theorem dX12_unlikeness_7 : decode cX12_unlikeness 7 = .ok (.bipush 6, 2) := by decide +kernel
theorem dX12_unlikeness_9 : decode cX12_unlikeness 9 = .ok (.if_icmp .ge 65, 3) := by decide +kernel
theorem dX12_unlikeness_12 : decode cX12_unlikeness 12 = .ok (.bipush 100, 2) := by decide +kernel
theorem dX12_unlikeness_14 : decode cX12_unlikeness 14 = .ok (.aload_n 0, 1) := by decide +kernel
theorem dX12_unlikeness_15 : decode cX12_unlikeness 15 = .ok (.iload_n 1, 1) := by decide +kernel
theorem dX12_unlikeness_16 : decode cX12_unlikeness 16 = .ok (.bipush 17, 2) := by decide +kernel
theorem dX12_unlikeness_18 : decode cX12_unlikeness 18 = .ok (.iconst 2, 1) := by decide +kernel
theorem dX12_unlikeness_19 : decode cX12_unlikeness 19 = .ok (.iload 4, 2) := by decide +kernel
theorem dX12_unlikeness_21 : decode cX12_unlikeness 21 = .ok (.imul, 1) := by decide +kernel
theorem dX12_unlikeness_22 : decode cX12_unlikeness 22 = .ok (.iadd, 1) := by decide +kernel
theorem dX12_unlikeness_23 : decode cX12_unlikeness 23 = .ok (.invokevirtual 256, 3) := by decide +kernel
theorem dX12_unlikeness_26 : decode cX12_unlikeness 26 = .ok (.imul, 1) := by decide +kernel
theorem dX12_unlikeness_27 : decode cX12_unlikeness 27 = .ok (.aload_n 0, 1) := by decide +kernel
theorem dX12_unlikeness_28 : decode cX12_unlikeness 28 = .ok (.iload_n 2, 1) := by decide +kernel
theorem dX12_unlikeness_29 : decode cX12_unlikeness 29 = .ok (.iconst 5, 1) := by decide +kernel
theorem dX12_unlikeness_30 : decode cX12_unlikeness 30 = .ok (.iload 4, 2) := by decide +kernel
theorem dX12_unlikeness_32 : decode cX12_unlikeness 32 = .ok (.iadd, 1) := by decide +kernel
theorem dX12_unlikeness_33 : decode cX12_unlikeness 33 = .ok (.invokevirtual 211, 3) := by decide +kernel
theorem dX12_unlikeness_36 : decode cX12_unlikeness 36 = .ok (.aload_n 0, 1) := by decide +kernel
theorem dX12_unlikeness_37 : decode cX12_unlikeness 37 = .ok (.iload_n 1, 1) := by decide +kernel
theorem dX12_unlikeness_38 : decode cX12_unlikeness 38 = .ok (.bipush 16, 2) := by decide +kernel
theorem dX12_unlikeness_40 : decode cX12_unlikeness 40 = .ok (.iconst 2, 1) := by decide +kernel
theorem dX12_unlikeness_41 : decode cX12_unlikeness 41 = .ok (.iload 4, 2) := by decide +kernel
theorem dX12_unlikeness_43 : decode cX12_unlikeness 43 = .ok (.imul, 1) := by decide +kernel
theorem dX12_unlikeness_44 : decode cX12_unlikeness 44 = .ok (.iadd, 1) := by decide +kernel
theorem dX12_unlikeness_45 : decode cX12_unlikeness 45 = .ok (.invokevirtual 256, 3) := by decide +kernel
theorem dX12_unlikeness_48 : decode cX12_unlikeness 48 = .ok (.imul, 1) := by decide +kernel
theorem dX12_unlikeness_49 : decode cX12_unlikeness 49 = .ok (.isub, 1) := by decide +kernel
theorem dX12_unlikeness_50 : decode cX12_unlikeness 50 = .ok (.istore 5, 2) := by decide +kernel
theorem dX12_unlikeness_52 : decode cX12_unlikeness 52 = .ok (.iload_n 3, 1) := by decide +kernel
theorem dX12_unlikeness_53 : decode cX12_unlikeness 53 = .ok (.iload 5, 2) := by decide +kernel
theorem dX12_unlikeness_55 : decode cX12_unlikeness 55 = .ok (.ifCond .ge 9, 3) := by decide +kernel
theorem dX12_unlikeness_58 : decode cX12_unlikeness 58 = .ok (.iload 5, 2) := by decide +kernel
theorem dX12_unlikeness_60 : decode cX12_unlikeness 60 = .ok (.ineg, 1) := by decide +kernel
theorem dX12_unlikeness_61 : decode cX12_unlikeness 61 = .ok (.goto 5, 3) := by decide +kernel
theorem dX12_unlikeness_64 : decode cX12_unlikeness 64 = .ok (.iload 5, 2) := by decide +kernel
theorem dX12_unlikeness_66 : decode cX12_unlikeness 66 = .ok (.iadd, 1) := by decide +kernel
theorem dX12_unlikeness_67 : decode cX12_unlikeness 67 = .ok (.istore_n 3, 1) := by decide +kernel
theorem dX12_unlikeness_68 : decode cX12_unlikeness 68 = .ok (.iinc 4 1, 3) := by decide +kernel
theorem dX12_unlikeness_71 : decode cX12_unlikeness 71 = .ok (.goto (-66), 3) := by decide +kernel
theorem dX12_unlikeness_74 : decode cX12_unlikeness 74 = .ok (.iload_n 3, 1) := by decide +kernel
theorem dX12_unlikeness_75 : decode cX12_unlikeness 75 = .ok (.ireturn, 1) := by decide +kernel
abbrev dpX12_unlikeness : Nat := 1
def fX12_unlikeness_66 (k5 : (Nat × Int32 × Int32 × Int32 × Int32) → St → Option (Int32 × St)) (a0 : Nat) (x1 : Int32) (x2 : Int32) (x4 : Int32) (y0 : Int32) (y1 : Int32) : St → Option (Int32 × St) :=
 k5 (a0, x1, x2, (y1 + y0), (x4 + 1))
set_option maxHeartbeats 4000000 in
set_option maxRecDepth 100000 in
theorem sfX12_unlikeness_66 {E : Ev} {l : Launch} (k5 : (Nat × Int32 × Int32 × Int32 × Int32) → St → Option (Int32 × St)) (hk5 : ∀ p : Nat × Int32 × Int32 × Int32 × Int32, Snd E l (dpX12_unlikeness, RX12, cX12_unlikeness, 6, (some .int), "unlikeness") rvI 5 [(0, .ref (E.1 + p.1)), (1, .int p.2.1), (2, .int p.2.2.1), (3, .int p.2.2.2.1), (4, .int p.2.2.2.2)] [] (k5 p)) (a0 : Nat) (x1 : Int32) (x2 : Int32) (x4 : Int32) (y0 : Int32) (y1 : Int32) : Snd E l (dpX12_unlikeness, RX12, cX12_unlikeness, 6, (some .int), "unlikeness") rvI 66 [(0, .ref (E.1 + a0)), (1, .int x1), (2, .int x2), (4, .int x4)] [.int y0, .int y1] (fX12_unlikeness_66 k5 a0 x1 x2 x4 y0 y1) := by
  unfold fX12_unlikeness_66
  refine sn_iadd (pc := 66) dX12_unlikeness_66 ?_
  refine sn_istore_n (pc := 67) (i := 3) (lv' := [(3, .int (y1 + y0)), (0, .ref (E.1 + a0)), (1, .int x1), (2, .int x2), (4, .int x4)]) dX12_unlikeness_67 rfl (by decide) rfl ?_
  refine sn_iinc (pc := 68) (v := x4 + 1) (lv' := [(4, .int (x4 + 1)), (3, .int (y1 + y0)), (0, .ref (E.1 + a0)), (1, .int x1), (2, .int x2)]) (j := 4) dX12_unlikeness_68 rfl rfl (by decide) rfl ?_
  refine sn_goto (pc := 71) (tgt := 5) dX12_unlikeness_71 (by decide) ?_
  exact sn_sub (lv' := [(0, .ref (E.1 + a0)), (1, .int x1), (2, .int x2), (3, .int (y1 + y0)), (4, .int (x4 + 1))]) [2, 3, 4, 1, 0] rfl (hk5 (a0, x1, x2, (y1 + y0), (x4 + 1)))
def fX12_unlikeness_5 (k5 : (Nat × Int32 × Int32 × Int32 × Int32) → St → Option (Int32 × St)) (a0 : Nat) (x1 : Int32) (x2 : Int32) (x3 : Int32) (x4 : Int32) : St → Option (Int32 × St) :=
 br (6 ≤ x4) (rt x3)
 (ck 13 a0 <| cl (fX12_pieceOf a0 x1 (17 + (2 * x4))) fun v1001 =>
 ck 13 a0 <| cl (fX12_handOf a0 x2 (5 + x4)) fun v1002 =>
 ck 13 a0 <| cl (fX12_pieceOf a0 x1 (16 + (2 * x4))) fun v1003 =>
 br (0 ≤ ((100 * v1001) - (v1002 * v1003))) (fX12_unlikeness_66 k5 a0 x1 x2 x4 ((100 * v1001) - (v1002 * v1003)) x3)
 (fX12_unlikeness_66 k5 a0 x1 x2 x4 (-((100 * v1001) - (v1002 * v1003))) x3))
set_option maxHeartbeats 4000000 in
set_option maxRecDepth 100000 in
theorem sfX12_unlikeness_5 {E : Ev} {l : Launch} (k5 : (Nat × Int32 × Int32 × Int32 × Int32) → St → Option (Int32 × St)) (hk5 : ∀ p : Nat × Int32 × Int32 × Int32 × Int32, Snd E l (dpX12_unlikeness, RX12, cX12_unlikeness, 6, (some .int), "unlikeness") rvI 5 [(0, .ref (E.1 + p.1)), (1, .int p.2.1), (2, .int p.2.2.1), (3, .int p.2.2.2.1), (4, .int p.2.2.2.2)] [] (k5 p)) (a0 : Nat) (x1 : Int32) (x2 : Int32) (x3 : Int32) (x4 : Int32) : Snd E l (dpX12_unlikeness, RX12, cX12_unlikeness, 6, (some .int), "unlikeness") rvI 5 [(0, .ref (E.1 + a0)), (1, .int x1), (2, .int x2), (3, .int x3), (4, .int x4)] [] (fX12_unlikeness_5 k5 a0 x1 x2 x3 x4) := by
  unfold fX12_unlikeness_5
  refine sn_iload (pc := 5) (j := 4) dX12_unlikeness_5 rfl ?_
  refine sn_bipush (pc := 7) (v := 6) dX12_unlikeness_7 (by decide) ?_
  refine sn_icmp_ge (pc := 9) (tgt := 74) dX12_unlikeness_9 (by decide) ?_ ?_
  · refine sn_iload_n (pc := 74) (j := 3) dX12_unlikeness_74 rfl rfl ?_
    exact sn_iret (pc := 75) dX12_unlikeness_75 rfl
  · refine sn_bipush (pc := 12) (v := 100) dX12_unlikeness_12 (by decide) ?_
    refine sn_aload_n (pc := 14) (j := 0) dX12_unlikeness_14 rfl rfl ?_
    refine sn_iload_n (pc := 15) (j := 1) dX12_unlikeness_15 rfl rfl ?_
    refine sn_bipush (pc := 16) (v := 17) dX12_unlikeness_16 (by decide) ?_
    refine sn_iconst (pc := 18) (v := 2) dX12_unlikeness_18 (by decide) ?_
    refine sn_iload (pc := 19) (j := 4) dX12_unlikeness_19 rfl ?_
    refine sn_imul (pc := 21) dX12_unlikeness_21 ?_
    refine sn_iadd (pc := 22) dX12_unlikeness_22 ?_
    refine sn_callV (ci := 12) (pc := 23) dX12_unlikeness_23 iX12_pieceOf wt7_94 ws_67 wt7_92 ⟨_, rfl, rfl⟩ (by decide) (mX12_pieceOf a0 x1 (17 + (2 * x4))) (by decide) rfl rfl (Nat.le_of_ble_eq_true rfl) (fun v1001 => ?_)
    refine sn_imul (pc := 26) dX12_unlikeness_26 ?_
    refine sn_aload_n (pc := 27) (j := 0) dX12_unlikeness_27 rfl rfl ?_
    refine sn_iload_n (pc := 28) (j := 2) dX12_unlikeness_28 rfl rfl ?_
    refine sn_iconst (pc := 29) (v := 5) dX12_unlikeness_29 (by decide) ?_
    refine sn_iload (pc := 30) (j := 4) dX12_unlikeness_30 rfl ?_
    refine sn_iadd (pc := 32) dX12_unlikeness_32 ?_
    refine sn_callV (ci := 12) (pc := 33) dX12_unlikeness_33 iX12_handOf wt7_50 ws_62 wt7_48 ⟨_, rfl, rfl⟩ (by decide) (mX12_handOf a0 x2 (5 + x4)) (by decide) rfl rfl (Nat.le_of_ble_eq_true rfl) (fun v1002 => ?_)
    refine sn_aload_n (pc := 36) (j := 0) dX12_unlikeness_36 rfl rfl ?_
    refine sn_iload_n (pc := 37) (j := 1) dX12_unlikeness_37 rfl rfl ?_
    refine sn_bipush (pc := 38) (v := 16) dX12_unlikeness_38 (by decide) ?_
    refine sn_iconst (pc := 40) (v := 2) dX12_unlikeness_40 (by decide) ?_
    refine sn_iload (pc := 41) (j := 4) dX12_unlikeness_41 rfl ?_
    refine sn_imul (pc := 43) dX12_unlikeness_43 ?_
    refine sn_iadd (pc := 44) dX12_unlikeness_44 ?_
    refine sn_callV (ci := 12) (pc := 45) dX12_unlikeness_45 iX12_pieceOf wt7_94 ws_67 wt7_92 ⟨_, rfl, rfl⟩ (by decide) (mX12_pieceOf a0 x1 (16 + (2 * x4))) (by decide) rfl rfl (Nat.le_of_ble_eq_true rfl) (fun v1003 => ?_)
    refine sn_imul (pc := 48) dX12_unlikeness_48 ?_
    refine sn_isub (pc := 49) dX12_unlikeness_49 ?_
    refine sn_istore (pc := 50) (i := 5) (lv' := [(5, .int ((100 * v1001) - (v1002 * v1003))), (0, .ref (E.1 + a0)), (1, .int x1), (2, .int x2), (3, .int x3), (4, .int x4)]) dX12_unlikeness_50 (by decide) rfl ?_
    refine sn_iload_n (pc := 52) (j := 4) dX12_unlikeness_52 rfl rfl ?_
    refine sn_iload (pc := 53) (j := 0) dX12_unlikeness_53 rfl ?_
    refine sn_if_ge (pc := 55) (tgt := 64) dX12_unlikeness_55 (by decide) ?_ ?_
    · refine sn_iload (pc := 64) (j := 0) dX12_unlikeness_64 rfl ?_
      exact sn_sub (lv' := [(0, .ref (E.1 + a0)), (1, .int x1), (2, .int x2), (4, .int x4)]) [1, 2, 3, 5] rfl (sfX12_unlikeness_66 k5 hk5 a0 x1 x2 x4 ((100 * v1001) - (v1002 * v1003)) x3)
    · refine sn_iload (pc := 58) (j := 0) dX12_unlikeness_58 rfl ?_
      refine sn_ineg (pc := 60) dX12_unlikeness_60 ?_
      refine sn_goto (pc := 61) (tgt := 66) dX12_unlikeness_61 (by decide) ?_
      exact sn_sub (lv' := [(0, .ref (E.1 + a0)), (1, .int x1), (2, .int x2), (4, .int x4)]) [1, 2, 3, 5] rfl (sfX12_unlikeness_66 k5 hk5 a0 x1 x2 x4 (-((100 * v1001) - (v1002 * v1003))) x3)
def fX12_unlikeness (a0 : Nat) (x1 : Int32) (x2 : Int32) : St → Option (Int32 × St) :=
 itr (fun k (p : Nat × Int32 × Int32 × Int32 × Int32) => fX12_unlikeness_5  k p.1 p.2.1 p.2.2.1 p.2.2.2.1 p.2.2.2.2) FU (a0, x1, x2, 0, 0)
set_option maxHeartbeats 4000000 in
set_option maxRecDepth 100000 in
theorem mX12_unlikeness {E : Ev} {l : Launch} (a0 : Nat) (x1 : Int32) (x2 : Int32) : MF E l dpX12_unlikeness yX12_unlikeness cX12_unlikeness 6 (some .int) rvI [.ref (E.1 + a0), .int x1, .int x2] (fX12_unlikeness a0 x1 x2) := by
  refine MF.of (lv := [(0, .ref (E.1 + a0)), (1, .int x1), (2, .int x2)]) (by decide) (Nat.le_of_ble_eq_true rfl) rfl ?_
  unfold fX12_unlikeness
  refine sn_iconst (pc := 0) (v := 0) dX12_unlikeness_0 (by decide) ?_
  refine sn_istore_n (pc := 1) (i := 3) (lv' := [(3, .int 0), (0, .ref (E.1 + a0)), (1, .int x1), (2, .int x2)]) dX12_unlikeness_1 rfl (by decide) rfl ?_
  refine sn_iconst (pc := 2) (v := 0) dX12_unlikeness_2 (by decide) ?_
  refine sn_istore (pc := 3) (i := 4) (lv' := [(4, .int 0), (3, .int 0), (0, .ref (E.1 + a0)), (1, .int x1), (2, .int x2)]) dX12_unlikeness_3 (by decide) rfl ?_
  exact sn_sub (lv' := [(0, .ref (E.1 + a0)), (1, .int x1), (2, .int x2), (3, .int 0), (4, .int 0)]) [2, 3, 4, 1, 0] rfl (sn_itr (lvf := fun p => [(0, .ref (E.1 + p.1)), (1, .int p.2.1), (2, .int p.2.2.1), (3, .int p.2.2.2.1), (4, .int p.2.2.2.2)]) (stf := fun p => []) (fun k hk p => sfX12_unlikeness_5  k hk p.1 p.2.1 p.2.2.1 p.2.2.2.1 p.2.2.2.2) FU (a0, x1, x2, 0, 0))
theorem iX12_unlikeness : MI yX12_unlikeness cX12_unlikeness 6 (some .int) 2 := ⟨wt1_10, wt7_177, by decide +kernel, by decide⟩
-- NeedleHomesModel unlike(II)I
theorem dX12_unlike_0 : decode cX12_unlike 0 = .ok (.aload_n 0, 1) := by decide +kernel
theorem dX12_unlike_1 : decode cX12_unlike 1 = .ok (.iload_n 1, 1) := by decide +kernel
theorem dX12_unlike_2 : decode cX12_unlike 2 = .ok (.iconst 3, 1) := by decide +kernel
theorem dX12_unlike_3 : decode cX12_unlike 3 = .ok (.invokevirtual 178, 3) := by decide +kernel
theorem dX12_unlike_6 : decode cX12_unlike 6 = .ok (.ifCond .eq 21, 3) := by decide +kernel
theorem dX12_unlike_9 : decode cX12_unlike 9 = .ok (.aload_n 0, 1) := by decide +kernel
theorem dX12_unlike_10 : decode cX12_unlike 10 = .ok (.iload_n 2, 1) := by decide +kernel
theorem dX12_unlike_11 : decode cX12_unlike 11 = .ok (.iconst 2, 1) := by decide +kernel
theorem dX12_unlike_12 : decode cX12_unlike 12 = .ok (.invokevirtual 178, 3) := by decide +kernel
theorem dX12_unlike_15 : decode cX12_unlike 15 = .ok (.ifCond .eq 12, 3) := by decide +kernel
theorem dX12_unlike_18 : decode cX12_unlike 18 = .ok (.aload_n 0, 1) := by decide +kernel
theorem dX12_unlike_19 : decode cX12_unlike 19 = .ok (.iload_n 1, 1) := by decide +kernel
theorem dX12_unlike_20 : decode cX12_unlike 20 = .ok (.iload_n 2, 1) := by decide +kernel
theorem dX12_unlike_21 : decode cX12_unlike 21 = .ok (.invokevirtual 304, 3) := by decide +kernel
theorem dX12_unlike_24 : decode cX12_unlike 24 = .ok (.goto 4, 3) := by decide +kernel
theorem dX12_unlike_27 : decode cX12_unlike 27 = .ok (.iconst (-1), 1) := by decide +kernel
theorem dX12_unlike_28 : decode cX12_unlike 28 = .ok (.ireturn, 1) := by decide +kernel
abbrev dpX12_unlike : Nat := 2
def fX12_unlike (a0 : Nat) (x1 : Int32) (x2 : Int32) : St → Option (Int32 × St) :=
 ck 13 a0 <| cl (fX12_isOf a0 x1 3) fun v1 =>
 br ((bi v1) = 0) (rt (-1))
 (ck 13 a0 <| cl (fX12_isOf a0 x2 2) fun v2 =>
 br ((bi v2) = 0) (rt (-1))
 (ck 13 a0 <| cl (fX12_unlikeness a0 x1 x2) fun v3 =>
 rt v3))
set_option maxHeartbeats 4000000 in
set_option maxRecDepth 100000 in
theorem mX12_unlike {E : Ev} {l : Launch} (a0 : Nat) (x1 : Int32) (x2 : Int32) : MF E l dpX12_unlike yX12_unlike cX12_unlike 3 (some .int) rvI [.ref (E.1 + a0), .int x1, .int x2] (fX12_unlike a0 x1 x2) := by
  refine MF.of (lv := [(0, .ref (E.1 + a0)), (1, .int x1), (2, .int x2)]) (by decide) (Nat.le_of_ble_eq_true rfl) rfl ?_
  unfold fX12_unlike
  refine sn_aload_n (pc := 0) (j := 0) dX12_unlike_0 rfl rfl ?_
  refine sn_iload_n (pc := 1) (j := 1) dX12_unlike_1 rfl rfl ?_
  refine sn_iconst (pc := 2) (v := 3) dX12_unlike_2 (by decide) ?_
  refine sn_callV (ci := 12) (pc := 3) dX12_unlike_3 iX12_isOf wt6_235 ws_54 wt6_233 ⟨_, rfl, rfl⟩ (by decide) (mX12_isOf a0 x1 3) (by decide) rfl rfl (Nat.le_of_ble_eq_true rfl) (fun v1 => ?_)
  refine sn_if_eq (pc := 6) (tgt := 27) dX12_unlike_6 (by decide) ?_ ?_
  · refine sn_iconst (pc := 27) (v := (-1)) dX12_unlike_27 (by decide) ?_
    exact sn_iret (pc := 28) dX12_unlike_28 rfl
  · refine sn_aload_n (pc := 9) (j := 0) dX12_unlike_9 rfl rfl ?_
    refine sn_iload_n (pc := 10) (j := 2) dX12_unlike_10 rfl rfl ?_
    refine sn_iconst (pc := 11) (v := 2) dX12_unlike_11 (by decide) ?_
    refine sn_callV (ci := 12) (pc := 12) dX12_unlike_12 iX12_isOf wt6_235 ws_54 wt6_233 ⟨_, rfl, rfl⟩ (by decide) (mX12_isOf a0 x2 2) (by decide) rfl rfl (Nat.le_of_ble_eq_true rfl) (fun v2 => ?_)
    refine sn_if_eq (pc := 15) (tgt := 27) dX12_unlike_15 (by decide) ?_ ?_
    · refine sn_iconst (pc := 27) (v := (-1)) dX12_unlike_27 (by decide) ?_
      exact sn_iret (pc := 28) dX12_unlike_28 rfl
    · refine sn_aload_n (pc := 18) (j := 0) dX12_unlike_18 rfl rfl ?_
      refine sn_iload_n (pc := 19) (j := 1) dX12_unlike_19 rfl rfl ?_
      refine sn_iload_n (pc := 20) (j := 2) dX12_unlike_20 rfl rfl ?_
      refine sn_callV (ci := 12) (pc := 21) dX12_unlike_21 iX12_unlikeness wt7_176 ws_75 wt7_174 ⟨_, rfl, rfl⟩ (by decide) (mX12_unlikeness a0 x1 x2) (by decide) rfl rfl (Nat.le_of_ble_eq_true rfl) (fun v3 => ?_)
      refine sn_goto (pc := 24) (tgt := 28) dX12_unlike_24 (by decide) ?_
      exact sn_iret (pc := 28) dX12_unlike_28 rfl
theorem iX12_unlike : MI yX12_unlike cX12_unlike 3 (some .int) 2 := ⟨wt1_10, wt7_173, by decide +kernel, by decide⟩
-- NeedleHomesModel who(II)I
theorem dX12_who_0 : decode cX12_who 0 = .ok (.aload_n 0, 1) := by decide +kernel
theorem dX12_who_1 : decode cX12_who 1 = .ok (.iload_n 1, 1) := by decide +kernel
theorem dX12_who_2 : decode cX12_who 2 = .ok (.iconst 3, 1) := by decide +kernel
theorem dX12_who_3 : decode cX12_who 3 = .ok (.invokevirtual 178, 3) := by decide +kernel
theorem dX12_who_6 : decode cX12_who 6 = .ok (.ifCond .eq 21, 3) := by decide +kernel
theorem dX12_who_9 : decode cX12_who 9 = .ok (.aload_n 0, 1) := by decide +kernel
theorem dX12_who_10 : decode cX12_who 10 = .ok (.getfield 7, 3) := by decide +kernel
theorem dX12_who_13 : decode cX12_who 13 = .ok (.iconst 2, 1) := by decide +kernel
theorem dX12_who_14 : decode cX12_who 14 = .ok (.iaload, 1) := by decide +kernel
theorem dX12_who_15 : decode cX12_who 15 = .ok (.ifCond .eq 12, 3) := by decide +kernel
theorem dX12_who_18 : decode cX12_who 18 = .ok (.iload_n 2, 1) := by decide +kernel
theorem dX12_who_19 : decode cX12_who 19 = .ok (.iconst 0, 1) := by decide +kernel
theorem dX12_who_20 : decode cX12_who 20 = .ok (.iconst 1, 1) := by decide +kernel
theorem dX12_who_21 : decode cX12_who 21 = .ok (.invokestatic 51, 3) := by decide +kernel
theorem dX12_who_24 : decode cX12_who 24 = .ok (.ifCond .ne 5, 3) := by decide +kernel
theorem dX12_who_27 : decode cX12_who 27 = .ok (.iconst (-1), 1) := by decide +kernel
theorem dX12_who_28 : decode cX12_who 28 = .ok (.ireturn, 1) := by decide +kernel
theorem dX12_who_29 : decode cX12_who 29 = .ok (.iconst 0, 1) := by decide +kernel
theorem dX12_who_30 : decode cX12_who 30 = .ok (.istore_n 3, 1) := by decide +kernel
theorem dX12_who_31 : decode cX12_who 31 = .ok (.iconst 0, 1) := by decide +kernel
theorem dX12_who_32 : decode cX12_who 32 = .ok (.istore 4, 2) := by decide +kernel
theorem dX12_who_34 : decode cX12_who 34 = .ok (.iload 4, 2) := by decide +kernel
theorem dX12_who_36 : decode cX12_who 36 = .ok (.bipush 6, 2) := by decide +kernel
theorem dX12_who_38 : decode cX12_who 38 = .ok (.if_icmp .ge 24, 3) := by decide +kernel
theorem dX12_who_41 : decode cX12_who 41 = .ok (.iload_n 3, 1) := by decide +kernel
theorem dX12_who_42 : decode cX12_who 42 = .ok (.aload_n 0, 1) := by decide +kernel
theorem dX12_who_43 : decode cX12_who 43 = .ok (.iload_n 1, 1) := by decide +kernel
theorem dX12_who_44 : decode cX12_who 44 = .ok (.bipush 16, 2) := by decide +kernel
theorem dX12_who_46 : decode cX12_who 46 = .ok (.iconst 2, 1) := by decide +kernel
theorem dX12_who_47 : decode cX12_who 47 = .ok (.iload 4, 2) := by decide +kernel
theorem dX12_who_49 : decode cX12_who 49 = .ok (.imul, 1) := by decide +kernel
theorem dX12_who_50 : decode cX12_who 50 = .ok (.iadd, 1) := by decide +kernel
theorem dX12_who_51 : decode cX12_who 51 = .ok (.invokevirtual 256, 3) := by decide +kernel
theorem dX12_who_54 : decode cX12_who 54 = .ok (.iadd, 1) := by decide +kernel
theorem dX12_who_55 : decode cX12_who 55 = .ok (.istore_n 3, 1) := by decide +kernel
theorem dX12_who_56 : decode cX12_who 56 = .ok (.iinc 4 1, 3) := by decide +kernel
theorem dX12_who_59 : decode cX12_who 59 = .ok (.goto (-25), 3) := by decide +kernel
theorem dX12_who_62 : decode cX12_who 62 = .ok (.iload_n 3, 1) := by decide +kernel
theorem dX12_who_63 : decode cX12_who 63 = .ok (.ifCond .ne 5, 3) := by decide +kernel
theorem dX12_who_66 : decode cX12_who 66 = .ok (.iconst (-1), 1) := by decide +kernel
theorem dX12_who_67 : decode cX12_who 67 = .ok (.ireturn, 1) := by decide +kernel
theorem dX12_who_68 : decode cX12_who 68 = .ok (.iconst 0, 1) := by decide +kernel
theorem dX12_who_69 : decode cX12_who 69 = .ok (.istore 4, 2) := by decide +kernel
theorem dX12_who_71 : decode cX12_who 71 = .ok (.iconst 1, 1) := by decide +kernel
theorem dX12_who_72 : decode cX12_who 72 = .ok (.istore 5, 2) := by decide +kernel
theorem dX12_who_74 : decode cX12_who 74 = .ok (.iload 5, 2) := by decide +kernel
theorem dX12_who_76 : decode cX12_who 76 = .ok (.aload_n 0, 1) := by decide +kernel
theorem dX12_who_77 : decode cX12_who 77 = .ok (.getfield 7, 3) := by decide +kernel
theorem dX12_who_80 : decode cX12_who 80 = .ok (.iconst 2, 1) := by decide +kernel
theorem dX12_who_81 : decode cX12_who 81 = .ok (.iaload, 1) := by decide +kernel
theorem dX12_who_82 : decode cX12_who 82 = .ok (.if_icmp .ge 30, 3) := by decide +kernel
theorem dX12_who_85 : decode cX12_who 85 = .ok (.aload_n 0, 1) := by decide +kernel
theorem dX12_who_86 : decode cX12_who 86 = .ok (.iload_n 1, 1) := by decide +kernel
theorem dX12_who_87 : decode cX12_who 87 = .ok (.iload 5, 2) := by decide +kernel
theorem dX12_who_89 : decode cX12_who 89 = .ok (.invokevirtual 304, 3) := by decide +kernel
theorem dX12_who_92 : decode cX12_who 92 = .ok (.aload_n 0, 1) := by decide +kernel
theorem dX12_who_93 : decode cX12_who 93 = .ok (.iload_n 1, 1) := by decide +kernel
theorem dX12_who_94 : decode cX12_who 94 = .ok (.iload 4, 2) := by decide +kernel
theorem dX12_who_96 : decode cX12_who 96 = .ok (.invokevirtual 304, 3) := by decide +kernel
theorem dX12_who_99 : decode cX12_who 99 = .ok (.if_icmp .ge 7, 3) := by decide +kernel
theorem dX12_who_102 : decode cX12_who 102 = .ok (.iload 5, 2) := by decide +kernel
theorem dX12_who_104 : decode cX12_who 104 = .ok (.istore 4, 2) := by decide +kernel
theorem dX12_who_106 : decode cX12_who 106 = .ok (.iinc 5 1, 3) := by decide +kernel
theorem dX12_who_109 : decode cX12_who 109 = .ok (.goto (-35), 3) := by decide +kernel
theorem dX12_who_112 : decode cX12_who 112 = .ok (.iconst (-1), 1) := by decide +kernel
theorem dX12_who_113 : decode cX12_who 113 = .ok (.istore 5, 2) := by decide +kernel
theorem dX12_who_115 : decode cX12_who 115 = .ok (.iconst 0, 1) := by decide +kernel
theorem dX12_who_116 : decode cX12_who 116 = .ok (.istore 6, 2) := by decide +kernel
theorem dX12_who_118 : decode cX12_who 118 = .ok (.iload 6, 2) := by decide +kernel
theorem dX12_who_120 : decode cX12_who 120 = .ok (.aload_n 0, 1) := by decide +kernel
theorem dX12_who_121 : decode cX12_who 121 = .ok (.getfield 7, 3) := by decide +kernel
theorem dX12_who_124 : decode cX12_who 124 = .ok (.iconst 2, 1) := by decide +kernel
theorem dX12_who_125 : decode cX12_who 125 = .ok (.iaload, 1) := by decide +kernel
theorem dX12_who_126 : decode cX12_who 126 = .ok (.if_icmp .ge 49, 3) := by decide +kernel
theorem dX12_who_129 : decode cX12_who 129 = .ok (.aload_n 0, 1) := by decide +kernel
theorem dX12_who_130 : decode cX12_who 130 = .ok (.iload_n 1, 1) := by decide +kernel
theorem dX12_who_131 : decode cX12_who 131 = .ok (.iload 6, 2) := by decide +kernel
theorem dX12_who_133 : decode cX12_who 133 = .ok (.invokevirtual 304, 3) := by decide +kernel
theorem dX12_who_136 : decode cX12_who 136 = .ok (.aload_n 0, 1) := by decide +kernel
theorem dX12_who_137 : decode cX12_who 137 = .ok (.iload_n 1, 1) := by decide +kernel
theorem dX12_who_138 : decode cX12_who 138 = .ok (.iload 4, 2) := by decide +kernel
theorem dX12_who_140 : decode cX12_who 140 = .ok (.invokevirtual 304, 3) := by decide +kernel
theorem dX12_who_143 : decode cX12_who 143 = .ok (.isub, 1) := by decide +kernel
theorem dX12_who_144 : decode cX12_who 144 = .ok (.istore 7, 2) := by decide +kernel
theorem dX12_who_146 : decode cX12_who 146 = .ok (.iload 6, 2) := by decide +kernel
theorem dX12_who_148 : decode cX12_who 148 = .ok (.iload 4, 2) := by decide +kernel
theorem dX12_who_150 : decode cX12_who 150 = .ok (.if_icmp .eq 19, 3) := by decide +kernel
theorem dX12_who_153 : decode cX12_who 153 = .ok (.iload 5, 2) := by decide +kernel
theorem dX12_who_155 : decode cX12_who 155 = .ok (.ifCond .lt 10, 3) := by decide +kernel
theorem dX12_who_158 : decode cX12_who 158 = .ok (.iload 7, 2) := by decide +kernel
theorem dX12_who_160 : decode cX12_who 160 = .ok (.iload 5, 2) := by decide +kernel
theorem dX12_who_162 : decode cX12_who 162 = .ok (.if_icmp .ge 7, 3) := by decide +kernel
theorem dX12_who_165 : decode cX12_who 165 = .ok (.iload 7, 2) := by decide +kernel
theorem dX12_who_167 : decode cX12_who 167 = .ok (.istore 5, 2) := by decide +kernel
theorem dX12_who_169 : decode cX12_who 169 = .ok (.iinc 6 1, 3) := by decide +kernel
theorem dX12_who_172 : decode cX12_who 172 = .ok (.goto (-54), 3) := by decide +kernel
theorem dX12_who_175 : decode cX12_who 175 = .ok (.iload_n 2, 1) := by decide +kernel
theorem dX12_who_176 : decode cX12_who 176 = .ok (.ifCond .ne 8, 3) := by decide +kernel
theorem dX12_who_179 : decode cX12_who 179 = .ok (.iload 4, 2) := by decide +kernel
theorem dX12_who_181 : decode cX12_who 181 = .ok (.goto 5, 3) := by decide +kernel
theorem dX12_who_184 : decode cX12_who 184 = .ok (.iload 5, 2) := by decide +kernel
theorem dX12_who_186 : decode cX12_who 186 = .ok (.ireturn, 1) := by decide +kernel
abbrev dpX12_who : Nat := 2
def fX12_who_106 (k74 : (Nat × Int32 × Int32 × Int32 × Int32) → St → Option (Int32 × St)) (a0 : Nat) (x1 : Int32) (x2 : Int32) (x4 : Int32) (x5 : Int32) : St → Option (Int32 × St) :=
 k74 (a0, x1, x2, x4, (x5 + 1))
set_option maxHeartbeats 4000000 in
set_option maxRecDepth 100000 in
theorem sfX12_who_106 {E : Ev} {l : Launch} (k74 : (Nat × Int32 × Int32 × Int32 × Int32) → St → Option (Int32 × St)) (hk74 : ∀ p : Nat × Int32 × Int32 × Int32 × Int32, Snd E l (dpX12_who, RX12, cX12_who, 8, (some .int), "who") rvI 74 [(0, .ref (E.1 + p.1)), (1, .int p.2.1), (2, .int p.2.2.1), (4, .int p.2.2.2.1), (5, .int p.2.2.2.2)] [] (k74 p)) (a0 : Nat) (x1 : Int32) (x2 : Int32) (x4 : Int32) (x5 : Int32) : Snd E l (dpX12_who, RX12, cX12_who, 8, (some .int), "who") rvI 106 [(0, .ref (E.1 + a0)), (1, .int x1), (2, .int x2), (4, .int x4), (5, .int x5)] [] (fX12_who_106 k74 a0 x1 x2 x4 x5) := by
  unfold fX12_who_106
  refine sn_iinc (pc := 106) (v := x5 + 1) (lv' := [(5, .int (x5 + 1)), (0, .ref (E.1 + a0)), (1, .int x1), (2, .int x2), (4, .int x4)]) (j := 4) dX12_who_106 rfl rfl (by decide) rfl ?_
  refine sn_goto (pc := 109) (tgt := 74) dX12_who_109 (by decide) ?_
  exact sn_sub (lv' := [(0, .ref (E.1 + a0)), (1, .int x1), (2, .int x2), (4, .int x4), (5, .int (x5 + 1))]) [1, 2, 3, 4, 0] rfl (hk74 (a0, x1, x2, x4, (x5 + 1)))
def fX12_who_169 (k118 : (Nat × Int32 × Int32 × Int32 × Int32 × Int32) → St → Option (Int32 × St)) (a0 : Nat) (x1 : Int32) (x2 : Int32) (x4 : Int32) (x5 : Int32) (x6 : Int32) : St → Option (Int32 × St) :=
 k118 (a0, x1, x2, x4, x5, (x6 + 1))
set_option maxHeartbeats 4000000 in
set_option maxRecDepth 100000 in
theorem sfX12_who_169 {E : Ev} {l : Launch} (k118 : (Nat × Int32 × Int32 × Int32 × Int32 × Int32) → St → Option (Int32 × St)) (hk118 : ∀ p : Nat × Int32 × Int32 × Int32 × Int32 × Int32, Snd E l (dpX12_who, RX12, cX12_who, 8, (some .int), "who") rvI 118 [(0, .ref (E.1 + p.1)), (1, .int p.2.1), (2, .int p.2.2.1), (4, .int p.2.2.2.1), (5, .int p.2.2.2.2.1), (6, .int p.2.2.2.2.2)] [] (k118 p)) (a0 : Nat) (x1 : Int32) (x2 : Int32) (x4 : Int32) (x5 : Int32) (x6 : Int32) : Snd E l (dpX12_who, RX12, cX12_who, 8, (some .int), "who") rvI 169 [(0, .ref (E.1 + a0)), (1, .int x1), (2, .int x2), (4, .int x4), (5, .int x5), (6, .int x6)] [] (fX12_who_169 k118 a0 x1 x2 x4 x5 x6) := by
  unfold fX12_who_169
  refine sn_iinc (pc := 169) (v := x6 + 1) (lv' := [(6, .int (x6 + 1)), (0, .ref (E.1 + a0)), (1, .int x1), (2, .int x2), (4, .int x4), (5, .int x5)]) (j := 5) dX12_who_169 rfl rfl (by decide) rfl ?_
  refine sn_goto (pc := 172) (tgt := 118) dX12_who_172 (by decide) ?_
  exact sn_sub (lv' := [(0, .ref (E.1 + a0)), (1, .int x1), (2, .int x2), (4, .int x4), (5, .int x5), (6, .int (x6 + 1))]) [1, 2, 3, 4, 5, 0] rfl (hk118 (a0, x1, x2, x4, x5, (x6 + 1)))
def fX12_who_165 (k118 : (Nat × Int32 × Int32 × Int32 × Int32 × Int32) → St → Option (Int32 × St)) (a0 : Nat) (x1 : Int32) (x2 : Int32) (x4 : Int32) (x6 : Int32) (x7 : Int32) : St → Option (Int32 × St) :=
 fX12_who_169 k118 a0 x1 x2 x4 x7 x6
set_option maxHeartbeats 4000000 in
set_option maxRecDepth 100000 in
theorem sfX12_who_165 {E : Ev} {l : Launch} (k118 : (Nat × Int32 × Int32 × Int32 × Int32 × Int32) → St → Option (Int32 × St)) (hk118 : ∀ p : Nat × Int32 × Int32 × Int32 × Int32 × Int32, Snd E l (dpX12_who, RX12, cX12_who, 8, (some .int), "who") rvI 118 [(0, .ref (E.1 + p.1)), (1, .int p.2.1), (2, .int p.2.2.1), (4, .int p.2.2.2.1), (5, .int p.2.2.2.2.1), (6, .int p.2.2.2.2.2)] [] (k118 p)) (a0 : Nat) (x1 : Int32) (x2 : Int32) (x4 : Int32) (x6 : Int32) (x7 : Int32) : Snd E l (dpX12_who, RX12, cX12_who, 8, (some .int), "who") rvI 165 [(0, .ref (E.1 + a0)), (1, .int x1), (2, .int x2), (4, .int x4), (6, .int x6), (7, .int x7)] [] (fX12_who_165 k118 a0 x1 x2 x4 x6 x7) := by
  unfold fX12_who_165
  refine sn_iload (pc := 165) (j := 5) dX12_who_165 rfl ?_
  refine sn_istore (pc := 167) (i := 5) (lv' := [(5, .int x7), (0, .ref (E.1 + a0)), (1, .int x1), (2, .int x2), (4, .int x4), (6, .int x6), (7, .int x7)]) dX12_who_167 (by decide) rfl ?_
  exact sn_sub (lv' := [(0, .ref (E.1 + a0)), (1, .int x1), (2, .int x2), (4, .int x4), (5, .int x7), (6, .int x6)]) [1, 2, 3, 4, 0, 5] rfl (sfX12_who_169 k118 hk118 a0 x1 x2 x4 x7 x6)
def fX12_who_118 (k118 : (Nat × Int32 × Int32 × Int32 × Int32 × Int32) → St → Option (Int32 × St)) (a0 : Nat) (x1 : Int32) (x2 : Int32) (x4 : Int32) (x5 : Int32) (x6 : Int32) : St → Option (Int32 × St) :=
 gR 13 a0 0 fun v4001 =>
 nn v4001 fun a4003 =>
 aI 15 a4003 2 fun v4002 =>
 br (v4002 ≤ x6) (br (x2 = 0) (rt x4)
 (rt x5))
 (ck 13 a0 <| cl (fX12_unlikeness a0 x1 x6) fun v4004 =>
 ck 13 a0 <| cl (fX12_unlikeness a0 x1 x4) fun v4005 =>
 br (x6 = x4) (fX12_who_169 k118 a0 x1 x2 x4 x5 x6)
 (br (x5 < 0) (fX12_who_165 k118 a0 x1 x2 x4 x6 (v4004 - v4005))
 (br (x5 ≤ (v4004 - v4005)) (fX12_who_169 k118 a0 x1 x2 x4 x5 x6)
 (fX12_who_165 k118 a0 x1 x2 x4 x6 (v4004 - v4005)))))
set_option maxHeartbeats 4000000 in
set_option maxRecDepth 100000 in
theorem sfX12_who_118 {E : Ev} {l : Launch} (k118 : (Nat × Int32 × Int32 × Int32 × Int32 × Int32) → St → Option (Int32 × St)) (hk118 : ∀ p : Nat × Int32 × Int32 × Int32 × Int32 × Int32, Snd E l (dpX12_who, RX12, cX12_who, 8, (some .int), "who") rvI 118 [(0, .ref (E.1 + p.1)), (1, .int p.2.1), (2, .int p.2.2.1), (4, .int p.2.2.2.1), (5, .int p.2.2.2.2.1), (6, .int p.2.2.2.2.2)] [] (k118 p)) (a0 : Nat) (x1 : Int32) (x2 : Int32) (x4 : Int32) (x5 : Int32) (x6 : Int32) : Snd E l (dpX12_who, RX12, cX12_who, 8, (some .int), "who") rvI 118 [(0, .ref (E.1 + a0)), (1, .int x1), (2, .int x2), (4, .int x4), (5, .int x5), (6, .int x6)] [] (fX12_who_118 k118 a0 x1 x2 x4 x5 x6) := by
  unfold fX12_who_118
  refine sn_iload (pc := 118) (j := 5) dX12_who_118 rfl ?_
  refine sn_aload_n (pc := 120) (j := 0) dX12_who_120 rfl rfl ?_
  refine sn_gR (pc := 121) dX12_who_121 flX12_7 rfl (fun v4001 => ?_)
  refine sn_iconst (pc := 124) (v := 2) dX12_who_124 (by decide) ?_
  rcases v4001 with _ | a4003
  · exact sn_no
  refine sn_nn ?_
  refine sn_iald (pc := 125) dX12_who_125 (fun v4002 => ?_)
  refine sn_icmp_ge (pc := 126) (tgt := 175) dX12_who_126 (by decide) ?_ ?_
  · refine sn_iload_n (pc := 175) (j := 2) dX12_who_175 rfl rfl ?_
    refine sn_if_ne (pc := 176) (tgt := 184) dX12_who_176 (by decide) ?_ ?_
    · refine sn_iload (pc := 184) (j := 4) dX12_who_184 rfl ?_
      exact sn_iret (pc := 186) dX12_who_186 rfl
    · refine sn_iload (pc := 179) (j := 3) dX12_who_179 rfl ?_
      refine sn_goto (pc := 181) (tgt := 186) dX12_who_181 (by decide) ?_
      exact sn_iret (pc := 186) dX12_who_186 rfl
  · refine sn_aload_n (pc := 129) (j := 0) dX12_who_129 rfl rfl ?_
    refine sn_iload_n (pc := 130) (j := 1) dX12_who_130 rfl rfl ?_
    refine sn_iload (pc := 131) (j := 5) dX12_who_131 rfl ?_
    refine sn_callV (ci := 12) (pc := 133) dX12_who_133 iX12_unlikeness wt7_176 ws_75 wt7_174 ⟨_, rfl, rfl⟩ (by decide) (mX12_unlikeness a0 x1 x6) (by decide) rfl rfl (Nat.le_of_ble_eq_true rfl) (fun v4004 => ?_)
    refine sn_aload_n (pc := 136) (j := 0) dX12_who_136 rfl rfl ?_
    refine sn_iload_n (pc := 137) (j := 1) dX12_who_137 rfl rfl ?_
    refine sn_iload (pc := 138) (j := 3) dX12_who_138 rfl ?_
    refine sn_callV (ci := 12) (pc := 140) dX12_who_140 iX12_unlikeness wt7_176 ws_75 wt7_174 ⟨_, rfl, rfl⟩ (by decide) (mX12_unlikeness a0 x1 x4) (by decide) rfl rfl (Nat.le_of_ble_eq_true rfl) (fun v4005 => ?_)
    refine sn_isub (pc := 143) dX12_who_143 ?_
    refine sn_istore (pc := 144) (i := 7) (lv' := [(7, .int (v4004 - v4005)), (0, .ref (E.1 + a0)), (1, .int x1), (2, .int x2), (4, .int x4), (5, .int x5), (6, .int x6)]) dX12_who_144 (by decide) rfl ?_
    refine sn_iload (pc := 146) (j := 6) dX12_who_146 rfl ?_
    refine sn_iload (pc := 148) (j := 4) dX12_who_148 rfl ?_
    refine sn_icmp_eq (pc := 150) (tgt := 169) dX12_who_150 (by decide) ?_ ?_
    · exact sn_sub (lv' := [(0, .ref (E.1 + a0)), (1, .int x1), (2, .int x2), (4, .int x4), (5, .int x5), (6, .int x6)]) [1, 2, 3, 4, 5, 6] rfl (sfX12_who_169 k118 hk118 a0 x1 x2 x4 x5 x6)
    · refine sn_iload (pc := 153) (j := 5) dX12_who_153 rfl ?_
      refine sn_if_lt (pc := 155) (tgt := 165) dX12_who_155 (by decide) ?_ ?_
      · exact sn_sub (lv' := [(0, .ref (E.1 + a0)), (1, .int x1), (2, .int x2), (4, .int x4), (6, .int x6), (7, .int (v4004 - v4005))]) [1, 2, 3, 4, 6, 0] rfl (sfX12_who_165 k118 hk118 a0 x1 x2 x4 x6 (v4004 - v4005))
      · refine sn_iload (pc := 158) (j := 0) dX12_who_158 rfl ?_
        refine sn_iload (pc := 160) (j := 5) dX12_who_160 rfl ?_
        refine sn_icmp_ge (pc := 162) (tgt := 169) dX12_who_162 (by decide) ?_ ?_
        · exact sn_sub (lv' := [(0, .ref (E.1 + a0)), (1, .int x1), (2, .int x2), (4, .int x4), (5, .int x5), (6, .int x6)]) [1, 2, 3, 4, 5, 6] rfl (sfX12_who_169 k118 hk118 a0 x1 x2 x4 x5 x6)
        · exact sn_sub (lv' := [(0, .ref (E.1 + a0)), (1, .int x1), (2, .int x2), (4, .int x4), (6, .int x6), (7, .int (v4004 - v4005))]) [1, 2, 3, 4, 6, 0] rfl (sfX12_who_165 k118 hk118 a0 x1 x2 x4 x6 (v4004 - v4005))
def fX12_who_74 (k74 : (Nat × Int32 × Int32 × Int32 × Int32) → St → Option (Int32 × St)) (a0 : Nat) (x1 : Int32) (x2 : Int32) (x4 : Int32) (x5 : Int32) : St → Option (Int32 × St) :=
 gR 13 a0 0 fun v2001 =>
 nn v2001 fun a2003 =>
 aI 15 a2003 2 fun v2002 =>
 br (v2002 ≤ x5) (itr (fun k (p : Nat × Int32 × Int32 × Int32 × Int32 × Int32) => fX12_who_118  k p.1 p.2.1 p.2.2.1 p.2.2.2.1 p.2.2.2.2.1 p.2.2.2.2.2) FU (a0, x1, x2, x4, (-1), 0))
 (ck 13 a0 <| cl (fX12_unlikeness a0 x1 x5) fun v2004 =>
 ck 13 a0 <| cl (fX12_unlikeness a0 x1 x4) fun v2005 =>
 br (v2005 ≤ v2004) (fX12_who_106 k74 a0 x1 x2 x4 x5)
 (fX12_who_106 k74 a0 x1 x2 x5 x5))
set_option maxHeartbeats 4000000 in
set_option maxRecDepth 100000 in
theorem sfX12_who_74 {E : Ev} {l : Launch} (k74 : (Nat × Int32 × Int32 × Int32 × Int32) → St → Option (Int32 × St)) (hk74 : ∀ p : Nat × Int32 × Int32 × Int32 × Int32, Snd E l (dpX12_who, RX12, cX12_who, 8, (some .int), "who") rvI 74 [(0, .ref (E.1 + p.1)), (1, .int p.2.1), (2, .int p.2.2.1), (4, .int p.2.2.2.1), (5, .int p.2.2.2.2)] [] (k74 p)) (a0 : Nat) (x1 : Int32) (x2 : Int32) (x4 : Int32) (x5 : Int32) : Snd E l (dpX12_who, RX12, cX12_who, 8, (some .int), "who") rvI 74 [(0, .ref (E.1 + a0)), (1, .int x1), (2, .int x2), (4, .int x4), (5, .int x5)] [] (fX12_who_74 k74 a0 x1 x2 x4 x5) := by
  unfold fX12_who_74
  refine sn_iload (pc := 74) (j := 4) dX12_who_74 rfl ?_
  refine sn_aload_n (pc := 76) (j := 0) dX12_who_76 rfl rfl ?_
  refine sn_gR (pc := 77) dX12_who_77 flX12_7 rfl (fun v2001 => ?_)
  refine sn_iconst (pc := 80) (v := 2) dX12_who_80 (by decide) ?_
  rcases v2001 with _ | a2003
  · exact sn_no
  refine sn_nn ?_
  refine sn_iald (pc := 81) dX12_who_81 (fun v2002 => ?_)
  refine sn_icmp_ge (pc := 82) (tgt := 112) dX12_who_82 (by decide) ?_ ?_
  · refine sn_iconst (pc := 112) (v := (-1)) dX12_who_112 (by decide) ?_
    refine sn_istore (pc := 113) (i := 5) (lv' := [(5, .int (-1)), (0, .ref (E.1 + a0)), (1, .int x1), (2, .int x2), (4, .int x4)]) dX12_who_113 (by decide) rfl ?_
    refine sn_iconst (pc := 115) (v := 0) dX12_who_115 (by decide) ?_
    refine sn_istore (pc := 116) (i := 6) (lv' := [(6, .int 0), (5, .int (-1)), (0, .ref (E.1 + a0)), (1, .int x1), (2, .int x2), (4, .int x4)]) dX12_who_116 (by decide) rfl ?_
    exact sn_sub (lv' := [(0, .ref (E.1 + a0)), (1, .int x1), (2, .int x2), (4, .int x4), (5, .int (-1)), (6, .int 0)]) [2, 3, 4, 5, 1, 0] rfl (sn_itr (lvf := fun p => [(0, .ref (E.1 + p.1)), (1, .int p.2.1), (2, .int p.2.2.1), (4, .int p.2.2.2.1), (5, .int p.2.2.2.2.1), (6, .int p.2.2.2.2.2)]) (stf := fun p => []) (fun k hk p => sfX12_who_118  k hk p.1 p.2.1 p.2.2.1 p.2.2.2.1 p.2.2.2.2.1 p.2.2.2.2.2) FU (a0, x1, x2, x4, (-1), 0))
  · refine sn_aload_n (pc := 85) (j := 0) dX12_who_85 rfl rfl ?_
    refine sn_iload_n (pc := 86) (j := 1) dX12_who_86 rfl rfl ?_
    refine sn_iload (pc := 87) (j := 4) dX12_who_87 rfl ?_
    refine sn_callV (ci := 12) (pc := 89) dX12_who_89 iX12_unlikeness wt7_176 ws_75 wt7_174 ⟨_, rfl, rfl⟩ (by decide) (mX12_unlikeness a0 x1 x5) (by decide) rfl rfl (Nat.le_of_ble_eq_true rfl) (fun v2004 => ?_)
    refine sn_aload_n (pc := 92) (j := 0) dX12_who_92 rfl rfl ?_
    refine sn_iload_n (pc := 93) (j := 1) dX12_who_93 rfl rfl ?_
    refine sn_iload (pc := 94) (j := 3) dX12_who_94 rfl ?_
    refine sn_callV (ci := 12) (pc := 96) dX12_who_96 iX12_unlikeness wt7_176 ws_75 wt7_174 ⟨_, rfl, rfl⟩ (by decide) (mX12_unlikeness a0 x1 x4) (by decide) rfl rfl (Nat.le_of_ble_eq_true rfl) (fun v2005 => ?_)
    refine sn_icmp_ge (pc := 99) (tgt := 106) dX12_who_99 (by decide) ?_ ?_
    · exact sn_sub (lv' := [(0, .ref (E.1 + a0)), (1, .int x1), (2, .int x2), (4, .int x4), (5, .int x5)]) [0, 1, 2, 3, 4] rfl (sfX12_who_106 k74 hk74 a0 x1 x2 x4 x5)
    · refine sn_iload (pc := 102) (j := 4) dX12_who_102 rfl ?_
      refine sn_istore (pc := 104) (i := 4) (lv' := [(4, .int x5), (0, .ref (E.1 + a0)), (1, .int x1), (2, .int x2), (5, .int x5)]) dX12_who_104 (by decide) rfl ?_
      exact sn_sub (lv' := [(0, .ref (E.1 + a0)), (1, .int x1), (2, .int x2), (4, .int x5), (5, .int x5)]) [1, 2, 3, 0, 4] rfl (sfX12_who_106 k74 hk74 a0 x1 x2 x5 x5)
def fX12_who_34 (k34 : (Nat × Int32 × Int32 × Int32 × Int32) → St → Option (Int32 × St)) (a0 : Nat) (x1 : Int32) (x2 : Int32) (x3 : Int32) (x4 : Int32) : St → Option (Int32 × St) :=
 br (6 ≤ x4) (br (x3 = 0) (rt (-1))
 (itr (fun k (p : Nat × Int32 × Int32 × Int32 × Int32) => fX12_who_74  k p.1 p.2.1 p.2.2.1 p.2.2.2.1 p.2.2.2.2) FU (a0, x1, x2, 0, 1)))
 (ck 13 a0 <| cl (fX12_pieceOf a0 x1 (16 + (2 * x4))) fun v1001 =>
 k34 (a0, x1, x2, (x3 + v1001), (x4 + 1)))
set_option maxHeartbeats 4000000 in
set_option maxRecDepth 100000 in
theorem sfX12_who_34 {E : Ev} {l : Launch} (k34 : (Nat × Int32 × Int32 × Int32 × Int32) → St → Option (Int32 × St)) (hk34 : ∀ p : Nat × Int32 × Int32 × Int32 × Int32, Snd E l (dpX12_who, RX12, cX12_who, 8, (some .int), "who") rvI 34 [(0, .ref (E.1 + p.1)), (1, .int p.2.1), (2, .int p.2.2.1), (3, .int p.2.2.2.1), (4, .int p.2.2.2.2)] [] (k34 p)) (a0 : Nat) (x1 : Int32) (x2 : Int32) (x3 : Int32) (x4 : Int32) : Snd E l (dpX12_who, RX12, cX12_who, 8, (some .int), "who") rvI 34 [(0, .ref (E.1 + a0)), (1, .int x1), (2, .int x2), (3, .int x3), (4, .int x4)] [] (fX12_who_34 k34 a0 x1 x2 x3 x4) := by
  unfold fX12_who_34
  refine sn_iload (pc := 34) (j := 4) dX12_who_34 rfl ?_
  refine sn_bipush (pc := 36) (v := 6) dX12_who_36 (by decide) ?_
  refine sn_icmp_ge (pc := 38) (tgt := 62) dX12_who_38 (by decide) ?_ ?_
  · refine sn_iload_n (pc := 62) (j := 3) dX12_who_62 rfl rfl ?_
    refine sn_if_ne (pc := 63) (tgt := 68) dX12_who_63 (by decide) ?_ ?_
    · refine sn_iconst (pc := 68) (v := 0) dX12_who_68 (by decide) ?_
      refine sn_istore (pc := 69) (i := 4) (lv' := [(4, .int 0), (0, .ref (E.1 + a0)), (1, .int x1), (2, .int x2), (3, .int x3)]) dX12_who_69 (by decide) rfl ?_
      refine sn_iconst (pc := 71) (v := 1) dX12_who_71 (by decide) ?_
      refine sn_istore (pc := 72) (i := 5) (lv' := [(5, .int 1), (4, .int 0), (0, .ref (E.1 + a0)), (1, .int x1), (2, .int x2), (3, .int x3)]) dX12_who_72 (by decide) rfl ?_
      exact sn_sub (lv' := [(0, .ref (E.1 + a0)), (1, .int x1), (2, .int x2), (4, .int 0), (5, .int 1)]) [2, 3, 4, 1, 0] rfl (sn_itr (lvf := fun p => [(0, .ref (E.1 + p.1)), (1, .int p.2.1), (2, .int p.2.2.1), (4, .int p.2.2.2.1), (5, .int p.2.2.2.2)]) (stf := fun p => []) (fun k hk p => sfX12_who_74  k hk p.1 p.2.1 p.2.2.1 p.2.2.2.1 p.2.2.2.2) FU (a0, x1, x2, 0, 1))
    · refine sn_iconst (pc := 66) (v := (-1)) dX12_who_66 (by decide) ?_
      exact sn_iret (pc := 67) dX12_who_67 rfl
  · refine sn_iload_n (pc := 41) (j := 3) dX12_who_41 rfl rfl ?_
    refine sn_aload_n (pc := 42) (j := 0) dX12_who_42 rfl rfl ?_
    refine sn_iload_n (pc := 43) (j := 1) dX12_who_43 rfl rfl ?_
    refine sn_bipush (pc := 44) (v := 16) dX12_who_44 (by decide) ?_
    refine sn_iconst (pc := 46) (v := 2) dX12_who_46 (by decide) ?_
    refine sn_iload (pc := 47) (j := 4) dX12_who_47 rfl ?_
    refine sn_imul (pc := 49) dX12_who_49 ?_
    refine sn_iadd (pc := 50) dX12_who_50 ?_
    refine sn_callV (ci := 12) (pc := 51) dX12_who_51 iX12_pieceOf wt7_94 ws_67 wt7_92 ⟨_, rfl, rfl⟩ (by decide) (mX12_pieceOf a0 x1 (16 + (2 * x4))) (by decide) rfl rfl (Nat.le_of_ble_eq_true rfl) (fun v1001 => ?_)
    refine sn_iadd (pc := 54) dX12_who_54 ?_
    refine sn_istore_n (pc := 55) (i := 3) (lv' := [(3, .int (x3 + v1001)), (0, .ref (E.1 + a0)), (1, .int x1), (2, .int x2), (4, .int x4)]) dX12_who_55 rfl (by decide) rfl ?_
    refine sn_iinc (pc := 56) (v := x4 + 1) (lv' := [(4, .int (x4 + 1)), (3, .int (x3 + v1001)), (0, .ref (E.1 + a0)), (1, .int x1), (2, .int x2)]) (j := 4) dX12_who_56 rfl rfl (by decide) rfl ?_
    refine sn_goto (pc := 59) (tgt := 34) dX12_who_59 (by decide) ?_
    exact sn_sub (lv' := [(0, .ref (E.1 + a0)), (1, .int x1), (2, .int x2), (3, .int (x3 + v1001)), (4, .int (x4 + 1))]) [2, 3, 4, 1, 0] rfl (hk34 (a0, x1, x2, (x3 + v1001), (x4 + 1)))
def fX12_who (a0 : Nat) (x1 : Int32) (x2 : Int32) : St → Option (Int32 × St) :=
 ck 13 a0 <| cl (fX12_isOf a0 x1 3) fun v1 =>
 br ((bi v1) = 0) (rt (-1))
 (gR 13 a0 0 fun v2 =>
 nn v2 fun a4 =>
 aI 15 a4 2 fun v3 =>
 br (v3 = 0) (rt (-1))
 (cl (fX12_isIn x2 0 1) fun v5 =>
 br ((bi v5) = 0) (rt (-1))
 (itr (fun k (p : Nat × Int32 × Int32 × Int32 × Int32) => fX12_who_34  k p.1 p.2.1 p.2.2.1 p.2.2.2.1 p.2.2.2.2) FU (a0, x1, x2, 0, 0))))
set_option maxHeartbeats 4000000 in
set_option maxRecDepth 100000 in
theorem mX12_who {E : Ev} {l : Launch} (a0 : Nat) (x1 : Int32) (x2 : Int32) : MF E l dpX12_who yX12_who cX12_who 8 (some .int) rvI [.ref (E.1 + a0), .int x1, .int x2] (fX12_who a0 x1 x2) := by
  refine MF.of (lv := [(0, .ref (E.1 + a0)), (1, .int x1), (2, .int x2)]) (by decide) (Nat.le_of_ble_eq_true rfl) rfl ?_
  unfold fX12_who
  refine sn_aload_n (pc := 0) (j := 0) dX12_who_0 rfl rfl ?_
  refine sn_iload_n (pc := 1) (j := 1) dX12_who_1 rfl rfl ?_
  refine sn_iconst (pc := 2) (v := 3) dX12_who_2 (by decide) ?_
  refine sn_callV (ci := 12) (pc := 3) dX12_who_3 iX12_isOf wt6_235 ws_54 wt6_233 ⟨_, rfl, rfl⟩ (by decide) (mX12_isOf a0 x1 3) (by decide) rfl rfl (Nat.le_of_ble_eq_true rfl) (fun v1 => ?_)
  refine sn_if_eq (pc := 6) (tgt := 27) dX12_who_6 (by decide) ?_ ?_
  · refine sn_iconst (pc := 27) (v := (-1)) dX12_who_27 (by decide) ?_
    exact sn_iret (pc := 28) dX12_who_28 rfl
  · refine sn_aload_n (pc := 9) (j := 0) dX12_who_9 rfl rfl ?_
    refine sn_gR (pc := 10) dX12_who_10 flX12_7 rfl (fun v2 => ?_)
    refine sn_iconst (pc := 13) (v := 2) dX12_who_13 (by decide) ?_
    rcases v2 with _ | a4
    · exact sn_no
    refine sn_nn ?_
    refine sn_iald (pc := 14) dX12_who_14 (fun v3 => ?_)
    refine sn_if_eq (pc := 15) (tgt := 27) dX12_who_15 (by decide) ?_ ?_
    · refine sn_iconst (pc := 27) (v := (-1)) dX12_who_27 (by decide) ?_
      exact sn_iret (pc := 28) dX12_who_28 rfl
    · refine sn_iload_n (pc := 18) (j := 2) dX12_who_18 rfl rfl ?_
      refine sn_iconst (pc := 19) (v := 0) dX12_who_19 (by decide) ?_
      refine sn_iconst (pc := 20) (v := 1) dX12_who_20 (by decide) ?_
      refine sn_callS (pc := 21) dX12_who_21 iX12_isIn wt6_138 wt6_137 (mX12_isIn x2 0 1) (by decide) rfl rfl (Nat.le_of_ble_eq_true rfl) (fun v5 => ?_)
      refine sn_if_ne (pc := 24) (tgt := 29) dX12_who_24 (by decide) ?_ ?_
      · refine sn_iconst (pc := 29) (v := 0) dX12_who_29 (by decide) ?_
        refine sn_istore_n (pc := 30) (i := 3) (lv' := [(3, .int 0), (0, .ref (E.1 + a0)), (1, .int x1), (2, .int x2)]) dX12_who_30 rfl (by decide) rfl ?_
        refine sn_iconst (pc := 31) (v := 0) dX12_who_31 (by decide) ?_
        refine sn_istore (pc := 32) (i := 4) (lv' := [(4, .int 0), (3, .int 0), (0, .ref (E.1 + a0)), (1, .int x1), (2, .int x2)]) dX12_who_32 (by decide) rfl ?_
        exact sn_sub (lv' := [(0, .ref (E.1 + a0)), (1, .int x1), (2, .int x2), (3, .int 0), (4, .int 0)]) [2, 3, 4, 1, 0] rfl (sn_itr (lvf := fun p => [(0, .ref (E.1 + p.1)), (1, .int p.2.1), (2, .int p.2.2.1), (3, .int p.2.2.2.1), (4, .int p.2.2.2.2)]) (stf := fun p => []) (fun k hk p => sfX12_who_34  k hk p.1 p.2.1 p.2.2.1 p.2.2.2.1 p.2.2.2.2) FU (a0, x1, x2, 0, 0))
      · refine sn_iconst (pc := 27) (v := (-1)) dX12_who_27 (by decide) ?_
        exact sn_iret (pc := 28) dX12_who_28 rfl
theorem iX12_who : MI yX12_who cX12_who 8 (some .int) 2 := ⟨wt1_10, wt7_181, by decide +kernel, by decide⟩
