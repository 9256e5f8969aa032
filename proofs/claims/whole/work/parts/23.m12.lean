-- NeedleHomesModel stops()V
theorem dX12_stops_0 : decode cX12_stops 0 = .ok (.aload_n 0, 1) := by decide +kernel
theorem dX12_stops_1 : decode cX12_stops 1 = .ok (.getfield 119, 3) := by decide +kernel
theorem dX12_stops_4 : decode cX12_stops 4 = .ok (.ifCond .eq 4, 3) := by decide +kernel
theorem dX12_stops_7 : decode cX12_stops 7 = .ok (.return_, 1) := by decide +kernel
theorem dX12_stops_8 : decode cX12_stops 8 = .ok (.aload_n 0, 1) := by decide +kernel
theorem dX12_stops_9 : decode cX12_stops 9 = .ok (.iconst 1, 1) := by decide +kernel
theorem dX12_stops_10 : decode cX12_stops 10 = .ok (.putfield 119, 3) := by decide +kernel
theorem dX12_stops_13 : decode cX12_stops 13 = .ok (.aload_n 0, 1) := by decide +kernel
theorem dX12_stops_14 : decode cX12_stops 14 = .ok (.getfield 7, 3) := by decide +kernel
theorem dX12_stops_17 : decode cX12_stops 17 = .ok (.bipush 6, 2) := by decide +kernel
theorem dX12_stops_19 : decode cX12_stops 19 = .ok (.iconst 1, 1) := by decide +kernel
theorem dX12_stops_20 : decode cX12_stops 20 = .ok (.iastore, 1) := by decide +kernel
theorem dX12_stops_21 : decode cX12_stops 21 = .ok (.aload_n 0, 1) := by decide +kernel
theorem dX12_stops_22 : decode cX12_stops 22 = .ok (.getfield 7, 3) := by decide +kernel
theorem dX12_stops_25 : decode cX12_stops 25 = .ok (.bipush 7, 2) := by decide +kernel
theorem dX12_stops_27 : decode cX12_stops 27 = .ok (.aload_n 0, 1) := by decide +kernel
theorem dX12_stops_28 : decode cX12_stops 28 = .ok (.getfield 90, 3) := by decide +kernel
theorem dX12_stops_31 : decode cX12_stops 31 = .ok (.iastore, 1) := by decide +kernel
theorem dX12_stops_32 : decode cX12_stops 32 = .ok (.return_, 1) := by decide +kernel
abbrev dpX12_stops : Nat := 0
def fX12_stops (a0 : Nat) : St → Option (Unit × St) :=
 gI 13 a0 9 fun v1 =>
 br (v1 = 0) (pZ 13 a0 9 1 <|
 gR 13 a0 0 fun v2 =>
 nn v2 fun a3 =>
 wI a3 6 1 <|
 gR 13 a0 0 fun v4 =>
 gI 13 a0 4 fun v5 =>
 nn v4 fun a6 =>
 wI a6 7 v5 <|
 rt ())
 (rt ())
set_option maxHeartbeats 4000000 in
set_option maxRecDepth 100000 in
theorem mX12_stops {E : Ev} {l : Launch} (a0 : Nat) : MF E l dpX12_stops yX12_stops cX12_stops 1 none rvV [.ref (E.1 + a0)] (fX12_stops a0) := by
  refine MF.of (lv := [(0, .ref (E.1 + a0))]) (by decide) (Nat.le_of_ble_eq_true rfl) rfl ?_
  unfold fX12_stops
  refine sn_aload_n (pc := 0) (j := 0) dX12_stops_0 rfl rfl ?_
  refine sn_gI (pc := 1) dX12_stops_1 flX12_119 rfl (fun v1 => ?_)
  refine sn_if_eq (pc := 4) (tgt := 8) dX12_stops_4 (by decide) ?_ ?_
  · refine sn_aload_n (pc := 8) (j := 0) dX12_stops_8 rfl rfl ?_
    refine sn_iconst (pc := 9) (v := 1) dX12_stops_9 (by decide) ?_
    refine sn_pZ (pc := 10) dX12_stops_10 flX12_119 rfl rfl (Or.inl rfl) ?_
    refine sn_aload_n (pc := 13) (j := 0) dX12_stops_13 rfl rfl ?_
    refine sn_gR (pc := 14) dX12_stops_14 flX12_7 rfl (fun v2 => ?_)
    refine sn_bipush (pc := 17) (v := 6) dX12_stops_17 (by decide) ?_
    refine sn_iconst (pc := 19) (v := 1) dX12_stops_19 (by decide) ?_
    rcases v2 with _ | a3
    · exact sn_no
    refine sn_nn ?_
    refine sn_iast (pc := 20) dX12_stops_20 ?_
    refine sn_aload_n (pc := 21) (j := 0) dX12_stops_21 rfl rfl ?_
    refine sn_gR (pc := 22) dX12_stops_22 flX12_7 rfl (fun v4 => ?_)
    refine sn_bipush (pc := 25) (v := 7) dX12_stops_25 (by decide) ?_
    refine sn_aload_n (pc := 27) (j := 0) dX12_stops_27 rfl rfl ?_
    refine sn_gI (pc := 28) dX12_stops_28 flX12_90 rfl (fun v5 => ?_)
    rcases v4 with _ | a6
    · exact sn_no
    refine sn_nn ?_
    refine sn_iast (pc := 31) dX12_stops_31 ?_
    exact sn_vret (pc := 32) dX12_stops_32 rfl
  · exact sn_vret (pc := 7) dX12_stops_7 rfl
theorem iX12_stops : MI yX12_stops cX12_stops 1 none 0 := ⟨wt1_10, wt6_199, by decide +kernel, by decide⟩
-- NeedleHomesModel also(II)V
theorem dX12_also_0 : decode cX12_also 0 = .ok (.aload_n 0, 1) := by decide +kernel
theorem dX12_also_1 : decode cX12_also 1 = .ok (.getfield 119, 3) := by decide +kernel
theorem dX12_also_4 : decode cX12_also 4 = .ok (.ifCond .ne 13, 3) := by decide +kernel
theorem dX12_also_7 : decode cX12_also 7 = .ok (.aload_n 0, 1) := by decide +kernel
theorem dX12_also_8 : decode cX12_also 8 = .ok (.getfield 7, 3) := by decide +kernel
theorem dX12_also_11 : decode cX12_also 11 = .ok (.bipush 6, 2) := by decide +kernel
theorem dX12_also_13 : decode cX12_also 13 = .ok (.iaload, 1) := by decide +kernel
theorem dX12_also_14 : decode cX12_also 14 = .ok (.ifCond .eq 4, 3) := by decide +kernel
theorem dX12_also_17 : decode cX12_also 17 = .ok (.return_, 1) := by decide +kernel
theorem dX12_also_18 : decode cX12_also 18 = .ok (.aload_n 0, 1) := by decide +kernel
theorem dX12_also_19 : decode cX12_also 19 = .ok (.getfield 7, 3) := by decide +kernel
theorem dX12_also_22 : decode cX12_also 22 = .ok (.bipush 6, 2) := by decide +kernel
theorem dX12_also_24 : decode cX12_also 24 = .ok (.iload_n 1, 1) := by decide +kernel
theorem dX12_also_25 : decode cX12_also 25 = .ok (.iastore, 1) := by decide +kernel
theorem dX12_also_26 : decode cX12_also 26 = .ok (.aload_n 0, 1) := by decide +kernel
theorem dX12_also_27 : decode cX12_also 27 = .ok (.getfield 7, 3) := by decide +kernel
theorem dX12_also_30 : decode cX12_also 30 = .ok (.bipush 7, 2) := by decide +kernel
theorem dX12_also_32 : decode cX12_also 32 = .ok (.iload_n 2, 1) := by decide +kernel
theorem dX12_also_33 : decode cX12_also 33 = .ok (.iastore, 1) := by decide +kernel
theorem dX12_also_34 : decode cX12_also 34 = .ok (.return_, 1) := by decide +kernel
abbrev dpX12_also : Nat := 0
def fX12_also (a0 : Nat) (x1 : Int32) (x2 : Int32) : St → Option (Unit × St) :=
 gI 13 a0 9 fun v1 =>
 br (v1 = 0) (gR 13 a0 0 fun v2 =>
 nn v2 fun a4 =>
 aI 15 a4 6 fun v3 =>
 br (v3 = 0) (gR 13 a0 0 fun v5 =>
 nn v5 fun a6 =>
 wI a6 6 x1 <|
 gR 13 a0 0 fun v7 =>
 nn v7 fun a8 =>
 wI a8 7 x2 <|
 rt ())
 (rt ()))
 (rt ())
set_option maxHeartbeats 4000000 in
set_option maxRecDepth 100000 in
theorem mX12_also {E : Ev} {l : Launch} (a0 : Nat) (x1 : Int32) (x2 : Int32) : MF E l dpX12_also yX12_also cX12_also 3 none rvV [.ref (E.1 + a0), .int x1, .int x2] (fX12_also a0 x1 x2) := by
  refine MF.of (lv := [(0, .ref (E.1 + a0)), (1, .int x1), (2, .int x2)]) (by decide) (Nat.le_of_ble_eq_true rfl) rfl ?_
  unfold fX12_also
  refine sn_aload_n (pc := 0) (j := 0) dX12_also_0 rfl rfl ?_
  refine sn_gI (pc := 1) dX12_also_1 flX12_119 rfl (fun v1 => ?_)
  refine sn_if_ne (pc := 4) (tgt := 17) dX12_also_4 (by decide) ?_ ?_
  · exact sn_vret (pc := 17) dX12_also_17 rfl
  · refine sn_aload_n (pc := 7) (j := 0) dX12_also_7 rfl rfl ?_
    refine sn_gR (pc := 8) dX12_also_8 flX12_7 rfl (fun v2 => ?_)
    refine sn_bipush (pc := 11) (v := 6) dX12_also_11 (by decide) ?_
    rcases v2 with _ | a4
    · exact sn_no
    refine sn_nn ?_
    refine sn_iald (pc := 13) dX12_also_13 (fun v3 => ?_)
    refine sn_if_eq (pc := 14) (tgt := 18) dX12_also_14 (by decide) ?_ ?_
    · refine sn_aload_n (pc := 18) (j := 0) dX12_also_18 rfl rfl ?_
      refine sn_gR (pc := 19) dX12_also_19 flX12_7 rfl (fun v5 => ?_)
      refine sn_bipush (pc := 22) (v := 6) dX12_also_22 (by decide) ?_
      refine sn_iload_n (pc := 24) (j := 1) dX12_also_24 rfl rfl ?_
      rcases v5 with _ | a6
      · exact sn_no
      refine sn_nn ?_
      refine sn_iast (pc := 25) dX12_also_25 ?_
      refine sn_aload_n (pc := 26) (j := 0) dX12_also_26 rfl rfl ?_
      refine sn_gR (pc := 27) dX12_also_27 flX12_7 rfl (fun v7 => ?_)
      refine sn_bipush (pc := 30) (v := 7) dX12_also_30 (by decide) ?_
      refine sn_iload_n (pc := 32) (j := 2) dX12_also_32 rfl rfl ?_
      rcases v7 with _ | a8
      · exact sn_no
      refine sn_nn ?_
      refine sn_iast (pc := 33) dX12_also_33 ?_
      exact sn_vret (pc := 34) dX12_also_34 rfl
    · exact sn_vret (pc := 17) dX12_also_17 rfl
theorem iX12_also : MI yX12_also cX12_also 3 none 2 := ⟨wt1_10, wt6_215, by decide +kernel, by decide⟩
-- NeedleHomesModel isSign(I)Z
theorem dX12_isSign_0 : decode cX12_isSign 0 = .ok (.aload_n 0, 1) := by decide +kernel
theorem dX12_isSign_1 : decode cX12_isSign 1 = .ok (.getfield 119, 3) := by decide +kernel
theorem dX12_isSign_4 : decode cX12_isSign 4 = .ok (.ifCond .ne 23, 3) := by decide +kernel
theorem dX12_isSign_7 : decode cX12_isSign 7 = .ok (.aload_n 0, 1) := by decide +kernel
theorem dX12_isSign_8 : decode cX12_isSign 8 = .ok (.getfield 93, 3) := by decide +kernel
theorem dX12_isSign_11 : decode cX12_isSign 11 = .ok (.iconst 2, 1) := by decide +kernel
theorem dX12_isSign_12 : decode cX12_isSign 12 = .ok (.if_icmp .ne 15, 3) := by decide +kernel
theorem dX12_isSign_15 : decode cX12_isSign 15 = .ok (.aload_n 0, 1) := by decide +kernel
theorem dX12_isSign_16 : decode cX12_isSign 16 = .ok (.getfield 113, 3) := by decide +kernel
theorem dX12_isSign_19 : decode cX12_isSign 19 = .ok (.iload_n 1, 1) := by decide +kernel
theorem dX12_isSign_20 : decode cX12_isSign 20 = .ok (.if_icmp .ne 7, 3) := by decide +kernel
theorem dX12_isSign_23 : decode cX12_isSign 23 = .ok (.iconst 1, 1) := by decide +kernel
theorem dX12_isSign_24 : decode cX12_isSign 24 = .ok (.goto 4, 3) := by decide +kernel
theorem dX12_isSign_27 : decode cX12_isSign 27 = .ok (.iconst 0, 1) := by decide +kernel
theorem dX12_isSign_28 : decode cX12_isSign 28 = .ok (.ireturn, 1) := by decide +kernel
abbrev dpX12_isSign : Nat := 0
def fX12_isSign (a0 : Nat) (x1 : Int32) : St → Option (Bool × St) :=
 gI 13 a0 9 fun v1 =>
 br (v1 = 0) (gI 13 a0 5 fun v2 =>
 br (v2 = 2) (gI 13 a0 7 fun v3 =>
 br (v3 = x1) (rtZ 1)
 (rtZ 0))
 (rtZ 0))
 (rtZ 0)
set_option maxHeartbeats 4000000 in
set_option maxRecDepth 100000 in
theorem mX12_isSign {E : Ev} {l : Launch} (a0 : Nat) (x1 : Int32) : MF E l dpX12_isSign yX12_isSign cX12_isSign 2 (some .boolean) rvZ [.ref (E.1 + a0), .int x1] (fX12_isSign a0 x1) := by
  refine MF.of (lv := [(0, .ref (E.1 + a0)), (1, .int x1)]) (by decide) (Nat.le_of_ble_eq_true rfl) rfl ?_
  unfold fX12_isSign
  refine sn_aload_n (pc := 0) (j := 0) dX12_isSign_0 rfl rfl ?_
  refine sn_gI (pc := 1) dX12_isSign_1 flX12_119 rfl (fun v1 => ?_)
  refine sn_if_ne (pc := 4) (tgt := 27) dX12_isSign_4 (by decide) ?_ ?_
  · refine sn_iconst (pc := 27) (v := 0) dX12_isSign_27 (by decide) ?_
    exact sn_zret (pc := 28) dX12_isSign_28 rfl
  · refine sn_aload_n (pc := 7) (j := 0) dX12_isSign_7 rfl rfl ?_
    refine sn_gI (pc := 8) dX12_isSign_8 flX12_93 rfl (fun v2 => ?_)
    refine sn_iconst (pc := 11) (v := 2) dX12_isSign_11 (by decide) ?_
    refine sn_icmp_ne (pc := 12) (tgt := 27) dX12_isSign_12 (by decide) ?_ ?_
    · refine sn_iconst (pc := 27) (v := 0) dX12_isSign_27 (by decide) ?_
      exact sn_zret (pc := 28) dX12_isSign_28 rfl
    · refine sn_aload_n (pc := 15) (j := 0) dX12_isSign_15 rfl rfl ?_
      refine sn_gI (pc := 16) dX12_isSign_16 flX12_113 rfl (fun v3 => ?_)
      refine sn_iload_n (pc := 19) (j := 1) dX12_isSign_19 rfl rfl ?_
      refine sn_icmp_ne (pc := 20) (tgt := 27) dX12_isSign_20 (by decide) ?_ ?_
      · refine sn_iconst (pc := 27) (v := 0) dX12_isSign_27 (by decide) ?_
        exact sn_zret (pc := 28) dX12_isSign_28 rfl
      · refine sn_iconst (pc := 23) (v := 1) dX12_isSign_23 (by decide) ?_
        refine sn_goto (pc := 24) (tgt := 28) dX12_isSign_24 (by decide) ?_
        exact sn_zret (pc := 28) dX12_isSign_28 rfl
theorem iX12_isSign : MI yX12_isSign cX12_isSign 2 (some .boolean) 1 := ⟨wt1_10, wt6_187, by decide +kernel, by decide⟩
-- NeedleHomesModel takes(I)Z
theorem dX12_takes_0 : decode cX12_takes 0 = .ok (.aload_n 0, 1) := by decide +kernel
theorem dX12_takes_1 : decode cX12_takes 1 = .ok (.getfield 119, 3) := by decide +kernel
theorem dX12_takes_4 : decode cX12_takes 4 = .ok (.ifCond .ne 19, 3) := by decide +kernel
theorem dX12_takes_7 : decode cX12_takes 7 = .ok (.aload_n 0, 1) := by decide +kernel
theorem dX12_takes_8 : decode cX12_takes 8 = .ok (.getfield 93, 3) := by decide +kernel
theorem dX12_takes_11 : decode cX12_takes 11 = .ok (.iconst 3, 1) := by decide +kernel
theorem dX12_takes_12 : decode cX12_takes 12 = .ok (.if_icmp .ne 11, 3) := by decide +kernel
theorem dX12_takes_15 : decode cX12_takes 15 = .ok (.aload_n 0, 1) := by decide +kernel
theorem dX12_takes_16 : decode cX12_takes 16 = .ok (.getfield 104, 3) := by decide +kernel
theorem dX12_takes_19 : decode cX12_takes 19 = .ok (.iload_n 1, 1) := by decide +kernel
theorem dX12_takes_20 : decode cX12_takes 20 = .ok (.if_icmp .eq 5, 3) := by decide +kernel
theorem dX12_takes_23 : decode cX12_takes 23 = .ok (.iconst 0, 1) := by decide +kernel
theorem dX12_takes_24 : decode cX12_takes 24 = .ok (.ireturn, 1) := by decide +kernel
theorem dX12_takes_25 : decode cX12_takes 25 = .ok (.aload_n 0, 1) := by decide +kernel
theorem dX12_takes_26 : decode cX12_takes 26 = .ok (.invokevirtual 123, 3) := by decide +kernel
theorem dX12_takes_29 : decode cX12_takes 29 = .ok (.iconst 1, 1) := by decide +kernel
theorem dX12_takes_30 : decode cX12_takes 30 = .ok (.ireturn, 1) := by decide +kernel
abbrev dpX12_takes : Nat := 4
def fX12_takes (a0 : Nat) (x1 : Int32) : St → Option (Bool × St) :=
 gI 13 a0 9 fun v1 =>
 br (v1 = 0) (gI 13 a0 5 fun v2 =>
 br (v2 = 3) (gI 13 a0 8 fun v3 =>
 br (v3 = x1) (ck 13 a0 <| cl (fX12_step a0) fun v4 =>
 rtZ 1)
 (rtZ 0))
 (rtZ 0))
 (rtZ 0)
set_option maxHeartbeats 4000000 in
set_option maxRecDepth 100000 in
theorem mX12_takes {E : Ev} {l : Launch} (a0 : Nat) (x1 : Int32) : MF E l dpX12_takes yX12_takes cX12_takes 2 (some .boolean) rvZ [.ref (E.1 + a0), .int x1] (fX12_takes a0 x1) := by
  refine MF.of (lv := [(0, .ref (E.1 + a0)), (1, .int x1)]) (by decide) (Nat.le_of_ble_eq_true rfl) rfl ?_
  unfold fX12_takes
  refine sn_aload_n (pc := 0) (j := 0) dX12_takes_0 rfl rfl ?_
  refine sn_gI (pc := 1) dX12_takes_1 flX12_119 rfl (fun v1 => ?_)
  refine sn_if_ne (pc := 4) (tgt := 23) dX12_takes_4 (by decide) ?_ ?_
  · refine sn_iconst (pc := 23) (v := 0) dX12_takes_23 (by decide) ?_
    exact sn_zret (pc := 24) dX12_takes_24 rfl
  · refine sn_aload_n (pc := 7) (j := 0) dX12_takes_7 rfl rfl ?_
    refine sn_gI (pc := 8) dX12_takes_8 flX12_93 rfl (fun v2 => ?_)
    refine sn_iconst (pc := 11) (v := 3) dX12_takes_11 (by decide) ?_
    refine sn_icmp_ne (pc := 12) (tgt := 23) dX12_takes_12 (by decide) ?_ ?_
    · refine sn_iconst (pc := 23) (v := 0) dX12_takes_23 (by decide) ?_
      exact sn_zret (pc := 24) dX12_takes_24 rfl
    · refine sn_aload_n (pc := 15) (j := 0) dX12_takes_15 rfl rfl ?_
      refine sn_gI (pc := 16) dX12_takes_16 flX12_104 rfl (fun v3 => ?_)
      refine sn_iload_n (pc := 19) (j := 1) dX12_takes_19 rfl rfl ?_
      refine sn_icmp_eq (pc := 20) (tgt := 25) dX12_takes_20 (by decide) ?_ ?_
      · refine sn_aload_n (pc := 25) (j := 0) dX12_takes_25 rfl rfl ?_
        refine sn_callV (ci := 12) (pc := 26) dX12_takes_26 iX12_step wt6_147 ws_42 wt6_145 ⟨_, rfl, rfl⟩ (by decide) (mX12_step a0) (by decide) rfl rfl (Nat.le_of_ble_eq_true rfl) (fun v4 => ?_)
        refine sn_iconst (pc := 29) (v := 1) dX12_takes_29 (by decide) ?_
        exact sn_zret (pc := 30) dX12_takes_30 rfl
      · refine sn_iconst (pc := 23) (v := 0) dX12_takes_23 (by decide) ?_
        exact sn_zret (pc := 24) dX12_takes_24 rfl
theorem iX12_takes : MI yX12_takes cX12_takes 2 (some .boolean) 1 := ⟨wt1_10, wt6_211, by decide +kernel, by decide⟩
-- NeedleHomesModel must(I)V
theorem dX12_must_0 : decode cX12_must 0 = .ok (.aload_n 0, 1) := by decide +kernel
theorem dX12_must_1 : decode cX12_must 1 = .ok (.iload_n 1, 1) := by decide +kernel
theorem dX12_must_2 : decode cX12_must 2 = .ok (.invokevirtual 126, 3) := by decide +kernel
theorem dX12_must_5 : decode cX12_must 5 = .ok (.ifCond .eq 10, 3) := by decide +kernel
theorem dX12_must_8 : decode cX12_must 8 = .ok (.aload_n 0, 1) := by decide +kernel
theorem dX12_must_9 : decode cX12_must 9 = .ok (.invokevirtual 123, 3) := by decide +kernel
theorem dX12_must_12 : decode cX12_must 12 = .ok (.goto 7, 3) := by decide +kernel
theorem dX12_must_15 : decode cX12_must 15 = .ok (.aload_n 0, 1) := by decide +kernel
theorem dX12_must_16 : decode cX12_must 16 = .ok (.invokevirtual 129, 3) := by decide +kernel
theorem dX12_must_19 : decode cX12_must 19 = .ok (.return_, 1) := by decide +kernel
abbrev dpX12_must : Nat := 4
def fX12_must (a0 : Nat) (x1 : Int32) : St → Option (Unit × St) :=
 ck 13 a0 <| cl (fX12_isSign a0 x1) fun v1 =>
 br ((bi v1) = 0) (ck 13 a0 <| cl (fX12_stops a0) fun v2 =>
 rt ())
 (ck 13 a0 <| cl (fX12_step a0) fun v3 =>
 rt ())
set_option maxHeartbeats 4000000 in
set_option maxRecDepth 100000 in
theorem mX12_must {E : Ev} {l : Launch} (a0 : Nat) (x1 : Int32) : MF E l dpX12_must yX12_must cX12_must 2 none rvV [.ref (E.1 + a0), .int x1] (fX12_must a0 x1) := by
  refine MF.of (lv := [(0, .ref (E.1 + a0)), (1, .int x1)]) (by decide) (Nat.le_of_ble_eq_true rfl) rfl ?_
  unfold fX12_must
  refine sn_aload_n (pc := 0) (j := 0) dX12_must_0 rfl rfl ?_
  refine sn_iload_n (pc := 1) (j := 1) dX12_must_1 rfl rfl ?_
  refine sn_callV (ci := 12) (pc := 2) dX12_must_2 iX12_isSign wt6_186 ws_45 wt6_184 ⟨_, rfl, rfl⟩ (by decide) (mX12_isSign a0 x1) (by decide) rfl rfl (Nat.le_of_ble_eq_true rfl) (fun v1 => ?_)
  refine sn_if_eq (pc := 5) (tgt := 15) dX12_must_5 (by decide) ?_ ?_
  · refine sn_aload_n (pc := 15) (j := 0) dX12_must_15 rfl rfl ?_
    refine sn_callV (ci := 12) (pc := 16) dX12_must_16 iX12_stops wt6_198 ws_48 wt6_196 ⟨_, rfl, rfl⟩ (by decide) (mX12_stops a0) (by decide) rfl rfl (Nat.le_of_ble_eq_true rfl) (fun v2 => ?_)
    exact sn_vret (pc := 19) dX12_must_19 rfl
  · refine sn_aload_n (pc := 8) (j := 0) dX12_must_8 rfl rfl ?_
    refine sn_callV (ci := 12) (pc := 9) dX12_must_9 iX12_step wt6_147 ws_42 wt6_145 ⟨_, rfl, rfl⟩ (by decide) (mX12_step a0) (by decide) rfl rfl (Nat.le_of_ble_eq_true rfl) (fun v3 => ?_)
    refine sn_goto (pc := 12) (tgt := 19) dX12_must_12 (by decide) ?_
    exact sn_vret (pc := 19) dX12_must_19 rfl
theorem iX12_must : MI yX12_must cX12_must 2 none 1 := ⟨wt1_10, wt6_219, by decide +kernel, by decide⟩
-- NeedleHomesModel numbered()I
theorem dX12_numbered_0 : decode cX12_numbered 0 = .ok (.aload_n 0, 1) := by decide +kernel
theorem dX12_numbered_1 : decode cX12_numbered 1 = .ok (.getfield 110, 3) := by decide +kernel
theorem dX12_numbered_4 : decode cX12_numbered 4 = .ok (.istore_n 1, 1) := by decide +kernel
theorem dX12_numbered_5 : decode cX12_numbered 5 = .ok (.aload_n 0, 1) := by decide +kernel
theorem dX12_numbered_6 : decode cX12_numbered 6 = .ok (.getfield 119, 3) := by decide +kernel
theorem dX12_numbered_9 : decode cX12_numbered 9 = .ok (.ifCond .ne 18, 3) := by decide +kernel
theorem dX12_numbered_12 : decode cX12_numbered 12 = .ok (.aload_n 0, 1) := by decide +kernel
theorem dX12_numbered_13 : decode cX12_numbered 13 = .ok (.getfield 93, 3) := by decide +kernel
theorem dX12_numbered_16 : decode cX12_numbered 16 = .ok (.iconst 1, 1) := by decide +kernel
theorem dX12_numbered_17 : decode cX12_numbered 17 = .ok (.if_icmp .ne 10, 3) := by decide +kernel
theorem dX12_numbered_20 : decode cX12_numbered 20 = .ok (.aload_n 0, 1) := by decide +kernel
theorem dX12_numbered_21 : decode cX12_numbered 21 = .ok (.invokevirtual 123, 3) := by decide +kernel
theorem dX12_numbered_24 : decode cX12_numbered 24 = .ok (.goto 7, 3) := by decide +kernel
theorem dX12_numbered_27 : decode cX12_numbered 27 = .ok (.aload_n 0, 1) := by decide +kernel
theorem dX12_numbered_28 : decode cX12_numbered 28 = .ok (.invokevirtual 129, 3) := by decide +kernel
theorem dX12_numbered_31 : decode cX12_numbered 31 = .ok (.iload_n 1, 1) := by decide +kernel
theorem dX12_numbered_32 : decode cX12_numbered 32 = .ok (.ireturn, 1) := by decide +kernel
abbrev dpX12_numbered : Nat := 4
def fX12_numbered_27 (a0 : Nat) (x1 : Int32) : St → Option (Int32 × St) :=
 ck 13 a0 <| cl (fX12_stops a0) fun v1001 =>
 rt x1
set_option maxHeartbeats 4000000 in
set_option maxRecDepth 100000 in
theorem sfX12_numbered_27 {E : Ev} {l : Launch} (a0 : Nat) (x1 : Int32) : Snd E l (dpX12_numbered, RX12, cX12_numbered, 2, (some .int), "numbered") rvI 27 [(0, .ref (E.1 + a0)), (1, .int x1)] [] (fX12_numbered_27 a0 x1) := by
  unfold fX12_numbered_27
  refine sn_aload_n (pc := 27) (j := 0) dX12_numbered_27 rfl rfl ?_
  refine sn_callV (ci := 12) (pc := 28) dX12_numbered_28 iX12_stops wt6_198 ws_48 wt6_196 ⟨_, rfl, rfl⟩ (by decide) (mX12_stops a0) (by decide) rfl rfl (Nat.le_of_ble_eq_true rfl) (fun v1001 => ?_)
  refine sn_iload_n (pc := 31) (j := 1) dX12_numbered_31 rfl rfl ?_
  exact sn_iret (pc := 32) dX12_numbered_32 rfl
def fX12_numbered (a0 : Nat) : St → Option (Int32 × St) :=
 gI 13 a0 6 fun v1 =>
 gI 13 a0 9 fun v2 =>
 br (v2 = 0) (gI 13 a0 5 fun v3 =>
 br (v3 = 1) (ck 13 a0 <| cl (fX12_step a0) fun v4 =>
 rt v1)
 (fX12_numbered_27  a0 v1))
 (fX12_numbered_27  a0 v1)
set_option maxHeartbeats 4000000 in
set_option maxRecDepth 100000 in
theorem mX12_numbered {E : Ev} {l : Launch} (a0 : Nat) : MF E l dpX12_numbered yX12_numbered cX12_numbered 2 (some .int) rvI [.ref (E.1 + a0)] (fX12_numbered a0) := by
  refine MF.of (lv := [(0, .ref (E.1 + a0))]) (by decide) (Nat.le_of_ble_eq_true rfl) rfl ?_
  unfold fX12_numbered
  refine sn_aload_n (pc := 0) (j := 0) dX12_numbered_0 rfl rfl ?_
  refine sn_gI (pc := 1) dX12_numbered_1 flX12_110 rfl (fun v1 => ?_)
  refine sn_istore_n (pc := 4) (i := 1) (lv' := [(1, .int v1), (0, .ref (E.1 + a0))]) dX12_numbered_4 rfl (by decide) rfl ?_
  refine sn_aload_n (pc := 5) (j := 1) dX12_numbered_5 rfl rfl ?_
  refine sn_gI (pc := 6) dX12_numbered_6 flX12_119 rfl (fun v2 => ?_)
  refine sn_if_ne (pc := 9) (tgt := 27) dX12_numbered_9 (by decide) ?_ ?_
  · exact sn_sub (lv' := [(0, .ref (E.1 + a0)), (1, .int v1)]) [1, 0] rfl (sfX12_numbered_27  a0 v1)
  · refine sn_aload_n (pc := 12) (j := 1) dX12_numbered_12 rfl rfl ?_
    refine sn_gI (pc := 13) dX12_numbered_13 flX12_93 rfl (fun v3 => ?_)
    refine sn_iconst (pc := 16) (v := 1) dX12_numbered_16 (by decide) ?_
    refine sn_icmp_ne (pc := 17) (tgt := 27) dX12_numbered_17 (by decide) ?_ ?_
    · exact sn_sub (lv' := [(0, .ref (E.1 + a0)), (1, .int v1)]) [1, 0] rfl (sfX12_numbered_27  a0 v1)
    · refine sn_aload_n (pc := 20) (j := 1) dX12_numbered_20 rfl rfl ?_
      refine sn_callV (ci := 12) (pc := 21) dX12_numbered_21 iX12_step wt6_147 ws_42 wt6_145 ⟨_, rfl, rfl⟩ (by decide) (mX12_step a0) (by decide) rfl rfl (Nat.le_of_ble_eq_true rfl) (fun v4 => ?_)
      refine sn_goto (pc := 24) (tgt := 31) dX12_numbered_24 (by decide) ?_
      refine sn_iload_n (pc := 31) (j := 0) dX12_numbered_31 rfl rfl ?_
      exact sn_iret (pc := 32) dX12_numbered_32 rfl
theorem iX12_numbered : MI yX12_numbered cX12_numbered 2 (some .int) 0 := ⟨wt1_10, wt6_195, by decide +kernel, by decide⟩
-- NeedleHomesModel begins()V
theorem dX12_begins_0 : decode cX12_begins 0 = .ok (.aload_n 0, 1) := by decide +kernel
theorem dX12_begins_1 : decode cX12_begins 1 = .ok (.aload_n 0, 1) := by decide +kernel
theorem dX12_begins_2 : decode cX12_begins 2 = .ok (.getfield 7, 3) := by decide +kernel
theorem dX12_begins_5 : decode cX12_begins 5 = .ok (.iconst 5, 1) := by decide +kernel
theorem dX12_begins_6 : decode cX12_begins 6 = .ok (.iaload, 1) := by decide +kernel
theorem dX12_begins_7 : decode cX12_begins 7 = .ok (.putfield 55, 3) := by decide +kernel
theorem dX12_begins_10 : decode cX12_begins 10 = .ok (.aload_n 0, 1) := by decide +kernel
theorem dX12_begins_11 : decode cX12_begins 11 = .ok (.getfield 7, 3) := by decide +kernel
theorem dX12_begins_14 : decode cX12_begins 14 = .ok (.iconst 5, 1) := by decide +kernel
theorem dX12_begins_15 : decode cX12_begins 15 = .ok (.iconst 0, 1) := by decide +kernel
theorem dX12_begins_16 : decode cX12_begins 16 = .ok (.iastore, 1) := by decide +kernel
theorem dX12_begins_17 : decode cX12_begins 17 = .ok (.aload_n 0, 1) := by decide +kernel
theorem dX12_begins_18 : decode cX12_begins 18 = .ok (.getfield 7, 3) := by decide +kernel
theorem dX12_begins_21 : decode cX12_begins 21 = .ok (.bipush 6, 2) := by decide +kernel
theorem dX12_begins_23 : decode cX12_begins 23 = .ok (.iconst 0, 1) := by decide +kernel
theorem dX12_begins_24 : decode cX12_begins 24 = .ok (.iastore, 1) := by decide +kernel
theorem dX12_begins_25 : decode cX12_begins 25 = .ok (.aload_n 0, 1) := by decide +kernel
theorem dX12_begins_26 : decode cX12_begins 26 = .ok (.getfield 7, 3) := by decide +kernel
theorem dX12_begins_29 : decode cX12_begins 29 = .ok (.bipush 7, 2) := by decide +kernel
theorem dX12_begins_31 : decode cX12_begins 31 = .ok (.iconst (-1), 1) := by decide +kernel
theorem dX12_begins_32 : decode cX12_begins 32 = .ok (.iastore, 1) := by decide +kernel
theorem dX12_begins_33 : decode cX12_begins 33 = .ok (.aload_n 0, 1) := by decide +kernel
theorem dX12_begins_34 : decode cX12_begins 34 = .ok (.iconst 0, 1) := by decide +kernel
theorem dX12_begins_35 : decode cX12_begins 35 = .ok (.putfield 83, 3) := by decide +kernel
theorem dX12_begins_38 : decode cX12_begins 38 = .ok (.aload_n 0, 1) := by decide +kernel
theorem dX12_begins_39 : decode cX12_begins 39 = .ok (.iconst 0, 1) := by decide +kernel
theorem dX12_begins_40 : decode cX12_begins 40 = .ok (.putfield 119, 3) := by decide +kernel
theorem dX12_begins_43 : decode cX12_begins 43 = .ok (.return_, 1) := by decide +kernel
abbrev dpX12_begins : Nat := 0
def fX12_begins (a0 : Nat) : St → Option (Unit × St) :=
 gR 13 a0 0 fun v1 =>
 nn v1 fun a3 =>
 aI 15 a3 5 fun v2 =>
 pI 13 a0 2 v2 <|
 gR 13 a0 0 fun v4 =>
 nn v4 fun a5 =>
 wI a5 5 0 <|
 gR 13 a0 0 fun v6 =>
 nn v6 fun a7 =>
 wI a7 6 0 <|
 gR 13 a0 0 fun v8 =>
 nn v8 fun a9 =>
 wI a9 7 (-1) <|
 pI 13 a0 3 0 <|
 pZ 13 a0 9 0 <|
 rt ()
set_option maxHeartbeats 4000000 in
set_option maxRecDepth 100000 in
theorem mX12_begins {E : Ev} {l : Launch} (a0 : Nat) : MF E l dpX12_begins yX12_begins cX12_begins 1 none rvV [.ref (E.1 + a0)] (fX12_begins a0) := by
  refine MF.of (lv := [(0, .ref (E.1 + a0))]) (by decide) (Nat.le_of_ble_eq_true rfl) rfl ?_
  unfold fX12_begins
  refine sn_aload_n (pc := 0) (j := 0) dX12_begins_0 rfl rfl ?_
  refine sn_aload_n (pc := 1) (j := 0) dX12_begins_1 rfl rfl ?_
  refine sn_gR (pc := 2) dX12_begins_2 flX12_7 rfl (fun v1 => ?_)
  refine sn_iconst (pc := 5) (v := 5) dX12_begins_5 (by decide) ?_
  rcases v1 with _ | a3
  · exact sn_no
  refine sn_nn ?_
  refine sn_iald (pc := 6) dX12_begins_6 (fun v2 => ?_)
  refine sn_pI (pc := 7) dX12_begins_7 flX12_55 rfl rfl (Or.inl rfl) ?_
  refine sn_aload_n (pc := 10) (j := 0) dX12_begins_10 rfl rfl ?_
  refine sn_gR (pc := 11) dX12_begins_11 flX12_7 rfl (fun v4 => ?_)
  refine sn_iconst (pc := 14) (v := 5) dX12_begins_14 (by decide) ?_
  refine sn_iconst (pc := 15) (v := 0) dX12_begins_15 (by decide) ?_
  rcases v4 with _ | a5
  · exact sn_no
  refine sn_nn ?_
  refine sn_iast (pc := 16) dX12_begins_16 ?_
  refine sn_aload_n (pc := 17) (j := 0) dX12_begins_17 rfl rfl ?_
  refine sn_gR (pc := 18) dX12_begins_18 flX12_7 rfl (fun v6 => ?_)
  refine sn_bipush (pc := 21) (v := 6) dX12_begins_21 (by decide) ?_
  refine sn_iconst (pc := 23) (v := 0) dX12_begins_23 (by decide) ?_
  rcases v6 with _ | a7
  · exact sn_no
  refine sn_nn ?_
  refine sn_iast (pc := 24) dX12_begins_24 ?_
  refine sn_aload_n (pc := 25) (j := 0) dX12_begins_25 rfl rfl ?_
  refine sn_gR (pc := 26) dX12_begins_26 flX12_7 rfl (fun v8 => ?_)
  refine sn_bipush (pc := 29) (v := 7) dX12_begins_29 (by decide) ?_
  refine sn_iconst (pc := 31) (v := (-1)) dX12_begins_31 (by decide) ?_
  rcases v8 with _ | a9
  · exact sn_no
  refine sn_nn ?_
  refine sn_iast (pc := 32) dX12_begins_32 ?_
  refine sn_aload_n (pc := 33) (j := 0) dX12_begins_33 rfl rfl ?_
  refine sn_iconst (pc := 34) (v := 0) dX12_begins_34 (by decide) ?_
  refine sn_pI (pc := 35) dX12_begins_35 flX12_83 rfl rfl (Or.inl rfl) ?_
  refine sn_aload_n (pc := 38) (j := 0) dX12_begins_38 rfl rfl ?_
  refine sn_iconst (pc := 39) (v := 0) dX12_begins_39 (by decide) ?_
  refine sn_pZ (pc := 40) dX12_begins_40 flX12_119 rfl rfl (Or.inl rfl) ?_
  exact sn_vret (pc := 43) dX12_begins_43 rfl
theorem iX12_begins : MI yX12_begins cX12_begins 1 none 0 := ⟨wt1_10, wt6_136, by decide +kernel, by decide⟩
-- NeedleHomesModel least(J)J
theorem dX12_least_0 : decode cX12_least 0 = .ok (.lload_n 0, 1) := by decide +kernel
theorem dX12_least_1 : decode cX12_least 1 = .ok (.ldc2_w 132, 3) := by decide +kernel
theorem dX12_least_4 : decode cX12_least 4 = .ok (.lcmp, 1) := by decide +kernel
theorem dX12_least_5 : decode cX12_least 5 = .ok (.ifCond .ge 7, 3) := by decide +kernel
theorem dX12_least_8 : decode cX12_least 8 = .ok (.lload_n 0, 1) := by decide +kernel
theorem dX12_least_9 : decode cX12_least 9 = .ok (.goto 6, 3) := by decide +kernel
theorem dX12_least_12 : decode cX12_least 12 = .ok (.ldc2_w 132, 3) := by decide +kernel
theorem dX12_least_15 : decode cX12_least 15 = .ok (.lreturn, 1) := by decide +kernel
abbrev dpX12_least : Nat := 0
def fX12_least (x0 : Int64) : St → Option (Int64 × St) :=
 br (0 ≤ (lg_cmp x0 2000000)) (rt 2000000)
 (rt x0)
set_option maxHeartbeats 4000000 in
set_option maxRecDepth 100000 in
theorem mX12_least {E : Ev} {l : Launch} (x0 : Int64) : MF E l dpX12_least yX12_least cX12_least 2 (some .long) rvJ [.long x0] (fX12_least x0) := by
  refine MF.of (lv := [(0, .long x0)]) (by decide) (Nat.le_of_ble_eq_true rfl) rfl ?_
  unfold fX12_least
  refine sn_lload_n (pc := 0) (j := 0) dX12_least_0 rfl rfl ?_
  refine sn_ldc2 (pc := 1) (v := 2000000) dX12_least_1 wt6_207 ?_
  refine sn_lcmp (pc := 4) dX12_least_4 ?_
  refine sn_if_ge (pc := 5) (tgt := 12) dX12_least_5 (by decide) ?_ ?_
  · refine sn_ldc2 (pc := 12) (v := 2000000) dX12_least_12 wt6_207 ?_
    exact sn_lret (pc := 15) dX12_least_15 rfl
  · refine sn_lload_n (pc := 8) (j := 0) dX12_least_8 rfl rfl ?_
    refine sn_goto (pc := 9) (tgt := 15) dX12_least_9 (by decide) ?_
    exact sn_lret (pc := 15) dX12_least_15 rfl
theorem iX12_least : MI yX12_least cX12_least 2 (some .long) 1 := ⟨wt1_10, wt6_206, by decide +kernel, by decide⟩
-- NeedleHomesModel opens(I)V
theorem dX12_opens_0 : decode cX12_opens 0 = .ok (.iconst 0, 1) := by decide +kernel
theorem dX12_opens_1 : decode cX12_opens 1 = .ok (.istore_n 2, 1) := by decide +kernel
theorem dX12_opens_2 : decode cX12_opens 2 = .ok (.iload_n 2, 1) := by decide +kernel
theorem dX12_opens_3 : decode cX12_opens 3 = .ok (.bipush 6, 2) := by decide +kernel
theorem dX12_opens_5 : decode cX12_opens 5 = .ok (.if_icmp .ge 24, 3) := by decide +kernel
theorem dX12_opens_8 : decode cX12_opens 8 = .ok (.aload_n 0, 1) := by decide +kernel
theorem dX12_opens_9 : decode cX12_opens 9 = .ok (.getfield 17, 3) := by decide +kernel
theorem dX12_opens_12 : decode cX12_opens 12 = .ok (.bipush 6, 2) := by decide +kernel
theorem dX12_opens_14 : decode cX12_opens 14 = .ok (.aload_n 0, 1) := by decide +kernel
theorem dX12_opens_15 : decode cX12_opens 15 = .ok (.getfield 134, 3) := by decide +kernel
theorem dX12_opens_18 : decode cX12_opens 18 = .ok (.imul, 1) := by decide +kernel
theorem dX12_opens_19 : decode cX12_opens 19 = .ok (.iload_n 2, 1) := by decide +kernel
theorem dX12_opens_20 : decode cX12_opens 20 = .ok (.iadd, 1) := by decide +kernel
theorem dX12_opens_21 : decode cX12_opens 21 = .ok (.lconst 0, 1) := by decide +kernel
theorem dX12_opens_22 : decode cX12_opens 22 = .ok (.lastore, 1) := by decide +kernel
theorem dX12_opens_23 : decode cX12_opens 23 = .ok (.iinc 2 1, 3) := by decide +kernel
theorem dX12_opens_26 : decode cX12_opens 26 = .ok (.goto (-24), 3) := by decide +kernel
theorem dX12_opens_29 : decode cX12_opens 29 = .ok (.iconst 0, 1) := by decide +kernel
theorem dX12_opens_30 : decode cX12_opens 30 = .ok (.istore_n 2, 1) := by decide +kernel
theorem dX12_opens_31 : decode cX12_opens 31 = .ok (.iload_n 2, 1) := by decide +kernel
theorem dX12_opens_32 : decode cX12_opens 32 = .ok (.bipush 24, 2) := by decide +kernel
theorem dX12_opens_34 : decode cX12_opens 34 = .ok (.if_icmp .ge 24, 3) := by decide +kernel
theorem dX12_opens_37 : decode cX12_opens 37 = .ok (.aload_n 0, 1) := by decide +kernel
theorem dX12_opens_38 : decode cX12_opens 38 = .ok (.getfield 21, 3) := by decide +kernel
theorem dX12_opens_41 : decode cX12_opens 41 = .ok (.bipush 24, 2) := by decide +kernel
theorem dX12_opens_43 : decode cX12_opens 43 = .ok (.aload_n 0, 1) := by decide +kernel
theorem dX12_opens_44 : decode cX12_opens 44 = .ok (.getfield 134, 3) := by decide +kernel
theorem dX12_opens_47 : decode cX12_opens 47 = .ok (.imul, 1) := by decide +kernel
theorem dX12_opens_48 : decode cX12_opens 48 = .ok (.iload_n 2, 1) := by decide +kernel
theorem dX12_opens_49 : decode cX12_opens 49 = .ok (.iadd, 1) := by decide +kernel
theorem dX12_opens_50 : decode cX12_opens 50 = .ok (.lconst 0, 1) := by decide +kernel
theorem dX12_opens_51 : decode cX12_opens 51 = .ok (.lastore, 1) := by decide +kernel
theorem dX12_opens_52 : decode cX12_opens 52 = .ok (.iinc 2 1, 3) := by decide +kernel
theorem dX12_opens_55 : decode cX12_opens 55 = .ok (.goto (-24), 3) := by decide +kernel
theorem dX12_opens_58 : decode cX12_opens 58 = .ok (.aload_n 0, 1) := by decide +kernel
theorem dX12_opens_59 : decode cX12_opens 59 = .ok (.getfield 24, 3) := by decide +kernel
theorem dX12_opens_62 : decode cX12_opens 62 = .ok (.aload_n 0, 1) := by decide +kernel
theorem dX12_opens_63 : decode cX12_opens 63 = .ok (.getfield 134, 3) := by decide +kernel
theorem dX12_opens_66 : decode cX12_opens 66 = .ok (.iconst (-1), 1) := by decide +kernel
theorem dX12_opens_67 : decode cX12_opens 67 = .ok (.iastore, 1) := by decide +kernel
theorem dX12_opens_68 : decode cX12_opens 68 = .ok (.aload_n 0, 1) := by decide +kernel
theorem dX12_opens_69 : decode cX12_opens 69 = .ok (.getfield 27, 3) := by decide +kernel
theorem dX12_opens_72 : decode cX12_opens 72 = .ok (.aload_n 0, 1) := by decide +kernel
theorem dX12_opens_73 : decode cX12_opens 73 = .ok (.getfield 134, 3) := by decide +kernel
theorem dX12_opens_76 : decode cX12_opens 76 = .ok (.iload_n 1, 1) := by decide +kernel
theorem dX12_opens_77 : decode cX12_opens 77 = .ok (.iastore, 1) := by decide +kernel
theorem dX12_opens_78 : decode cX12_opens 78 = .ok (.return_, 1) := by decide +kernel
abbrev dpX12_opens : Nat := 0
def fX12_opens_31 (k31 : (Nat × Int32 × Int32) → St → Option (Unit × St)) (a0 : Nat) (x1 : Int32) (x2 : Int32) : St → Option (Unit × St) :=
 br (24 ≤ x2) (gR 13 a0 12 fun v2001 =>
 gI 13 a0 14 fun v2002 =>
 nn v2001 fun a2003 =>
 wI a2003 v2002 (-1) <|
 gR 13 a0 13 fun v2004 =>
 gI 13 a0 14 fun v2005 =>
 nn v2004 fun a2006 =>
 wI a2006 v2005 x1 <|
 rt ())
 (gR 13 a0 11 fun v2007 =>
 gI 13 a0 14 fun v2008 =>
 nn v2007 fun a2009 =>
 wJ a2009 ((24 * v2008) + x2) 0 <|
 k31 (a0, x1, (x2 + 1)))
set_option maxHeartbeats 4000000 in
set_option maxRecDepth 100000 in
theorem sfX12_opens_31 {E : Ev} {l : Launch} (k31 : (Nat × Int32 × Int32) → St → Option (Unit × St)) (hk31 : ∀ p : Nat × Int32 × Int32, Snd E l (dpX12_opens, RX12, cX12_opens, 3, none, "opens") rvV 31 [(0, .ref (E.1 + p.1)), (1, .int p.2.1), (2, .int p.2.2)] [] (k31 p)) (a0 : Nat) (x1 : Int32) (x2 : Int32) : Snd E l (dpX12_opens, RX12, cX12_opens, 3, none, "opens") rvV 31 [(0, .ref (E.1 + a0)), (1, .int x1), (2, .int x2)] [] (fX12_opens_31 k31 a0 x1 x2) := by
  unfold fX12_opens_31
  refine sn_iload_n (pc := 31) (j := 2) dX12_opens_31 rfl rfl ?_
  refine sn_bipush (pc := 32) (v := 24) dX12_opens_32 (by decide) ?_
  refine sn_icmp_ge (pc := 34) (tgt := 58) dX12_opens_34 (by decide) ?_ ?_
  · refine sn_aload_n (pc := 58) (j := 0) dX12_opens_58 rfl rfl ?_
    refine sn_gR (pc := 59) dX12_opens_59 flX12_24 rfl (fun v2001 => ?_)
    refine sn_aload_n (pc := 62) (j := 0) dX12_opens_62 rfl rfl ?_
    refine sn_gI (pc := 63) dX12_opens_63 flX12_134 rfl (fun v2002 => ?_)
    refine sn_iconst (pc := 66) (v := (-1)) dX12_opens_66 (by decide) ?_
    rcases v2001 with _ | a2003
    · exact sn_no
    refine sn_nn ?_
    refine sn_iast (pc := 67) dX12_opens_67 ?_
    refine sn_aload_n (pc := 68) (j := 0) dX12_opens_68 rfl rfl ?_
    refine sn_gR (pc := 69) dX12_opens_69 flX12_27 rfl (fun v2004 => ?_)
    refine sn_aload_n (pc := 72) (j := 0) dX12_opens_72 rfl rfl ?_
    refine sn_gI (pc := 73) dX12_opens_73 flX12_134 rfl (fun v2005 => ?_)
    refine sn_iload_n (pc := 76) (j := 1) dX12_opens_76 rfl rfl ?_
    rcases v2004 with _ | a2006
    · exact sn_no
    refine sn_nn ?_
    refine sn_iast (pc := 77) dX12_opens_77 ?_
    exact sn_vret (pc := 78) dX12_opens_78 rfl
  · refine sn_aload_n (pc := 37) (j := 0) dX12_opens_37 rfl rfl ?_
    refine sn_gR (pc := 38) dX12_opens_38 flX12_21 rfl (fun v2007 => ?_)
    refine sn_bipush (pc := 41) (v := 24) dX12_opens_41 (by decide) ?_
    refine sn_aload_n (pc := 43) (j := 0) dX12_opens_43 rfl rfl ?_
    refine sn_gI (pc := 44) dX12_opens_44 flX12_134 rfl (fun v2008 => ?_)
    refine sn_imul (pc := 47) dX12_opens_47 ?_
    refine sn_iload_n (pc := 48) (j := 2) dX12_opens_48 rfl rfl ?_
    refine sn_iadd (pc := 49) dX12_opens_49 ?_
    refine sn_lconst (pc := 50) (v := 0) dX12_opens_50 (by decide) ?_
    rcases v2007 with _ | a2009
    · exact sn_no
    refine sn_nn ?_
    refine sn_last (pc := 51) dX12_opens_51 ?_
    refine sn_iinc (pc := 52) (v := x2 + 1) (lv' := [(2, .int (x2 + 1)), (0, .ref (E.1 + a0)), (1, .int x1)]) (j := 2) dX12_opens_52 rfl rfl (by decide) rfl ?_
    refine sn_goto (pc := 55) (tgt := 31) dX12_opens_55 (by decide) ?_
    exact sn_sub (lv' := [(0, .ref (E.1 + a0)), (1, .int x1), (2, .int (x2 + 1))]) [1, 2, 0] rfl (hk31 (a0, x1, (x2 + 1)))
def fX12_opens_2 (k2 : (Nat × Int32 × Int32) → St → Option (Unit × St)) (a0 : Nat) (x1 : Int32) (x2 : Int32) : St → Option (Unit × St) :=
 br (6 ≤ x2) (itr (fun k (p : Nat × Int32 × Int32) => fX12_opens_31  k p.1 p.2.1 p.2.2) FU (a0, x1, 0))
 (gR 13 a0 10 fun v1001 =>
 gI 13 a0 14 fun v1002 =>
 nn v1001 fun a1003 =>
 wJ a1003 ((6 * v1002) + x2) 0 <|
 k2 (a0, x1, (x2 + 1)))
set_option maxHeartbeats 4000000 in
set_option maxRecDepth 100000 in
theorem sfX12_opens_2 {E : Ev} {l : Launch} (k2 : (Nat × Int32 × Int32) → St → Option (Unit × St)) (hk2 : ∀ p : Nat × Int32 × Int32, Snd E l (dpX12_opens, RX12, cX12_opens, 3, none, "opens") rvV 2 [(0, .ref (E.1 + p.1)), (1, .int p.2.1), (2, .int p.2.2)] [] (k2 p)) (a0 : Nat) (x1 : Int32) (x2 : Int32) : Snd E l (dpX12_opens, RX12, cX12_opens, 3, none, "opens") rvV 2 [(0, .ref (E.1 + a0)), (1, .int x1), (2, .int x2)] [] (fX12_opens_2 k2 a0 x1 x2) := by
  unfold fX12_opens_2
  refine sn_iload_n (pc := 2) (j := 2) dX12_opens_2 rfl rfl ?_
  refine sn_bipush (pc := 3) (v := 6) dX12_opens_3 (by decide) ?_
  refine sn_icmp_ge (pc := 5) (tgt := 29) dX12_opens_5 (by decide) ?_ ?_
  · refine sn_iconst (pc := 29) (v := 0) dX12_opens_29 (by decide) ?_
    refine sn_istore_n (pc := 30) (i := 2) (lv' := [(2, .int 0), (0, .ref (E.1 + a0)), (1, .int x1)]) dX12_opens_30 rfl (by decide) rfl ?_
    exact sn_sub (lv' := [(0, .ref (E.1 + a0)), (1, .int x1), (2, .int 0)]) [1, 2, 0] rfl (sn_itr (lvf := fun p => [(0, .ref (E.1 + p.1)), (1, .int p.2.1), (2, .int p.2.2)]) (stf := fun p => []) (fun k hk p => sfX12_opens_31  k hk p.1 p.2.1 p.2.2) FU (a0, x1, 0))
  · refine sn_aload_n (pc := 8) (j := 0) dX12_opens_8 rfl rfl ?_
    refine sn_gR (pc := 9) dX12_opens_9 flX12_17 rfl (fun v1001 => ?_)
    refine sn_bipush (pc := 12) (v := 6) dX12_opens_12 (by decide) ?_
    refine sn_aload_n (pc := 14) (j := 0) dX12_opens_14 rfl rfl ?_
    refine sn_gI (pc := 15) dX12_opens_15 flX12_134 rfl (fun v1002 => ?_)
    refine sn_imul (pc := 18) dX12_opens_18 ?_
    refine sn_iload_n (pc := 19) (j := 2) dX12_opens_19 rfl rfl ?_
    refine sn_iadd (pc := 20) dX12_opens_20 ?_
    refine sn_lconst (pc := 21) (v := 0) dX12_opens_21 (by decide) ?_
    rcases v1001 with _ | a1003
    · exact sn_no
    refine sn_nn ?_
    refine sn_last (pc := 22) dX12_opens_22 ?_
    refine sn_iinc (pc := 23) (v := x2 + 1) (lv' := [(2, .int (x2 + 1)), (0, .ref (E.1 + a0)), (1, .int x1)]) (j := 2) dX12_opens_23 rfl rfl (by decide) rfl ?_
    refine sn_goto (pc := 26) (tgt := 2) dX12_opens_26 (by decide) ?_
    exact sn_sub (lv' := [(0, .ref (E.1 + a0)), (1, .int x1), (2, .int (x2 + 1))]) [1, 2, 0] rfl (hk2 (a0, x1, (x2 + 1)))
def fX12_opens (a0 : Nat) (x1 : Int32) : St → Option (Unit × St) :=
 itr (fun k (p : Nat × Int32 × Int32) => fX12_opens_2  k p.1 p.2.1 p.2.2) FU (a0, x1, 0)
set_option maxHeartbeats 4000000 in
set_option maxRecDepth 100000 in
theorem mX12_opens {E : Ev} {l : Launch} (a0 : Nat) (x1 : Int32) : MF E l dpX12_opens yX12_opens cX12_opens 3 none rvV [.ref (E.1 + a0), .int x1] (fX12_opens a0 x1) := by
  refine MF.of (lv := [(0, .ref (E.1 + a0)), (1, .int x1)]) (by decide) (Nat.le_of_ble_eq_true rfl) rfl ?_
  unfold fX12_opens
  refine sn_iconst (pc := 0) (v := 0) dX12_opens_0 (by decide) ?_
  refine sn_istore_n (pc := 1) (i := 2) (lv' := [(2, .int 0), (0, .ref (E.1 + a0)), (1, .int x1)]) dX12_opens_1 rfl (by decide) rfl ?_
  exact sn_sub (lv' := [(0, .ref (E.1 + a0)), (1, .int x1), (2, .int 0)]) [1, 2, 0] rfl (sn_itr (lvf := fun p => [(0, .ref (E.1 + p.1)), (1, .int p.2.1), (2, .int p.2.2)]) (stf := fun p => []) (fun k hk p => sfX12_opens_2  k hk p.1 p.2.1 p.2.2) FU (a0, x1, 0))
theorem iX12_opens : MI yX12_opens cX12_opens 3 none 1 := ⟨wt1_10, wt6_144, by decide +kernel, by decide⟩
-- NeedleHomesModel sews(IIJ)V
theorem dX12_sews_0 : decode cX12_sews 0 = .ok (.aload_n 0, 1) := by decide +kernel
theorem dX12_sews_1 : decode cX12_sews 1 = .ok (.getfield 24, 3) := by decide +kernel
theorem dX12_sews_4 : decode cX12_sews 4 = .ok (.iload_n 1, 1) := by decide +kernel
theorem dX12_sews_5 : decode cX12_sews 5 = .ok (.iaload, 1) := by decide +kernel
theorem dX12_sews_6 : decode cX12_sews 6 = .ok (.ifCond .ge 33, 3) := by decide +kernel
theorem dX12_sews_9 : decode cX12_sews 9 = .ok (.aload_n 0, 1) := by decide +kernel
theorem dX12_sews_10 : decode cX12_sews 10 = .ok (.getfield 17, 3) := by decide +kernel
theorem dX12_sews_13 : decode cX12_sews 13 = .ok (.bipush 6, 2) := by decide +kernel
theorem dX12_sews_15 : decode cX12_sews 15 = .ok (.iload_n 1, 1) := by decide +kernel
theorem dX12_sews_16 : decode cX12_sews 16 = .ok (.imul, 1) := by decide +kernel
theorem dX12_sews_17 : decode cX12_sews 17 = .ok (.iload_n 2, 1) := by decide +kernel
theorem dX12_sews_18 : decode cX12_sews 18 = .ok (.iadd, 1) := by decide +kernel
theorem dX12_sews_19 : decode cX12_sews 19 = .ok (.aload_n 0, 1) := by decide +kernel
theorem dX12_sews_20 : decode cX12_sews 20 = .ok (.getfield 17, 3) := by decide +kernel
theorem dX12_sews_23 : decode cX12_sews 23 = .ok (.bipush 6, 2) := by decide +kernel
theorem dX12_sews_25 : decode cX12_sews 25 = .ok (.iload_n 1, 1) := by decide +kernel
theorem dX12_sews_26 : decode cX12_sews 26 = .ok (.imul, 1) := by decide +kernel
theorem dX12_sews_27 : decode cX12_sews 27 = .ok (.iload_n 2, 1) := by decide +kernel
theorem dX12_sews_28 : decode cX12_sews 28 = .ok (.iadd, 1) := by decide +kernel
theorem dX12_sews_29 : decode cX12_sews 29 = .ok (.laload, 1) := by decide +kernel
theorem dX12_sews_30 : decode cX12_sews 30 = .ok (.lload_n 3, 1) := by decide +kernel
theorem dX12_sews_31 : decode cX12_sews 31 = .ok (.ladd, 1) := by decide +kernel
theorem dX12_sews_32 : decode cX12_sews 32 = .ok (.invokestatic 137, 3) := by decide +kernel
theorem dX12_sews_35 : decode cX12_sews 35 = .ok (.lastore, 1) := by decide +kernel
theorem dX12_sews_36 : decode cX12_sews 36 = .ok (.goto 48, 3) := by decide +kernel
theorem dX12_sews_39 : decode cX12_sews 39 = .ok (.aload_n 0, 1) := by decide +kernel
theorem dX12_sews_40 : decode cX12_sews 40 = .ok (.getfield 21, 3) := by decide +kernel
theorem dX12_sews_43 : decode cX12_sews 43 = .ok (.bipush 24, 2) := by decide +kernel
theorem dX12_sews_45 : decode cX12_sews 45 = .ok (.iload_n 1, 1) := by decide +kernel
theorem dX12_sews_46 : decode cX12_sews 46 = .ok (.imul, 1) := by decide +kernel
theorem dX12_sews_47 : decode cX12_sews 47 = .ok (.iconst 4, 1) := by decide +kernel
theorem dX12_sews_48 : decode cX12_sews 48 = .ok (.iload_n 2, 1) := by decide +kernel
theorem dX12_sews_49 : decode cX12_sews 49 = .ok (.imul, 1) := by decide +kernel
theorem dX12_sews_50 : decode cX12_sews 50 = .ok (.iadd, 1) := by decide +kernel
theorem dX12_sews_51 : decode cX12_sews 51 = .ok (.aload_n 0, 1) := by decide +kernel
theorem dX12_sews_52 : decode cX12_sews 52 = .ok (.getfield 24, 3) := by decide +kernel
theorem dX12_sews_55 : decode cX12_sews 55 = .ok (.iload_n 1, 1) := by decide +kernel
theorem dX12_sews_56 : decode cX12_sews 56 = .ok (.iaload, 1) := by decide +kernel
theorem dX12_sews_57 : decode cX12_sews 57 = .ok (.iadd, 1) := by decide +kernel
theorem dX12_sews_58 : decode cX12_sews 58 = .ok (.aload_n 0, 1) := by decide +kernel
theorem dX12_sews_59 : decode cX12_sews 59 = .ok (.getfield 21, 3) := by decide +kernel
theorem dX12_sews_62 : decode cX12_sews 62 = .ok (.bipush 24, 2) := by decide +kernel
theorem dX12_sews_64 : decode cX12_sews 64 = .ok (.iload_n 1, 1) := by decide +kernel
theorem dX12_sews_65 : decode cX12_sews 65 = .ok (.imul, 1) := by decide +kernel
theorem dX12_sews_66 : decode cX12_sews 66 = .ok (.iconst 4, 1) := by decide +kernel
theorem dX12_sews_67 : decode cX12_sews 67 = .ok (.iload_n 2, 1) := by decide +kernel
theorem dX12_sews_68 : decode cX12_sews 68 = .ok (.imul, 1) := by decide +kernel
theorem dX12_sews_69 : decode cX12_sews 69 = .ok (.iadd, 1) := by decide +kernel
theorem dX12_sews_70 : decode cX12_sews 70 = .ok (.aload_n 0, 1) := by decide +kernel
theorem dX12_sews_71 : decode cX12_sews 71 = .ok (.getfield 24, 3) := by decide +kernel
theorem dX12_sews_74 : decode cX12_sews 74 = .ok (.iload_n 1, 1) := by decide +kernel
theorem dX12_sews_75 : decode cX12_sews 75 = .ok (.iaload, 1) := by decide +kernel
theorem dX12_sews_76 : decode cX12_sews 76 = .ok (.iadd, 1) := by decide +kernel
theorem dX12_sews_77 : decode cX12_sews 77 = .ok (.laload, 1) := by decide +kernel
theorem dX12_sews_78 : decode cX12_sews 78 = .ok (.lload_n 3, 1) := by decide +kernel
theorem dX12_sews_79 : decode cX12_sews 79 = .ok (.ladd, 1) := by decide +kernel
theorem dX12_sews_80 : decode cX12_sews 80 = .ok (.invokestatic 137, 3) := by decide +kernel
theorem dX12_sews_83 : decode cX12_sews 83 = .ok (.lastore, 1) := by decide +kernel
theorem dX12_sews_84 : decode cX12_sews 84 = .ok (.return_, 1) := by decide +kernel
abbrev dpX12_sews : Nat := 1
def fX12_sews (a0 : Nat) (x1 : Int32) (x2 : Int32) (x3 : Int64) : St → Option (Unit × St) :=
 gR 13 a0 12 fun v1 =>
 nn v1 fun a3 =>
 aI 15 a3 x1 fun v2 =>
 br (0 ≤ v2) (gR 13 a0 11 fun v4 =>
 gR 13 a0 12 fun v5 =>
 nn v5 fun a7 =>
 aI 15 a7 x1 fun v6 =>
 gR 13 a0 11 fun v8 =>
 gR 13 a0 12 fun v9 =>
 nn v9 fun a11 =>
 aI 15 a11 x1 fun v10 =>
 nn v8 fun a13 =>
 aJ a13 (((24 * x1) + (4 * x2)) + v10) fun v12 =>
 cl (fX12_least (v12 + x3)) fun v14 =>
 nn v4 fun a15 =>
 wJ a15 (((24 * x1) + (4 * x2)) + v6) v14 <|
 rt ())
 (gR 13 a0 10 fun v16 =>
 gR 13 a0 10 fun v17 =>
 nn v17 fun a19 =>
 aJ a19 ((6 * x1) + x2) fun v18 =>
 cl (fX12_least (v18 + x3)) fun v20 =>
 nn v16 fun a21 =>
 wJ a21 ((6 * x1) + x2) v20 <|
 rt ())
set_option maxHeartbeats 4000000 in
set_option maxRecDepth 100000 in
theorem mX12_sews {E : Ev} {l : Launch} (a0 : Nat) (x1 : Int32) (x2 : Int32) (x3 : Int64) : MF E l dpX12_sews yX12_sews cX12_sews 5 none rvV [.ref (E.1 + a0), .int x1, .int x2, .long x3] (fX12_sews a0 x1 x2 x3) := by
  refine MF.of (lv := [(0, .ref (E.1 + a0)), (1, .int x1), (2, .int x2), (3, .long x3)]) (by decide) (Nat.le_of_ble_eq_true rfl) rfl ?_
  unfold fX12_sews
  refine sn_aload_n (pc := 0) (j := 0) dX12_sews_0 rfl rfl ?_
  refine sn_gR (pc := 1) dX12_sews_1 flX12_24 rfl (fun v1 => ?_)
  refine sn_iload_n (pc := 4) (j := 1) dX12_sews_4 rfl rfl ?_
  rcases v1 with _ | a3
  · exact sn_no
  refine sn_nn ?_
  refine sn_iald (pc := 5) dX12_sews_5 (fun v2 => ?_)
  refine sn_if_ge (pc := 6) (tgt := 39) dX12_sews_6 (by decide) ?_ ?_
  · refine sn_aload_n (pc := 39) (j := 0) dX12_sews_39 rfl rfl ?_
    refine sn_gR (pc := 40) dX12_sews_40 flX12_21 rfl (fun v4 => ?_)
    refine sn_bipush (pc := 43) (v := 24) dX12_sews_43 (by decide) ?_
    refine sn_iload_n (pc := 45) (j := 1) dX12_sews_45 rfl rfl ?_
    refine sn_imul (pc := 46) dX12_sews_46 ?_
    refine sn_iconst (pc := 47) (v := 4) dX12_sews_47 (by decide) ?_
    refine sn_iload_n (pc := 48) (j := 2) dX12_sews_48 rfl rfl ?_
    refine sn_imul (pc := 49) dX12_sews_49 ?_
    refine sn_iadd (pc := 50) dX12_sews_50 ?_
    refine sn_aload_n (pc := 51) (j := 0) dX12_sews_51 rfl rfl ?_
    refine sn_gR (pc := 52) dX12_sews_52 flX12_24 rfl (fun v5 => ?_)
    refine sn_iload_n (pc := 55) (j := 1) dX12_sews_55 rfl rfl ?_
    rcases v5 with _ | a7
    · exact sn_no
    refine sn_nn ?_
    refine sn_iald (pc := 56) dX12_sews_56 (fun v6 => ?_)
    refine sn_iadd (pc := 57) dX12_sews_57 ?_
    refine sn_aload_n (pc := 58) (j := 0) dX12_sews_58 rfl rfl ?_
    refine sn_gR (pc := 59) dX12_sews_59 flX12_21 rfl (fun v8 => ?_)
    refine sn_bipush (pc := 62) (v := 24) dX12_sews_62 (by decide) ?_
    refine sn_iload_n (pc := 64) (j := 1) dX12_sews_64 rfl rfl ?_
    refine sn_imul (pc := 65) dX12_sews_65 ?_
    refine sn_iconst (pc := 66) (v := 4) dX12_sews_66 (by decide) ?_
    refine sn_iload_n (pc := 67) (j := 2) dX12_sews_67 rfl rfl ?_
    refine sn_imul (pc := 68) dX12_sews_68 ?_
    refine sn_iadd (pc := 69) dX12_sews_69 ?_
    refine sn_aload_n (pc := 70) (j := 0) dX12_sews_70 rfl rfl ?_
    refine sn_gR (pc := 71) dX12_sews_71 flX12_24 rfl (fun v9 => ?_)
    refine sn_iload_n (pc := 74) (j := 1) dX12_sews_74 rfl rfl ?_
    rcases v9 with _ | a11
    · exact sn_no
    refine sn_nn ?_
    refine sn_iald (pc := 75) dX12_sews_75 (fun v10 => ?_)
    refine sn_iadd (pc := 76) dX12_sews_76 ?_
    rcases v8 with _ | a13
    · exact sn_no
    refine sn_nn ?_
    refine sn_lald (pc := 77) dX12_sews_77 (fun v12 => ?_)
    refine sn_lload_n (pc := 78) (j := 3) dX12_sews_78 rfl rfl ?_
    refine sn_ladd (pc := 79) dX12_sews_79 ?_
    refine sn_callS (pc := 80) dX12_sews_80 iX12_least wt6_205 wt6_204 (mX12_least (v12 + x3)) (by decide) rfl rfl (by simp [rf_some, rf_cat, cat_int, cat_long, cat_ref, rvV, rvI, rvZ, rvR, rvJ]) (fun v14 => ?_)
    rcases v4 with _ | a15
    · exact sn_no
    refine sn_nn ?_
    refine sn_last (pc := 83) dX12_sews_83 ?_
    exact sn_vret (pc := 84) dX12_sews_84 rfl
  · refine sn_aload_n (pc := 9) (j := 0) dX12_sews_9 rfl rfl ?_
    refine sn_gR (pc := 10) dX12_sews_10 flX12_17 rfl (fun v16 => ?_)
    refine sn_bipush (pc := 13) (v := 6) dX12_sews_13 (by decide) ?_
    refine sn_iload_n (pc := 15) (j := 1) dX12_sews_15 rfl rfl ?_
    refine sn_imul (pc := 16) dX12_sews_16 ?_
    refine sn_iload_n (pc := 17) (j := 2) dX12_sews_17 rfl rfl ?_
    refine sn_iadd (pc := 18) dX12_sews_18 ?_
    refine sn_aload_n (pc := 19) (j := 0) dX12_sews_19 rfl rfl ?_
    refine sn_gR (pc := 20) dX12_sews_20 flX12_17 rfl (fun v17 => ?_)
    refine sn_bipush (pc := 23) (v := 6) dX12_sews_23 (by decide) ?_
    refine sn_iload_n (pc := 25) (j := 1) dX12_sews_25 rfl rfl ?_
    refine sn_imul (pc := 26) dX12_sews_26 ?_
    refine sn_iload_n (pc := 27) (j := 2) dX12_sews_27 rfl rfl ?_
    refine sn_iadd (pc := 28) dX12_sews_28 ?_
    rcases v17 with _ | a19
    · exact sn_no
    refine sn_nn ?_
    refine sn_lald (pc := 29) dX12_sews_29 (fun v18 => ?_)
    refine sn_lload_n (pc := 30) (j := 3) dX12_sews_30 rfl rfl ?_
    refine sn_ladd (pc := 31) dX12_sews_31 ?_
    refine sn_callS (pc := 32) dX12_sews_32 iX12_least wt6_205 wt6_204 (mX12_least (v18 + x3)) (by decide) rfl rfl (by simp [rf_some, rf_cat, cat_int, cat_long, cat_ref, rvV, rvI, rvZ, rvR, rvJ]) (fun v20 => ?_)
    rcases v16 with _ | a21
    · exact sn_no
    refine sn_nn ?_
    refine sn_last (pc := 35) dX12_sews_35 ?_
    refine sn_goto (pc := 36) (tgt := 84) dX12_sews_36 (by decide) ?_
    exact sn_vret (pc := 84) dX12_sews_84 rfl
theorem iX12_sews : MI yX12_sews cX12_sews 5 none 3 := ⟨wt1_10, wt6_203, by decide +kernel, by decide⟩
-- NeedleHomesModel closes()V
theorem dX12_closes_0 : decode cX12_closes 0 = .ok (.aload_n 0, 1) := by decide +kernel
theorem dX12_closes_1 : decode cX12_closes 1 = .ok (.getfield 134, 3) := by decide +kernel
theorem dX12_closes_4 : decode cX12_closes 4 = .ok (.iconst 1, 1) := by decide +kernel
theorem dX12_closes_5 : decode cX12_closes 5 = .ok (.isub, 1) := by decide +kernel
theorem dX12_closes_6 : decode cX12_closes 6 = .ok (.istore_n 1, 1) := by decide +kernel
theorem dX12_closes_7 : decode cX12_closes 7 = .ok (.aload_n 0, 1) := by decide +kernel
theorem dX12_closes_8 : decode cX12_closes 8 = .ok (.getfield 27, 3) := by decide +kernel
theorem dX12_closes_11 : decode cX12_closes 11 = .ok (.aload_n 0, 1) := by decide +kernel
theorem dX12_closes_12 : decode cX12_closes 12 = .ok (.getfield 134, 3) := by decide +kernel
theorem dX12_closes_15 : decode cX12_closes 15 = .ok (.iaload, 1) := by decide +kernel
theorem dX12_closes_16 : decode cX12_closes 16 = .ok (.istore_n 2, 1) := by decide +kernel
theorem dX12_closes_17 : decode cX12_closes 17 = .ok (.aload_n 0, 1) := by decide +kernel
theorem dX12_closes_18 : decode cX12_closes 18 = .ok (.getfield 24, 3) := by decide +kernel
theorem dX12_closes_21 : decode cX12_closes 21 = .ok (.aload_n 0, 1) := by decide +kernel
theorem dX12_closes_22 : decode cX12_closes 22 = .ok (.getfield 134, 3) := by decide +kernel
theorem dX12_closes_25 : decode cX12_closes 25 = .ok (.iaload, 1) := by decide +kernel
theorem dX12_closes_26 : decode cX12_closes 26 = .ok (.istore_n 3, 1) := by decide +kernel
theorem dX12_closes_27 : decode cX12_closes 27 = .ok (.iconst 0, 1) := by decide +kernel
theorem dX12_closes_28 : decode cX12_closes 28 = .ok (.istore 4, 2) := by decide +kernel
theorem dX12_closes_30 : decode cX12_closes 30 = .ok (.iload 4, 2) := by decide +kernel
theorem dX12_closes_32 : decode cX12_closes 32 = .ok (.bipush 6, 2) := by decide +kernel
theorem dX12_closes_34 : decode cX12_closes 34 = .ok (.if_icmp .ge 151, 3) := by decide +kernel
theorem dX12_closes_37 : decode cX12_closes 37 = .ok (.aload_n 0, 1) := by decide +kernel
theorem dX12_closes_38 : decode cX12_closes 38 = .ok (.getfield 17, 3) := by decide +kernel
theorem dX12_closes_41 : decode cX12_closes 41 = .ok (.bipush 6, 2) := by decide +kernel
theorem dX12_closes_43 : decode cX12_closes 43 = .ok (.aload_n 0, 1) := by decide +kernel
theorem dX12_closes_44 : decode cX12_closes 44 = .ok (.getfield 134, 3) := by decide +kernel
theorem dX12_closes_47 : decode cX12_closes 47 = .ok (.imul, 1) := by decide +kernel
theorem dX12_closes_48 : decode cX12_closes 48 = .ok (.iload 4, 2) := by decide +kernel
theorem dX12_closes_50 : decode cX12_closes 50 = .ok (.iadd, 1) := by decide +kernel
theorem dX12_closes_51 : decode cX12_closes 51 = .ok (.laload, 1) := by decide +kernel
theorem dX12_closes_52 : decode cX12_closes 52 = .ok (.lstore 5, 2) := by decide +kernel
theorem dX12_closes_54 : decode cX12_closes 54 = .ok (.aload_n 0, 1) := by decide +kernel
theorem dX12_closes_55 : decode cX12_closes 55 = .ok (.iload_n 1, 1) := by decide +kernel
theorem dX12_closes_56 : decode cX12_closes 56 = .ok (.iload 4, 2) := by decide +kernel
theorem dX12_closes_58 : decode cX12_closes 58 = .ok (.iload_n 3, 1) := by decide +kernel
theorem dX12_closes_59 : decode cX12_closes 59 = .ok (.ifCond .ge 14, 3) := by decide +kernel
theorem dX12_closes_62 : decode cX12_closes 62 = .ok (.lload 5, 2) := by decide +kernel
theorem dX12_closes_64 : decode cX12_closes 64 = .ok (.iload_n 2, 1) := by decide +kernel
theorem dX12_closes_65 : decode cX12_closes 65 = .ok (.i2l, 1) := by decide +kernel
theorem dX12_closes_66 : decode cX12_closes 66 = .ok (.lmul, 1) := by decide +kernel
theorem dX12_closes_67 : decode cX12_closes 67 = .ok (.invokestatic 137, 3) := by decide +kernel
theorem dX12_closes_70 : decode cX12_closes 70 = .ok (.goto 5, 3) := by decide +kernel
theorem dX12_closes_73 : decode cX12_closes 73 = .ok (.lload 5, 2) := by decide +kernel
theorem dX12_closes_75 : decode cX12_closes 75 = .ok (.invokevirtual 141, 3) := by decide +kernel
theorem dX12_closes_78 : decode cX12_closes 78 = .ok (.iconst 0, 1) := by decide +kernel
theorem dX12_closes_79 : decode cX12_closes 79 = .ok (.istore 7, 2) := by decide +kernel
theorem dX12_closes_81 : decode cX12_closes 81 = .ok (.iload 7, 2) := by decide +kernel
theorem dX12_closes_83 : decode cX12_closes 83 = .ok (.iconst 4, 1) := by decide +kernel
theorem dX12_closes_84 : decode cX12_closes 84 = .ok (.if_icmp .ge 95, 3) := by decide +kernel
theorem dX12_closes_87 : decode cX12_closes 87 = .ok (.aload_n 0, 1) := by decide +kernel
theorem dX12_closes_88 : decode cX12_closes 88 = .ok (.getfield 21, 3) := by decide +kernel
theorem dX12_closes_91 : decode cX12_closes 91 = .ok (.bipush 24, 2) := by decide +kernel
theorem dX12_closes_93 : decode cX12_closes 93 = .ok (.aload_n 0, 1) := by decide +kernel
theorem dX12_closes_94 : decode cX12_closes 94 = .ok (.getfield 134, 3) := by decide +kernel
theorem dX12_closes_97 : decode cX12_closes 97 = .ok (.imul, 1) := by decide +kernel
theorem dX12_closes_98 : decode cX12_closes 98 = .ok (.iconst 4, 1) := by decide +kernel
theorem dX12_closes_99 : decode cX12_closes 99 = .ok (.iload 4, 2) := by decide +kernel
theorem dX12_closes_101 : decode cX12_closes 101 = .ok (.imul, 1) := by decide +kernel
theorem dX12_closes_102 : decode cX12_closes 102 = .ok (.iadd, 1) := by decide +kernel
theorem dX12_closes_103 : decode cX12_closes 103 = .ok (.iload 7, 2) := by decide +kernel
theorem dX12_closes_105 : decode cX12_closes 105 = .ok (.iadd, 1) := by decide +kernel
theorem dX12_closes_106 : decode cX12_closes 106 = .ok (.laload, 1) := by decide +kernel
theorem dX12_closes_107 : decode cX12_closes 107 = .ok (.iload_n 2, 1) := by decide +kernel
theorem dX12_closes_108 : decode cX12_closes 108 = .ok (.i2l, 1) := by decide +kernel
theorem dX12_closes_109 : decode cX12_closes 109 = .ok (.lmul, 1) := by decide +kernel
theorem dX12_closes_110 : decode cX12_closes 110 = .ok (.iload 7, 2) := by decide +kernel
theorem dX12_closes_112 : decode cX12_closes 112 = .ok (.iload_n 3, 1) := by decide +kernel
theorem dX12_closes_113 : decode cX12_closes 113 = .ok (.if_icmp .ne 13, 3) := by decide +kernel
theorem dX12_closes_116 : decode cX12_closes 116 = .ok (.lload 5, 2) := by decide +kernel
theorem dX12_closes_118 : decode cX12_closes 118 = .ok (.iload_n 2, 1) := by decide +kernel
theorem dX12_closes_119 : decode cX12_closes 119 = .ok (.iconst 1, 1) := by decide +kernel
theorem dX12_closes_120 : decode cX12_closes 120 = .ok (.isub, 1) := by decide +kernel
theorem dX12_closes_121 : decode cX12_closes 121 = .ok (.i2l, 1) := by decide +kernel
theorem dX12_closes_122 : decode cX12_closes 122 = .ok (.lmul, 1) := by decide +kernel
theorem dX12_closes_123 : decode cX12_closes 123 = .ok (.goto 4, 3) := by decide +kernel
theorem dX12_closes_126 : decode cX12_closes 126 = .ok (.lconst 0, 1) := by decide +kernel
theorem dX12_closes_127 : decode cX12_closes 127 = .ok (.ladd, 1) := by decide +kernel
theorem dX12_closes_128 : decode cX12_closes 128 = .ok (.lstore 8, 2) := by decide +kernel
theorem dX12_closes_130 : decode cX12_closes 130 = .ok (.aload_n 0, 1) := by decide +kernel
theorem dX12_closes_131 : decode cX12_closes 131 = .ok (.getfield 21, 3) := by decide +kernel
theorem dX12_closes_134 : decode cX12_closes 134 = .ok (.bipush 24, 2) := by decide +kernel
theorem dX12_closes_136 : decode cX12_closes 136 = .ok (.iload_n 1, 1) := by decide +kernel
theorem dX12_closes_137 : decode cX12_closes 137 = .ok (.imul, 1) := by decide +kernel
theorem dX12_closes_138 : decode cX12_closes 138 = .ok (.iconst 4, 1) := by decide +kernel
theorem dX12_closes_139 : decode cX12_closes 139 = .ok (.iload 4, 2) := by decide +kernel
theorem dX12_closes_141 : decode cX12_closes 141 = .ok (.imul, 1) := by decide +kernel
theorem dX12_closes_142 : decode cX12_closes 142 = .ok (.iadd, 1) := by decide +kernel
theorem dX12_closes_143 : decode cX12_closes 143 = .ok (.iload 7, 2) := by decide +kernel
theorem dX12_closes_145 : decode cX12_closes 145 = .ok (.iadd, 1) := by decide +kernel
theorem dX12_closes_146 : decode cX12_closes 146 = .ok (.aload_n 0, 1) := by decide +kernel
theorem dX12_closes_147 : decode cX12_closes 147 = .ok (.getfield 21, 3) := by decide +kernel
theorem dX12_closes_150 : decode cX12_closes 150 = .ok (.bipush 24, 2) := by decide +kernel
theorem dX12_closes_152 : decode cX12_closes 152 = .ok (.iload_n 1, 1) := by decide +kernel
theorem dX12_closes_153 : decode cX12_closes 153 = .ok (.imul, 1) := by decide +kernel
theorem dX12_closes_154 : decode cX12_closes 154 = .ok (.iconst 4, 1) := by decide +kernel
theorem dX12_closes_155 : decode cX12_closes 155 = .ok (.iload 4, 2) := by decide +kernel
theorem dX12_closes_157 : decode cX12_closes 157 = .ok (.imul, 1) := by decide +kernel
theorem dX12_closes_158 : decode cX12_closes 158 = .ok (.iadd, 1) := by decide +kernel
theorem dX12_closes_159 : decode cX12_closes 159 = .ok (.iload 7, 2) := by decide +kernel
theorem dX12_closes_161 : decode cX12_closes 161 = .ok (.iadd, 1) := by decide +kernel
theorem dX12_closes_162 : decode cX12_closes 162 = .ok (.laload, 1) := by decide +kernel
theorem dX12_closes_163 : decode cX12_closes 163 = .ok (.lload 8, 2) := by decide +kernel
theorem dX12_closes_165 : decode cX12_closes 165 = .ok (.invokestatic 137, 3) := by decide +kernel
theorem dX12_closes_168 : decode cX12_closes 168 = .ok (.ladd, 1) := by decide +kernel
theorem dX12_closes_169 : decode cX12_closes 169 = .ok (.invokestatic 137, 3) := by decide +kernel
theorem dX12_closes_172 : decode cX12_closes 172 = .ok (.lastore, 1) := by decide +kernel
theorem dX12_closes_173 : decode cX12_closes 173 = .ok (.iinc 7 1, 3) := by decide +kernel
theorem dX12_closes_176 : decode cX12_closes 176 = .ok (.goto (-95), 3) := by decide +kernel
theorem dX12_closes_179 : decode cX12_closes 179 = .ok (.iinc 4 1, 3) := by decide +kernel
theorem dX12_closes_182 : decode cX12_closes 182 = .ok (.goto (-152), 3) := by decide +kernel
theorem dX12_closes_185 : decode cX12_closes 185 = .ok (.iload_n 3, 1) := by decide +kernel
theorem dX12_closes_186 : decode cX12_closes 186 = .ok (.ifCond .lt 10, 3) := by decide +kernel
theorem dX12_closes_189 : decode cX12_closes 189 = .ok (.aload_n 0, 1) := by decide +kernel
theorem dX12_closes_190 : decode cX12_closes 190 = .ok (.getfield 24, 3) := by decide +kernel
theorem dX12_closes_193 : decode cX12_closes 193 = .ok (.iload_n 1, 1) := by decide +kernel
theorem dX12_closes_194 : decode cX12_closes 194 = .ok (.iload_n 3, 1) := by decide +kernel
theorem dX12_closes_195 : decode cX12_closes 195 = .ok (.iastore, 1) := by decide +kernel
theorem dX12_closes_196 : decode cX12_closes 196 = .ok (.return_, 1) := by decide +kernel
abbrev dpX12_closes : Nat := 2
def fX12_closes_127 (k30 : (Nat × Int32 × Int32 × Int32 × Int32) → St → Option (Unit × St)) (k81 : (Nat × Int32 × Int32 × Int32 × Int32 × Int64 × Int32) → St → Option (Unit × St)) (a0 : Nat) (x1 : Int32) (x2 : Int32) (x3 : Int32) (x4 : Int32) (x5 : Int64) (x7 : Int32) (y0 : Int64) (y1 : Int64) : St → Option (Unit × St) :=
 gR 13 a0 11 fun v4001 =>
 gR 13 a0 11 fun v4002 =>
 nn v4002 fun a4004 =>
 aJ a4004 (((24 * x1) + (4 * x4)) + x7) fun v4003 =>
 cl (fX12_least (y1 + y0)) fun v4005 =>
 cl (fX12_least (v4003 + v4005)) fun v4006 =>
 nn v4001 fun a4007 =>
 wJ a4007 (((24 * x1) + (4 * x4)) + x7) v4006 <|
 k81 (a0, x1, x2, x3, x4, x5, (x7 + 1))
set_option maxHeartbeats 4000000 in
set_option maxRecDepth 100000 in
theorem sfX12_closes_127 {E : Ev} {l : Launch} (k30 : (Nat × Int32 × Int32 × Int32 × Int32) → St → Option (Unit × St)) (hk30 : ∀ p : Nat × Int32 × Int32 × Int32 × Int32, Snd E l (dpX12_closes, RX12, cX12_closes, 10, none, "closes") rvV 30 [(0, .ref (E.1 + p.1)), (1, .int p.2.1), (2, .int p.2.2.1), (3, .int p.2.2.2.1), (4, .int p.2.2.2.2)] [] (k30 p)) (k81 : (Nat × Int32 × Int32 × Int32 × Int32 × Int64 × Int32) → St → Option (Unit × St)) (hk81 : ∀ p : Nat × Int32 × Int32 × Int32 × Int32 × Int64 × Int32, Snd E l (dpX12_closes, RX12, cX12_closes, 10, none, "closes") rvV 81 [(0, .ref (E.1 + p.1)), (1, .int p.2.1), (2, .int p.2.2.1), (3, .int p.2.2.2.1), (4, .int p.2.2.2.2.1), (5, .long p.2.2.2.2.2.1), (7, .int p.2.2.2.2.2.2)] [] (k81 p)) (a0 : Nat) (x1 : Int32) (x2 : Int32) (x3 : Int32) (x4 : Int32) (x5 : Int64) (x7 : Int32) (y0 : Int64) (y1 : Int64) : Snd E l (dpX12_closes, RX12, cX12_closes, 10, none, "closes") rvV 127 [(0, .ref (E.1 + a0)), (1, .int x1), (2, .int x2), (3, .int x3), (4, .int x4), (5, .long x5), (7, .int x7)] [.long y0, .long y1] (fX12_closes_127 k30 k81 a0 x1 x2 x3 x4 x5 x7 y0 y1) := by
  unfold fX12_closes_127
  refine sn_ladd (pc := 127) dX12_closes_127 ?_
  refine sn_lstore (pc := 128) (i := 8) (lv' := [(8, .long (y1 + y0)), (0, .ref (E.1 + a0)), (1, .int x1), (2, .int x2), (3, .int x3), (4, .int x4), (5, .long x5), (7, .int x7)]) dX12_closes_128 (by decide) rfl ?_
  refine sn_aload_n (pc := 130) (j := 1) dX12_closes_130 rfl rfl ?_
  refine sn_gR (pc := 131) dX12_closes_131 flX12_21 rfl (fun v4001 => ?_)
  refine sn_bipush (pc := 134) (v := 24) dX12_closes_134 (by decide) ?_
  refine sn_iload_n (pc := 136) (j := 2) dX12_closes_136 rfl rfl ?_
  refine sn_imul (pc := 137) dX12_closes_137 ?_
  refine sn_iconst (pc := 138) (v := 4) dX12_closes_138 (by decide) ?_
  refine sn_iload (pc := 139) (j := 5) dX12_closes_139 rfl ?_
  refine sn_imul (pc := 141) dX12_closes_141 ?_
  refine sn_iadd (pc := 142) dX12_closes_142 ?_
  refine sn_iload (pc := 143) (j := 7) dX12_closes_143 rfl ?_
  refine sn_iadd (pc := 145) dX12_closes_145 ?_
  refine sn_aload_n (pc := 146) (j := 1) dX12_closes_146 rfl rfl ?_
  refine sn_gR (pc := 147) dX12_closes_147 flX12_21 rfl (fun v4002 => ?_)
  refine sn_bipush (pc := 150) (v := 24) dX12_closes_150 (by decide) ?_
  refine sn_iload_n (pc := 152) (j := 2) dX12_closes_152 rfl rfl ?_
  refine sn_imul (pc := 153) dX12_closes_153 ?_
  refine sn_iconst (pc := 154) (v := 4) dX12_closes_154 (by decide) ?_
  refine sn_iload (pc := 155) (j := 5) dX12_closes_155 rfl ?_
  refine sn_imul (pc := 157) dX12_closes_157 ?_
  refine sn_iadd (pc := 158) dX12_closes_158 ?_
  refine sn_iload (pc := 159) (j := 7) dX12_closes_159 rfl ?_
  refine sn_iadd (pc := 161) dX12_closes_161 ?_
  rcases v4002 with _ | a4004
  · exact sn_no
  refine sn_nn ?_
  refine sn_lald (pc := 162) dX12_closes_162 (fun v4003 => ?_)
  refine sn_lload (pc := 163) (j := 0) dX12_closes_163 rfl ?_
  refine sn_callS (pc := 165) dX12_closes_165 iX12_least wt6_205 wt6_204 (mX12_least (y1 + y0)) (by decide) rfl rfl (by simp [rf_some, rf_cat, cat_int, cat_long, cat_ref, rvV, rvI, rvZ, rvR, rvJ]) (fun v4005 => ?_)
  refine sn_ladd (pc := 168) dX12_closes_168 ?_
  refine sn_callS (pc := 169) dX12_closes_169 iX12_least wt6_205 wt6_204 (mX12_least (v4003 + v4005)) (by decide) rfl rfl (by simp [rf_some, rf_cat, cat_int, cat_long, cat_ref, rvV, rvI, rvZ, rvR, rvJ]) (fun v4006 => ?_)
  rcases v4001 with _ | a4007
  · exact sn_no
  refine sn_nn ?_
  refine sn_last (pc := 172) dX12_closes_172 ?_
  refine sn_iinc (pc := 173) (v := x7 + 1) (lv' := [(7, .int (x7 + 1)), (8, .long (y1 + y0)), (0, .ref (E.1 + a0)), (1, .int x1), (2, .int x2), (3, .int x3), (4, .int x4), (5, .long x5)]) (j := 7) dX12_closes_173 rfl rfl (by decide) rfl ?_
  refine sn_goto (pc := 176) (tgt := 81) dX12_closes_176 (by decide) ?_
  exact sn_sub (lv' := [(0, .ref (E.1 + a0)), (1, .int x1), (2, .int x2), (3, .int x3), (4, .int x4), (5, .long x5), (7, .int (x7 + 1))]) [2, 3, 4, 5, 6, 7, 0] rfl (hk81 (a0, x1, x2, x3, x4, x5, (x7 + 1)))
def fX12_closes_81 (k30 : (Nat × Int32 × Int32 × Int32 × Int32) → St → Option (Unit × St)) (k81 : (Nat × Int32 × Int32 × Int32 × Int32 × Int64 × Int32) → St → Option (Unit × St)) (a0 : Nat) (x1 : Int32) (x2 : Int32) (x3 : Int32) (x4 : Int32) (x5 : Int64) (x7 : Int32) : St → Option (Unit × St) :=
 br (4 ≤ x7) (k30 (a0, x1, x2, x3, (x4 + 1)))
 (gR 13 a0 11 fun v3001 =>
 gI 13 a0 14 fun v3002 =>
 nn v3001 fun a3004 =>
 aJ a3004 (((24 * v3002) + (4 * x4)) + x7) fun v3003 =>
 br (x7 = x3) (fX12_closes_127 k30 k81 a0 x1 x2 x3 x4 x5 x7 (x5 * ((x2 - 1).toInt64)) (v3003 * x2.toInt64))
 (fX12_closes_127 k30 k81 a0 x1 x2 x3 x4 x5 x7 0 (v3003 * x2.toInt64)))
set_option maxHeartbeats 4000000 in
set_option maxRecDepth 100000 in
theorem sfX12_closes_81 {E : Ev} {l : Launch} (k30 : (Nat × Int32 × Int32 × Int32 × Int32) → St → Option (Unit × St)) (hk30 : ∀ p : Nat × Int32 × Int32 × Int32 × Int32, Snd E l (dpX12_closes, RX12, cX12_closes, 10, none, "closes") rvV 30 [(0, .ref (E.1 + p.1)), (1, .int p.2.1), (2, .int p.2.2.1), (3, .int p.2.2.2.1), (4, .int p.2.2.2.2)] [] (k30 p)) (k81 : (Nat × Int32 × Int32 × Int32 × Int32 × Int64 × Int32) → St → Option (Unit × St)) (hk81 : ∀ p : Nat × Int32 × Int32 × Int32 × Int32 × Int64 × Int32, Snd E l (dpX12_closes, RX12, cX12_closes, 10, none, "closes") rvV 81 [(0, .ref (E.1 + p.1)), (1, .int p.2.1), (2, .int p.2.2.1), (3, .int p.2.2.2.1), (4, .int p.2.2.2.2.1), (5, .long p.2.2.2.2.2.1), (7, .int p.2.2.2.2.2.2)] [] (k81 p)) (a0 : Nat) (x1 : Int32) (x2 : Int32) (x3 : Int32) (x4 : Int32) (x5 : Int64) (x7 : Int32) : Snd E l (dpX12_closes, RX12, cX12_closes, 10, none, "closes") rvV 81 [(0, .ref (E.1 + a0)), (1, .int x1), (2, .int x2), (3, .int x3), (4, .int x4), (5, .long x5), (7, .int x7)] [] (fX12_closes_81 k30 k81 a0 x1 x2 x3 x4 x5 x7) := by
  unfold fX12_closes_81
  refine sn_iload (pc := 81) (j := 6) dX12_closes_81 rfl ?_
  refine sn_iconst (pc := 83) (v := 4) dX12_closes_83 (by decide) ?_
  refine sn_icmp_ge (pc := 84) (tgt := 179) dX12_closes_84 (by decide) ?_ ?_
  · refine sn_iinc (pc := 179) (v := x4 + 1) (lv' := [(4, .int (x4 + 1)), (0, .ref (E.1 + a0)), (1, .int x1), (2, .int x2), (3, .int x3), (5, .long x5), (7, .int x7)]) (j := 4) dX12_closes_179 rfl rfl (by decide) rfl ?_
    refine sn_goto (pc := 182) (tgt := 30) dX12_closes_182 (by decide) ?_
    exact sn_sub (lv' := [(0, .ref (E.1 + a0)), (1, .int x1), (2, .int x2), (3, .int x3), (4, .int (x4 + 1))]) [1, 2, 3, 4, 0] rfl (hk30 (a0, x1, x2, x3, (x4 + 1)))
  · refine sn_aload_n (pc := 87) (j := 0) dX12_closes_87 rfl rfl ?_
    refine sn_gR (pc := 88) dX12_closes_88 flX12_21 rfl (fun v3001 => ?_)
    refine sn_bipush (pc := 91) (v := 24) dX12_closes_91 (by decide) ?_
    refine sn_aload_n (pc := 93) (j := 0) dX12_closes_93 rfl rfl ?_
    refine sn_gI (pc := 94) dX12_closes_94 flX12_134 rfl (fun v3002 => ?_)
    refine sn_imul (pc := 97) dX12_closes_97 ?_
    refine sn_iconst (pc := 98) (v := 4) dX12_closes_98 (by decide) ?_
    refine sn_iload (pc := 99) (j := 4) dX12_closes_99 rfl ?_
    refine sn_imul (pc := 101) dX12_closes_101 ?_
    refine sn_iadd (pc := 102) dX12_closes_102 ?_
    refine sn_iload (pc := 103) (j := 6) dX12_closes_103 rfl ?_
    refine sn_iadd (pc := 105) dX12_closes_105 ?_
    rcases v3001 with _ | a3004
    · exact sn_no
    refine sn_nn ?_
    refine sn_lald (pc := 106) dX12_closes_106 (fun v3003 => ?_)
    refine sn_iload_n (pc := 107) (j := 2) dX12_closes_107 rfl rfl ?_
    refine sn_i2l (pc := 108) dX12_closes_108 ?_
    refine sn_lmul (pc := 109) dX12_closes_109 ?_
    refine sn_iload (pc := 110) (j := 6) dX12_closes_110 rfl ?_
    refine sn_iload_n (pc := 112) (j := 3) dX12_closes_112 rfl rfl ?_
    refine sn_icmp_ne (pc := 113) (tgt := 126) dX12_closes_113 (by decide) ?_ ?_
    · refine sn_lconst (pc := 126) (v := 0) dX12_closes_126 (by decide) ?_
      exact sn_sub (lv' := [(0, .ref (E.1 + a0)), (1, .int x1), (2, .int x2), (3, .int x3), (4, .int x4), (5, .long x5), (7, .int x7)]) [0, 1, 2, 3, 4, 5, 6] rfl (sfX12_closes_127 k30 hk30 k81 hk81 a0 x1 x2 x3 x4 x5 x7 0 (v3003 * x2.toInt64))
    · refine sn_lload (pc := 116) (j := 5) dX12_closes_116 rfl ?_
      refine sn_iload_n (pc := 118) (j := 2) dX12_closes_118 rfl rfl ?_
      refine sn_iconst (pc := 119) (v := 1) dX12_closes_119 (by decide) ?_
      refine sn_isub (pc := 120) dX12_closes_120 ?_
      refine sn_i2l (pc := 121) dX12_closes_121 ?_
      refine sn_lmul (pc := 122) dX12_closes_122 ?_
      refine sn_goto (pc := 123) (tgt := 127) dX12_closes_123 (by decide) ?_
      exact sn_sub (lv' := [(0, .ref (E.1 + a0)), (1, .int x1), (2, .int x2), (3, .int x3), (4, .int x4), (5, .long x5), (7, .int x7)]) [0, 1, 2, 3, 4, 5, 6] rfl (sfX12_closes_127 k30 hk30 k81 hk81 a0 x1 x2 x3 x4 x5 x7 (x5 * ((x2 - 1).toInt64)) (v3003 * x2.toInt64))
def fX12_closes_75 (k30 : (Nat × Int32 × Int32 × Int32 × Int32) → St → Option (Unit × St)) (a0 : Nat) (x1 : Int32) (x2 : Int32) (x3 : Int32) (x4 : Int32) (x5 : Int64) (y0 : Int64) (y1 : Int32) (y2 : Int32) (y3 : Nat) : St → Option (Unit × St) :=
 ck 13 y3 <| cl (fX12_sews y3 y2 y1 y0) fun v2001 =>
 itr (fun k (p : Nat × Int32 × Int32 × Int32 × Int32 × Int64 × Int32) => fX12_closes_81 k30 k p.1 p.2.1 p.2.2.1 p.2.2.2.1 p.2.2.2.2.1 p.2.2.2.2.2.1 p.2.2.2.2.2.2) FU (a0, x1, x2, x3, x4, x5, 0)
set_option maxHeartbeats 4000000 in
set_option maxRecDepth 100000 in
theorem sfX12_closes_75 {E : Ev} {l : Launch} (k30 : (Nat × Int32 × Int32 × Int32 × Int32) → St → Option (Unit × St)) (hk30 : ∀ p : Nat × Int32 × Int32 × Int32 × Int32, Snd E l (dpX12_closes, RX12, cX12_closes, 10, none, "closes") rvV 30 [(0, .ref (E.1 + p.1)), (1, .int p.2.1), (2, .int p.2.2.1), (3, .int p.2.2.2.1), (4, .int p.2.2.2.2)] [] (k30 p)) (a0 : Nat) (x1 : Int32) (x2 : Int32) (x3 : Int32) (x4 : Int32) (x5 : Int64) (y0 : Int64) (y1 : Int32) (y2 : Int32) (y3 : Nat) : Snd E l (dpX12_closes, RX12, cX12_closes, 10, none, "closes") rvV 75 [(0, .ref (E.1 + a0)), (1, .int x1), (2, .int x2), (3, .int x3), (4, .int x4), (5, .long x5)] [.long y0, .int y1, .int y2, .ref (E.1 + y3)] (fX12_closes_75 k30 a0 x1 x2 x3 x4 x5 y0 y1 y2 y3) := by
  unfold fX12_closes_75
  refine sn_callV (ci := 12) (pc := 75) dX12_closes_75 iX12_sews wt6_202 ws_49 wt6_200 ⟨_, rfl, rfl⟩ (by decide) (mX12_sews y3 y2 y1 y0) (by decide) rfl rfl (Nat.le_of_ble_eq_true rfl) (fun v2001 => ?_)
  refine sn_iconst (pc := 78) (v := 0) dX12_closes_78 (by decide) ?_
  refine sn_istore (pc := 79) (i := 7) (lv' := [(7, .int 0), (0, .ref (E.1 + a0)), (1, .int x1), (2, .int x2), (3, .int x3), (4, .int x4), (5, .long x5)]) dX12_closes_79 (by decide) rfl ?_
  exact sn_sub (lv' := [(0, .ref (E.1 + a0)), (1, .int x1), (2, .int x2), (3, .int x3), (4, .int x4), (5, .long x5), (7, .int 0)]) [1, 2, 3, 4, 5, 6, 0] rfl (sn_itr (lvf := fun p => [(0, .ref (E.1 + p.1)), (1, .int p.2.1), (2, .int p.2.2.1), (3, .int p.2.2.2.1), (4, .int p.2.2.2.2.1), (5, .long p.2.2.2.2.2.1), (7, .int p.2.2.2.2.2.2)]) (stf := fun p => []) (fun k hk p => sfX12_closes_81 k30 hk30 k hk p.1 p.2.1 p.2.2.1 p.2.2.2.1 p.2.2.2.2.1 p.2.2.2.2.2.1 p.2.2.2.2.2.2) FU (a0, x1, x2, x3, x4, x5, 0))
def fX12_closes_30 (k30 : (Nat × Int32 × Int32 × Int32 × Int32) → St → Option (Unit × St)) (a0 : Nat) (x1 : Int32) (x2 : Int32) (x3 : Int32) (x4 : Int32) : St → Option (Unit × St) :=
 br (6 ≤ x4) (br (x3 < 0) (rt ())
 (gR 13 a0 12 fun v1001 =>
 nn v1001 fun a1002 =>
 wI a1002 x1 x3 <|
 rt ()))
 (gR 13 a0 10 fun v1003 =>
 gI 13 a0 14 fun v1004 =>
 nn v1003 fun a1006 =>
 aJ a1006 ((6 * v1004) + x4) fun v1005 =>
 br (0 ≤ x3) (fX12_closes_75 k30 a0 x1 x2 x3 x4 v1005 v1005 x4 x1 a0)
 (cl (fX12_least (v1005 * x2.toInt64)) fun v1007 =>
 fX12_closes_75 k30 a0 x1 x2 x3 x4 v1005 v1007 x4 x1 a0))
set_option maxHeartbeats 4000000 in
set_option maxRecDepth 100000 in
theorem sfX12_closes_30 {E : Ev} {l : Launch} (k30 : (Nat × Int32 × Int32 × Int32 × Int32) → St → Option (Unit × St)) (hk30 : ∀ p : Nat × Int32 × Int32 × Int32 × Int32, Snd E l (dpX12_closes, RX12, cX12_closes, 10, none, "closes") rvV 30 [(0, .ref (E.1 + p.1)), (1, .int p.2.1), (2, .int p.2.2.1), (3, .int p.2.2.2.1), (4, .int p.2.2.2.2)] [] (k30 p)) (a0 : Nat) (x1 : Int32) (x2 : Int32) (x3 : Int32) (x4 : Int32) : Snd E l (dpX12_closes, RX12, cX12_closes, 10, none, "closes") rvV 30 [(0, .ref (E.1 + a0)), (1, .int x1), (2, .int x2), (3, .int x3), (4, .int x4)] [] (fX12_closes_30 k30 a0 x1 x2 x3 x4) := by
  unfold fX12_closes_30
  refine sn_iload (pc := 30) (j := 4) dX12_closes_30 rfl ?_
  refine sn_bipush (pc := 32) (v := 6) dX12_closes_32 (by decide) ?_
  refine sn_icmp_ge (pc := 34) (tgt := 185) dX12_closes_34 (by decide) ?_ ?_
  · refine sn_iload_n (pc := 185) (j := 3) dX12_closes_185 rfl rfl ?_
    refine sn_if_lt (pc := 186) (tgt := 196) dX12_closes_186 (by decide) ?_ ?_
    · exact sn_vret (pc := 196) dX12_closes_196 rfl
    · refine sn_aload_n (pc := 189) (j := 0) dX12_closes_189 rfl rfl ?_
      refine sn_gR (pc := 190) dX12_closes_190 flX12_24 rfl (fun v1001 => ?_)
      refine sn_iload_n (pc := 193) (j := 1) dX12_closes_193 rfl rfl ?_
      refine sn_iload_n (pc := 194) (j := 3) dX12_closes_194 rfl rfl ?_
      rcases v1001 with _ | a1002
      · exact sn_no
      refine sn_nn ?_
      refine sn_iast (pc := 195) dX12_closes_195 ?_
      exact sn_vret (pc := 196) dX12_closes_196 rfl
  · refine sn_aload_n (pc := 37) (j := 0) dX12_closes_37 rfl rfl ?_
    refine sn_gR (pc := 38) dX12_closes_38 flX12_17 rfl (fun v1003 => ?_)
    refine sn_bipush (pc := 41) (v := 6) dX12_closes_41 (by decide) ?_
    refine sn_aload_n (pc := 43) (j := 0) dX12_closes_43 rfl rfl ?_
    refine sn_gI (pc := 44) dX12_closes_44 flX12_134 rfl (fun v1004 => ?_)
    refine sn_imul (pc := 47) dX12_closes_47 ?_
    refine sn_iload (pc := 48) (j := 4) dX12_closes_48 rfl ?_
    refine sn_iadd (pc := 50) dX12_closes_50 ?_
    rcases v1003 with _ | a1006
    · exact sn_no
    refine sn_nn ?_
    refine sn_lald (pc := 51) dX12_closes_51 (fun v1005 => ?_)
    refine sn_lstore (pc := 52) (i := 5) (lv' := [(5, .long v1005), (0, .ref (E.1 + a0)), (1, .int x1), (2, .int x2), (3, .int x3), (4, .int x4)]) dX12_closes_52 (by decide) rfl ?_
    refine sn_aload_n (pc := 54) (j := 1) dX12_closes_54 rfl rfl ?_
    refine sn_iload_n (pc := 55) (j := 2) dX12_closes_55 rfl rfl ?_
    refine sn_iload (pc := 56) (j := 5) dX12_closes_56 rfl ?_
    refine sn_iload_n (pc := 58) (j := 4) dX12_closes_58 rfl rfl ?_
    refine sn_if_ge (pc := 59) (tgt := 73) dX12_closes_59 (by decide) ?_ ?_
    · refine sn_lload (pc := 73) (j := 0) dX12_closes_73 rfl ?_
      exact sn_sub (lv' := [(0, .ref (E.1 + a0)), (1, .int x1), (2, .int x2), (3, .int x3), (4, .int x4), (5, .long v1005)]) [1, 2, 3, 4, 5, 0] rfl (sfX12_closes_75 k30 hk30 a0 x1 x2 x3 x4 v1005 v1005 x4 x1 a0)
    · refine sn_lload (pc := 62) (j := 0) dX12_closes_62 rfl ?_
      refine sn_iload_n (pc := 64) (j := 3) dX12_closes_64 rfl rfl ?_
      refine sn_i2l (pc := 65) dX12_closes_65 ?_
      refine sn_lmul (pc := 66) dX12_closes_66 ?_
      refine sn_callS (pc := 67) dX12_closes_67 iX12_least wt6_205 wt6_204 (mX12_least (v1005 * x2.toInt64)) (by decide) rfl rfl (Nat.le_of_ble_eq_true rfl) (fun v1007 => ?_)
      refine sn_goto (pc := 70) (tgt := 75) dX12_closes_70 (by decide) ?_
      exact sn_sub (lv' := [(0, .ref (E.1 + a0)), (1, .int x1), (2, .int x2), (3, .int x3), (4, .int x4), (5, .long v1005)]) [1, 2, 3, 4, 5, 0] rfl (sfX12_closes_75 k30 hk30 a0 x1 x2 x3 x4 v1005 v1007 x4 x1 a0)
def fX12_closes (a0 : Nat) : St → Option (Unit × St) :=
 gI 13 a0 14 fun v1 =>
 gR 13 a0 13 fun v2 =>
 gI 13 a0 14 fun v3 =>
 nn v2 fun a5 =>
 aI 15 a5 v3 fun v4 =>
 gR 13 a0 12 fun v6 =>
 gI 13 a0 14 fun v7 =>
 nn v6 fun a9 =>
 aI 15 a9 v7 fun v8 =>
 itr (fun k (p : Nat × Int32 × Int32 × Int32 × Int32) => fX12_closes_30  k p.1 p.2.1 p.2.2.1 p.2.2.2.1 p.2.2.2.2) FU (a0, (v1 - 1), v4, v8, 0)
set_option maxHeartbeats 4000000 in
set_option maxRecDepth 100000 in
theorem mX12_closes {E : Ev} {l : Launch} (a0 : Nat) : MF E l dpX12_closes yX12_closes cX12_closes 10 none rvV [.ref (E.1 + a0)] (fX12_closes a0) := by
  refine MF.of (lv := [(0, .ref (E.1 + a0))]) (by decide) (Nat.le_of_ble_eq_true rfl) rfl ?_
  unfold fX12_closes
  refine sn_aload_n (pc := 0) (j := 0) dX12_closes_0 rfl rfl ?_
  refine sn_gI (pc := 1) dX12_closes_1 flX12_134 rfl (fun v1 => ?_)
  refine sn_iconst (pc := 4) (v := 1) dX12_closes_4 (by decide) ?_
  refine sn_isub (pc := 5) dX12_closes_5 ?_
  refine sn_istore_n (pc := 6) (i := 1) (lv' := [(1, .int (v1 - 1)), (0, .ref (E.1 + a0))]) dX12_closes_6 rfl (by decide) rfl ?_
  refine sn_aload_n (pc := 7) (j := 1) dX12_closes_7 rfl rfl ?_
  refine sn_gR (pc := 8) dX12_closes_8 flX12_27 rfl (fun v2 => ?_)
  refine sn_aload_n (pc := 11) (j := 1) dX12_closes_11 rfl rfl ?_
  refine sn_gI (pc := 12) dX12_closes_12 flX12_134 rfl (fun v3 => ?_)
  rcases v2 with _ | a5
  · exact sn_no
  refine sn_nn ?_
  refine sn_iald (pc := 15) dX12_closes_15 (fun v4 => ?_)
  refine sn_istore_n (pc := 16) (i := 2) (lv' := [(2, .int v4), (1, .int (v1 - 1)), (0, .ref (E.1 + a0))]) dX12_closes_16 rfl (by decide) rfl ?_
  refine sn_aload_n (pc := 17) (j := 2) dX12_closes_17 rfl rfl ?_
  refine sn_gR (pc := 18) dX12_closes_18 flX12_24 rfl (fun v6 => ?_)
  refine sn_aload_n (pc := 21) (j := 2) dX12_closes_21 rfl rfl ?_
  refine sn_gI (pc := 22) dX12_closes_22 flX12_134 rfl (fun v7 => ?_)
  rcases v6 with _ | a9
  · exact sn_no
  refine sn_nn ?_
  refine sn_iald (pc := 25) dX12_closes_25 (fun v8 => ?_)
  refine sn_istore_n (pc := 26) (i := 3) (lv' := [(3, .int v8), (2, .int v4), (1, .int (v1 - 1)), (0, .ref (E.1 + a0))]) dX12_closes_26 rfl (by decide) rfl ?_
  refine sn_iconst (pc := 27) (v := 0) dX12_closes_27 (by decide) ?_
  refine sn_istore (pc := 28) (i := 4) (lv' := [(4, .int 0), (3, .int v8), (2, .int v4), (1, .int (v1 - 1)), (0, .ref (E.1 + a0))]) dX12_closes_28 (by decide) rfl ?_
  exact sn_sub (lv' := [(0, .ref (E.1 + a0)), (1, .int (v1 - 1)), (2, .int v4), (3, .int v8), (4, .int 0)]) [4, 3, 2, 1, 0] rfl (sn_itr (lvf := fun p => [(0, .ref (E.1 + p.1)), (1, .int p.2.1), (2, .int p.2.2.1), (3, .int p.2.2.2.1), (4, .int p.2.2.2.2)]) (stf := fun p => []) (fun k hk p => sfX12_closes_30  k hk p.1 p.2.1 p.2.2.1 p.2.2.2.1 p.2.2.2.2) FU (a0, (v1 - 1), v4, v8, 0))
theorem iX12_closes : MI yX12_closes cX12_closes 10 none 0 := ⟨wt1_10, wt6_223, by decide +kernel, by decide⟩
-- NeedleHomesModel anItem()V
theorem dX12_anItem_0 : decode cX12_anItem 0 = .ok (.aload_n 0, 1) := by decide +kernel
theorem dX12_anItem_1 : decode cX12_anItem 1 = .ok (.getfield 90, 3) := by decide +kernel
theorem dX12_anItem_4 : decode cX12_anItem 4 = .ok (.istore_n 1, 1) := by decide +kernel
theorem dX12_anItem_5 : decode cX12_anItem 5 = .ok (.aload_n 0, 1) := by decide +kernel
theorem dX12_anItem_6 : decode cX12_anItem 6 = .ok (.getfield 119, 3) := by decide +kernel
theorem dX12_anItem_9 : decode cX12_anItem 9 = .ok (.ifCond .ne 63, 3) := by decide +kernel
theorem dX12_anItem_12 : decode cX12_anItem 12 = .ok (.aload_n 0, 1) := by decide +kernel
theorem dX12_anItem_13 : decode cX12_anItem 13 = .ok (.getfield 93, 3) := by decide +kernel
theorem dX12_anItem_16 : decode cX12_anItem 16 = .ok (.iconst 3, 1) := by decide +kernel
theorem dX12_anItem_17 : decode cX12_anItem 17 = .ok (.if_icmp .ne 55, 3) := by decide +kernel
theorem dX12_anItem_20 : decode cX12_anItem 20 = .ok (.aload_n 0, 1) := by decide +kernel
theorem dX12_anItem_21 : decode cX12_anItem 21 = .ok (.getfield 104, 3) := by decide +kernel
theorem dX12_anItem_24 : decode cX12_anItem 24 = .ok (.bipush 40, 2) := by decide +kernel
theorem dX12_anItem_26 : decode cX12_anItem 26 = .ok (.bipush 45, 2) := by decide +kernel
theorem dX12_anItem_28 : decode cX12_anItem 28 = .ok (.invokestatic 51, 3) := by decide +kernel
theorem dX12_anItem_31 : decode cX12_anItem 31 = .ok (.ifCond .eq 41, 3) := by decide +kernel
theorem dX12_anItem_34 : decode cX12_anItem 34 = .ok (.aload_n 0, 1) := by decide +kernel
theorem dX12_anItem_35 : decode cX12_anItem 35 = .ok (.getfield 104, 3) := by decide +kernel
theorem dX12_anItem_38 : decode cX12_anItem 38 = .ok (.bipush 40, 2) := by decide +kernel
theorem dX12_anItem_40 : decode cX12_anItem 40 = .ok (.isub, 1) := by decide +kernel
theorem dX12_anItem_41 : decode cX12_anItem 41 = .ok (.istore_n 2, 1) := by decide +kernel
theorem dX12_anItem_42 : decode cX12_anItem 42 = .ok (.aload_n 0, 1) := by decide +kernel
theorem dX12_anItem_43 : decode cX12_anItem 43 = .ok (.invokevirtual 123, 3) := by decide +kernel
theorem dX12_anItem_46 : decode cX12_anItem 46 = .ok (.aload_n 0, 1) := by decide +kernel
theorem dX12_anItem_47 : decode cX12_anItem 47 = .ok (.invokevirtual 145, 3) := by decide +kernel
theorem dX12_anItem_50 : decode cX12_anItem 50 = .ok (.istore_n 3, 1) := by decide +kernel
theorem dX12_anItem_51 : decode cX12_anItem 51 = .ok (.aload_n 0, 1) := by decide +kernel
theorem dX12_anItem_52 : decode cX12_anItem 52 = .ok (.getfield 134, 3) := by decide +kernel
theorem dX12_anItem_55 : decode cX12_anItem 55 = .ok (.bipush 7, 2) := by decide +kernel
theorem dX12_anItem_57 : decode cX12_anItem 57 = .ok (.if_icmp .ge 14, 3) := by decide +kernel
theorem dX12_anItem_60 : decode cX12_anItem 60 = .ok (.aload_n 0, 1) := by decide +kernel
theorem dX12_anItem_61 : decode cX12_anItem 61 = .ok (.aload_n 0, 1) := by decide +kernel
theorem dX12_anItem_62 : decode cX12_anItem 62 = .ok (.getfield 134, 3) := by decide +kernel
theorem dX12_anItem_65 : decode cX12_anItem 65 = .ok (.iload_n 2, 1) := by decide +kernel
theorem dX12_anItem_66 : decode cX12_anItem 66 = .ok (.iload_n 3, 1) := by decide +kernel
theorem dX12_anItem_67 : decode cX12_anItem 67 = .ok (.i2l, 1) := by decide +kernel
theorem dX12_anItem_68 : decode cX12_anItem 68 = .ok (.invokevirtual 141, 3) := by decide +kernel
theorem dX12_anItem_71 : decode cX12_anItem 71 = .ok (.return_, 1) := by decide +kernel
theorem dX12_anItem_72 : decode cX12_anItem 72 = .ok (.aload_n 0, 1) := by decide +kernel
theorem dX12_anItem_73 : decode cX12_anItem 73 = .ok (.bipush 50, 2) := by decide +kernel
theorem dX12_anItem_75 : decode cX12_anItem 75 = .ok (.invokevirtual 149, 3) := by decide +kernel
theorem dX12_anItem_78 : decode cX12_anItem 78 = .ok (.ifCond .eq 46, 3) := by decide +kernel
theorem dX12_anItem_81 : decode cX12_anItem 81 = .ok (.aload_n 0, 1) := by decide +kernel
theorem dX12_anItem_82 : decode cX12_anItem 82 = .ok (.getfield 90, 3) := by decide +kernel
theorem dX12_anItem_85 : decode cX12_anItem 85 = .ok (.istore_n 1, 1) := by decide +kernel
theorem dX12_anItem_86 : decode cX12_anItem 86 = .ok (.aload_n 0, 1) := by decide +kernel
theorem dX12_anItem_87 : decode cX12_anItem 87 = .ok (.invokevirtual 145, 3) := by decide +kernel
theorem dX12_anItem_90 : decode cX12_anItem 90 = .ok (.istore_n 2, 1) := by decide +kernel
theorem dX12_anItem_91 : decode cX12_anItem 91 = .ok (.iload_n 2, 1) := by decide +kernel
theorem dX12_anItem_92 : decode cX12_anItem 92 = .ok (.iconst 3, 1) := by decide +kernel
theorem dX12_anItem_93 : decode cX12_anItem 93 = .ok (.if_icmp .le 9, 3) := by decide +kernel
theorem dX12_anItem_96 : decode cX12_anItem 96 = .ok (.aload_n 0, 1) := by decide +kernel
theorem dX12_anItem_97 : decode cX12_anItem 97 = .ok (.iconst 2, 1) := by decide +kernel
theorem dX12_anItem_98 : decode cX12_anItem 98 = .ok (.iload_n 1, 1) := by decide +kernel
theorem dX12_anItem_99 : decode cX12_anItem 99 = .ok (.invokevirtual 152, 3) := by decide +kernel
theorem dX12_anItem_102 : decode cX12_anItem 102 = .ok (.aload_n 0, 1) := by decide +kernel
theorem dX12_anItem_103 : decode cX12_anItem 103 = .ok (.getfield 134, 3) := by decide +kernel
theorem dX12_anItem_106 : decode cX12_anItem 106 = .ok (.bipush 7, 2) := by decide +kernel
theorem dX12_anItem_108 : decode cX12_anItem 108 = .ok (.if_icmp .ge 15, 3) := by decide +kernel
theorem dX12_anItem_111 : decode cX12_anItem 111 = .ok (.aload_n 0, 1) := by decide +kernel
theorem dX12_anItem_112 : decode cX12_anItem 112 = .ok (.getfield 24, 3) := by decide +kernel
theorem dX12_anItem_115 : decode cX12_anItem 115 = .ok (.aload_n 0, 1) := by decide +kernel
theorem dX12_anItem_116 : decode cX12_anItem 116 = .ok (.getfield 134, 3) := by decide +kernel
theorem dX12_anItem_119 : decode cX12_anItem 119 = .ok (.iload_n 2, 1) := by decide +kernel
theorem dX12_anItem_120 : decode cX12_anItem 120 = .ok (.iconst 3, 1) := by decide +kernel
theorem dX12_anItem_121 : decode cX12_anItem 121 = .ok (.iand, 1) := by decide +kernel
theorem dX12_anItem_122 : decode cX12_anItem 122 = .ok (.iastore, 1) := by decide +kernel
theorem dX12_anItem_123 : decode cX12_anItem 123 = .ok (.return_, 1) := by decide +kernel
theorem dX12_anItem_124 : decode cX12_anItem 124 = .ok (.aload_n 0, 1) := by decide +kernel
theorem dX12_anItem_125 : decode cX12_anItem 125 = .ok (.invokevirtual 145, 3) := by decide +kernel
theorem dX12_anItem_128 : decode cX12_anItem 128 = .ok (.istore_n 2, 1) := by decide +kernel
theorem dX12_anItem_129 : decode cX12_anItem 129 = .ok (.iload_n 2, 1) := by decide +kernel
theorem dX12_anItem_130 : decode cX12_anItem 130 = .ok (.ifCond .ne 9, 3) := by decide +kernel
theorem dX12_anItem_133 : decode cX12_anItem 133 = .ok (.aload_n 0, 1) := by decide +kernel
theorem dX12_anItem_134 : decode cX12_anItem 134 = .ok (.iconst 2, 1) := by decide +kernel
theorem dX12_anItem_135 : decode cX12_anItem 135 = .ok (.iload_n 1, 1) := by decide +kernel
theorem dX12_anItem_136 : decode cX12_anItem 136 = .ok (.invokevirtual 152, 3) := by decide +kernel
theorem dX12_anItem_139 : decode cX12_anItem 139 = .ok (.aload_n 0, 1) := by decide +kernel
theorem dX12_anItem_140 : decode cX12_anItem 140 = .ok (.bipush 91, 2) := by decide +kernel
theorem dX12_anItem_142 : decode cX12_anItem 142 = .ok (.invokevirtual 126, 3) := by decide +kernel
theorem dX12_anItem_145 : decode cX12_anItem 145 = .ok (.ifCond .eq 20, 3) := by decide +kernel
theorem dX12_anItem_148 : decode cX12_anItem 148 = .ok (.aload_n 0, 1) := by decide +kernel
theorem dX12_anItem_149 : decode cX12_anItem 149 = .ok (.getfield 134, 3) := by decide +kernel
theorem dX12_anItem_152 : decode cX12_anItem 152 = .ok (.iconst 5, 1) := by decide +kernel
theorem dX12_anItem_153 : decode cX12_anItem 153 = .ok (.if_icmp .le 12, 3) := by decide +kernel
theorem dX12_anItem_156 : decode cX12_anItem 156 = .ok (.aload_n 0, 1) := by decide +kernel
theorem dX12_anItem_157 : decode cX12_anItem 157 = .ok (.iconst 3, 1) := by decide +kernel
theorem dX12_anItem_158 : decode cX12_anItem 158 = .ok (.aload_n 0, 1) := by decide +kernel
theorem dX12_anItem_159 : decode cX12_anItem 159 = .ok (.getfield 90, 3) := by decide +kernel
theorem dX12_anItem_162 : decode cX12_anItem 162 = .ok (.invokevirtual 152, 3) := by decide +kernel
theorem dX12_anItem_165 : decode cX12_anItem 165 = .ok (.aload_n 0, 1) := by decide +kernel
theorem dX12_anItem_166 : decode cX12_anItem 166 = .ok (.bipush 91, 2) := by decide +kernel
theorem dX12_anItem_168 : decode cX12_anItem 168 = .ok (.invokevirtual 156, 3) := by decide +kernel
theorem dX12_anItem_171 : decode cX12_anItem 171 = .ok (.aload_n 0, 1) := by decide +kernel
theorem dX12_anItem_172 : decode cX12_anItem 172 = .ok (.dup, 1) := by decide +kernel
theorem dX12_anItem_173 : decode cX12_anItem 173 = .ok (.getfield 134, 3) := by decide +kernel
theorem dX12_anItem_176 : decode cX12_anItem 176 = .ok (.iconst 1, 1) := by decide +kernel
theorem dX12_anItem_177 : decode cX12_anItem 177 = .ok (.iadd, 1) := by decide +kernel
theorem dX12_anItem_178 : decode cX12_anItem 178 = .ok (.putfield 134, 3) := by decide +kernel
theorem dX12_anItem_181 : decode cX12_anItem 181 = .ok (.aload_n 0, 1) := by decide +kernel
theorem dX12_anItem_182 : decode cX12_anItem 182 = .ok (.getfield 134, 3) := by decide +kernel
theorem dX12_anItem_185 : decode cX12_anItem 185 = .ok (.bipush 7, 2) := by decide +kernel
theorem dX12_anItem_187 : decode cX12_anItem 187 = .ok (.if_icmp .ge 8, 3) := by decide +kernel
theorem dX12_anItem_190 : decode cX12_anItem 190 = .ok (.aload_n 0, 1) := by decide +kernel
theorem dX12_anItem_191 : decode cX12_anItem 191 = .ok (.iload_n 2, 1) := by decide +kernel
theorem dX12_anItem_192 : decode cX12_anItem 192 = .ok (.invokevirtual 160, 3) := by decide +kernel
theorem dX12_anItem_195 : decode cX12_anItem 195 = .ok (.return_, 1) := by decide +kernel
abbrev dpX12_anItem : Nat := 5
def fX12_anItem_102 (a0 : Nat) (x2 : Int32) : St → Option (Unit × St) :=
 gI 13 a0 14 fun v2001 =>
 br (7 ≤ v2001) (rt ())
 (gR 13 a0 12 fun v2002 =>
 gI 13 a0 14 fun v2003 =>
 nn v2002 fun a2004 =>
 wI a2004 v2003 (x2 &&& 3) <|
 rt ())
set_option maxHeartbeats 4000000 in
set_option maxRecDepth 100000 in
theorem sfX12_anItem_102 {E : Ev} {l : Launch} (a0 : Nat) (x2 : Int32) : Snd E l (dpX12_anItem, RX12, cX12_anItem, 4, none, "anItem") rvV 102 [(0, .ref (E.1 + a0)), (2, .int x2)] [] (fX12_anItem_102 a0 x2) := by
  unfold fX12_anItem_102
  refine sn_aload_n (pc := 102) (j := 0) dX12_anItem_102 rfl rfl ?_
  refine sn_gI (pc := 103) dX12_anItem_103 flX12_134 rfl (fun v2001 => ?_)
  refine sn_bipush (pc := 106) (v := 7) dX12_anItem_106 (by decide) ?_
  refine sn_icmp_ge (pc := 108) (tgt := 123) dX12_anItem_108 (by decide) ?_ ?_
  · exact sn_vret (pc := 123) dX12_anItem_123 rfl
  · refine sn_aload_n (pc := 111) (j := 0) dX12_anItem_111 rfl rfl ?_
    refine sn_gR (pc := 112) dX12_anItem_112 flX12_24 rfl (fun v2002 => ?_)
    refine sn_aload_n (pc := 115) (j := 0) dX12_anItem_115 rfl rfl ?_
    refine sn_gI (pc := 116) dX12_anItem_116 flX12_134 rfl (fun v2003 => ?_)
    refine sn_iload_n (pc := 119) (j := 1) dX12_anItem_119 rfl rfl ?_
    refine sn_iconst (pc := 120) (v := 3) dX12_anItem_120 (by decide) ?_
    refine sn_iand (pc := 121) dX12_anItem_121 ?_
    rcases v2002 with _ | a2004
    · exact sn_no
    refine sn_nn ?_
    refine sn_iast (pc := 122) dX12_anItem_122 ?_
    exact sn_vret (pc := 123) dX12_anItem_123 rfl
def fX12_anItem_165 (a0 : Nat) (x2 : Int32) : St → Option (Unit × St) :=
 ck 13 a0 <| cl (fX12_must a0 91) fun v4001 =>
 gI 13 a0 14 fun v4002 =>
 pI 13 a0 14 (v4002 + 1) <|
 gI 13 a0 14 fun v4003 =>
 br (7 ≤ v4003) (rt ())
 (ck 13 a0 <| cl (fX12_opens a0 x2) fun v4004 =>
 rt ())
set_option maxHeartbeats 4000000 in
set_option maxRecDepth 100000 in
theorem sfX12_anItem_165 {E : Ev} {l : Launch} (a0 : Nat) (x2 : Int32) : Snd E l (dpX12_anItem, RX12, cX12_anItem, 4, none, "anItem") rvV 165 [(0, .ref (E.1 + a0)), (2, .int x2)] [] (fX12_anItem_165 a0 x2) := by
  unfold fX12_anItem_165
  refine sn_aload_n (pc := 165) (j := 0) dX12_anItem_165 rfl rfl ?_
  refine sn_bipush (pc := 166) (v := 91) dX12_anItem_166 (by decide) ?_
  refine sn_callV (ci := 12) (pc := 168) dX12_anItem_168 iX12_must wt6_218 ws_52 wt6_216 ⟨_, rfl, rfl⟩ (by decide) (mX12_must a0 91) (by decide) rfl rfl (Nat.le_of_ble_eq_true rfl) (fun v4001 => ?_)
  refine sn_aload_n (pc := 171) (j := 0) dX12_anItem_171 rfl rfl ?_
  refine sn_dup (pc := 172) dX12_anItem_172 rfl ?_
  refine sn_gI (pc := 173) dX12_anItem_173 flX12_134 rfl (fun v4002 => ?_)
  refine sn_iconst (pc := 176) (v := 1) dX12_anItem_176 (by decide) ?_
  refine sn_iadd (pc := 177) dX12_anItem_177 ?_
  refine sn_pI (pc := 178) dX12_anItem_178 flX12_134 rfl rfl (Or.inl rfl) ?_
  refine sn_aload_n (pc := 181) (j := 0) dX12_anItem_181 rfl rfl ?_
  refine sn_gI (pc := 182) dX12_anItem_182 flX12_134 rfl (fun v4003 => ?_)
  refine sn_bipush (pc := 185) (v := 7) dX12_anItem_185 (by decide) ?_
  refine sn_icmp_ge (pc := 187) (tgt := 195) dX12_anItem_187 (by decide) ?_ ?_
  · exact sn_vret (pc := 195) dX12_anItem_195 rfl
  · refine sn_aload_n (pc := 190) (j := 0) dX12_anItem_190 rfl rfl ?_
    refine sn_iload_n (pc := 191) (j := 1) dX12_anItem_191 rfl rfl ?_
    refine sn_callV (ci := 12) (pc := 192) dX12_anItem_192 iX12_opens wt6_143 ws_41 wt6_141 ⟨_, rfl, rfl⟩ (by decide) (mX12_opens a0 x2) (by decide) rfl rfl (Nat.le_of_ble_eq_true rfl) (fun v4004 => ?_)
    exact sn_vret (pc := 195) dX12_anItem_195 rfl
def fX12_anItem_139 (a0 : Nat) (x2 : Int32) : St → Option (Unit × St) :=
 ck 13 a0 <| cl (fX12_isSign a0 91) fun v3001 =>
 br ((bi v3001) = 0) (fX12_anItem_165  a0 x2)
 (gI 13 a0 14 fun v3002 =>
 br (v3002 ≤ 5) (fX12_anItem_165  a0 x2)
 (gI 13 a0 4 fun v3003 =>
 ck 13 a0 <| cl (fX12_also a0 3 v3003) fun v3004 =>
 fX12_anItem_165  a0 x2))
set_option maxHeartbeats 4000000 in
set_option maxRecDepth 100000 in
theorem sfX12_anItem_139 {E : Ev} {l : Launch} (a0 : Nat) (x2 : Int32) : Snd E l (dpX12_anItem, RX12, cX12_anItem, 4, none, "anItem") rvV 139 [(0, .ref (E.1 + a0)), (2, .int x2)] [] (fX12_anItem_139 a0 x2) := by
  unfold fX12_anItem_139
  refine sn_aload_n (pc := 139) (j := 0) dX12_anItem_139 rfl rfl ?_
  refine sn_bipush (pc := 140) (v := 91) dX12_anItem_140 (by decide) ?_
  refine sn_callV (ci := 12) (pc := 142) dX12_anItem_142 iX12_isSign wt6_186 ws_45 wt6_184 ⟨_, rfl, rfl⟩ (by decide) (mX12_isSign a0 91) (by decide) rfl rfl (Nat.le_of_ble_eq_true rfl) (fun v3001 => ?_)
  refine sn_if_eq (pc := 145) (tgt := 165) dX12_anItem_145 (by decide) ?_ ?_
  · exact sn_sub (lv' := [(0, .ref (E.1 + a0)), (2, .int x2)]) [0, 1] rfl (sfX12_anItem_165  a0 x2)
  · refine sn_aload_n (pc := 148) (j := 0) dX12_anItem_148 rfl rfl ?_
    refine sn_gI (pc := 149) dX12_anItem_149 flX12_134 rfl (fun v3002 => ?_)
    refine sn_iconst (pc := 152) (v := 5) dX12_anItem_152 (by decide) ?_
    refine sn_icmp_le (pc := 153) (tgt := 165) dX12_anItem_153 (by decide) ?_ ?_
    · exact sn_sub (lv' := [(0, .ref (E.1 + a0)), (2, .int x2)]) [0, 1] rfl (sfX12_anItem_165  a0 x2)
    · refine sn_aload_n (pc := 156) (j := 0) dX12_anItem_156 rfl rfl ?_
      refine sn_iconst (pc := 157) (v := 3) dX12_anItem_157 (by decide) ?_
      refine sn_aload_n (pc := 158) (j := 0) dX12_anItem_158 rfl rfl ?_
      refine sn_gI (pc := 159) dX12_anItem_159 flX12_90 rfl (fun v3003 => ?_)
      refine sn_callV (ci := 12) (pc := 162) dX12_anItem_162 iX12_also wt6_214 ws_51 wt6_212 ⟨_, rfl, rfl⟩ (by decide) (mX12_also a0 3 v3003) (by decide) rfl rfl (Nat.le_of_ble_eq_true rfl) (fun v3004 => ?_)
      exact sn_sub (lv' := [(0, .ref (E.1 + a0)), (2, .int x2)]) [0, 1] rfl (sfX12_anItem_165  a0 x2)
def fX12_anItem_72 (a0 : Nat) (x1 : Int32) : St → Option (Unit × St) :=
 ck 13 a0 <| cl (fX12_takes a0 50) fun v1001 =>
 br ((bi v1001) = 0) (ck 13 a0 <| cl (fX12_numbered a0) fun v1002 =>
 br (v1002 = 0) (ck 13 a0 <| cl (fX12_also a0 2 x1) fun v1003 =>
 fX12_anItem_139  a0 v1002)
 (fX12_anItem_139  a0 v1002))
 (gI 13 a0 4 fun v1004 =>
 ck 13 a0 <| cl (fX12_numbered a0) fun v1005 =>
 br (v1005 ≤ 3) (fX12_anItem_102  a0 v1005)
 (ck 13 a0 <| cl (fX12_also a0 2 v1004) fun v1006 =>
 fX12_anItem_102  a0 v1005))
set_option maxHeartbeats 4000000 in
set_option maxRecDepth 100000 in
theorem sfX12_anItem_72 {E : Ev} {l : Launch} (a0 : Nat) (x1 : Int32) : Snd E l (dpX12_anItem, RX12, cX12_anItem, 4, none, "anItem") rvV 72 [(0, .ref (E.1 + a0)), (1, .int x1)] [] (fX12_anItem_72 a0 x1) := by
  unfold fX12_anItem_72
  refine sn_aload_n (pc := 72) (j := 0) dX12_anItem_72 rfl rfl ?_
  refine sn_bipush (pc := 73) (v := 50) dX12_anItem_73 (by decide) ?_
  refine sn_callV (ci := 12) (pc := 75) dX12_anItem_75 iX12_takes wt6_210 ws_50 wt6_208 ⟨_, rfl, rfl⟩ (by decide) (mX12_takes a0 50) (by decide) rfl rfl (Nat.le_of_ble_eq_true rfl) (fun v1001 => ?_)
  refine sn_if_eq (pc := 78) (tgt := 124) dX12_anItem_78 (by decide) ?_ ?_
  · refine sn_aload_n (pc := 124) (j := 0) dX12_anItem_124 rfl rfl ?_
    refine sn_callV (ci := 12) (pc := 125) dX12_anItem_125 iX12_numbered wt6_194 ws_47 wt6_192 ⟨_, rfl, rfl⟩ (by decide) (mX12_numbered a0) (by decide) rfl rfl (Nat.le_of_ble_eq_true rfl) (fun v1002 => ?_)
    refine sn_istore_n (pc := 128) (i := 2) (lv' := [(2, .int v1002), (0, .ref (E.1 + a0)), (1, .int x1)]) dX12_anItem_128 rfl (by decide) rfl ?_
    refine sn_iload_n (pc := 129) (j := 0) dX12_anItem_129 rfl rfl ?_
    refine sn_if_ne (pc := 130) (tgt := 139) dX12_anItem_130 (by decide) ?_ ?_
    · exact sn_sub (lv' := [(0, .ref (E.1 + a0)), (2, .int v1002)]) [1, 0] rfl (sfX12_anItem_139  a0 v1002)
    · refine sn_aload_n (pc := 133) (j := 1) dX12_anItem_133 rfl rfl ?_
      refine sn_iconst (pc := 134) (v := 2) dX12_anItem_134 (by decide) ?_
      refine sn_iload_n (pc := 135) (j := 2) dX12_anItem_135 rfl rfl ?_
      refine sn_callV (ci := 12) (pc := 136) dX12_anItem_136 iX12_also wt6_214 ws_51 wt6_212 ⟨_, rfl, rfl⟩ (by decide) (mX12_also a0 2 x1) (by decide) rfl rfl (Nat.le_of_ble_eq_true rfl) (fun v1003 => ?_)
      exact sn_sub (lv' := [(0, .ref (E.1 + a0)), (2, .int v1002)]) [1, 0] rfl (sfX12_anItem_139  a0 v1002)
  · refine sn_aload_n (pc := 81) (j := 0) dX12_anItem_81 rfl rfl ?_
    refine sn_gI (pc := 82) dX12_anItem_82 flX12_90 rfl (fun v1004 => ?_)
    refine sn_istore_n (pc := 85) (i := 1) (lv' := [(1, .int v1004), (0, .ref (E.1 + a0))]) dX12_anItem_85 rfl (by decide) rfl ?_
    refine sn_aload_n (pc := 86) (j := 1) dX12_anItem_86 rfl rfl ?_
    refine sn_callV (ci := 12) (pc := 87) dX12_anItem_87 iX12_numbered wt6_194 ws_47 wt6_192 ⟨_, rfl, rfl⟩ (by decide) (mX12_numbered a0) (by decide) rfl rfl (Nat.le_of_ble_eq_true rfl) (fun v1005 => ?_)
    refine sn_istore_n (pc := 90) (i := 2) (lv' := [(2, .int v1005), (1, .int v1004), (0, .ref (E.1 + a0))]) dX12_anItem_90 rfl (by decide) rfl ?_
    refine sn_iload_n (pc := 91) (j := 0) dX12_anItem_91 rfl rfl ?_
    refine sn_iconst (pc := 92) (v := 3) dX12_anItem_92 (by decide) ?_
    refine sn_icmp_le (pc := 93) (tgt := 102) dX12_anItem_93 (by decide) ?_ ?_
    · exact sn_sub (lv' := [(0, .ref (E.1 + a0)), (2, .int v1005)]) [2, 0] rfl (sfX12_anItem_102  a0 v1005)
    · refine sn_aload_n (pc := 96) (j := 2) dX12_anItem_96 rfl rfl ?_
      refine sn_iconst (pc := 97) (v := 2) dX12_anItem_97 (by decide) ?_
      refine sn_iload_n (pc := 98) (j := 1) dX12_anItem_98 rfl rfl ?_
      refine sn_callV (ci := 12) (pc := 99) dX12_anItem_99 iX12_also wt6_214 ws_51 wt6_212 ⟨_, rfl, rfl⟩ (by decide) (mX12_also a0 2 v1004) (by decide) rfl rfl (Nat.le_of_ble_eq_true rfl) (fun v1006 => ?_)
      exact sn_sub (lv' := [(0, .ref (E.1 + a0)), (2, .int v1005)]) [2, 0] rfl (sfX12_anItem_102  a0 v1005)
def fX12_anItem (a0 : Nat) : St → Option (Unit × St) :=
 gI 13 a0 4 fun v1 =>
 gI 13 a0 9 fun v2 =>
 br (v2 = 0) (gI 13 a0 5 fun v3 =>
 br (v3 = 3) (gI 13 a0 8 fun v4 =>
 cl (fX12_isIn v4 40 45) fun v5 =>
 br ((bi v5) = 0) (fX12_anItem_72  a0 v1)
 (gI 13 a0 8 fun v6 =>
 ck 13 a0 <| cl (fX12_step a0) fun v7 =>
 ck 13 a0 <| cl (fX12_numbered a0) fun v8 =>
 gI 13 a0 14 fun v9 =>
 br (7 ≤ v9) (rt ())
 (gI 13 a0 14 fun v10 =>
 ck 13 a0 <| cl (fX12_sews a0 v10 (v6 - 40) v8.toInt64) fun v11 =>
 rt ())))
 (fX12_anItem_72  a0 v1))
 (fX12_anItem_72  a0 v1)
set_option maxHeartbeats 4000000 in
set_option maxRecDepth 100000 in
theorem mX12_anItem {E : Ev} {l : Launch} (a0 : Nat) : MF E l dpX12_anItem yX12_anItem cX12_anItem 4 none rvV [.ref (E.1 + a0)] (fX12_anItem a0) := by
  refine MF.of (lv := [(0, .ref (E.1 + a0))]) (by decide) (Nat.le_of_ble_eq_true rfl) rfl ?_
  unfold fX12_anItem
  refine sn_aload_n (pc := 0) (j := 0) dX12_anItem_0 rfl rfl ?_
  refine sn_gI (pc := 1) dX12_anItem_1 flX12_90 rfl (fun v1 => ?_)
  refine sn_istore_n (pc := 4) (i := 1) (lv' := [(1, .int v1), (0, .ref (E.1 + a0))]) dX12_anItem_4 rfl (by decide) rfl ?_
  refine sn_aload_n (pc := 5) (j := 1) dX12_anItem_5 rfl rfl ?_
  refine sn_gI (pc := 6) dX12_anItem_6 flX12_119 rfl (fun v2 => ?_)
  refine sn_if_ne (pc := 9) (tgt := 72) dX12_anItem_9 (by decide) ?_ ?_
  · exact sn_sub (lv' := [(0, .ref (E.1 + a0)), (1, .int v1)]) [1, 0] rfl (sfX12_anItem_72  a0 v1)
  · refine sn_aload_n (pc := 12) (j := 1) dX12_anItem_12 rfl rfl ?_
    refine sn_gI (pc := 13) dX12_anItem_13 flX12_93 rfl (fun v3 => ?_)
    refine sn_iconst (pc := 16) (v := 3) dX12_anItem_16 (by decide) ?_
    refine sn_icmp_ne (pc := 17) (tgt := 72) dX12_anItem_17 (by decide) ?_ ?_
    · exact sn_sub (lv' := [(0, .ref (E.1 + a0)), (1, .int v1)]) [1, 0] rfl (sfX12_anItem_72  a0 v1)
    · refine sn_aload_n (pc := 20) (j := 1) dX12_anItem_20 rfl rfl ?_
      refine sn_gI (pc := 21) dX12_anItem_21 flX12_104 rfl (fun v4 => ?_)
      refine sn_bipush (pc := 24) (v := 40) dX12_anItem_24 (by decide) ?_
      refine sn_bipush (pc := 26) (v := 45) dX12_anItem_26 (by decide) ?_
      refine sn_callS (pc := 28) dX12_anItem_28 iX12_isIn wt6_138 wt6_137 (mX12_isIn v4 40 45) (by decide) rfl rfl (Nat.le_of_ble_eq_true rfl) (fun v5 => ?_)
      refine sn_if_eq (pc := 31) (tgt := 72) dX12_anItem_31 (by decide) ?_ ?_
      · exact sn_sub (lv' := [(0, .ref (E.1 + a0)), (1, .int v1)]) [1, 0] rfl (sfX12_anItem_72  a0 v1)
      · refine sn_aload_n (pc := 34) (j := 1) dX12_anItem_34 rfl rfl ?_
        refine sn_gI (pc := 35) dX12_anItem_35 flX12_104 rfl (fun v6 => ?_)
        refine sn_bipush (pc := 38) (v := 40) dX12_anItem_38 (by decide) ?_
        refine sn_isub (pc := 40) dX12_anItem_40 ?_
        refine sn_istore_n (pc := 41) (i := 2) (lv' := [(2, .int (v6 - 40)), (1, .int v1), (0, .ref (E.1 + a0))]) dX12_anItem_41 rfl (by decide) rfl ?_
        refine sn_aload_n (pc := 42) (j := 2) dX12_anItem_42 rfl rfl ?_
        refine sn_callV (ci := 12) (pc := 43) dX12_anItem_43 iX12_step wt6_147 ws_42 wt6_145 ⟨_, rfl, rfl⟩ (by decide) (mX12_step a0) (by decide) rfl rfl (Nat.le_of_ble_eq_true rfl) (fun v7 => ?_)
        refine sn_aload_n (pc := 46) (j := 2) dX12_anItem_46 rfl rfl ?_
        refine sn_callV (ci := 12) (pc := 47) dX12_anItem_47 iX12_numbered wt6_194 ws_47 wt6_192 ⟨_, rfl, rfl⟩ (by decide) (mX12_numbered a0) (by decide) rfl rfl (Nat.le_of_ble_eq_true rfl) (fun v8 => ?_)
        refine sn_istore_n (pc := 50) (i := 3) (lv' := [(3, .int v8), (2, .int (v6 - 40)), (1, .int v1), (0, .ref (E.1 + a0))]) dX12_anItem_50 rfl (by decide) rfl ?_
        refine sn_aload_n (pc := 51) (j := 3) dX12_anItem_51 rfl rfl ?_
        refine sn_gI (pc := 52) dX12_anItem_52 flX12_134 rfl (fun v9 => ?_)
        refine sn_bipush (pc := 55) (v := 7) dX12_anItem_55 (by decide) ?_
        refine sn_icmp_ge (pc := 57) (tgt := 71) dX12_anItem_57 (by decide) ?_ ?_
        · exact sn_vret (pc := 71) dX12_anItem_71 rfl
        · refine sn_aload_n (pc := 60) (j := 3) dX12_anItem_60 rfl rfl ?_
          refine sn_aload_n (pc := 61) (j := 3) dX12_anItem_61 rfl rfl ?_
          refine sn_gI (pc := 62) dX12_anItem_62 flX12_134 rfl (fun v10 => ?_)
          refine sn_iload_n (pc := 65) (j := 1) dX12_anItem_65 rfl rfl ?_
          refine sn_iload_n (pc := 66) (j := 0) dX12_anItem_66 rfl rfl ?_
          refine sn_i2l (pc := 67) dX12_anItem_67 ?_
          refine sn_callV (ci := 12) (pc := 68) dX12_anItem_68 iX12_sews wt6_202 ws_49 wt6_200 ⟨_, rfl, rfl⟩ (by decide) (mX12_sews a0 v10 (v6 - 40) v8.toInt64) (by decide) rfl rfl (Nat.le_of_ble_eq_true rfl) (fun v11 => ?_)
          exact sn_vret (pc := 71) dX12_anItem_71 rfl
theorem iX12_anItem : MI yX12_anItem cX12_anItem 4 none 0 := ⟨wt1_10, wt6_191, by decide +kernel, by decide⟩
