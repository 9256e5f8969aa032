-- NeedleHomes end(I)I
theorem dX11_end_0 : decode cX11_end 0 = .ok (.iload_n 1, 1) := by decide +kernel
theorem dX11_end_1 : decode cX11_end 1 = .ok (.iconst 0, 1) := by decide +kernel
theorem dX11_end_2 : decode cX11_end 2 = .ok (.aload_n 0, 1) := by decide +kernel
theorem dX11_end_3 : decode cX11_end 3 = .ok (.getfield 12, 3) := by decide +kernel
theorem dX11_end_6 : decode cX11_end 6 = .ok (.getfield 59, 3) := by decide +kernel
theorem dX11_end_9 : decode cX11_end 9 = .ok (.invokestatic 67, 3) := by decide +kernel
theorem dX11_end_12 : decode cX11_end 12 = .ok (.ifCond .ne 5, 3) := by decide +kernel
theorem dX11_end_15 : decode cX11_end 15 = .ok (.iconst (-1), 1) := by decide +kernel
theorem dX11_end_16 : decode cX11_end 16 = .ok (.ireturn, 1) := by decide +kernel
theorem dX11_end_17 : decode cX11_end 17 = .ok (.aload_n 0, 1) := by decide +kernel
theorem dX11_end_18 : decode cX11_end 18 = .ok (.getfield 12, 3) := by decide +kernel
theorem dX11_end_21 : decode cX11_end 21 = .ok (.iload_n 1, 1) := by decide +kernel
theorem dX11_end_22 : decode cX11_end 22 = .ok (.putfield 59, 3) := by decide +kernel
theorem dX11_end_25 : decode cX11_end 25 = .ok (.iload_n 1, 1) := by decide +kernel
theorem dX11_end_26 : decode cX11_end 26 = .ok (.ireturn, 1) := by decide +kernel
abbrev dpX11_end : Nat := 1
def fX11_end (a0 : Nat) (x1 : Int32) : St → Option (Int32 × St) :=
 gR 12 a0 0 fun v1 =>
 nn v1 fun a3 =>
 gI 11 a3 1 fun v2 =>
 cl (fX11_within x1 0 v2) fun v4 =>
 br ((bi v4) = 0) (rt (-1))
 (gR 12 a0 0 fun v5 =>
 nn v5 fun a6 =>
 pI 11 a6 1 x1 <|
 rt x1)
set_option maxHeartbeats 4000000 in
set_option maxRecDepth 100000 in
theorem mX11_end {E : Ev} {l : Launch} (a0 : Nat) (x1 : Int32) : MF E l dpX11_end yX11_end cX11_end 2 (some .int) rvI [.ref (E.1 + a0), .int x1] (fX11_end a0 x1) := by
  refine MF.of (lv := [(0, .ref (E.1 + a0)), (1, .int x1)]) (by decide) (Nat.le_of_ble_eq_true rfl) rfl ?_
  unfold fX11_end
  refine sn_iload_n (pc := 0) (j := 1) dX11_end_0 rfl rfl ?_
  refine sn_iconst (pc := 1) (v := 0) dX11_end_1 (by decide) ?_
  refine sn_aload_n (pc := 2) (j := 0) dX11_end_2 rfl rfl ?_
  refine sn_gR (pc := 3) dX11_end_3 flX11_12 rfl (fun v1 => ?_)
  rcases v1 with _ | a3
  · exact sn_no
  refine sn_nn ?_
  refine sn_gI (pc := 6) dX11_end_6 flX11_59 rfl (fun v2 => ?_)
  refine sn_callS (pc := 9) dX11_end_9 iX11_within wt2_96 wt2_95 (mX11_within x1 0 v2) (by decide) rfl rfl (Nat.le_of_ble_eq_true rfl) (fun v4 => ?_)
  refine sn_if_ne (pc := 12) (tgt := 17) dX11_end_12 (by decide) ?_ ?_
  · refine sn_aload_n (pc := 17) (j := 0) dX11_end_17 rfl rfl ?_
    refine sn_gR (pc := 18) dX11_end_18 flX11_12 rfl (fun v5 => ?_)
    refine sn_iload_n (pc := 21) (j := 1) dX11_end_21 rfl rfl ?_
    rcases v5 with _ | a6
    · exact sn_no
    refine sn_nn ?_
    refine sn_pI (pc := 22) dX11_end_22 flX11_59 rfl rfl (Or.inl rfl) ?_
    refine sn_iload_n (pc := 25) (j := 1) dX11_end_25 rfl rfl ?_
    exact sn_iret (pc := 26) dX11_end_26 rfl
  · refine sn_iconst (pc := 15) (v := (-1)) dX11_end_15 (by decide) ?_
    exact sn_iret (pc := 16) dX11_end_16 rfl
theorem iX11_end : MI yX11_end cX11_end 2 (some .int) 1 := ⟨wt1_1, wt2_94, by decide +kernel, by decide⟩
-- NeedleHomes pattern(II)I
theorem dX11_pattern_0 : decode cX11_pattern 0 = .ok (.aload_n 0, 1) := by decide +kernel
theorem dX11_pattern_1 : decode cX11_pattern 1 = .ok (.getfield 12, 3) := by decide +kernel
theorem dX11_pattern_4 : decode cX11_pattern 4 = .ok (.invokevirtual 71, 3) := by decide +kernel
theorem dX11_pattern_7 : decode cX11_pattern 7 = .ok (.istore_n 3, 1) := by decide +kernel
theorem dX11_pattern_8 : decode cX11_pattern 8 = .ok (.aload_n 0, 1) := by decide +kernel
theorem dX11_pattern_9 : decode cX11_pattern 9 = .ok (.getfield 12, 3) := by decide +kernel
theorem dX11_pattern_12 : decode cX11_pattern 12 = .ok (.getfield 75, 3) := by decide +kernel
theorem dX11_pattern_15 : decode cX11_pattern 15 = .ok (.bipush 8, 2) := by decide +kernel
theorem dX11_pattern_17 : decode cX11_pattern 17 = .ok (.if_icmp .ge 22, 3) := by decide +kernel
theorem dX11_pattern_20 : decode cX11_pattern 20 = .ok (.iload_n 1, 1) := by decide +kernel
theorem dX11_pattern_21 : decode cX11_pattern 21 = .ok (.iconst 0, 1) := by decide +kernel
theorem dX11_pattern_22 : decode cX11_pattern 22 = .ok (.iconst 3, 1) := by decide +kernel
theorem dX11_pattern_23 : decode cX11_pattern 23 = .ok (.invokestatic 67, 3) := by decide +kernel
theorem dX11_pattern_26 : decode cX11_pattern 26 = .ok (.ifCond .eq 13, 3) := by decide +kernel
theorem dX11_pattern_29 : decode cX11_pattern 29 = .ok (.iload_n 2, 1) := by decide +kernel
theorem dX11_pattern_30 : decode cX11_pattern 30 = .ok (.iconst 0, 1) := by decide +kernel
theorem dX11_pattern_31 : decode cX11_pattern 31 = .ok (.ldc 78, 2) := by decide +kernel
theorem dX11_pattern_33 : decode cX11_pattern 33 = .ok (.invokestatic 67, 3) := by decide +kernel
theorem dX11_pattern_36 : decode cX11_pattern 36 = .ok (.ifCond .ne 6, 3) := by decide +kernel
theorem dX11_pattern_39 : decode cX11_pattern 39 = .ok (.bipush (-2), 2) := by decide +kernel
theorem dX11_pattern_41 : decode cX11_pattern 41 = .ok (.ireturn, 1) := by decide +kernel
theorem dX11_pattern_42 : decode cX11_pattern 42 = .ok (.aload_n 0, 1) := by decide +kernel
theorem dX11_pattern_43 : decode cX11_pattern 43 = .ok (.getfield 23, 3) := by decide +kernel
theorem dX11_pattern_46 : decode cX11_pattern 46 = .ok (.aload_n 0, 1) := by decide +kernel
theorem dX11_pattern_47 : decode cX11_pattern 47 = .ok (.getfield 12, 3) := by decide +kernel
theorem dX11_pattern_50 : decode cX11_pattern 50 = .ok (.getfield 79, 3) := by decide +kernel
theorem dX11_pattern_53 : decode cX11_pattern 53 = .ok (.iload_n 3, 1) := by decide +kernel
theorem dX11_pattern_54 : decode cX11_pattern 54 = .ok (.invokevirtual 83, 3) := by decide +kernel
theorem dX11_pattern_57 : decode cX11_pattern 57 = .ok (.aload_n 0, 1) := by decide +kernel
theorem dX11_pattern_58 : decode cX11_pattern 58 = .ok (.getfield 12, 3) := by decide +kernel
theorem dX11_pattern_61 : decode cX11_pattern 61 = .ok (.aload_n 0, 1) := by decide +kernel
theorem dX11_pattern_62 : decode cX11_pattern 62 = .ok (.getfield 23, 3) := by decide +kernel
theorem dX11_pattern_65 : decode cX11_pattern 65 = .ok (.getfield 87, 3) := by decide +kernel
theorem dX11_pattern_68 : decode cX11_pattern 68 = .ok (.invokevirtual 91, 3) := by decide +kernel
theorem dX11_pattern_71 : decode cX11_pattern 71 = .ok (.aload_n 0, 1) := by decide +kernel
theorem dX11_pattern_72 : decode cX11_pattern 72 = .ok (.getfield 12, 3) := by decide +kernel
theorem dX11_pattern_75 : decode cX11_pattern 75 = .ok (.getfield 95, 3) := by decide +kernel
theorem dX11_pattern_78 : decode cX11_pattern 78 = .ok (.ifCond .eq 5, 3) := by decide +kernel
theorem dX11_pattern_81 : decode cX11_pattern 81 = .ok (.iconst (-1), 1) := by decide +kernel
theorem dX11_pattern_82 : decode cX11_pattern 82 = .ok (.ireturn, 1) := by decide +kernel
theorem dX11_pattern_83 : decode cX11_pattern 83 = .ok (.aload_n 0, 1) := by decide +kernel
theorem dX11_pattern_84 : decode cX11_pattern 84 = .ok (.getfield 12, 3) := by decide +kernel
theorem dX11_pattern_87 : decode cX11_pattern 87 = .ok (.new 98, 3) := by decide +kernel
theorem dX11_pattern_90 : decode cX11_pattern 90 = .ok (.dup, 1) := by decide +kernel
theorem dX11_pattern_91 : decode cX11_pattern 91 = .ok (.iload_n 1, 1) := by decide +kernel
theorem dX11_pattern_92 : decode cX11_pattern 92 = .ok (.iload_n 2, 1) := by decide +kernel
theorem dX11_pattern_93 : decode cX11_pattern 93 = .ok (.aload_n 0, 1) := by decide +kernel
theorem dX11_pattern_94 : decode cX11_pattern 94 = .ok (.getfield 23, 3) := by decide +kernel
theorem dX11_pattern_97 : decode cX11_pattern 97 = .ok (.invokespecial 100, 3) := by decide +kernel
theorem dX11_pattern_100 : decode cX11_pattern 100 = .ok (.invokevirtual 103, 3) := by decide +kernel
theorem dX11_pattern_103 : decode cX11_pattern 103 = .ok (.ireturn, 1) := by decide +kernel
abbrev dpX11_pattern : Nat := 6
def fX11_pattern (a0 : Nat) (x1 : Int32) (x2 : Int32) : St → Option (Int32 × St) :=
 gR 12 a0 0 fun v1 =>
 nn v1 fun a2 =>
 ck 11 a2 <| cl (fX10_takeTape a2) fun v3 =>
 gR 12 a0 0 fun v4 =>
 nn v4 fun a6 =>
 gI 11 a6 6 fun v5 =>
 br (8 ≤ v5) (rt (-2))
 (cl (fX11_within x1 0 3) fun v7 =>
 br ((bi v7) = 0) (rt (-2))
 (cl (fX11_within x2 0 16777215) fun v8 =>
 br ((bi v8) = 0) (rt (-2))
 (gR 12 a0 2 fun v9 =>
 gR 12 a0 0 fun v10 =>
 nn v10 fun a12 =>
 gR 11 a12 0 fun v11 =>
 nn v9 fun a13 =>
 ck 7 a13 <| cl (fX6_read a13 v11 v3) fun v14 =>
 gR 12 a0 0 fun v15 =>
 gR 12 a0 2 fun v16 =>
 nn v16 fun a18 =>
 gR 7 a18 0 fun v17 =>
 nn v15 fun a19 =>
 ck 11 a19 <| cl (fX10_keepFault a19 v17) fun v20 =>
 gR 12 a0 0 fun v21 =>
 nn v21 fun a23 =>
 gI 11 a23 2 fun v22 =>
 br (v22 = 0) (gR 12 a0 0 fun v24 =>
 nO 6 4 fun a25 =>
 gR 12 a0 2 fun v26 =>
 cl (fX5_init a25 x1 x2 v26) fun v27 =>
 nn v24 fun a28 =>
 ck 11 a28 <| cl (fX10_addPattern a28 (some a25)) fun v29 =>
 rt v29)
 (rt (-1)))))
set_option maxHeartbeats 4000000 in
set_option maxRecDepth 100000 in
theorem mX11_pattern {E : Ev} {l : Launch} (a0 : Nat) (x1 : Int32) (x2 : Int32) : MF E l dpX11_pattern yX11_pattern cX11_pattern 4 (some .int) rvI [.ref (E.1 + a0), .int x1, .int x2] (fX11_pattern a0 x1 x2) := by
  refine MF.of (lv := [(0, .ref (E.1 + a0)), (1, .int x1), (2, .int x2)]) (by decide) (Nat.le_of_ble_eq_true rfl) rfl ?_
  unfold fX11_pattern
  refine sn_aload_n (pc := 0) (j := 0) dX11_pattern_0 rfl rfl ?_
  refine sn_gR (pc := 1) dX11_pattern_1 flX11_12 rfl (fun v1 => ?_)
  rcases v1 with _ | a2
  · exact sn_no
  refine sn_nn ?_
  refine sn_callV (ci := 10) (pc := 4) dX11_pattern_4 iX10_takeTape wt2_103 wt2_104 wt2_102 ⟨_, rfl, rfl⟩ (by decide) (mX10_takeTape a2) (by decide) rfl rfl (Nat.le_of_ble_eq_true rfl) (fun v3 => ?_)
  refine sn_istore_n (pc := 7) (i := 3) (lv' := [(3, .int v3), (0, .ref (E.1 + a0)), (1, .int x1), (2, .int x2)]) dX11_pattern_7 rfl (by decide) rfl ?_
  refine sn_aload_n (pc := 8) (j := 1) dX11_pattern_8 rfl rfl ?_
  refine sn_gR (pc := 9) dX11_pattern_9 flX11_12 rfl (fun v4 => ?_)
  rcases v4 with _ | a6
  · exact sn_no
  refine sn_nn ?_
  refine sn_gI (pc := 12) dX11_pattern_12 flX11_75 rfl (fun v5 => ?_)
  refine sn_bipush (pc := 15) (v := 8) dX11_pattern_15 (by decide) ?_
  refine sn_icmp_ge (pc := 17) (tgt := 39) dX11_pattern_17 (by decide) ?_ ?_
  · refine sn_bipush (pc := 39) (v := (-2)) dX11_pattern_39 (by decide) ?_
    exact sn_iret (pc := 41) dX11_pattern_41 rfl
  · refine sn_iload_n (pc := 20) (j := 2) dX11_pattern_20 rfl rfl ?_
    refine sn_iconst (pc := 21) (v := 0) dX11_pattern_21 (by decide) ?_
    refine sn_iconst (pc := 22) (v := 3) dX11_pattern_22 (by decide) ?_
    refine sn_callS (pc := 23) dX11_pattern_23 iX11_within wt2_96 wt2_95 (mX11_within x1 0 3) (by decide) rfl rfl (Nat.le_of_ble_eq_true rfl) (fun v7 => ?_)
    refine sn_if_eq (pc := 26) (tgt := 39) dX11_pattern_26 (by decide) ?_ ?_
    · refine sn_bipush (pc := 39) (v := (-2)) dX11_pattern_39 (by decide) ?_
      exact sn_iret (pc := 41) dX11_pattern_41 rfl
    · refine sn_iload_n (pc := 29) (j := 3) dX11_pattern_29 rfl rfl ?_
      refine sn_iconst (pc := 30) (v := 0) dX11_pattern_30 (by decide) ?_
      refine sn_ldc (pc := 31) (v := 16777215) dX11_pattern_31 wt2_106 ?_
      refine sn_callS (pc := 33) dX11_pattern_33 iX11_within wt2_96 wt2_95 (mX11_within x2 0 16777215) (by decide) rfl rfl (Nat.le_of_ble_eq_true rfl) (fun v8 => ?_)
      refine sn_if_ne (pc := 36) (tgt := 42) dX11_pattern_36 (by decide) ?_ ?_
      · refine sn_aload_n (pc := 42) (j := 1) dX11_pattern_42 rfl rfl ?_
        refine sn_gR (pc := 43) dX11_pattern_43 flX11_23 rfl (fun v9 => ?_)
        refine sn_aload_n (pc := 46) (j := 1) dX11_pattern_46 rfl rfl ?_
        refine sn_gR (pc := 47) dX11_pattern_47 flX11_12 rfl (fun v10 => ?_)
        rcases v10 with _ | a12
        · exact sn_no
        refine sn_nn ?_
        refine sn_gR (pc := 50) dX11_pattern_50 flX11_79 rfl (fun v11 => ?_)
        refine sn_iload_n (pc := 53) (j := 0) dX11_pattern_53 rfl rfl ?_
        rcases v9 with _ | a13
        · exact sn_no
        refine sn_nn ?_
        refine sn_callV (ci := 6) (pc := 54) dX11_pattern_54 iX6_read wt2_108 wt2_109 wt2_107 ⟨_, rfl, rfl⟩ (by decide) (mX6_read a13 v11 v3) (by decide) rfl rfl (Nat.le_of_ble_eq_true rfl) (fun v14 => ?_)
        refine sn_aload_n (pc := 57) (j := 1) dX11_pattern_57 rfl rfl ?_
        refine sn_gR (pc := 58) dX11_pattern_58 flX11_12 rfl (fun v15 => ?_)
        refine sn_aload_n (pc := 61) (j := 1) dX11_pattern_61 rfl rfl ?_
        refine sn_gR (pc := 62) dX11_pattern_62 flX11_23 rfl (fun v16 => ?_)
        rcases v16 with _ | a18
        · exact sn_no
        refine sn_nn ?_
        refine sn_gR (pc := 65) dX11_pattern_65 flX11_87 rfl (fun v17 => ?_)
        rcases v15 with _ | a19
        · exact sn_no
        refine sn_nn ?_
        refine sn_callV (ci := 10) (pc := 68) dX11_pattern_68 iX10_keepFault wt2_220 wt2_221 wt2_219 ⟨_, rfl, rfl⟩ (by decide) (mX10_keepFault a19 v17) (by decide) rfl rfl (Nat.le_of_ble_eq_true rfl) (fun v20 => ?_)
        refine sn_aload_n (pc := 71) (j := 1) dX11_pattern_71 rfl rfl ?_
        refine sn_gR (pc := 72) dX11_pattern_72 flX11_12 rfl (fun v21 => ?_)
        rcases v21 with _ | a23
        · exact sn_no
        refine sn_nn ?_
        refine sn_gI (pc := 75) dX11_pattern_75 flX11_95 rfl (fun v22 => ?_)
        refine sn_if_eq (pc := 78) (tgt := 83) dX11_pattern_78 (by decide) ?_ ?_
        · refine sn_aload_n (pc := 83) (j := 1) dX11_pattern_83 rfl rfl ?_
          refine sn_gR (pc := 84) dX11_pattern_84 flX11_12 rfl (fun v24 => ?_)
          refine sn_new (pc := 87) dX11_pattern_87 ci_X5 wt2_223 (fun a25 => ?_)
          refine sn_dup (pc := 90) dX11_pattern_90 rfl ?_
          refine sn_iload_n (pc := 91) (j := 2) dX11_pattern_91 rfl rfl ?_
          refine sn_iload_n (pc := 92) (j := 3) dX11_pattern_92 rfl rfl ?_
          refine sn_aload_n (pc := 93) (j := 1) dX11_pattern_93 rfl rfl ?_
          refine sn_gR (pc := 94) dX11_pattern_94 flX11_23 rfl (fun v26 => ?_)
          refine sn_callI (pc := 97) dX11_pattern_97 iX5_init rfl rfl wt2_226 wt2_225 (mX5_init a25 x1 x2 v26) (by decide) rfl rfl (by simp [rf_some, rf_cat, cat_int, cat_long, cat_ref, rvV, rvI, rvZ, rvR, rvJ]) (fun v27 => ?_)
          rcases v24 with _ | a28
          · exact sn_no
          refine sn_nn ?_
          refine sn_callV (ci := 10) (pc := 100) dX11_pattern_100 iX10_addPattern wt3_8 wt3_9 wt3_7 ⟨_, rfl, rfl⟩ (by decide) (mX10_addPattern a28 (some a25)) (by decide) rfl rfl (Nat.le_of_ble_eq_true rfl) (fun v29 => ?_)
          exact sn_iret (pc := 103) dX11_pattern_103 rfl
        · refine sn_iconst (pc := 81) (v := (-1)) dX11_pattern_81 (by decide) ?_
          exact sn_iret (pc := 82) dX11_pattern_82 rfl
      · refine sn_bipush (pc := 39) (v := (-2)) dX11_pattern_39 (by decide) ?_
        exact sn_iret (pc := 41) dX11_pattern_41 rfl
theorem iX11_pattern : MI yX11_pattern cX11_pattern 4 (some .int) 2 := ⟨wt1_1, wt2_101, by decide +kernel, by decide⟩
-- NeedleHomes isDealer(I)Z
theorem dX11_isDealer_0 : decode cX11_isDealer 0 = .ok (.iload_n 0, 1) := by decide +kernel
theorem dX11_isDealer_1 : decode cX11_isDealer 1 = .ok (.iconst 0, 1) := by decide +kernel
theorem dX11_isDealer_2 : decode cX11_isDealer 2 = .ok (.iconst 2, 1) := by decide +kernel
theorem dX11_isDealer_3 : decode cX11_isDealer 3 = .ok (.invokestatic 67, 3) := by decide +kernel
theorem dX11_isDealer_6 : decode cX11_isDealer 6 = .ok (.ireturn, 1) := by decide +kernel
abbrev dpX11_isDealer : Nat := 1
def fX11_isDealer (x0 : Int32) : St → Option (Bool × St) :=
 cl (fX11_within x0 0 2) fun v1 =>
 rtZ (bi v1)
set_option maxHeartbeats 4000000 in
set_option maxRecDepth 100000 in
theorem mX11_isDealer {E : Ev} {l : Launch} (x0 : Int32) : MF E l dpX11_isDealer yX11_isDealer cX11_isDealer 1 (some .boolean) rvZ [.int x0] (fX11_isDealer x0) := by
  refine MF.of (lv := [(0, .int x0)]) (by decide) (Nat.le_of_ble_eq_true rfl) rfl ?_
  unfold fX11_isDealer
  refine sn_iload_n (pc := 0) (j := 0) dX11_isDealer_0 rfl rfl ?_
  refine sn_iconst (pc := 1) (v := 0) dX11_isDealer_1 (by decide) ?_
  refine sn_iconst (pc := 2) (v := 2) dX11_isDealer_2 (by decide) ?_
  refine sn_callS (pc := 3) dX11_isDealer_3 iX11_within wt2_96 wt2_95 (mX11_within x0 0 2) (by decide) rfl rfl (Nat.le_of_ble_eq_true rfl) (fun v1 => ?_)
  exact sn_zret (pc := 6) dX11_isDealer_6 rfl
theorem iX11_isDealer : MI yX11_isDealer cX11_isDealer 1 (some .boolean) 1 := ⟨wt1_1, wt3_18, by decide +kernel, by decide⟩
-- NeedleHomes list(II)I
theorem dX11_list_0 : decode cX11_list 0 = .ok (.aload_n 0, 1) := by decide +kernel
theorem dX11_list_1 : decode cX11_list 1 = .ok (.getfield 12, 3) := by decide +kernel
theorem dX11_list_4 : decode cX11_list 4 = .ok (.invokevirtual 71, 3) := by decide +kernel
theorem dX11_list_7 : decode cX11_list 7 = .ok (.istore_n 3, 1) := by decide +kernel
theorem dX11_list_8 : decode cX11_list 8 = .ok (.aload_n 0, 1) := by decide +kernel
theorem dX11_list_9 : decode cX11_list 9 = .ok (.getfield 12, 3) := by decide +kernel
theorem dX11_list_12 : decode cX11_list 12 = .ok (.getfield 107, 3) := by decide +kernel
theorem dX11_list_15 : decode cX11_list 15 = .ok (.bipush 10, 2) := by decide +kernel
theorem dX11_list_17 : decode cX11_list 17 = .ok (.if_icmp .ge 21, 3) := by decide +kernel
theorem dX11_list_20 : decode cX11_list 20 = .ok (.iload_n 1, 1) := by decide +kernel
theorem dX11_list_21 : decode cX11_list 21 = .ok (.invokestatic 110, 3) := by decide +kernel
theorem dX11_list_24 : decode cX11_list 24 = .ok (.ifCond .eq 14, 3) := by decide +kernel
theorem dX11_list_27 : decode cX11_list 27 = .ok (.iload_n 2, 1) := by decide +kernel
theorem dX11_list_28 : decode cX11_list 28 = .ok (.iconst 0, 1) := by decide +kernel
theorem dX11_list_29 : decode cX11_list 29 = .ok (.sipush 142, 3) := by decide +kernel
theorem dX11_list_32 : decode cX11_list 32 = .ok (.invokestatic 67, 3) := by decide +kernel
theorem dX11_list_35 : decode cX11_list 35 = .ok (.ifCond .ne 6, 3) := by decide +kernel
theorem dX11_list_38 : decode cX11_list 38 = .ok (.bipush (-2), 2) := by decide +kernel
theorem dX11_list_40 : decode cX11_list 40 = .ok (.ireturn, 1) := by decide +kernel
theorem dX11_list_41 : decode cX11_list 41 = .ok (.aload_n 0, 1) := by decide +kernel
theorem dX11_list_42 : decode cX11_list 42 = .ok (.getfield 30, 3) := by decide +kernel
theorem dX11_list_45 : decode cX11_list 45 = .ok (.aload_n 0, 1) := by decide +kernel
theorem dX11_list_46 : decode cX11_list 46 = .ok (.getfield 12, 3) := by decide +kernel
theorem dX11_list_49 : decode cX11_list 49 = .ok (.getfield 79, 3) := by decide +kernel
theorem dX11_list_52 : decode cX11_list 52 = .ok (.iload_n 3, 1) := by decide +kernel
theorem dX11_list_53 : decode cX11_list 53 = .ok (.invokevirtual 114, 3) := by decide +kernel
theorem dX11_list_56 : decode cX11_list 56 = .ok (.aload_n 0, 1) := by decide +kernel
theorem dX11_list_57 : decode cX11_list 57 = .ok (.getfield 12, 3) := by decide +kernel
theorem dX11_list_60 : decode cX11_list 60 = .ok (.aload_n 0, 1) := by decide +kernel
theorem dX11_list_61 : decode cX11_list 61 = .ok (.getfield 30, 3) := by decide +kernel
theorem dX11_list_64 : decode cX11_list 64 = .ok (.getfield 115, 3) := by decide +kernel
theorem dX11_list_67 : decode cX11_list 67 = .ok (.invokevirtual 91, 3) := by decide +kernel
theorem dX11_list_70 : decode cX11_list 70 = .ok (.aload_n 0, 1) := by decide +kernel
theorem dX11_list_71 : decode cX11_list 71 = .ok (.getfield 12, 3) := by decide +kernel
theorem dX11_list_74 : decode cX11_list 74 = .ok (.getfield 95, 3) := by decide +kernel
theorem dX11_list_77 : decode cX11_list 77 = .ok (.ifCond .eq 5, 3) := by decide +kernel
theorem dX11_list_80 : decode cX11_list 80 = .ok (.iconst (-1), 1) := by decide +kernel
theorem dX11_list_81 : decode cX11_list 81 = .ok (.ireturn, 1) := by decide +kernel
theorem dX11_list_82 : decode cX11_list 82 = .ok (.aload_n 0, 1) := by decide +kernel
theorem dX11_list_83 : decode cX11_list 83 = .ok (.getfield 12, 3) := by decide +kernel
theorem dX11_list_86 : decode cX11_list 86 = .ok (.new 116, 3) := by decide +kernel
theorem dX11_list_89 : decode cX11_list 89 = .ok (.dup, 1) := by decide +kernel
theorem dX11_list_90 : decode cX11_list 90 = .ok (.iload_n 1, 1) := by decide +kernel
theorem dX11_list_91 : decode cX11_list 91 = .ok (.iload_n 2, 1) := by decide +kernel
theorem dX11_list_92 : decode cX11_list 92 = .ok (.aload_n 0, 1) := by decide +kernel
theorem dX11_list_93 : decode cX11_list 93 = .ok (.getfield 12, 3) := by decide +kernel
theorem dX11_list_96 : decode cX11_list 96 = .ok (.getfield 118, 3) := by decide +kernel
theorem dX11_list_99 : decode cX11_list 99 = .ok (.aload_n 0, 1) := by decide +kernel
theorem dX11_list_100 : decode cX11_list 100 = .ok (.getfield 30, 3) := by decide +kernel
theorem dX11_list_103 : decode cX11_list 103 = .ok (.invokespecial 121, 3) := by decide +kernel
theorem dX11_list_106 : decode cX11_list 106 = .ok (.invokevirtual 124, 3) := by decide +kernel
theorem dX11_list_109 : decode cX11_list 109 = .ok (.ireturn, 1) := by decide +kernel
abbrev dpX11_list : Nat := 11
def fX11_list (a0 : Nat) (x1 : Int32) (x2 : Int32) : St → Option (Int32 × St) :=
 gR 12 a0 0 fun v1 =>
 nn v1 fun a2 =>
 ck 11 a2 <| cl (fX10_takeTape a2) fun v3 =>
 gR 12 a0 0 fun v4 =>
 nn v4 fun a6 =>
 gI 11 a6 8 fun v5 =>
 br (10 ≤ v5) (rt (-2))
 (cl (fX11_isDealer x1) fun v7 =>
 br ((bi v7) = 0) (rt (-2))
 (cl (fX11_within x2 0 142) fun v8 =>
 br ((bi v8) = 0) (rt (-2))
 (gR 12 a0 3 fun v9 =>
 gR 12 a0 0 fun v10 =>
 nn v10 fun a12 =>
 gR 11 a12 0 fun v11 =>
 nn v9 fun a13 =>
 ck 4 a13 <| cl (fX3_read a13 v11 v3) fun v14 =>
 gR 12 a0 0 fun v15 =>
 gR 12 a0 3 fun v16 =>
 nn v16 fun a18 =>
 gR 4 a18 0 fun v17 =>
 nn v15 fun a19 =>
 ck 11 a19 <| cl (fX10_keepFault a19 v17) fun v20 =>
 gR 12 a0 0 fun v21 =>
 nn v21 fun a23 =>
 gI 11 a23 2 fun v22 =>
 br (v22 = 0) (gR 12 a0 0 fun v24 =>
 nO 10 8 fun a25 =>
 gR 12 a0 0 fun v26 =>
 nn v26 fun a28 =>
 gI 11 a28 4 fun v27 =>
 gR 12 a0 3 fun v29 =>
 cl (fX9_init a25 x1 x2 v27 v29) fun v30 =>
 nn v24 fun a31 =>
 ck 11 a31 <| cl (fX10_addList a31 (some a25)) fun v32 =>
 rt v32)
 (rt (-1)))))
set_option maxHeartbeats 4000000 in
set_option maxRecDepth 100000 in
theorem mX11_list {E : Ev} {l : Launch} (a0 : Nat) (x1 : Int32) (x2 : Int32) : MF E l dpX11_list yX11_list cX11_list 4 (some .int) rvI [.ref (E.1 + a0), .int x1, .int x2] (fX11_list a0 x1 x2) := by
  refine MF.of (lv := [(0, .ref (E.1 + a0)), (1, .int x1), (2, .int x2)]) (by decide) (Nat.le_of_ble_eq_true rfl) rfl ?_
  unfold fX11_list
  refine sn_aload_n (pc := 0) (j := 0) dX11_list_0 rfl rfl ?_
  refine sn_gR (pc := 1) dX11_list_1 flX11_12 rfl (fun v1 => ?_)
  rcases v1 with _ | a2
  · exact sn_no
  refine sn_nn ?_
  refine sn_callV (ci := 10) (pc := 4) dX11_list_4 iX10_takeTape wt2_103 wt2_104 wt2_102 ⟨_, rfl, rfl⟩ (by decide) (mX10_takeTape a2) (by decide) rfl rfl (Nat.le_of_ble_eq_true rfl) (fun v3 => ?_)
  refine sn_istore_n (pc := 7) (i := 3) (lv' := [(3, .int v3), (0, .ref (E.1 + a0)), (1, .int x1), (2, .int x2)]) dX11_list_7 rfl (by decide) rfl ?_
  refine sn_aload_n (pc := 8) (j := 1) dX11_list_8 rfl rfl ?_
  refine sn_gR (pc := 9) dX11_list_9 flX11_12 rfl (fun v4 => ?_)
  rcases v4 with _ | a6
  · exact sn_no
  refine sn_nn ?_
  refine sn_gI (pc := 12) dX11_list_12 flX11_107 rfl (fun v5 => ?_)
  refine sn_bipush (pc := 15) (v := 10) dX11_list_15 (by decide) ?_
  refine sn_icmp_ge (pc := 17) (tgt := 38) dX11_list_17 (by decide) ?_ ?_
  · refine sn_bipush (pc := 38) (v := (-2)) dX11_list_38 (by decide) ?_
    exact sn_iret (pc := 40) dX11_list_40 rfl
  · refine sn_iload_n (pc := 20) (j := 2) dX11_list_20 rfl rfl ?_
    refine sn_callS (pc := 21) dX11_list_21 iX11_isDealer wt3_17 wt3_16 (mX11_isDealer x1) (by decide) rfl rfl (Nat.le_of_ble_eq_true rfl) (fun v7 => ?_)
    refine sn_if_eq (pc := 24) (tgt := 38) dX11_list_24 (by decide) ?_ ?_
    · refine sn_bipush (pc := 38) (v := (-2)) dX11_list_38 (by decide) ?_
      exact sn_iret (pc := 40) dX11_list_40 rfl
    · refine sn_iload_n (pc := 27) (j := 3) dX11_list_27 rfl rfl ?_
      refine sn_iconst (pc := 28) (v := 0) dX11_list_28 (by decide) ?_
      refine sn_sipush (pc := 29) (v := 142) dX11_list_29 (by decide) ?_
      refine sn_callS (pc := 32) dX11_list_32 iX11_within wt2_96 wt2_95 (mX11_within x2 0 142) (by decide) rfl rfl (Nat.le_of_ble_eq_true rfl) (fun v8 => ?_)
      refine sn_if_ne (pc := 35) (tgt := 41) dX11_list_35 (by decide) ?_ ?_
      · refine sn_aload_n (pc := 41) (j := 1) dX11_list_41 rfl rfl ?_
        refine sn_gR (pc := 42) dX11_list_42 flX11_30 rfl (fun v9 => ?_)
        refine sn_aload_n (pc := 45) (j := 1) dX11_list_45 rfl rfl ?_
        refine sn_gR (pc := 46) dX11_list_46 flX11_12 rfl (fun v10 => ?_)
        rcases v10 with _ | a12
        · exact sn_no
        refine sn_nn ?_
        refine sn_gR (pc := 49) dX11_list_49 flX11_79 rfl (fun v11 => ?_)
        refine sn_iload_n (pc := 52) (j := 0) dX11_list_52 rfl rfl ?_
        rcases v9 with _ | a13
        · exact sn_no
        refine sn_nn ?_
        refine sn_callV (ci := 3) (pc := 53) dX11_list_53 iX3_read wt3_20 wt3_21 wt3_19 ⟨_, rfl, rfl⟩ (by decide) (mX3_read a13 v11 v3) (by decide) rfl rfl (Nat.le_of_ble_eq_true rfl) (fun v14 => ?_)
        refine sn_aload_n (pc := 56) (j := 1) dX11_list_56 rfl rfl ?_
        refine sn_gR (pc := 57) dX11_list_57 flX11_12 rfl (fun v15 => ?_)
        refine sn_aload_n (pc := 60) (j := 1) dX11_list_60 rfl rfl ?_
        refine sn_gR (pc := 61) dX11_list_61 flX11_30 rfl (fun v16 => ?_)
        rcases v16 with _ | a18
        · exact sn_no
        refine sn_nn ?_
        refine sn_gR (pc := 64) dX11_list_64 flX11_115 rfl (fun v17 => ?_)
        rcases v15 with _ | a19
        · exact sn_no
        refine sn_nn ?_
        refine sn_callV (ci := 10) (pc := 67) dX11_list_67 iX10_keepFault wt2_220 wt2_221 wt2_219 ⟨_, rfl, rfl⟩ (by decide) (mX10_keepFault a19 v17) (by decide) rfl rfl (Nat.le_of_ble_eq_true rfl) (fun v20 => ?_)
        refine sn_aload_n (pc := 70) (j := 1) dX11_list_70 rfl rfl ?_
        refine sn_gR (pc := 71) dX11_list_71 flX11_12 rfl (fun v21 => ?_)
        rcases v21 with _ | a23
        · exact sn_no
        refine sn_nn ?_
        refine sn_gI (pc := 74) dX11_list_74 flX11_95 rfl (fun v22 => ?_)
        refine sn_if_eq (pc := 77) (tgt := 82) dX11_list_77 (by decide) ?_ ?_
        · refine sn_aload_n (pc := 82) (j := 1) dX11_list_82 rfl rfl ?_
          refine sn_gR (pc := 83) dX11_list_83 flX11_12 rfl (fun v24 => ?_)
          refine sn_new (pc := 86) dX11_list_86 ci_X9 wt3_130 (fun a25 => ?_)
          refine sn_dup (pc := 89) dX11_list_89 rfl ?_
          refine sn_iload_n (pc := 90) (j := 2) dX11_list_90 rfl rfl ?_
          refine sn_iload_n (pc := 91) (j := 3) dX11_list_91 rfl rfl ?_
          refine sn_aload_n (pc := 92) (j := 1) dX11_list_92 rfl rfl ?_
          refine sn_gR (pc := 93) dX11_list_93 flX11_12 rfl (fun v26 => ?_)
          rcases v26 with _ | a28
          · exact sn_no
          refine sn_nn ?_
          refine sn_gI (pc := 96) dX11_list_96 flX11_118 rfl (fun v27 => ?_)
          refine sn_aload_n (pc := 99) (j := 1) dX11_list_99 rfl rfl ?_
          refine sn_gR (pc := 100) dX11_list_100 flX11_30 rfl (fun v29 => ?_)
          refine sn_callI (pc := 103) dX11_list_103 iX9_init rfl rfl wt3_133 wt3_132 (mX9_init a25 x1 x2 v27 v29) (by decide) rfl rfl (by simp [rf_some, rf_cat, cat_int, cat_long, cat_ref, rvV, rvI, rvZ, rvR, rvJ]) (fun v30 => ?_)
          rcases v24 with _ | a31
          · exact sn_no
          refine sn_nn ?_
          refine sn_callV (ci := 10) (pc := 106) dX11_list_106 iX10_addList wt3_181 wt3_182 wt3_180 ⟨_, rfl, rfl⟩ (by decide) (mX10_addList a31 (some a25)) (by decide) rfl rfl (Nat.le_of_ble_eq_true rfl) (fun v32 => ?_)
          exact sn_iret (pc := 109) dX11_list_109 rfl
        · refine sn_iconst (pc := 80) (v := (-1)) dX11_list_80 (by decide) ?_
          exact sn_iret (pc := 81) dX11_list_81 rfl
      · refine sn_bipush (pc := 38) (v := (-2)) dX11_list_38 (by decide) ?_
        exact sn_iret (pc := 40) dX11_list_40 rfl
theorem iX11_list : MI yX11_list cX11_list 4 (some .int) 2 := ⟨wt1_1, wt3_15, by decide +kernel, by decide⟩
-- NeedleHomes fault(I)I
theorem dX11_fault_0 : decode cX11_fault 0 = .ok (.iload_n 1, 1) := by decide +kernel
theorem dX11_fault_1 : decode cX11_fault 1 = .ok (.lookupswitch 43 #[(0, 27), (1, 35)], 27) := by decide +kernel
theorem dX11_fault_28 : decode cX11_fault 28 = .ok (.aload_n 0, 1) := by decide +kernel
theorem dX11_fault_29 : decode cX11_fault 29 = .ok (.getfield 12, 3) := by decide +kernel
theorem dX11_fault_32 : decode cX11_fault 32 = .ok (.getfield 95, 3) := by decide +kernel
theorem dX11_fault_35 : decode cX11_fault 35 = .ok (.ireturn, 1) := by decide +kernel
theorem dX11_fault_36 : decode cX11_fault 36 = .ok (.aload_n 0, 1) := by decide +kernel
theorem dX11_fault_37 : decode cX11_fault 37 = .ok (.getfield 12, 3) := by decide +kernel
theorem dX11_fault_40 : decode cX11_fault 40 = .ok (.getfield 128, 3) := by decide +kernel
theorem dX11_fault_43 : decode cX11_fault 43 = .ok (.ireturn, 1) := by decide +kernel
theorem dX11_fault_44 : decode cX11_fault 44 = .ok (.iconst (-1), 1) := by decide +kernel
theorem dX11_fault_45 : decode cX11_fault 45 = .ok (.ireturn, 1) := by decide +kernel
abbrev dpX11_fault : Nat := 0
def fX11_fault (a0 : Nat) (x1 : Int32) : St → Option (Int32 × St) :=
 br (x1 = 0) (gR 12 a0 0 fun v1 =>
 nn v1 fun a3 =>
 gI 11 a3 2 fun v2 =>
 rt v2) <|
 br (x1 = 1) (gR 12 a0 0 fun v4 =>
 nn v4 fun a6 =>
 gI 11 a6 3 fun v5 =>
 rt v5) <|
 (rt (-1))
set_option maxHeartbeats 4000000 in
set_option maxRecDepth 100000 in
theorem mX11_fault {E : Ev} {l : Launch} (a0 : Nat) (x1 : Int32) : MF E l dpX11_fault yX11_fault cX11_fault 2 (some .int) rvI [.ref (E.1 + a0), .int x1] (fX11_fault a0 x1) := by
  refine MF.of (lv := [(0, .ref (E.1 + a0)), (1, .int x1)]) (by decide) (Nat.le_of_ble_eq_true rfl) rfl ?_
  unfold fX11_fault
  refine sn_iload_n (pc := 0) (j := 1) dX11_fault_0 rfl rfl ?_
  refine sw_start ?_
  refine sw_lcase (tgt := 28) 0 dX11_fault_1 (by decide) rfl (by decide) ?_ ?_
  · refine sn_aload_n (pc := 28) (j := 0) dX11_fault_28 rfl rfl ?_
    refine sn_gR (pc := 29) dX11_fault_29 flX11_12 rfl (fun v1 => ?_)
    rcases v1 with _ | a3
    · exact sn_no
    refine sn_nn ?_
    refine sn_gI (pc := 32) dX11_fault_32 flX11_95 rfl (fun v2 => ?_)
    exact sn_iret (pc := 35) dX11_fault_35 rfl
  refine sw_lcase (tgt := 36) 1 dX11_fault_1 (by decide) rfl (by decide) ?_ ?_
  · refine sn_aload_n (pc := 36) (j := 0) dX11_fault_36 rfl rfl ?_
    refine sn_gR (pc := 37) dX11_fault_37 flX11_12 rfl (fun v4 => ?_)
    rcases v4 with _ | a6
    · exact sn_no
    refine sn_nn ?_
    refine sn_gI (pc := 40) dX11_fault_40 flX11_128 rfl (fun v5 => ?_)
    exact sn_iret (pc := 43) dX11_fault_43 rfl
  refine sw_ldflt (tgt := 44) dX11_fault_1 (by decide) (fun hc => ?_) (by decide) ?_
  · obtain ⟨⟨-, q0⟩, q1⟩ := hc
    have q0 := ne_toInt q0
    have q1 := ne_toInt q1
    have e0 : (0 : Int32).toInt = 0 := by decide
    have e1 : (1 : Int32).toInt = 1 := by decide
    rw [e0] at q0
    rw [e1] at q1
    simp [Op.lookupswitch.offset, Ne.symm q0, Ne.symm q1]
  · refine sn_iconst (pc := 44) (v := (-1)) dX11_fault_44 (by decide) ?_
    exact sn_iret (pc := 45) dX11_fault_45 rfl
theorem iX11_fault : MI yX11_fault cX11_fault 2 (some .int) 1 := ⟨wt1_1, wt3_187, by decide +kernel, by decide⟩
-- NeedleHomes stitches(III)I
theorem dX11_stitches_0 : decode cX11_stitches 0 = .ok (.aload_n 0, 1) := by decide +kernel
theorem dX11_stitches_1 : decode cX11_stitches 1 = .ok (.getfield 12, 3) := by decide +kernel
theorem dX11_stitches_4 : decode cX11_stitches 4 = .ok (.iload_n 1, 1) := by decide +kernel
theorem dX11_stitches_5 : decode cX11_stitches 5 = .ok (.invokevirtual 131, 3) := by decide +kernel
theorem dX11_stitches_8 : decode cX11_stitches 8 = .ok (.astore 4, 2) := by decide +kernel
theorem dX11_stitches_10 : decode cX11_stitches 10 = .ok (.aload 4, 2) := by decide +kernel
theorem dX11_stitches_12 : decode cX11_stitches 12 = .ok (.ifnull 17, 3) := by decide +kernel
theorem dX11_stitches_15 : decode cX11_stitches 15 = .ok (.iload_n 2, 1) := by decide +kernel
theorem dX11_stitches_16 : decode cX11_stitches 16 = .ok (.invokestatic 135, 3) := by decide +kernel
theorem dX11_stitches_19 : decode cX11_stitches 19 = .ok (.ifCond .eq 10, 3) := by decide +kernel
theorem dX11_stitches_22 : decode cX11_stitches 22 = .ok (.iload_n 3, 1) := by decide +kernel
theorem dX11_stitches_23 : decode cX11_stitches 23 = .ok (.invokestatic 138, 3) := by decide +kernel
theorem dX11_stitches_26 : decode cX11_stitches 26 = .ok (.ifCond .ne 5, 3) := by decide +kernel
theorem dX11_stitches_29 : decode cX11_stitches 29 = .ok (.iconst (-1), 1) := by decide +kernel
theorem dX11_stitches_30 : decode cX11_stitches 30 = .ok (.ireturn, 1) := by decide +kernel
theorem dX11_stitches_31 : decode cX11_stitches 31 = .ok (.aload 4, 2) := by decide +kernel
theorem dX11_stitches_33 : decode cX11_stitches 33 = .ok (.iload_n 2, 1) := by decide +kernel
theorem dX11_stitches_34 : decode cX11_stitches 34 = .ok (.iload_n 3, 1) := by decide +kernel
theorem dX11_stitches_35 : decode cX11_stitches 35 = .ok (.invokevirtual 141, 3) := by decide +kernel
theorem dX11_stitches_38 : decode cX11_stitches 38 = .ok (.ireturn, 1) := by decide +kernel
abbrev dpX11_stitches : Nat := 3
def fX11_stitches (a0 : Nat) (x1 : Int32) (x2 : Int32) (x3 : Int32) : St → Option (Int32 × St) :=
 gR 12 a0 0 fun v1 =>
 nn v1 fun a2 =>
 ck 11 a2 <| cl (fX10_patternAt a2 x1) fun v3 =>
 on v3 (rt (-1))
 fun a4 => cl (fX11_isStitch x2) fun v5 =>
 br ((bi v5) = 0) (rt (-1))
 (cl (fX11_isColour x3) fun v6 =>
 br ((bi v6) = 0) (rt (-1))
 (ck 6 a4 <| cl (fX5_countOf a4 x2 x3) fun v7 =>
 rt v7))
set_option maxHeartbeats 4000000 in
set_option maxRecDepth 100000 in
theorem mX11_stitches {E : Ev} {l : Launch} (a0 : Nat) (x1 : Int32) (x2 : Int32) (x3 : Int32) : MF E l dpX11_stitches yX11_stitches cX11_stitches 5 (some .int) rvI [.ref (E.1 + a0), .int x1, .int x2, .int x3] (fX11_stitches a0 x1 x2 x3) := by
  refine MF.of (lv := [(0, .ref (E.1 + a0)), (1, .int x1), (2, .int x2), (3, .int x3)]) (by decide) (Nat.le_of_ble_eq_true rfl) rfl ?_
  unfold fX11_stitches
  refine sn_aload_n (pc := 0) (j := 0) dX11_stitches_0 rfl rfl ?_
  refine sn_gR (pc := 1) dX11_stitches_1 flX11_12 rfl (fun v1 => ?_)
  refine sn_iload_n (pc := 4) (j := 1) dX11_stitches_4 rfl rfl ?_
  rcases v1 with _ | a2
  · exact sn_no
  refine sn_nn ?_
  refine sn_callV (ci := 10) (pc := 5) dX11_stitches_5 iX10_patternAt wt3_193 wt3_194 wt3_192 ⟨_, rfl, rfl⟩ (by decide) (mX10_patternAt a2 x1) (by decide) rfl rfl (Nat.le_of_ble_eq_true rfl) (fun v3 => ?_)
  refine sn_astoreR (pc := 8) (r := v3) (i := 4) (lv' := [(4, rf E.1 v3), (0, .ref (E.1 + a0)), (1, .int x1), (2, .int x2), (3, .int x3)]) dX11_stitches_8 (by decide) rfl ?_
  refine sn_aloadR (pc := 10) (r := v3) (j := 0) dX11_stitches_10 rfl ?_
  rcases v3 with _ | a4
  · refine sn_onN ?_
    refine sn_ifnull_n (pc := 12) (tgt := 29) dX11_stitches_12 (by decide) ?_
    refine sn_iconst (pc := 29) (v := (-1)) dX11_stitches_29 (by decide) ?_
    exact sn_iret (pc := 30) dX11_stitches_30 rfl
  · refine sn_onS ?_
    refine sn_ifnull_s (pc := 12) dX11_stitches_12 ?_
    refine sn_iload_n (pc := 15) (j := 3) dX11_stitches_15 rfl rfl ?_
    refine sn_callS (pc := 16) dX11_stitches_16 iX11_isStitch wt3_197 wt3_196 (mX11_isStitch x2) (by decide) rfl rfl (Nat.le_of_ble_eq_true rfl) (fun v5 => ?_)
    refine sn_if_eq (pc := 19) (tgt := 29) dX11_stitches_19 (by decide) ?_ ?_
    · refine sn_iconst (pc := 29) (v := (-1)) dX11_stitches_29 (by decide) ?_
      exact sn_iret (pc := 30) dX11_stitches_30 rfl
    · refine sn_iload_n (pc := 22) (j := 4) dX11_stitches_22 rfl rfl ?_
      refine sn_callS (pc := 23) dX11_stitches_23 iX11_isColour wt2_165 wt3_199 (mX11_isColour x3) (by decide) rfl rfl (Nat.le_of_ble_eq_true rfl) (fun v6 => ?_)
      refine sn_if_ne (pc := 26) (tgt := 31) dX11_stitches_26 (by decide) ?_ ?_
      · refine sn_aload (pc := 31) (j := 0) dX11_stitches_31 rfl ?_
        refine sn_iload_n (pc := 33) (j := 3) dX11_stitches_33 rfl rfl ?_
        refine sn_iload_n (pc := 34) (j := 4) dX11_stitches_34 rfl rfl ?_
        refine sn_callV (ci := 5) (pc := 35) dX11_stitches_35 iX5_countOf wt3_201 wt3_202 wt3_200 ⟨_, rfl, rfl⟩ (by decide) (mX5_countOf a4 x2 x3) (by decide) rfl rfl (Nat.le_of_ble_eq_true rfl) (fun v7 => ?_)
        exact sn_iret (pc := 38) dX11_stitches_38 rfl
      · refine sn_iconst (pc := 29) (v := (-1)) dX11_stitches_29 (by decide) ?_
        exact sn_iret (pc := 30) dX11_stitches_30 rfl
theorem iX11_stitches : MI yX11_stitches cX11_stitches 5 (some .int) 3 := ⟨wt1_1, wt3_191, by decide +kernel, by decide⟩
-- NeedleHomes about(II)I
theorem dX11_about_0 : decode cX11_about 0 = .ok (.aload_n 0, 1) := by decide +kernel
theorem dX11_about_1 : decode cX11_about 1 = .ok (.getfield 12, 3) := by decide +kernel
theorem dX11_about_4 : decode cX11_about 4 = .ok (.iload_n 1, 1) := by decide +kernel
theorem dX11_about_5 : decode cX11_about 5 = .ok (.invokevirtual 131, 3) := by decide +kernel
theorem dX11_about_8 : decode cX11_about 8 = .ok (.astore_n 3, 1) := by decide +kernel
theorem dX11_about_9 : decode cX11_about 9 = .ok (.aload_n 3, 1) := by decide +kernel
theorem dX11_about_10 : decode cX11_about 10 = .ok (.ifnonnull 6, 3) := by decide +kernel
theorem dX11_about_13 : decode cX11_about 13 = .ok (.bipush (-2), 2) := by decide +kernel
theorem dX11_about_15 : decode cX11_about 15 = .ok (.ireturn, 1) := by decide +kernel
theorem dX11_about_16 : decode cX11_about 16 = .ok (.iload_n 2, 1) := by decide +kernel
theorem dX11_about_17 : decode cX11_about 17 = .ok (.tableswitch 60 0 4 #[35, 40, 45, 50, 55], 35) := by decide +kernel
theorem dX11_about_52 : decode cX11_about 52 = .ok (.aload_n 3, 1) := by decide +kernel
theorem dX11_about_53 : decode cX11_about 53 = .ok (.getfield 145, 3) := by decide +kernel
theorem dX11_about_56 : decode cX11_about 56 = .ok (.ireturn, 1) := by decide +kernel
theorem dX11_about_57 : decode cX11_about 57 = .ok (.aload_n 3, 1) := by decide +kernel
theorem dX11_about_58 : decode cX11_about 58 = .ok (.getfield 148, 3) := by decide +kernel
theorem dX11_about_61 : decode cX11_about 61 = .ok (.ireturn, 1) := by decide +kernel
theorem dX11_about_62 : decode cX11_about 62 = .ok (.aload_n 3, 1) := by decide +kernel
theorem dX11_about_63 : decode cX11_about 63 = .ok (.getfield 151, 3) := by decide +kernel
theorem dX11_about_66 : decode cX11_about 66 = .ok (.ireturn, 1) := by decide +kernel
theorem dX11_about_67 : decode cX11_about 67 = .ok (.aload_n 3, 1) := by decide +kernel
theorem dX11_about_68 : decode cX11_about 68 = .ok (.invokevirtual 154, 3) := by decide +kernel
theorem dX11_about_71 : decode cX11_about 71 = .ok (.ireturn, 1) := by decide +kernel
theorem dX11_about_72 : decode cX11_about 72 = .ok (.aload_n 3, 1) := by decide +kernel
theorem dX11_about_73 : decode cX11_about 73 = .ok (.invokevirtual 157, 3) := by decide +kernel
theorem dX11_about_76 : decode cX11_about 76 = .ok (.ireturn, 1) := by decide +kernel
theorem dX11_about_77 : decode cX11_about 77 = .ok (.bipush (-2), 2) := by decide +kernel
theorem dX11_about_79 : decode cX11_about 79 = .ok (.ireturn, 1) := by decide +kernel
abbrev dpX11_about : Nat := 4
def fX11_about (a0 : Nat) (x1 : Int32) (x2 : Int32) : St → Option (Int32 × St) :=
 gR 12 a0 0 fun v1 =>
 nn v1 fun a2 =>
 ck 11 a2 <| cl (fX10_patternAt a2 x1) fun v3 =>
 on v3 (rt (-2))
 fun a4 => br (x2 = 0) (gI 6 a4 0 fun v5 =>
 rt v5) <|
 br (x2 = 1) (gI 6 a4 1 fun v6 =>
 rt v6) <|
 br (x2 = 2) (gI 6 a4 2 fun v7 =>
 rt v7) <|
 br (x2 = 3) (ck 6 a4 <| cl (fX5_kindsOfStitches a4) fun v8 =>
 rt v8) <|
 br (x2 = 4) (ck 6 a4 <| cl (fX5_coloursUsed a4) fun v9 =>
 rt v9) <|
 (rt (-2))
set_option maxHeartbeats 4000000 in
set_option maxRecDepth 100000 in
theorem mX11_about {E : Ev} {l : Launch} (a0 : Nat) (x1 : Int32) (x2 : Int32) : MF E l dpX11_about yX11_about cX11_about 4 (some .int) rvI [.ref (E.1 + a0), .int x1, .int x2] (fX11_about a0 x1 x2) := by
  refine MF.of (lv := [(0, .ref (E.1 + a0)), (1, .int x1), (2, .int x2)]) (by decide) (Nat.le_of_ble_eq_true rfl) rfl ?_
  unfold fX11_about
  refine sn_aload_n (pc := 0) (j := 0) dX11_about_0 rfl rfl ?_
  refine sn_gR (pc := 1) dX11_about_1 flX11_12 rfl (fun v1 => ?_)
  refine sn_iload_n (pc := 4) (j := 1) dX11_about_4 rfl rfl ?_
  rcases v1 with _ | a2
  · exact sn_no
  refine sn_nn ?_
  refine sn_callV (ci := 10) (pc := 5) dX11_about_5 iX10_patternAt wt3_193 wt3_194 wt3_192 ⟨_, rfl, rfl⟩ (by decide) (mX10_patternAt a2 x1) (by decide) rfl rfl (Nat.le_of_ble_eq_true rfl) (fun v3 => ?_)
  refine sn_astoreR_n (pc := 8) (r := v3) (i := 3) (lv' := [(3, rf E.1 v3), (0, .ref (E.1 + a0)), (1, .int x1), (2, .int x2)]) dX11_about_8 rfl (by decide) rfl ?_
  refine sn_aloadR_n (pc := 9) (r := v3) (j := 0) dX11_about_9 rfl rfl ?_
  rcases v3 with _ | a4
  · refine sn_onN ?_
    refine sn_ifnonnull_n (pc := 10) dX11_about_10 ?_
    refine sn_bipush (pc := 13) (v := (-2)) dX11_about_13 (by decide) ?_
    exact sn_iret (pc := 15) dX11_about_15 rfl
  · refine sn_onS ?_
    refine sn_ifnonnull_s (pc := 10) (tgt := 16) dX11_about_10 (by decide) ?_
    refine sn_iload_n (pc := 16) (j := 3) dX11_about_16 rfl rfl ?_
    refine sw_start ?_
    refine sw_case (tgt := 52) 0 dX11_about_17 (by decide) (by decide) rfl (by decide) ?_ ?_
    · refine sn_aload_n (pc := 52) (j := 0) dX11_about_52 rfl rfl ?_
      refine sn_gI (pc := 53) dX11_about_53 flX11_145 rfl (fun v5 => ?_)
      exact sn_iret (pc := 56) dX11_about_56 rfl
    refine sw_case (tgt := 57) 1 dX11_about_17 (by decide) (by decide) rfl (by decide) ?_ ?_
    · refine sn_aload_n (pc := 57) (j := 0) dX11_about_57 rfl rfl ?_
      refine sn_gI (pc := 58) dX11_about_58 flX11_148 rfl (fun v6 => ?_)
      exact sn_iret (pc := 61) dX11_about_61 rfl
    refine sw_case (tgt := 62) 2 dX11_about_17 (by decide) (by decide) rfl (by decide) ?_ ?_
    · refine sn_aload_n (pc := 62) (j := 0) dX11_about_62 rfl rfl ?_
      refine sn_gI (pc := 63) dX11_about_63 flX11_151 rfl (fun v7 => ?_)
      exact sn_iret (pc := 66) dX11_about_66 rfl
    refine sw_case (tgt := 67) 3 dX11_about_17 (by decide) (by decide) rfl (by decide) ?_ ?_
    · refine sn_aload_n (pc := 67) (j := 0) dX11_about_67 rfl rfl ?_
      refine sn_callV (ci := 5) (pc := 68) dX11_about_68 iX5_kindsOfStitches wt3_211 wt3_212 wt3_210 ⟨_, rfl, rfl⟩ (by decide) (mX5_kindsOfStitches a4) (by decide) rfl rfl (Nat.le_of_ble_eq_true rfl) (fun v8 => ?_)
      exact sn_iret (pc := 71) dX11_about_71 rfl
    refine sw_case (tgt := 72) 4 dX11_about_17 (by decide) (by decide) rfl (by decide) ?_ ?_
    · refine sn_aload_n (pc := 72) (j := 0) dX11_about_72 rfl rfl ?_
      refine sn_callV (ci := 5) (pc := 73) dX11_about_73 iX5_coloursUsed wt3_216 wt3_217 wt3_215 ⟨_, rfl, rfl⟩ (by decide) (mX5_coloursUsed a4) (by decide) rfl rfl (Nat.le_of_ble_eq_true rfl) (fun v9 => ?_)
      exact sn_iret (pc := 76) dX11_about_76 rfl
    refine sw_dflt (tgt := 77) dX11_about_17 (fun hc => ?_) (by decide) ?_
    · obtain ⟨⟨⟨⟨⟨-, q0⟩, q1⟩, q2⟩, q3⟩, q4⟩ := hc
      have q0 := ne_toInt q0
      have q1 := ne_toInt q1
      have q2 := ne_toInt q2
      have q3 := ne_toInt q3
      have q4 := ne_toInt q4
      have e0 : (0 : Int32).toInt = 0 := by decide
      have e1 : (1 : Int32).toInt = 1 := by decide
      have e2 : (2 : Int32).toInt = 2 := by decide
      have e3 : (3 : Int32).toInt = 3 := by decide
      have e4 : (4 : Int32).toInt = 4 := by decide
      rw [e0] at q0
      rw [e1] at q1
      rw [e2] at q2
      rw [e3] at q3
      rw [e4] at q4
      omega
    · refine sn_bipush (pc := 77) (v := (-2)) dX11_about_77 (by decide) ?_
      exact sn_iret (pc := 79) dX11_about_79 rfl
theorem iX11_about : MI yX11_about cX11_about 4 (some .int) 2 := ⟨wt1_1, wt3_209, by decide +kernel, by decide⟩
-- NeedleHomes day(I)Z
theorem dX11_day_0 : decode cX11_day 0 = .ok (.iload_n 1, 1) := by decide +kernel
theorem dX11_day_1 : decode cX11_day 1 = .ok (.aload_n 0, 1) := by decide +kernel
theorem dX11_day_2 : decode cX11_day 2 = .ok (.getfield 12, 3) := by decide +kernel
theorem dX11_day_5 : decode cX11_day 5 = .ok (.getfield 118, 3) := by decide +kernel
theorem dX11_day_8 : decode cX11_day 8 = .ok (.sipush 999, 3) := by decide +kernel
theorem dX11_day_11 : decode cX11_day 11 = .ok (.invokestatic 67, 3) := by decide +kernel
theorem dX11_day_14 : decode cX11_day 14 = .ok (.ifCond .ne 5, 3) := by decide +kernel
theorem dX11_day_17 : decode cX11_day 17 = .ok (.iconst 0, 1) := by decide +kernel
theorem dX11_day_18 : decode cX11_day 18 = .ok (.ireturn, 1) := by decide +kernel
theorem dX11_day_19 : decode cX11_day 19 = .ok (.aload_n 0, 1) := by decide +kernel
theorem dX11_day_20 : decode cX11_day 20 = .ok (.getfield 12, 3) := by decide +kernel
theorem dX11_day_23 : decode cX11_day 23 = .ok (.iload_n 1, 1) := by decide +kernel
theorem dX11_day_24 : decode cX11_day 24 = .ok (.putfield 118, 3) := by decide +kernel
theorem dX11_day_27 : decode cX11_day 27 = .ok (.iconst 1, 1) := by decide +kernel
theorem dX11_day_28 : decode cX11_day 28 = .ok (.ireturn, 1) := by decide +kernel
abbrev dpX11_day : Nat := 1
def fX11_day (a0 : Nat) (x1 : Int32) : St → Option (Bool × St) :=
 gR 12 a0 0 fun v1 =>
 nn v1 fun a3 =>
 gI 11 a3 4 fun v2 =>
 cl (fX11_within x1 v2 999) fun v4 =>
 br ((bi v4) = 0) (rtZ 0)
 (gR 12 a0 0 fun v5 =>
 nn v5 fun a6 =>
 pI 11 a6 4 x1 <|
 rtZ 1)
set_option maxHeartbeats 4000000 in
set_option maxRecDepth 100000 in
theorem mX11_day {E : Ev} {l : Launch} (a0 : Nat) (x1 : Int32) : MF E l dpX11_day yX11_day cX11_day 2 (some .boolean) rvZ [.ref (E.1 + a0), .int x1] (fX11_day a0 x1) := by
  refine MF.of (lv := [(0, .ref (E.1 + a0)), (1, .int x1)]) (by decide) (Nat.le_of_ble_eq_true rfl) rfl ?_
  unfold fX11_day
  refine sn_iload_n (pc := 0) (j := 1) dX11_day_0 rfl rfl ?_
  refine sn_aload_n (pc := 1) (j := 0) dX11_day_1 rfl rfl ?_
  refine sn_gR (pc := 2) dX11_day_2 flX11_12 rfl (fun v1 => ?_)
  rcases v1 with _ | a3
  · exact sn_no
  refine sn_nn ?_
  refine sn_gI (pc := 5) dX11_day_5 flX11_118 rfl (fun v2 => ?_)
  refine sn_sipush (pc := 8) (v := 999) dX11_day_8 (by decide) ?_
  refine sn_callS (pc := 11) dX11_day_11 iX11_within wt2_96 wt2_95 (mX11_within x1 v2 999) (by decide) rfl rfl (Nat.le_of_ble_eq_true rfl) (fun v4 => ?_)
  refine sn_if_ne (pc := 14) (tgt := 19) dX11_day_14 (by decide) ?_ ?_
  · refine sn_aload_n (pc := 19) (j := 0) dX11_day_19 rfl rfl ?_
    refine sn_gR (pc := 20) dX11_day_20 flX11_12 rfl (fun v5 => ?_)
    refine sn_iload_n (pc := 23) (j := 1) dX11_day_23 rfl rfl ?_
    rcases v5 with _ | a6
    · exact sn_no
    refine sn_nn ?_
    refine sn_pI (pc := 24) dX11_day_24 flX11_118 rfl rfl (Or.inl rfl) ?_
    refine sn_iconst (pc := 27) (v := 1) dX11_day_27 (by decide) ?_
    exact sn_zret (pc := 28) dX11_day_28 rfl
  · refine sn_iconst (pc := 17) (v := 0) dX11_day_17 (by decide) ?_
    exact sn_zret (pc := 18) dX11_day_18 rfl
theorem iX11_day : MI yX11_day cX11_day 2 (some .boolean) 1 := ⟨wt1_1, wt3_222, by decide +kernel, by decide⟩
-- NeedleHomes isPastDay(I)Z
theorem dX11_isPastDay_0 : decode cX11_isPastDay 0 = .ok (.iload_n 1, 1) := by decide +kernel
theorem dX11_isPastDay_1 : decode cX11_isPastDay 1 = .ok (.iconst 0, 1) := by decide +kernel
theorem dX11_isPastDay_2 : decode cX11_isPastDay 2 = .ok (.aload_n 0, 1) := by decide +kernel
theorem dX11_isPastDay_3 : decode cX11_isPastDay 3 = .ok (.getfield 12, 3) := by decide +kernel
theorem dX11_isPastDay_6 : decode cX11_isPastDay 6 = .ok (.getfield 118, 3) := by decide +kernel
theorem dX11_isPastDay_9 : decode cX11_isPastDay 9 = .ok (.invokestatic 67, 3) := by decide +kernel
theorem dX11_isPastDay_12 : decode cX11_isPastDay 12 = .ok (.ireturn, 1) := by decide +kernel
abbrev dpX11_isPastDay : Nat := 1
def fX11_isPastDay (a0 : Nat) (x1 : Int32) : St → Option (Bool × St) :=
 gR 12 a0 0 fun v1 =>
 nn v1 fun a3 =>
 gI 11 a3 4 fun v2 =>
 cl (fX11_within x1 0 v2) fun v4 =>
 rtZ (bi v4)
set_option maxHeartbeats 4000000 in
set_option maxRecDepth 100000 in
theorem mX11_isPastDay {E : Ev} {l : Launch} (a0 : Nat) (x1 : Int32) : MF E l dpX11_isPastDay yX11_isPastDay cX11_isPastDay 2 (some .boolean) rvZ [.ref (E.1 + a0), .int x1] (fX11_isPastDay a0 x1) := by
  refine MF.of (lv := [(0, .ref (E.1 + a0)), (1, .int x1)]) (by decide) (Nat.le_of_ble_eq_true rfl) rfl ?_
  unfold fX11_isPastDay
  refine sn_iload_n (pc := 0) (j := 1) dX11_isPastDay_0 rfl rfl ?_
  refine sn_iconst (pc := 1) (v := 0) dX11_isPastDay_1 (by decide) ?_
  refine sn_aload_n (pc := 2) (j := 0) dX11_isPastDay_2 rfl rfl ?_
  refine sn_gR (pc := 3) dX11_isPastDay_3 flX11_12 rfl (fun v1 => ?_)
  rcases v1 with _ | a3
  · exact sn_no
  refine sn_nn ?_
  refine sn_gI (pc := 6) dX11_isPastDay_6 flX11_118 rfl (fun v2 => ?_)
  refine sn_callS (pc := 9) dX11_isPastDay_9 iX11_within wt2_96 wt2_95 (mX11_within x1 0 v2) (by decide) rfl rfl (Nat.le_of_ble_eq_true rfl) (fun v4 => ?_)
  exact sn_zret (pc := 12) dX11_isPastDay_12 rfl
theorem iX11_isPastDay : MI yX11_isPastDay cX11_isPastDay 2 (some .boolean) 1 := ⟨wt1_1, wt3_230, by decide +kernel, by decide⟩
-- NeedleHomes lists(III)I
theorem dX11_lists_0 : decode cX11_lists 0 = .ok (.iload_n 1, 1) := by decide +kernel
theorem dX11_lists_1 : decode cX11_lists 1 = .ok (.invokestatic 110, 3) := by decide +kernel
theorem dX11_lists_4 : decode cX11_lists 4 = .ok (.ifCond .eq 22, 3) := by decide +kernel
theorem dX11_lists_7 : decode cX11_lists 7 = .ok (.iload_n 2, 1) := by decide +kernel
theorem dX11_lists_8 : decode cX11_lists 8 = .ok (.iconst 0, 1) := by decide +kernel
theorem dX11_lists_9 : decode cX11_lists 9 = .ok (.sipush 142, 3) := by decide +kernel
theorem dX11_lists_12 : decode cX11_lists 12 = .ok (.invokestatic 67, 3) := by decide +kernel
theorem dX11_lists_15 : decode cX11_lists 15 = .ok (.ifCond .eq 11, 3) := by decide +kernel
theorem dX11_lists_18 : decode cX11_lists 18 = .ok (.aload_n 0, 1) := by decide +kernel
theorem dX11_lists_19 : decode cX11_lists 19 = .ok (.iload_n 3, 1) := by decide +kernel
theorem dX11_lists_20 : decode cX11_lists 20 = .ok (.invokevirtual 160, 3) := by decide +kernel
theorem dX11_lists_23 : decode cX11_lists 23 = .ok (.ifCond .ne 6, 3) := by decide +kernel
theorem dX11_lists_26 : decode cX11_lists 26 = .ok (.bipush (-2), 2) := by decide +kernel
theorem dX11_lists_28 : decode cX11_lists 28 = .ok (.ireturn, 1) := by decide +kernel
theorem dX11_lists_29 : decode cX11_lists 29 = .ok (.aload_n 0, 1) := by decide +kernel
theorem dX11_lists_30 : decode cX11_lists 30 = .ok (.getfield 12, 3) := by decide +kernel
theorem dX11_lists_33 : decode cX11_lists 33 = .ok (.iload_n 1, 1) := by decide +kernel
theorem dX11_lists_34 : decode cX11_lists 34 = .ok (.iload_n 2, 1) := by decide +kernel
theorem dX11_lists_35 : decode cX11_lists 35 = .ok (.iload_n 3, 1) := by decide +kernel
theorem dX11_lists_36 : decode cX11_lists 36 = .ok (.invokevirtual 163, 3) := by decide +kernel
theorem dX11_lists_39 : decode cX11_lists 39 = .ok (.ireturn, 1) := by decide +kernel
abbrev dpX11_lists : Nat := 3
def fX11_lists (a0 : Nat) (x1 : Int32) (x2 : Int32) (x3 : Int32) : St → Option (Int32 × St) :=
 cl (fX11_isDealer x1) fun v1 =>
 br ((bi v1) = 0) (rt (-2))
 (cl (fX11_within x2 0 142) fun v2 =>
 br ((bi v2) = 0) (rt (-2))
 (ck 12 a0 <| cl (fX11_isPastDay a0 x3) fun v3 =>
 br ((bi v3) = 0) (rt (-2))
 (gR 12 a0 0 fun v4 =>
 nn v4 fun a5 =>
 ck 11 a5 <| cl (fX10_listKnown a5 x1 x2 x3) fun v6 =>
 rt v6)))
set_option maxHeartbeats 4000000 in
set_option maxRecDepth 100000 in
theorem mX11_lists {E : Ev} {l : Launch} (a0 : Nat) (x1 : Int32) (x2 : Int32) (x3 : Int32) : MF E l dpX11_lists yX11_lists cX11_lists 4 (some .int) rvI [.ref (E.1 + a0), .int x1, .int x2, .int x3] (fX11_lists a0 x1 x2 x3) := by
  refine MF.of (lv := [(0, .ref (E.1 + a0)), (1, .int x1), (2, .int x2), (3, .int x3)]) (by decide) (Nat.le_of_ble_eq_true rfl) rfl ?_
  unfold fX11_lists
  refine sn_iload_n (pc := 0) (j := 1) dX11_lists_0 rfl rfl ?_
  refine sn_callS (pc := 1) dX11_lists_1 iX11_isDealer wt3_17 wt3_16 (mX11_isDealer x1) (by decide) rfl rfl (Nat.le_of_ble_eq_true rfl) (fun v1 => ?_)
  refine sn_if_eq (pc := 4) (tgt := 26) dX11_lists_4 (by decide) ?_ ?_
  · refine sn_bipush (pc := 26) (v := (-2)) dX11_lists_26 (by decide) ?_
    exact sn_iret (pc := 28) dX11_lists_28 rfl
  · refine sn_iload_n (pc := 7) (j := 2) dX11_lists_7 rfl rfl ?_
    refine sn_iconst (pc := 8) (v := 0) dX11_lists_8 (by decide) ?_
    refine sn_sipush (pc := 9) (v := 142) dX11_lists_9 (by decide) ?_
    refine sn_callS (pc := 12) dX11_lists_12 iX11_within wt2_96 wt2_95 (mX11_within x2 0 142) (by decide) rfl rfl (Nat.le_of_ble_eq_true rfl) (fun v2 => ?_)
    refine sn_if_eq (pc := 15) (tgt := 26) dX11_lists_15 (by decide) ?_ ?_
    · refine sn_bipush (pc := 26) (v := (-2)) dX11_lists_26 (by decide) ?_
      exact sn_iret (pc := 28) dX11_lists_28 rfl
    · refine sn_aload_n (pc := 18) (j := 0) dX11_lists_18 rfl rfl ?_
      refine sn_iload_n (pc := 19) (j := 3) dX11_lists_19 rfl rfl ?_
      refine sn_callV (ci := 11) (pc := 20) dX11_lists_20 iX11_isPastDay wt3_229 ws_21 wt3_227 ⟨_, rfl, rfl⟩ (by decide) (mX11_isPastDay a0 x3) (by decide) rfl rfl (Nat.le_of_ble_eq_true rfl) (fun v3 => ?_)
      refine sn_if_ne (pc := 23) (tgt := 29) dX11_lists_23 (by decide) ?_ ?_
      · refine sn_aload_n (pc := 29) (j := 0) dX11_lists_29 rfl rfl ?_
        refine sn_gR (pc := 30) dX11_lists_30 flX11_12 rfl (fun v4 => ?_)
        refine sn_iload_n (pc := 33) (j := 1) dX11_lists_33 rfl rfl ?_
        refine sn_iload_n (pc := 34) (j := 2) dX11_lists_34 rfl rfl ?_
        refine sn_iload_n (pc := 35) (j := 3) dX11_lists_35 rfl rfl ?_
        rcases v4 with _ | a5
        · exact sn_no
        refine sn_nn ?_
        refine sn_callV (ci := 10) (pc := 36) dX11_lists_36 iX10_listKnown wt3_232 wt3_233 wt3_231 ⟨_, rfl, rfl⟩ (by decide) (mX10_listKnown a5 x1 x2 x3) (by decide) rfl rfl (Nat.le_of_ble_eq_true rfl) (fun v6 => ?_)
        exact sn_iret (pc := 39) dX11_lists_39 rfl
      · refine sn_bipush (pc := 26) (v := (-2)) dX11_lists_26 (by decide) ?_
        exact sn_iret (pc := 28) dX11_lists_28 rfl
theorem iX11_lists : MI yX11_lists cX11_lists 4 (some .int) 3 := ⟨wt1_1, wt3_226, by decide +kernel, by decide⟩
-- NeedleHomes hand(III)I
theorem dX11_hand_0 : decode cX11_hand 0 = .ok (.aload_n 0, 1) := by decide +kernel
theorem dX11_hand_1 : decode cX11_hand 1 = .ok (.getfield 12, 3) := by decide +kernel
theorem dX11_hand_4 : decode cX11_hand 4 = .ok (.getfield 167, 3) := by decide +kernel
theorem dX11_hand_7 : decode cX11_hand 7 = .ok (.bipush 12, 2) := by decide +kernel
theorem dX11_hand_9 : decode cX11_hand 9 = .ok (.if_icmp .ge 33, 3) := by decide +kernel
theorem dX11_hand_12 : decode cX11_hand 12 = .ok (.iload_n 1, 1) := by decide +kernel
theorem dX11_hand_13 : decode cX11_hand 13 = .ok (.iconst 1, 1) := by decide +kernel
theorem dX11_hand_14 : decode cX11_hand 14 = .ok (.sipush 200, 3) := by decide +kernel
theorem dX11_hand_17 : decode cX11_hand 17 = .ok (.invokestatic 67, 3) := by decide +kernel
theorem dX11_hand_20 : decode cX11_hand 20 = .ok (.ifCond .eq 22, 3) := by decide +kernel
theorem dX11_hand_23 : decode cX11_hand 23 = .ok (.iload_n 2, 1) := by decide +kernel
theorem dX11_hand_24 : decode cX11_hand 24 = .ok (.iconst 1, 1) := by decide +kernel
theorem dX11_hand_25 : decode cX11_hand 25 = .ok (.bipush 12, 2) := by decide +kernel
theorem dX11_hand_27 : decode cX11_hand 27 = .ok (.invokestatic 67, 3) := by decide +kernel
theorem dX11_hand_30 : decode cX11_hand 30 = .ok (.ifCond .eq 12, 3) := by decide +kernel
theorem dX11_hand_33 : decode cX11_hand 33 = .ok (.iload_n 3, 1) := by decide +kernel
theorem dX11_hand_34 : decode cX11_hand 34 = .ok (.iconst 0, 1) := by decide +kernel
theorem dX11_hand_35 : decode cX11_hand 35 = .ok (.iconst 2, 1) := by decide +kernel
theorem dX11_hand_36 : decode cX11_hand 36 = .ok (.invokestatic 67, 3) := by decide +kernel
theorem dX11_hand_39 : decode cX11_hand 39 = .ok (.ifCond .ne 5, 3) := by decide +kernel
theorem dX11_hand_42 : decode cX11_hand 42 = .ok (.iconst (-1), 1) := by decide +kernel
theorem dX11_hand_43 : decode cX11_hand 43 = .ok (.ireturn, 1) := by decide +kernel
theorem dX11_hand_44 : decode cX11_hand 44 = .ok (.aload_n 0, 1) := by decide +kernel
theorem dX11_hand_45 : decode cX11_hand 45 = .ok (.getfield 12, 3) := by decide +kernel
theorem dX11_hand_48 : decode cX11_hand 48 = .ok (.new 170, 3) := by decide +kernel
theorem dX11_hand_51 : decode cX11_hand 51 = .ok (.dup, 1) := by decide +kernel
theorem dX11_hand_52 : decode cX11_hand 52 = .ok (.iload_n 1, 1) := by decide +kernel
theorem dX11_hand_53 : decode cX11_hand 53 = .ok (.iload_n 2, 1) := by decide +kernel
theorem dX11_hand_54 : decode cX11_hand 54 = .ok (.iload_n 3, 1) := by decide +kernel
theorem dX11_hand_55 : decode cX11_hand 55 = .ok (.invokespecial 172, 3) := by decide +kernel
theorem dX11_hand_58 : decode cX11_hand 58 = .ok (.invokevirtual 175, 3) := by decide +kernel
theorem dX11_hand_61 : decode cX11_hand 61 = .ok (.ireturn, 1) := by decide +kernel
abbrev dpX11_hand : Nat := 2
def fX11_hand (a0 : Nat) (x1 : Int32) (x2 : Int32) (x3 : Int32) : St → Option (Int32 × St) :=
 gR 12 a0 0 fun v1 =>
 nn v1 fun a3 =>
 gI 11 a3 10 fun v2 =>
 br (12 ≤ v2) (rt (-1))
 (cl (fX11_within x1 1 200) fun v4 =>
 br ((bi v4) = 0) (rt (-1))
 (cl (fX11_within x2 1 12) fun v5 =>
 br ((bi v5) = 0) (rt (-1))
 (cl (fX11_within x3 0 2) fun v6 =>
 br ((bi v6) = 0) (rt (-1))
 (gR 12 a0 0 fun v7 =>
 nO 3 7 fun a8 =>
 cl (fX2_init a8 x1 x2 x3) fun v9 =>
 nn v7 fun a10 =>
 ck 11 a10 <| cl (fX10_addHand a10 (some a8)) fun v11 =>
 rt v11))))
set_option maxHeartbeats 4000000 in
set_option maxRecDepth 100000 in
theorem mX11_hand {E : Ev} {l : Launch} (a0 : Nat) (x1 : Int32) (x2 : Int32) (x3 : Int32) : MF E l dpX11_hand yX11_hand cX11_hand 4 (some .int) rvI [.ref (E.1 + a0), .int x1, .int x2, .int x3] (fX11_hand a0 x1 x2 x3) := by
  refine MF.of (lv := [(0, .ref (E.1 + a0)), (1, .int x1), (2, .int x2), (3, .int x3)]) (by decide) (Nat.le_of_ble_eq_true rfl) rfl ?_
  unfold fX11_hand
  refine sn_aload_n (pc := 0) (j := 0) dX11_hand_0 rfl rfl ?_
  refine sn_gR (pc := 1) dX11_hand_1 flX11_12 rfl (fun v1 => ?_)
  rcases v1 with _ | a3
  · exact sn_no
  refine sn_nn ?_
  refine sn_gI (pc := 4) dX11_hand_4 flX11_167 rfl (fun v2 => ?_)
  refine sn_bipush (pc := 7) (v := 12) dX11_hand_7 (by decide) ?_
  refine sn_icmp_ge (pc := 9) (tgt := 42) dX11_hand_9 (by decide) ?_ ?_
  · refine sn_iconst (pc := 42) (v := (-1)) dX11_hand_42 (by decide) ?_
    exact sn_iret (pc := 43) dX11_hand_43 rfl
  · refine sn_iload_n (pc := 12) (j := 1) dX11_hand_12 rfl rfl ?_
    refine sn_iconst (pc := 13) (v := 1) dX11_hand_13 (by decide) ?_
    refine sn_sipush (pc := 14) (v := 200) dX11_hand_14 (by decide) ?_
    refine sn_callS (pc := 17) dX11_hand_17 iX11_within wt2_96 wt2_95 (mX11_within x1 1 200) (by decide) rfl rfl (Nat.le_of_ble_eq_true rfl) (fun v4 => ?_)
    refine sn_if_eq (pc := 20) (tgt := 42) dX11_hand_20 (by decide) ?_ ?_
    · refine sn_iconst (pc := 42) (v := (-1)) dX11_hand_42 (by decide) ?_
      exact sn_iret (pc := 43) dX11_hand_43 rfl
    · refine sn_iload_n (pc := 23) (j := 2) dX11_hand_23 rfl rfl ?_
      refine sn_iconst (pc := 24) (v := 1) dX11_hand_24 (by decide) ?_
      refine sn_bipush (pc := 25) (v := 12) dX11_hand_25 (by decide) ?_
      refine sn_callS (pc := 27) dX11_hand_27 iX11_within wt2_96 wt2_95 (mX11_within x2 1 12) (by decide) rfl rfl (Nat.le_of_ble_eq_true rfl) (fun v5 => ?_)
      refine sn_if_eq (pc := 30) (tgt := 42) dX11_hand_30 (by decide) ?_ ?_
      · refine sn_iconst (pc := 42) (v := (-1)) dX11_hand_42 (by decide) ?_
        exact sn_iret (pc := 43) dX11_hand_43 rfl
      · refine sn_iload_n (pc := 33) (j := 3) dX11_hand_33 rfl rfl ?_
        refine sn_iconst (pc := 34) (v := 0) dX11_hand_34 (by decide) ?_
        refine sn_iconst (pc := 35) (v := 2) dX11_hand_35 (by decide) ?_
        refine sn_callS (pc := 36) dX11_hand_36 iX11_within wt2_96 wt2_95 (mX11_within x3 0 2) (by decide) rfl rfl (Nat.le_of_ble_eq_true rfl) (fun v6 => ?_)
        refine sn_if_ne (pc := 39) (tgt := 44) dX11_hand_39 (by decide) ?_ ?_
        · refine sn_aload_n (pc := 44) (j := 0) dX11_hand_44 rfl rfl ?_
          refine sn_gR (pc := 45) dX11_hand_45 flX11_12 rfl (fun v7 => ?_)
          refine sn_new (pc := 48) dX11_hand_48 ci_X2 wt4_3 (fun a8 => ?_)
          refine sn_dup (pc := 51) dX11_hand_51 rfl ?_
          refine sn_iload_n (pc := 52) (j := 1) dX11_hand_52 rfl rfl ?_
          refine sn_iload_n (pc := 53) (j := 2) dX11_hand_53 rfl rfl ?_
          refine sn_iload_n (pc := 54) (j := 3) dX11_hand_54 rfl rfl ?_
          refine sn_callI (pc := 55) dX11_hand_55 iX2_init rfl rfl wt4_6 wt4_5 (mX2_init a8 x1 x2 x3) (by decide) rfl rfl (by simp [rf_some, rf_cat, cat_int, cat_long, cat_ref, rvV, rvI, rvZ, rvR, rvJ]) (fun v9 => ?_)
          rcases v7 with _ | a10
          · exact sn_no
          refine sn_nn ?_
          refine sn_callV (ci := 10) (pc := 58) dX11_hand_58 iX10_addHand wt4_46 wt4_47 wt4_45 ⟨_, rfl, rfl⟩ (by decide) (mX10_addHand a10 (some a8)) (by decide) rfl rfl (Nat.le_of_ble_eq_true rfl) (fun v11 => ?_)
          exact sn_iret (pc := 61) dX11_hand_61 rfl
        · refine sn_iconst (pc := 42) (v := (-1)) dX11_hand_42 (by decide) ?_
          exact sn_iret (pc := 43) dX11_hand_43 rfl
theorem iX11_hand : MI yX11_hand cX11_hand 4 (some .int) 3 := ⟨wt1_1, wt4_2, by decide +kernel, by decide⟩
-- NeedleHomes habit(III)Z
theorem dX11_habit_0 : decode cX11_habit 0 = .ok (.aload_n 0, 1) := by decide +kernel
theorem dX11_habit_1 : decode cX11_habit 1 = .ok (.getfield 12, 3) := by decide +kernel
theorem dX11_habit_4 : decode cX11_habit 4 = .ok (.iload_n 1, 1) := by decide +kernel
theorem dX11_habit_5 : decode cX11_habit 5 = .ok (.invokevirtual 179, 3) := by decide +kernel
theorem dX11_habit_8 : decode cX11_habit 8 = .ok (.astore 4, 2) := by decide +kernel
theorem dX11_habit_10 : decode cX11_habit 10 = .ok (.aload 4, 2) := by decide +kernel
theorem dX11_habit_12 : decode cX11_habit 12 = .ok (.ifnull 20, 3) := by decide +kernel
theorem dX11_habit_15 : decode cX11_habit 15 = .ok (.iload_n 2, 1) := by decide +kernel
theorem dX11_habit_16 : decode cX11_habit 16 = .ok (.invokestatic 135, 3) := by decide +kernel
theorem dX11_habit_19 : decode cX11_habit 19 = .ok (.ifCond .eq 13, 3) := by decide +kernel
theorem dX11_habit_22 : decode cX11_habit 22 = .ok (.iload_n 3, 1) := by decide +kernel
theorem dX11_habit_23 : decode cX11_habit 23 = .ok (.iconst 0, 1) := by decide +kernel
theorem dX11_habit_24 : decode cX11_habit 24 = .ok (.bipush 100, 2) := by decide +kernel
theorem dX11_habit_26 : decode cX11_habit 26 = .ok (.invokestatic 67, 3) := by decide +kernel
theorem dX11_habit_29 : decode cX11_habit 29 = .ok (.ifCond .ne 5, 3) := by decide +kernel
theorem dX11_habit_32 : decode cX11_habit 32 = .ok (.iconst 0, 1) := by decide +kernel
theorem dX11_habit_33 : decode cX11_habit 33 = .ok (.ireturn, 1) := by decide +kernel
theorem dX11_habit_34 : decode cX11_habit 34 = .ok (.aload 4, 2) := by decide +kernel
theorem dX11_habit_36 : decode cX11_habit 36 = .ok (.getfield 183, 3) := by decide +kernel
theorem dX11_habit_39 : decode cX11_habit 39 = .ok (.iload_n 2, 1) := by decide +kernel
theorem dX11_habit_40 : decode cX11_habit 40 = .ok (.iload_n 3, 1) := by decide +kernel
theorem dX11_habit_41 : decode cX11_habit 41 = .ok (.iastore, 1) := by decide +kernel
theorem dX11_habit_42 : decode cX11_habit 42 = .ok (.iconst 1, 1) := by decide +kernel
theorem dX11_habit_43 : decode cX11_habit 43 = .ok (.ireturn, 1) := by decide +kernel
abbrev dpX11_habit : Nat := 2
def fX11_habit (a0 : Nat) (x1 : Int32) (x2 : Int32) (x3 : Int32) : St → Option (Bool × St) :=
 gR 12 a0 0 fun v1 =>
 nn v1 fun a2 =>
 ck 11 a2 <| cl (fX10_handAt a2 x1) fun v3 =>
 on v3 (rtZ 0)
 fun a4 => cl (fX11_isStitch x2) fun v5 =>
 br ((bi v5) = 0) (rtZ 0)
 (cl (fX11_within x3 0 100) fun v6 =>
 br ((bi v6) = 0) (rtZ 0)
 (gR 3 a4 5 fun v7 =>
 nn v7 fun a8 =>
 wI a8 x2 x3 <|
 rtZ 1))
set_option maxHeartbeats 4000000 in
set_option maxRecDepth 100000 in
theorem mX11_habit {E : Ev} {l : Launch} (a0 : Nat) (x1 : Int32) (x2 : Int32) (x3 : Int32) : MF E l dpX11_habit yX11_habit cX11_habit 5 (some .boolean) rvZ [.ref (E.1 + a0), .int x1, .int x2, .int x3] (fX11_habit a0 x1 x2 x3) := by
  refine MF.of (lv := [(0, .ref (E.1 + a0)), (1, .int x1), (2, .int x2), (3, .int x3)]) (by decide) (Nat.le_of_ble_eq_true rfl) rfl ?_
  unfold fX11_habit
  refine sn_aload_n (pc := 0) (j := 0) dX11_habit_0 rfl rfl ?_
  refine sn_gR (pc := 1) dX11_habit_1 flX11_12 rfl (fun v1 => ?_)
  refine sn_iload_n (pc := 4) (j := 1) dX11_habit_4 rfl rfl ?_
  rcases v1 with _ | a2
  · exact sn_no
  refine sn_nn ?_
  refine sn_callV (ci := 10) (pc := 5) dX11_habit_5 iX10_handAt wt4_54 wt4_55 wt4_53 ⟨_, rfl, rfl⟩ (by decide) (mX10_handAt a2 x1) (by decide) rfl rfl (Nat.le_of_ble_eq_true rfl) (fun v3 => ?_)
  refine sn_astoreR (pc := 8) (r := v3) (i := 4) (lv' := [(4, rf E.1 v3), (0, .ref (E.1 + a0)), (1, .int x1), (2, .int x2), (3, .int x3)]) dX11_habit_8 (by decide) rfl ?_
  refine sn_aloadR (pc := 10) (r := v3) (j := 0) dX11_habit_10 rfl ?_
  rcases v3 with _ | a4
  · refine sn_onN ?_
    refine sn_ifnull_n (pc := 12) (tgt := 32) dX11_habit_12 (by decide) ?_
    refine sn_iconst (pc := 32) (v := 0) dX11_habit_32 (by decide) ?_
    exact sn_zret (pc := 33) dX11_habit_33 rfl
  · refine sn_onS ?_
    refine sn_ifnull_s (pc := 12) dX11_habit_12 ?_
    refine sn_iload_n (pc := 15) (j := 3) dX11_habit_15 rfl rfl ?_
    refine sn_callS (pc := 16) dX11_habit_16 iX11_isStitch wt3_197 wt3_196 (mX11_isStitch x2) (by decide) rfl rfl (Nat.le_of_ble_eq_true rfl) (fun v5 => ?_)
    refine sn_if_eq (pc := 19) (tgt := 32) dX11_habit_19 (by decide) ?_ ?_
    · refine sn_iconst (pc := 32) (v := 0) dX11_habit_32 (by decide) ?_
      exact sn_zret (pc := 33) dX11_habit_33 rfl
    · refine sn_iload_n (pc := 22) (j := 4) dX11_habit_22 rfl rfl ?_
      refine sn_iconst (pc := 23) (v := 0) dX11_habit_23 (by decide) ?_
      refine sn_bipush (pc := 24) (v := 100) dX11_habit_24 (by decide) ?_
      refine sn_callS (pc := 26) dX11_habit_26 iX11_within wt2_96 wt2_95 (mX11_within x3 0 100) (by decide) rfl rfl (Nat.le_of_ble_eq_true rfl) (fun v6 => ?_)
      refine sn_if_ne (pc := 29) (tgt := 34) dX11_habit_29 (by decide) ?_ ?_
      · refine sn_aload (pc := 34) (j := 0) dX11_habit_34 rfl ?_
        refine sn_gR (pc := 36) dX11_habit_36 flX11_183 rfl (fun v7 => ?_)
        refine sn_iload_n (pc := 39) (j := 3) dX11_habit_39 rfl rfl ?_
        refine sn_iload_n (pc := 40) (j := 4) dX11_habit_40 rfl rfl ?_
        rcases v7 with _ | a8
        · exact sn_no
        refine sn_nn ?_
        refine sn_iast (pc := 41) dX11_habit_41 ?_
        refine sn_iconst (pc := 42) (v := 1) dX11_habit_42 (by decide) ?_
        exact sn_zret (pc := 43) dX11_habit_43 rfl
      · refine sn_iconst (pc := 32) (v := 0) dX11_habit_32 (by decide) ?_
        exact sn_zret (pc := 33) dX11_habit_33 rfl
theorem iX11_habit : MI yX11_habit cX11_habit 5 (some .boolean) 3 := ⟨wt1_1, wt4_52, by decide +kernel, by decide⟩
-- NeedleHomes hay(IIZ)Z
theorem dX11_hay_0 : decode cX11_hay 0 = .ok (.aload_n 0, 1) := by decide +kernel
theorem dX11_hay_1 : decode cX11_hay 1 = .ok (.getfield 12, 3) := by decide +kernel
theorem dX11_hay_4 : decode cX11_hay 4 = .ok (.iload_n 1, 1) := by decide +kernel
theorem dX11_hay_5 : decode cX11_hay 5 = .ok (.invokevirtual 179, 3) := by decide +kernel
theorem dX11_hay_8 : decode cX11_hay 8 = .ok (.astore 4, 2) := by decide +kernel
theorem dX11_hay_10 : decode cX11_hay 10 = .ok (.aload 4, 2) := by decide +kernel
theorem dX11_hay_12 : decode cX11_hay 12 = .ok (.ifnull 14, 3) := by decide +kernel
theorem dX11_hay_15 : decode cX11_hay 15 = .ok (.iload_n 2, 1) := by decide +kernel
theorem dX11_hay_16 : decode cX11_hay 16 = .ok (.iconst 0, 1) := by decide +kernel
theorem dX11_hay_17 : decode cX11_hay 17 = .ok (.sipush 142, 3) := by decide +kernel
theorem dX11_hay_20 : decode cX11_hay 20 = .ok (.invokestatic 67, 3) := by decide +kernel
theorem dX11_hay_23 : decode cX11_hay 23 = .ok (.ifCond .ne 5, 3) := by decide +kernel
theorem dX11_hay_26 : decode cX11_hay 26 = .ok (.iconst 0, 1) := by decide +kernel
theorem dX11_hay_27 : decode cX11_hay 27 = .ok (.ireturn, 1) := by decide +kernel
theorem dX11_hay_28 : decode cX11_hay 28 = .ok (.aload 4, 2) := by decide +kernel
theorem dX11_hay_30 : decode cX11_hay 30 = .ok (.iload_n 2, 1) := by decide +kernel
theorem dX11_hay_31 : decode cX11_hay 31 = .ok (.iload_n 3, 1) := by decide +kernel
theorem dX11_hay_32 : decode cX11_hay 32 = .ok (.invokevirtual 186, 3) := by decide +kernel
theorem dX11_hay_35 : decode cX11_hay 35 = .ok (.iconst 1, 1) := by decide +kernel
theorem dX11_hay_36 : decode cX11_hay 36 = .ok (.ireturn, 1) := by decide +kernel
abbrev dpX11_hay : Nat := 2
def fX11_hay (a0 : Nat) (x1 : Int32) (x2 : Int32) (x3 : Int32) : St → Option (Bool × St) :=
 gR 12 a0 0 fun v1 =>
 nn v1 fun a2 =>
 ck 11 a2 <| cl (fX10_handAt a2 x1) fun v3 =>
 on v3 (rtZ 0)
 fun a4 => cl (fX11_within x2 0 142) fun v5 =>
 br ((bi v5) = 0) (rtZ 0)
 (ck 3 a4 <| cl (fX2_setHay a4 x2 x3) fun v6 =>
 rtZ 1)
set_option maxHeartbeats 4000000 in
set_option maxRecDepth 100000 in
theorem mX11_hay {E : Ev} {l : Launch} (a0 : Nat) (x1 : Int32) (x2 : Int32) (x3 : Int32) : MF E l dpX11_hay yX11_hay cX11_hay 5 (some .boolean) rvZ [.ref (E.1 + a0), .int x1, .int x2, .int x3] (fX11_hay a0 x1 x2 x3) := by
  refine MF.of (lv := [(0, .ref (E.1 + a0)), (1, .int x1), (2, .int x2), (3, .int x3)]) (by decide) (Nat.le_of_ble_eq_true rfl) rfl ?_
  unfold fX11_hay
  refine sn_aload_n (pc := 0) (j := 0) dX11_hay_0 rfl rfl ?_
  refine sn_gR (pc := 1) dX11_hay_1 flX11_12 rfl (fun v1 => ?_)
  refine sn_iload_n (pc := 4) (j := 1) dX11_hay_4 rfl rfl ?_
  rcases v1 with _ | a2
  · exact sn_no
  refine sn_nn ?_
  refine sn_callV (ci := 10) (pc := 5) dX11_hay_5 iX10_handAt wt4_54 wt4_55 wt4_53 ⟨_, rfl, rfl⟩ (by decide) (mX10_handAt a2 x1) (by decide) rfl rfl (Nat.le_of_ble_eq_true rfl) (fun v3 => ?_)
  refine sn_astoreR (pc := 8) (r := v3) (i := 4) (lv' := [(4, rf E.1 v3), (0, .ref (E.1 + a0)), (1, .int x1), (2, .int x2), (3, .int x3)]) dX11_hay_8 (by decide) rfl ?_
  refine sn_aloadR (pc := 10) (r := v3) (j := 0) dX11_hay_10 rfl ?_
  rcases v3 with _ | a4
  · refine sn_onN ?_
    refine sn_ifnull_n (pc := 12) (tgt := 26) dX11_hay_12 (by decide) ?_
    refine sn_iconst (pc := 26) (v := 0) dX11_hay_26 (by decide) ?_
    exact sn_zret (pc := 27) dX11_hay_27 rfl
  · refine sn_onS ?_
    refine sn_ifnull_s (pc := 12) dX11_hay_12 ?_
    refine sn_iload_n (pc := 15) (j := 3) dX11_hay_15 rfl rfl ?_
    refine sn_iconst (pc := 16) (v := 0) dX11_hay_16 (by decide) ?_
    refine sn_sipush (pc := 17) (v := 142) dX11_hay_17 (by decide) ?_
    refine sn_callS (pc := 20) dX11_hay_20 iX11_within wt2_96 wt2_95 (mX11_within x2 0 142) (by decide) rfl rfl (Nat.le_of_ble_eq_true rfl) (fun v5 => ?_)
    refine sn_if_ne (pc := 23) (tgt := 28) dX11_hay_23 (by decide) ?_ ?_
    · refine sn_aload (pc := 28) (j := 0) dX11_hay_28 rfl ?_
      refine sn_iload_n (pc := 30) (j := 3) dX11_hay_30 rfl rfl ?_
      refine sn_iload_n (pc := 31) (j := 4) dX11_hay_31 rfl rfl ?_
      refine sn_callV (ci := 2) (pc := 32) dX11_hay_32 iX2_setHay wt4_62 wt4_63 wt4_61 ⟨_, rfl, rfl⟩ (by decide) (mX2_setHay a4 x2 x3) (by decide) rfl rfl (Nat.le_of_ble_eq_true rfl) (fun v6 => ?_)
      refine sn_iconst (pc := 35) (v := 1) dX11_hay_35 (by decide) ?_
      exact sn_zret (pc := 36) dX11_hay_36 rfl
    · refine sn_iconst (pc := 26) (v := 0) dX11_hay_26 (by decide) ?_
      exact sn_zret (pc := 27) dX11_hay_27 rfl
theorem iX11_hay : MI yX11_hay cX11_hay 5 (some .boolean) 3 := ⟨wt1_1, wt4_60, by decide +kernel, by decide⟩
-- NeedleHomes advance(II)I
theorem dX11_advance_0 : decode cX11_advance 0 = .ok (.aload_n 0, 1) := by decide +kernel
theorem dX11_advance_1 : decode cX11_advance 1 = .ok (.getfield 12, 3) := by decide +kernel
theorem dX11_advance_4 : decode cX11_advance 4 = .ok (.iload_n 1, 1) := by decide +kernel
theorem dX11_advance_5 : decode cX11_advance 5 = .ok (.invokevirtual 179, 3) := by decide +kernel
theorem dX11_advance_8 : decode cX11_advance 8 = .ok (.astore_n 3, 1) := by decide +kernel
theorem dX11_advance_9 : decode cX11_advance 9 = .ok (.aload_n 3, 1) := by decide +kernel
theorem dX11_advance_10 : decode cX11_advance 10 = .ok (.ifnull 13, 3) := by decide +kernel
theorem dX11_advance_13 : decode cX11_advance 13 = .ok (.iload_n 2, 1) := by decide +kernel
theorem dX11_advance_14 : decode cX11_advance 14 = .ok (.iconst 1, 1) := by decide +kernel
theorem dX11_advance_15 : decode cX11_advance 15 = .ok (.ldc 190, 2) := by decide +kernel
theorem dX11_advance_17 : decode cX11_advance 17 = .ok (.invokestatic 67, 3) := by decide +kernel
theorem dX11_advance_20 : decode cX11_advance 20 = .ok (.ifCond .ne 5, 3) := by decide +kernel
theorem dX11_advance_23 : decode cX11_advance 23 = .ok (.iconst (-1), 1) := by decide +kernel
theorem dX11_advance_24 : decode cX11_advance 24 = .ok (.ireturn, 1) := by decide +kernel
theorem dX11_advance_25 : decode cX11_advance 25 = .ok (.aload_n 3, 1) := by decide +kernel
theorem dX11_advance_26 : decode cX11_advance 26 = .ok (.dup, 1) := by decide +kernel
theorem dX11_advance_27 : decode cX11_advance 27 = .ok (.getfield 191, 3) := by decide +kernel
theorem dX11_advance_30 : decode cX11_advance 30 = .ok (.iload_n 2, 1) := by decide +kernel
theorem dX11_advance_31 : decode cX11_advance 31 = .ok (.iadd, 1) := by decide +kernel
theorem dX11_advance_32 : decode cX11_advance 32 = .ok (.putfield 191, 3) := by decide +kernel
theorem dX11_advance_35 : decode cX11_advance 35 = .ok (.aload_n 3, 1) := by decide +kernel
theorem dX11_advance_36 : decode cX11_advance 36 = .ok (.getfield 191, 3) := by decide +kernel
theorem dX11_advance_39 : decode cX11_advance 39 = .ok (.ireturn, 1) := by decide +kernel
abbrev dpX11_advance : Nat := 2
def fX11_advance (a0 : Nat) (x1 : Int32) (x2 : Int32) : St → Option (Int32 × St) :=
 gR 12 a0 0 fun v1 =>
 nn v1 fun a2 =>
 ck 11 a2 <| cl (fX10_handAt a2 x1) fun v3 =>
 on v3 (rt (-1))
 fun a4 => cl (fX11_within x2 1 100000) fun v5 =>
 br ((bi v5) = 0) (rt (-1))
 (gI 3 a4 3 fun v6 =>
 pI 3 a4 3 (v6 + x2) <|
 gI 3 a4 3 fun v7 =>
 rt v7)
set_option maxHeartbeats 4000000 in
set_option maxRecDepth 100000 in
theorem mX11_advance {E : Ev} {l : Launch} (a0 : Nat) (x1 : Int32) (x2 : Int32) : MF E l dpX11_advance yX11_advance cX11_advance 4 (some .int) rvI [.ref (E.1 + a0), .int x1, .int x2] (fX11_advance a0 x1 x2) := by
  refine MF.of (lv := [(0, .ref (E.1 + a0)), (1, .int x1), (2, .int x2)]) (by decide) (Nat.le_of_ble_eq_true rfl) rfl ?_
  unfold fX11_advance
  refine sn_aload_n (pc := 0) (j := 0) dX11_advance_0 rfl rfl ?_
  refine sn_gR (pc := 1) dX11_advance_1 flX11_12 rfl (fun v1 => ?_)
  refine sn_iload_n (pc := 4) (j := 1) dX11_advance_4 rfl rfl ?_
  rcases v1 with _ | a2
  · exact sn_no
  refine sn_nn ?_
  refine sn_callV (ci := 10) (pc := 5) dX11_advance_5 iX10_handAt wt4_54 wt4_55 wt4_53 ⟨_, rfl, rfl⟩ (by decide) (mX10_handAt a2 x1) (by decide) rfl rfl (Nat.le_of_ble_eq_true rfl) (fun v3 => ?_)
  refine sn_astoreR_n (pc := 8) (r := v3) (i := 3) (lv' := [(3, rf E.1 v3), (0, .ref (E.1 + a0)), (1, .int x1), (2, .int x2)]) dX11_advance_8 rfl (by decide) rfl ?_
  refine sn_aloadR_n (pc := 9) (r := v3) (j := 0) dX11_advance_9 rfl rfl ?_
  rcases v3 with _ | a4
  · refine sn_onN ?_
    refine sn_ifnull_n (pc := 10) (tgt := 23) dX11_advance_10 (by decide) ?_
    refine sn_iconst (pc := 23) (v := (-1)) dX11_advance_23 (by decide) ?_
    exact sn_iret (pc := 24) dX11_advance_24 rfl
  · refine sn_onS ?_
    refine sn_ifnull_s (pc := 10) dX11_advance_10 ?_
    refine sn_iload_n (pc := 13) (j := 3) dX11_advance_13 rfl rfl ?_
    refine sn_iconst (pc := 14) (v := 1) dX11_advance_14 (by decide) ?_
    refine sn_ldc (pc := 15) (v := 100000) dX11_advance_15 wt4_70 ?_
    refine sn_callS (pc := 17) dX11_advance_17 iX11_within wt2_96 wt2_95 (mX11_within x2 1 100000) (by decide) rfl rfl (Nat.le_of_ble_eq_true rfl) (fun v5 => ?_)
    refine sn_if_ne (pc := 20) (tgt := 25) dX11_advance_20 (by decide) ?_ ?_
    · refine sn_aload_n (pc := 25) (j := 0) dX11_advance_25 rfl rfl ?_
      refine sn_dup (pc := 26) dX11_advance_26 rfl ?_
      refine sn_gI (pc := 27) dX11_advance_27 flX11_191 rfl (fun v6 => ?_)
      refine sn_iload_n (pc := 30) (j := 3) dX11_advance_30 rfl rfl ?_
      refine sn_iadd (pc := 31) dX11_advance_31 ?_
      refine sn_pI (pc := 32) dX11_advance_32 flX11_191 rfl rfl (Or.inl rfl) ?_
      refine sn_aload_n (pc := 35) (j := 0) dX11_advance_35 rfl rfl ?_
      refine sn_gI (pc := 36) dX11_advance_36 flX11_191 rfl (fun v7 => ?_)
      exact sn_iret (pc := 39) dX11_advance_39 rfl
    · refine sn_iconst (pc := 23) (v := (-1)) dX11_advance_23 (by decide) ?_
      exact sn_iret (pc := 24) dX11_advance_24 rfl
theorem iX11_advance : MI yX11_advance cX11_advance 4 (some .int) 2 := ⟨wt1_1, wt4_69, by decide +kernel, by decide⟩
-- NeedleHomes tell(II)I
theorem dX11_tell_0 : decode cX11_tell 0 = .ok (.aload_n 0, 1) := by decide +kernel
theorem dX11_tell_1 : decode cX11_tell 1 = .ok (.getfield 12, 3) := by decide +kernel
theorem dX11_tell_4 : decode cX11_tell 4 = .ok (.iload_n 1, 1) := by decide +kernel
theorem dX11_tell_5 : decode cX11_tell 5 = .ok (.invokevirtual 179, 3) := by decide +kernel
theorem dX11_tell_8 : decode cX11_tell 8 = .ok (.astore_n 3, 1) := by decide +kernel
theorem dX11_tell_9 : decode cX11_tell 9 = .ok (.aload_n 3, 1) := by decide +kernel
theorem dX11_tell_10 : decode cX11_tell 10 = .ok (.ifnonnull 6, 3) := by decide +kernel
theorem dX11_tell_13 : decode cX11_tell 13 = .ok (.bipush (-2), 2) := by decide +kernel
theorem dX11_tell_15 : decode cX11_tell 15 = .ok (.ireturn, 1) := by decide +kernel
theorem dX11_tell_16 : decode cX11_tell 16 = .ok (.iload_n 2, 1) := by decide +kernel
theorem dX11_tell_17 : decode cX11_tell 17 = .ok (.tableswitch 73 0 5 #[39, 44, 49, 54, 59, 64], 39) := by decide +kernel
theorem dX11_tell_56 : decode cX11_tell 56 = .ok (.aload_n 3, 1) := by decide +kernel
theorem dX11_tell_57 : decode cX11_tell 57 = .ok (.getfield 194, 3) := by decide +kernel
theorem dX11_tell_60 : decode cX11_tell 60 = .ok (.ireturn, 1) := by decide +kernel
theorem dX11_tell_61 : decode cX11_tell 61 = .ok (.aload_n 3, 1) := by decide +kernel
theorem dX11_tell_62 : decode cX11_tell 62 = .ok (.getfield 197, 3) := by decide +kernel
theorem dX11_tell_65 : decode cX11_tell 65 = .ok (.ireturn, 1) := by decide +kernel
theorem dX11_tell_66 : decode cX11_tell 66 = .ok (.aload_n 3, 1) := by decide +kernel
theorem dX11_tell_67 : decode cX11_tell 67 = .ok (.getfield 200, 3) := by decide +kernel
theorem dX11_tell_70 : decode cX11_tell 70 = .ok (.ireturn, 1) := by decide +kernel
theorem dX11_tell_71 : decode cX11_tell 71 = .ok (.aload_n 3, 1) := by decide +kernel
theorem dX11_tell_72 : decode cX11_tell 72 = .ok (.getfield 191, 3) := by decide +kernel
theorem dX11_tell_75 : decode cX11_tell 75 = .ok (.ireturn, 1) := by decide +kernel
theorem dX11_tell_76 : decode cX11_tell 76 = .ok (.aload_n 3, 1) := by decide +kernel
theorem dX11_tell_77 : decode cX11_tell 77 = .ok (.getfield 203, 3) := by decide +kernel
theorem dX11_tell_80 : decode cX11_tell 80 = .ok (.ireturn, 1) := by decide +kernel
theorem dX11_tell_81 : decode cX11_tell 81 = .ok (.aload_n 0, 1) := by decide +kernel
theorem dX11_tell_82 : decode cX11_tell 82 = .ok (.getfield 12, 3) := by decide +kernel
theorem dX11_tell_85 : decode cX11_tell 85 = .ok (.iload_n 1, 1) := by decide +kernel
theorem dX11_tell_86 : decode cX11_tell 86 = .ok (.invokevirtual 206, 3) := by decide +kernel
theorem dX11_tell_89 : decode cX11_tell 89 = .ok (.ireturn, 1) := by decide +kernel
theorem dX11_tell_90 : decode cX11_tell 90 = .ok (.bipush (-2), 2) := by decide +kernel
theorem dX11_tell_92 : decode cX11_tell 92 = .ok (.ireturn, 1) := by decide +kernel
abbrev dpX11_tell : Nat := 3
def fX11_tell (a0 : Nat) (x1 : Int32) (x2 : Int32) : St → Option (Int32 × St) :=
 gR 12 a0 0 fun v1 =>
 nn v1 fun a2 =>
 ck 11 a2 <| cl (fX10_handAt a2 x1) fun v3 =>
 on v3 (rt (-2))
 fun a4 => br (x2 = 0) (gI 3 a4 0 fun v5 =>
 rt v5) <|
 br (x2 = 1) (gI 3 a4 1 fun v6 =>
 rt v6) <|
 br (x2 = 2) (gI 3 a4 2 fun v7 =>
 rt v7) <|
 br (x2 = 3) (gI 3 a4 3 fun v8 =>
 rt v8) <|
 br (x2 = 4) (gI 3 a4 4 fun v9 =>
 rt v9) <|
 br (x2 = 5) (gR 12 a0 0 fun v10 =>
 nn v10 fun a11 =>
 ck 11 a11 <| cl (fX10_piecesOutWith a11 x1) fun v12 =>
 rt v12) <|
 (rt (-2))
set_option maxHeartbeats 4000000 in
set_option maxRecDepth 100000 in
theorem mX11_tell {E : Ev} {l : Launch} (a0 : Nat) (x1 : Int32) (x2 : Int32) : MF E l dpX11_tell yX11_tell cX11_tell 4 (some .int) rvI [.ref (E.1 + a0), .int x1, .int x2] (fX11_tell a0 x1 x2) := by
  refine MF.of (lv := [(0, .ref (E.1 + a0)), (1, .int x1), (2, .int x2)]) (by decide) (Nat.le_of_ble_eq_true rfl) rfl ?_
  unfold fX11_tell
  refine sn_aload_n (pc := 0) (j := 0) dX11_tell_0 rfl rfl ?_
  refine sn_gR (pc := 1) dX11_tell_1 flX11_12 rfl (fun v1 => ?_)
  refine sn_iload_n (pc := 4) (j := 1) dX11_tell_4 rfl rfl ?_
  rcases v1 with _ | a2
  · exact sn_no
  refine sn_nn ?_
  refine sn_callV (ci := 10) (pc := 5) dX11_tell_5 iX10_handAt wt4_54 wt4_55 wt4_53 ⟨_, rfl, rfl⟩ (by decide) (mX10_handAt a2 x1) (by decide) rfl rfl (Nat.le_of_ble_eq_true rfl) (fun v3 => ?_)
  refine sn_astoreR_n (pc := 8) (r := v3) (i := 3) (lv' := [(3, rf E.1 v3), (0, .ref (E.1 + a0)), (1, .int x1), (2, .int x2)]) dX11_tell_8 rfl (by decide) rfl ?_
  refine sn_aloadR_n (pc := 9) (r := v3) (j := 0) dX11_tell_9 rfl rfl ?_
  rcases v3 with _ | a4
  · refine sn_onN ?_
    refine sn_ifnonnull_n (pc := 10) dX11_tell_10 ?_
    refine sn_bipush (pc := 13) (v := (-2)) dX11_tell_13 (by decide) ?_
    exact sn_iret (pc := 15) dX11_tell_15 rfl
  · refine sn_onS ?_
    refine sn_ifnonnull_s (pc := 10) (tgt := 16) dX11_tell_10 (by decide) ?_
    refine sn_iload_n (pc := 16) (j := 3) dX11_tell_16 rfl rfl ?_
    refine sw_start ?_
    refine sw_case (tgt := 56) 0 dX11_tell_17 (by decide) (by decide) rfl (by decide) ?_ ?_
    · refine sn_aload_n (pc := 56) (j := 0) dX11_tell_56 rfl rfl ?_
      refine sn_gI (pc := 57) dX11_tell_57 flX11_194 rfl (fun v5 => ?_)
      exact sn_iret (pc := 60) dX11_tell_60 rfl
    refine sw_case (tgt := 61) 1 dX11_tell_17 (by decide) (by decide) rfl (by decide) ?_ ?_
    · refine sn_aload_n (pc := 61) (j := 0) dX11_tell_61 rfl rfl ?_
      refine sn_gI (pc := 62) dX11_tell_62 flX11_197 rfl (fun v6 => ?_)
      exact sn_iret (pc := 65) dX11_tell_65 rfl
    refine sw_case (tgt := 66) 2 dX11_tell_17 (by decide) (by decide) rfl (by decide) ?_ ?_
    · refine sn_aload_n (pc := 66) (j := 0) dX11_tell_66 rfl rfl ?_
      refine sn_gI (pc := 67) dX11_tell_67 flX11_200 rfl (fun v7 => ?_)
      exact sn_iret (pc := 70) dX11_tell_70 rfl
    refine sw_case (tgt := 71) 3 dX11_tell_17 (by decide) (by decide) rfl (by decide) ?_ ?_
    · refine sn_aload_n (pc := 71) (j := 0) dX11_tell_71 rfl rfl ?_
      refine sn_gI (pc := 72) dX11_tell_72 flX11_191 rfl (fun v8 => ?_)
      exact sn_iret (pc := 75) dX11_tell_75 rfl
    refine sw_case (tgt := 76) 4 dX11_tell_17 (by decide) (by decide) rfl (by decide) ?_ ?_
    · refine sn_aload_n (pc := 76) (j := 0) dX11_tell_76 rfl rfl ?_
      refine sn_gI (pc := 77) dX11_tell_77 flX11_203 rfl (fun v9 => ?_)
      exact sn_iret (pc := 80) dX11_tell_80 rfl
    refine sw_case (tgt := 81) 5 dX11_tell_17 (by decide) (by decide) rfl (by decide) ?_ ?_
    · refine sn_aload_n (pc := 81) (j := 1) dX11_tell_81 rfl rfl ?_
      refine sn_gR (pc := 82) dX11_tell_82 flX11_12 rfl (fun v10 => ?_)
      refine sn_iload_n (pc := 85) (j := 2) dX11_tell_85 rfl rfl ?_
      rcases v10 with _ | a11
      · exact sn_no
      refine sn_nn ?_
      refine sn_callV (ci := 10) (pc := 86) dX11_tell_86 iX10_piecesOutWith wt4_76 wt4_77 wt4_75 ⟨_, rfl, rfl⟩ (by decide) (mX10_piecesOutWith a11 x1) (by decide) rfl rfl (Nat.le_of_ble_eq_true rfl) (fun v12 => ?_)
      exact sn_iret (pc := 89) dX11_tell_89 rfl
    refine sw_dflt (tgt := 90) dX11_tell_17 (fun hc => ?_) (by decide) ?_
    · obtain ⟨⟨⟨⟨⟨⟨-, q0⟩, q1⟩, q2⟩, q3⟩, q4⟩, q5⟩ := hc
      have q0 := ne_toInt q0
      have q1 := ne_toInt q1
      have q2 := ne_toInt q2
      have q3 := ne_toInt q3
      have q4 := ne_toInt q4
      have q5 := ne_toInt q5
      have e0 : (0 : Int32).toInt = 0 := by decide
      have e1 : (1 : Int32).toInt = 1 := by decide
      have e2 : (2 : Int32).toInt = 2 := by decide
      have e3 : (3 : Int32).toInt = 3 := by decide
      have e4 : (4 : Int32).toInt = 4 := by decide
      have e5 : (5 : Int32).toInt = 5 := by decide
      rw [e0] at q0
      rw [e1] at q1
      rw [e2] at q2
      rw [e3] at q3
      rw [e4] at q4
      rw [e5] at q5
      omega
    · refine sn_bipush (pc := 90) (v := (-2)) dX11_tell_90 (by decide) ?_
      exact sn_iret (pc := 92) dX11_tell_92 rfl
theorem iX11_tell : MI yX11_tell cX11_tell 4 (some .int) 2 := ⟨wt1_1, wt4_74, by decide +kernel, by decide⟩
-- NeedleHomes term(IIIIII)I
theorem dX11_term_0 : decode cX11_term 0 = .ok (.aload_n 0, 1) := by decide +kernel
theorem dX11_term_1 : decode cX11_term 1 = .ok (.getfield 12, 3) := by decide +kernel
theorem dX11_term_4 : decode cX11_term 4 = .ok (.iload_n 3, 1) := by decide +kernel
theorem dX11_term_5 : decode cX11_term 5 = .ok (.invokevirtual 131, 3) := by decide +kernel
theorem dX11_term_8 : decode cX11_term 8 = .ok (.astore 7, 2) := by decide +kernel
theorem dX11_term_10 : decode cX11_term 10 = .ok (.aload_n 0, 1) := by decide +kernel
theorem dX11_term_11 : decode cX11_term 11 = .ok (.getfield 12, 3) := by decide +kernel
theorem dX11_term_14 : decode cX11_term 14 = .ok (.iload 4, 2) := by decide +kernel
theorem dX11_term_16 : decode cX11_term 16 = .ok (.invokevirtual 179, 3) := by decide +kernel
theorem dX11_term_19 : decode cX11_term 19 = .ok (.astore 8, 2) := by decide +kernel
theorem dX11_term_21 : decode cX11_term 21 = .ok (.iload_n 1, 1) := by decide +kernel
theorem dX11_term_22 : decode cX11_term 22 = .ok (.iconst 0, 1) := by decide +kernel
theorem dX11_term_23 : decode cX11_term 23 = .ok (.iconst 5, 1) := by decide +kernel
theorem dX11_term_24 : decode cX11_term 24 = .ok (.invokestatic 67, 3) := by decide +kernel
theorem dX11_term_27 : decode cX11_term 27 = .ok (.ifCond .eq 20, 3) := by decide +kernel
theorem dX11_term_30 : decode cX11_term 30 = .ok (.iload_n 2, 1) := by decide +kernel
theorem dX11_term_31 : decode cX11_term 31 = .ok (.invokestatic 110, 3) := by decide +kernel
theorem dX11_term_34 : decode cX11_term 34 = .ok (.ifCond .eq 13, 3) := by decide +kernel
theorem dX11_term_37 : decode cX11_term 37 = .ok (.aload 7, 2) := by decide +kernel
theorem dX11_term_39 : decode cX11_term 39 = .ok (.ifnull 8, 3) := by decide +kernel
theorem dX11_term_42 : decode cX11_term 42 = .ok (.aload 8, 2) := by decide +kernel
theorem dX11_term_44 : decode cX11_term 44 = .ok (.ifnonnull 5, 3) := by decide +kernel
theorem dX11_term_47 : decode cX11_term 47 = .ok (.iconst (-1), 1) := by decide +kernel
theorem dX11_term_48 : decode cX11_term 48 = .ok (.ireturn, 1) := by decide +kernel
theorem dX11_term_49 : decode cX11_term 49 = .ok (.aload_n 0, 1) := by decide +kernel
theorem dX11_term_50 : decode cX11_term 50 = .ok (.getfield 12, 3) := by decide +kernel
theorem dX11_term_53 : decode cX11_term 53 = .ok (.getfield 118, 3) := by decide +kernel
theorem dX11_term_56 : decode cX11_term 56 = .ok (.invokestatic 210, 3) := by decide +kernel
theorem dX11_term_59 : decode cX11_term 59 = .ok (.istore 9, 2) := by decide +kernel
theorem dX11_term_61 : decode cX11_term 61 = .ok (.aload_n 0, 1) := by decide +kernel
theorem dX11_term_62 : decode cX11_term 62 = .ok (.getfield 55, 3) := by decide +kernel
theorem dX11_term_65 : decode cX11_term 65 = .ok (.aload 7, 2) := by decide +kernel
theorem dX11_term_67 : decode cX11_term 67 = .ok (.aload 8, 2) := by decide +kernel
theorem dX11_term_69 : decode cX11_term 69 = .ok (.iload 9, 2) := by decide +kernel
theorem dX11_term_71 : decode cX11_term 71 = .ok (.iconst 0, 1) := by decide +kernel
theorem dX11_term_72 : decode cX11_term 72 = .ok (.invokestatic 213, 3) := by decide +kernel
theorem dX11_term_75 : decode cX11_term 75 = .ok (.iload_n 1, 1) := by decide +kernel
theorem dX11_term_76 : decode cX11_term 76 = .ok (.ifCond .eq 8, 3) := by decide +kernel
theorem dX11_term_79 : decode cX11_term 79 = .ok (.iload_n 1, 1) := by decide +kernel
theorem dX11_term_80 : decode cX11_term 80 = .ok (.iconst 1, 1) := by decide +kernel
theorem dX11_term_81 : decode cX11_term 81 = .ok (.if_icmp .ne 37, 3) := by decide +kernel
theorem dX11_term_84 : decode cX11_term 84 = .ok (.iload 5, 2) := by decide +kernel
theorem dX11_term_86 : decode cX11_term 86 = .ok (.invokestatic 135, 3) := by decide +kernel
theorem dX11_term_89 : decode cX11_term 89 = .ok (.ifCond .eq 11, 3) := by decide +kernel
theorem dX11_term_92 : decode cX11_term 92 = .ok (.iload 6, 2) := by decide +kernel
theorem dX11_term_94 : decode cX11_term 94 = .ok (.invokestatic 138, 3) := by decide +kernel
theorem dX11_term_97 : decode cX11_term 97 = .ok (.ifCond .ne 5, 3) := by decide +kernel
theorem dX11_term_100 : decode cX11_term 100 = .ok (.iconst (-1), 1) := by decide +kernel
theorem dX11_term_101 : decode cX11_term 101 = .ok (.ireturn, 1) := by decide +kernel
theorem dX11_term_102 : decode cX11_term 102 = .ok (.aload_n 0, 1) := by decide +kernel
theorem dX11_term_103 : decode cX11_term 103 = .ok (.getfield 55, 3) := by decide +kernel
theorem dX11_term_106 : decode cX11_term 106 = .ok (.iconst 0, 1) := by decide +kernel
theorem dX11_term_107 : decode cX11_term 107 = .ok (.iload 5, 2) := by decide +kernel
theorem dX11_term_109 : decode cX11_term 109 = .ok (.iastore, 1) := by decide +kernel
theorem dX11_term_110 : decode cX11_term 110 = .ok (.aload_n 0, 1) := by decide +kernel
theorem dX11_term_111 : decode cX11_term 111 = .ok (.getfield 55, 3) := by decide +kernel
theorem dX11_term_114 : decode cX11_term 114 = .ok (.iconst 1, 1) := by decide +kernel
theorem dX11_term_115 : decode cX11_term 115 = .ok (.iload 6, 2) := by decide +kernel
theorem dX11_term_117 : decode cX11_term 117 = .ok (.iastore, 1) := by decide +kernel
theorem dX11_term_118 : decode cX11_term 118 = .ok (.aload_n 0, 1) := by decide +kernel
theorem dX11_term_119 : decode cX11_term 119 = .ok (.getfield 12, 3) := by decide +kernel
theorem dX11_term_122 : decode cX11_term 122 = .ok (.aload_n 0, 1) := by decide +kernel
theorem dX11_term_123 : decode cX11_term 123 = .ok (.getfield 12, 3) := by decide +kernel
theorem dX11_term_126 : decode cX11_term 126 = .ok (.iload_n 2, 1) := by decide +kernel
theorem dX11_term_127 : decode cX11_term 127 = .ok (.iload 9, 2) := by decide +kernel
theorem dX11_term_129 : decode cX11_term 129 = .ok (.aload_n 0, 1) := by decide +kernel
theorem dX11_term_130 : decode cX11_term 130 = .ok (.getfield 12, 3) := by decide +kernel
theorem dX11_term_133 : decode cX11_term 133 = .ok (.getfield 118, 3) := by decide +kernel
theorem dX11_term_136 : decode cX11_term 136 = .ok (.invokevirtual 163, 3) := by decide +kernel
theorem dX11_term_139 : decode cX11_term 139 = .ok (.invokevirtual 217, 3) := by decide +kernel
theorem dX11_term_142 : decode cX11_term 142 = .ok (.iload_n 1, 1) := by decide +kernel
theorem dX11_term_143 : decode cX11_term 143 = .ok (.aload_n 0, 1) := by decide +kernel
theorem dX11_term_144 : decode cX11_term 144 = .ok (.getfield 55, 3) := by decide +kernel
theorem dX11_term_147 : decode cX11_term 147 = .ok (.invokestatic 221, 3) := by decide +kernel
theorem dX11_term_150 : decode cX11_term 150 = .ok (.ireturn, 1) := by decide +kernel
abbrev dpX11_term : Nat := 4
def fX11_term_118 (a0 : Nat) (x1 : Int32) (x2 : Int32) (x9 : Int32) : St → Option (Int32 × St) :=
 gR 12 a0 0 fun v2001 =>
 gR 12 a0 0 fun v2002 =>
 gR 12 a0 0 fun v2003 =>
 nn v2003 fun a2005 =>
 gI 11 a2005 4 fun v2004 =>
 nn v2002 fun a2006 =>
 ck 11 a2006 <| cl (fX10_listKnown a2006 x2 x9 v2004) fun v2007 =>
 nn v2001 fun a2008 =>
 ck 11 a2008 <| cl (fX10_listAt a2008 v2007) fun v2009 =>
 gR 12 a0 7 fun v2010 =>
 cl (fX11_termOf v2009 x1 v2010) fun v2011 =>
 rt v2011
set_option maxHeartbeats 4000000 in
set_option maxRecDepth 100000 in
theorem sfX11_term_118 {E : Ev} {l : Launch} (a0 : Nat) (x1 : Int32) (x2 : Int32) (x9 : Int32) : Snd E l (dpX11_term, RX11, cX11_term, 10, (some .int), "term") rvI 118 [(0, .ref (E.1 + a0)), (1, .int x1), (2, .int x2), (9, .int x9)] [] (fX11_term_118 a0 x1 x2 x9) := by
  unfold fX11_term_118
  refine sn_aload_n (pc := 118) (j := 0) dX11_term_118 rfl rfl ?_
  refine sn_gR (pc := 119) dX11_term_119 flX11_12 rfl (fun v2001 => ?_)
  refine sn_aload_n (pc := 122) (j := 0) dX11_term_122 rfl rfl ?_
  refine sn_gR (pc := 123) dX11_term_123 flX11_12 rfl (fun v2002 => ?_)
  refine sn_iload_n (pc := 126) (j := 2) dX11_term_126 rfl rfl ?_
  refine sn_iload (pc := 127) (j := 3) dX11_term_127 rfl ?_
  refine sn_aload_n (pc := 129) (j := 0) dX11_term_129 rfl rfl ?_
  refine sn_gR (pc := 130) dX11_term_130 flX11_12 rfl (fun v2003 => ?_)
  rcases v2003 with _ | a2005
  · exact sn_no
  refine sn_nn ?_
  refine sn_gI (pc := 133) dX11_term_133 flX11_118 rfl (fun v2004 => ?_)
  rcases v2002 with _ | a2006
  · exact sn_no
  refine sn_nn ?_
  refine sn_callV (ci := 10) (pc := 136) dX11_term_136 iX10_listKnown wt3_232 wt3_233 wt3_231 ⟨_, rfl, rfl⟩ (by decide) (mX10_listKnown a2006 x2 x9 v2004) (by decide) rfl rfl (by simp [rf_some, rf_cat, cat_int, cat_long, cat_ref, rvV, rvI, rvZ, rvR, rvJ]) (fun v2007 => ?_)
  rcases v2001 with _ | a2008
  · exact sn_no
  refine sn_nn ?_
  refine sn_callV (ci := 10) (pc := 139) dX11_term_139 iX10_listAt wt3_236 wt3_237 wt4_102 ⟨_, rfl, rfl⟩ (by decide) (mX10_listAt a2008 v2007) (by decide) rfl rfl (Nat.le_of_ble_eq_true rfl) (fun v2009 => ?_)
  refine sn_iload_n (pc := 142) (j := 1) dX11_term_142 rfl rfl ?_
  refine sn_aload_n (pc := 143) (j := 0) dX11_term_143 rfl rfl ?_
  refine sn_gR (pc := 144) dX11_term_144 flX11_55 rfl (fun v2010 => ?_)
  refine sn_callS (pc := 147) dX11_term_147 iX11_termOf wt4_104 wt4_103 (mX11_termOf v2009 x1 v2010) (by decide) rfl rfl (Nat.le_of_ble_eq_true rfl) (fun v2011 => ?_)
  exact sn_iret (pc := 150) dX11_term_150 rfl
def fX11_term_84 (a0 : Nat) (x1 : Int32) (x2 : Int32) (x5 : Int32) (x6 : Int32) (x9 : Int32) : St → Option (Int32 × St) :=
 cl (fX11_isStitch x5) fun v1001 =>
 br ((bi v1001) = 0) (rt (-1))
 (cl (fX11_isColour x6) fun v1002 =>
 br ((bi v1002) = 0) (rt (-1))
 (gR 12 a0 7 fun v1003 =>
 nn v1003 fun a1004 =>
 wI a1004 0 x5 <|
 gR 12 a0 7 fun v1005 =>
 nn v1005 fun a1006 =>
 wI a1006 1 x6 <|
 fX11_term_118  a0 x1 x2 x9))
set_option maxHeartbeats 4000000 in
set_option maxRecDepth 100000 in
theorem sfX11_term_84 {E : Ev} {l : Launch} (a0 : Nat) (x1 : Int32) (x2 : Int32) (x5 : Int32) (x6 : Int32) (x9 : Int32) : Snd E l (dpX11_term, RX11, cX11_term, 10, (some .int), "term") rvI 84 [(0, .ref (E.1 + a0)), (1, .int x1), (2, .int x2), (5, .int x5), (6, .int x6), (9, .int x9)] [] (fX11_term_84 a0 x1 x2 x5 x6 x9) := by
  unfold fX11_term_84
  refine sn_iload (pc := 84) (j := 3) dX11_term_84 rfl ?_
  refine sn_callS (pc := 86) dX11_term_86 iX11_isStitch wt3_197 wt3_196 (mX11_isStitch x5) (by decide) rfl rfl (Nat.le_of_ble_eq_true rfl) (fun v1001 => ?_)
  refine sn_if_eq (pc := 89) (tgt := 100) dX11_term_89 (by decide) ?_ ?_
  · refine sn_iconst (pc := 100) (v := (-1)) dX11_term_100 (by decide) ?_
    exact sn_iret (pc := 101) dX11_term_101 rfl
  · refine sn_iload (pc := 92) (j := 4) dX11_term_92 rfl ?_
    refine sn_callS (pc := 94) dX11_term_94 iX11_isColour wt2_165 wt3_199 (mX11_isColour x6) (by decide) rfl rfl (Nat.le_of_ble_eq_true rfl) (fun v1002 => ?_)
    refine sn_if_ne (pc := 97) (tgt := 102) dX11_term_97 (by decide) ?_ ?_
    · refine sn_aload_n (pc := 102) (j := 0) dX11_term_102 rfl rfl ?_
      refine sn_gR (pc := 103) dX11_term_103 flX11_55 rfl (fun v1003 => ?_)
      refine sn_iconst (pc := 106) (v := 0) dX11_term_106 (by decide) ?_
      refine sn_iload (pc := 107) (j := 3) dX11_term_107 rfl ?_
      rcases v1003 with _ | a1004
      · exact sn_no
      refine sn_nn ?_
      refine sn_iast (pc := 109) dX11_term_109 ?_
      refine sn_aload_n (pc := 110) (j := 0) dX11_term_110 rfl rfl ?_
      refine sn_gR (pc := 111) dX11_term_111 flX11_55 rfl (fun v1005 => ?_)
      refine sn_iconst (pc := 114) (v := 1) dX11_term_114 (by decide) ?_
      refine sn_iload (pc := 115) (j := 4) dX11_term_115 rfl ?_
      rcases v1005 with _ | a1006
      · exact sn_no
      refine sn_nn ?_
      refine sn_iast (pc := 117) dX11_term_117 ?_
      exact sn_sub (lv' := [(0, .ref (E.1 + a0)), (1, .int x1), (2, .int x2), (9, .int x9)]) [0, 1, 2, 5] rfl (sfX11_term_118  a0 x1 x2 x9)
    · refine sn_iconst (pc := 100) (v := (-1)) dX11_term_100 (by decide) ?_
      exact sn_iret (pc := 101) dX11_term_101 rfl
def fX11_term (a0 : Nat) (x1 : Int32) (x2 : Int32) (x3 : Int32) (x4 : Int32) (x5 : Int32) (x6 : Int32) : St → Option (Int32 × St) :=
 gR 12 a0 0 fun v1 =>
 nn v1 fun a2 =>
 ck 11 a2 <| cl (fX10_patternAt a2 x3) fun v3 =>
 gR 12 a0 0 fun v4 =>
 nn v4 fun a5 =>
 ck 11 a5 <| cl (fX10_handAt a5 x4) fun v6 =>
 cl (fX11_within x1 0 5) fun v7 =>
 br ((bi v7) = 0) (rt (-1))
 (cl (fX11_isDealer x2) fun v8 =>
 br ((bi v8) = 0) (rt (-1))
 (on v3 (rt (-1))
 fun a9 => on v6 (rt (-1))
 fun a10 => gR 12 a0 0 fun v11 =>
 nn v11 fun a13 =>
 gI 11 a13 4 fun v12 =>
 cl (fX11_weekOf v12) fun v14 =>
 gR 12 a0 7 fun v15 =>
 cl (fX11_askFor v15 (some a9) (some a10) v14 0) fun v16 =>
 br (x1 = 0) (fX11_term_84  a0 x1 x2 x5 x6 v14)
 (br (x1 = 1) (fX11_term_84  a0 x1 x2 x5 x6 v14)
 (fX11_term_118  a0 x1 x2 v14))))
set_option maxHeartbeats 4000000 in
set_option maxRecDepth 100000 in
theorem mX11_term {E : Ev} {l : Launch} (a0 : Nat) (x1 : Int32) (x2 : Int32) (x3 : Int32) (x4 : Int32) (x5 : Int32) (x6 : Int32) : MF E l dpX11_term yX11_term cX11_term 10 (some .int) rvI [.ref (E.1 + a0), .int x1, .int x2, .int x3, .int x4, .int x5, .int x6] (fX11_term a0 x1 x2 x3 x4 x5 x6) := by
  refine MF.of (lv := [(0, .ref (E.1 + a0)), (1, .int x1), (2, .int x2), (3, .int x3), (4, .int x4), (5, .int x5), (6, .int x6)]) (by decide) (Nat.le_of_ble_eq_true rfl) rfl ?_
  unfold fX11_term
  refine sn_aload_n (pc := 0) (j := 0) dX11_term_0 rfl rfl ?_
  refine sn_gR (pc := 1) dX11_term_1 flX11_12 rfl (fun v1 => ?_)
  refine sn_iload_n (pc := 4) (j := 3) dX11_term_4 rfl rfl ?_
  rcases v1 with _ | a2
  · exact sn_no
  refine sn_nn ?_
  refine sn_callV (ci := 10) (pc := 5) dX11_term_5 iX10_patternAt wt3_193 wt3_194 wt3_192 ⟨_, rfl, rfl⟩ (by decide) (mX10_patternAt a2 x3) (by decide) rfl rfl (Nat.le_of_ble_eq_true rfl) (fun v3 => ?_)
  refine sn_astoreR (pc := 8) (r := v3) (i := 7) (lv' := [(7, rf E.1 v3), (0, .ref (E.1 + a0)), (1, .int x1), (2, .int x2), (3, .int x3), (4, .int x4), (5, .int x5), (6, .int x6)]) dX11_term_8 (by decide) rfl ?_
  refine sn_aload_n (pc := 10) (j := 1) dX11_term_10 rfl rfl ?_
  refine sn_gR (pc := 11) dX11_term_11 flX11_12 rfl (fun v4 => ?_)
  refine sn_iload (pc := 14) (j := 5) dX11_term_14 rfl ?_
  rcases v4 with _ | a5
  · exact sn_no
  refine sn_nn ?_
  refine sn_callV (ci := 10) (pc := 16) dX11_term_16 iX10_handAt wt4_54 wt4_55 wt4_53 ⟨_, rfl, rfl⟩ (by decide) (mX10_handAt a5 x4) (by decide) rfl rfl (Nat.le_of_ble_eq_true rfl) (fun v6 => ?_)
  refine sn_astoreR (pc := 19) (r := v6) (i := 8) (lv' := [(8, rf E.1 v6), (7, rf E.1 v3), (0, .ref (E.1 + a0)), (1, .int x1), (2, .int x2), (3, .int x3), (4, .int x4), (5, .int x5), (6, .int x6)]) dX11_term_19 (by decide) (by simp [rf_some, rf_cat, cat_int, cat_long, cat_ref]) ?_
  refine sn_iload_n (pc := 21) (j := 3) dX11_term_21 rfl rfl ?_
  refine sn_iconst (pc := 22) (v := 0) dX11_term_22 (by decide) ?_
  refine sn_iconst (pc := 23) (v := 5) dX11_term_23 (by decide) ?_
  refine sn_callS (pc := 24) dX11_term_24 iX11_within wt2_96 wt2_95 (mX11_within x1 0 5) (by decide) rfl rfl (Nat.le_of_ble_eq_true rfl) (fun v7 => ?_)
  refine sn_if_eq (pc := 27) (tgt := 47) dX11_term_27 (by decide) ?_ ?_
  · refine sn_iconst (pc := 47) (v := (-1)) dX11_term_47 (by decide) ?_
    exact sn_iret (pc := 48) dX11_term_48 rfl
  · refine sn_iload_n (pc := 30) (j := 4) dX11_term_30 rfl rfl ?_
    refine sn_callS (pc := 31) dX11_term_31 iX11_isDealer wt3_17 wt3_16 (mX11_isDealer x2) (by decide) rfl rfl (Nat.le_of_ble_eq_true rfl) (fun v8 => ?_)
    refine sn_if_eq (pc := 34) (tgt := 47) dX11_term_34 (by decide) ?_ ?_
    · refine sn_iconst (pc := 47) (v := (-1)) dX11_term_47 (by decide) ?_
      exact sn_iret (pc := 48) dX11_term_48 rfl
    · refine sn_aloadR (pc := 37) (r := v3) (j := 1) dX11_term_37 rfl ?_
      rcases v3 with _ | a9
      · refine sn_onN ?_
        refine sn_ifnull_n (pc := 39) (tgt := 47) dX11_term_39 (by decide) ?_
        refine sn_iconst (pc := 47) (v := (-1)) dX11_term_47 (by decide) ?_
        exact sn_iret (pc := 48) dX11_term_48 rfl
      · refine sn_onS ?_
        refine sn_ifnull_s (pc := 39) dX11_term_39 ?_
        refine sn_aloadR (pc := 42) (r := v6) (j := 0) dX11_term_42 rfl ?_
        rcases v6 with _ | a10
        · refine sn_onN ?_
          refine sn_ifnonnull_n (pc := 44) dX11_term_44 ?_
          refine sn_iconst (pc := 47) (v := (-1)) dX11_term_47 (by decide) ?_
          exact sn_iret (pc := 48) dX11_term_48 rfl
        · refine sn_onS ?_
          refine sn_ifnonnull_s (pc := 44) (tgt := 49) dX11_term_44 (by decide) ?_
          refine sn_aload_n (pc := 49) (j := 2) dX11_term_49 rfl rfl ?_
          refine sn_gR (pc := 50) dX11_term_50 flX11_12 rfl (fun v11 => ?_)
          rcases v11 with _ | a13
          · exact sn_no
          refine sn_nn ?_
          refine sn_gI (pc := 53) dX11_term_53 flX11_118 rfl (fun v12 => ?_)
          refine sn_callS (pc := 56) dX11_term_56 iX11_weekOf wt4_92 wt4_91 (mX11_weekOf v12) (by decide) rfl rfl (Nat.le_of_ble_eq_true rfl) (fun v14 => ?_)
          refine sn_istore (pc := 59) (i := 9) (lv' := [(9, .int v14), (8, .ref (E.1 + a10)), (7, .ref (E.1 + a9)), (0, .ref (E.1 + a0)), (1, .int x1), (2, .int x2), (3, .int x3), (4, .int x4), (5, .int x5), (6, .int x6)]) dX11_term_59 (by decide) rfl ?_
          refine sn_aload_n (pc := 61) (j := 3) dX11_term_61 rfl rfl ?_
          refine sn_gR (pc := 62) dX11_term_62 flX11_55 rfl (fun v15 => ?_)
          refine sn_aload (pc := 65) (j := 2) dX11_term_65 rfl ?_
          refine sn_aload (pc := 67) (j := 1) dX11_term_67 rfl ?_
          refine sn_iload (pc := 69) (j := 0) dX11_term_69 rfl ?_
          refine sn_iconst (pc := 71) (v := 0) dX11_term_71 (by decide) ?_
          refine sn_callS (pc := 72) dX11_term_72 iX11_askFor wt4_95 wt4_94 (mX11_askFor v15 (some a9) (some a10) v14 0) (by decide) rfl rfl (Nat.le_of_ble_eq_true rfl) (fun v16 => ?_)
          refine sn_iload_n (pc := 75) (j := 4) dX11_term_75 rfl rfl ?_
          refine sn_if_eq (pc := 76) (tgt := 84) dX11_term_76 (by decide) ?_ ?_
          · exact sn_sub (lv' := [(0, .ref (E.1 + a0)), (1, .int x1), (2, .int x2), (5, .int x5), (6, .int x6), (9, .int v14)]) [3, 4, 5, 8, 9, 0] rfl (sfX11_term_84  a0 x1 x2 x5 x6 v14)
          · refine sn_iload_n (pc := 79) (j := 4) dX11_term_79 rfl rfl ?_
            refine sn_iconst (pc := 80) (v := 1) dX11_term_80 (by decide) ?_
            refine sn_icmp_ne (pc := 81) (tgt := 118) dX11_term_81 (by decide) ?_ ?_
            · exact sn_sub (lv' := [(0, .ref (E.1 + a0)), (1, .int x1), (2, .int x2), (9, .int v14)]) [3, 4, 5, 0] rfl (sfX11_term_118  a0 x1 x2 v14)
            · exact sn_sub (lv' := [(0, .ref (E.1 + a0)), (1, .int x1), (2, .int x2), (5, .int x5), (6, .int x6), (9, .int v14)]) [3, 4, 5, 8, 9, 0] rfl (sfX11_term_84  a0 x1 x2 x5 x6 v14)
theorem iX11_term : MI yX11_term cX11_term 10 (some .int) 6 := ⟨wt1_1, wt4_90, by decide +kernel, by decide⟩
-- NeedleHomes out(III)I
theorem dX11_out_0 : decode cX11_out 0 = .ok (.aload_n 0, 1) := by decide +kernel
theorem dX11_out_1 : decode cX11_out 1 = .ok (.getfield 12, 3) := by decide +kernel
theorem dX11_out_4 : decode cX11_out 4 = .ok (.getfield 225, 3) := by decide +kernel
theorem dX11_out_7 : decode cX11_out 7 = .ok (.bipush 60, 2) := by decide +kernel
theorem dX11_out_9 : decode cX11_out 9 = .ok (.if_icmp .ge 32, 3) := by decide +kernel
theorem dX11_out_12 : decode cX11_out 12 = .ok (.iload_n 1, 1) := by decide +kernel
theorem dX11_out_13 : decode cX11_out 13 = .ok (.invokestatic 110, 3) := by decide +kernel
theorem dX11_out_16 : decode cX11_out 16 = .ok (.ifCond .eq 25, 3) := by decide +kernel
theorem dX11_out_19 : decode cX11_out 19 = .ok (.aload_n 0, 1) := by decide +kernel
theorem dX11_out_20 : decode cX11_out 20 = .ok (.getfield 12, 3) := by decide +kernel
theorem dX11_out_23 : decode cX11_out 23 = .ok (.iload_n 2, 1) := by decide +kernel
theorem dX11_out_24 : decode cX11_out 24 = .ok (.invokevirtual 131, 3) := by decide +kernel
theorem dX11_out_27 : decode cX11_out 27 = .ok (.ifnull 14, 3) := by decide +kernel
theorem dX11_out_30 : decode cX11_out 30 = .ok (.aload_n 0, 1) := by decide +kernel
theorem dX11_out_31 : decode cX11_out 31 = .ok (.getfield 12, 3) := by decide +kernel
theorem dX11_out_34 : decode cX11_out 34 = .ok (.iload_n 3, 1) := by decide +kernel
theorem dX11_out_35 : decode cX11_out 35 = .ok (.invokevirtual 179, 3) := by decide +kernel
theorem dX11_out_38 : decode cX11_out 38 = .ok (.ifnonnull 5, 3) := by decide +kernel
theorem dX11_out_41 : decode cX11_out 41 = .ok (.iconst (-1), 1) := by decide +kernel
theorem dX11_out_42 : decode cX11_out 42 = .ok (.ireturn, 1) := by decide +kernel
theorem dX11_out_43 : decode cX11_out 43 = .ok (.aload_n 0, 1) := by decide +kernel
theorem dX11_out_44 : decode cX11_out 44 = .ok (.getfield 12, 3) := by decide +kernel
theorem dX11_out_47 : decode cX11_out 47 = .ok (.new 228, 3) := by decide +kernel
theorem dX11_out_50 : decode cX11_out 50 = .ok (.dup, 1) := by decide +kernel
theorem dX11_out_51 : decode cX11_out 51 = .ok (.iload_n 1, 1) := by decide +kernel
theorem dX11_out_52 : decode cX11_out 52 = .ok (.iload_n 2, 1) := by decide +kernel
theorem dX11_out_53 : decode cX11_out 53 = .ok (.iload_n 3, 1) := by decide +kernel
theorem dX11_out_54 : decode cX11_out 54 = .ok (.aload_n 0, 1) := by decide +kernel
theorem dX11_out_55 : decode cX11_out 55 = .ok (.getfield 12, 3) := by decide +kernel
theorem dX11_out_58 : decode cX11_out 58 = .ok (.getfield 118, 3) := by decide +kernel
theorem dX11_out_61 : decode cX11_out 61 = .ok (.invokespecial 230, 3) := by decide +kernel
theorem dX11_out_64 : decode cX11_out 64 = .ok (.invokevirtual 233, 3) := by decide +kernel
theorem dX11_out_67 : decode cX11_out 67 = .ok (.ireturn, 1) := by decide +kernel
abbrev dpX11_out : Nat := 2
def fX11_out (a0 : Nat) (x1 : Int32) (x2 : Int32) (x3 : Int32) : St → Option (Int32 × St) :=
 gR 12 a0 0 fun v1 =>
 nn v1 fun a3 =>
 gI 11 a3 12 fun v2 =>
 br (60 ≤ v2) (rt (-1))
 (cl (fX11_isDealer x1) fun v4 =>
 br ((bi v4) = 0) (rt (-1))
 (gR 12 a0 0 fun v5 =>
 nn v5 fun a6 =>
 ck 11 a6 <| cl (fX10_patternAt a6 x2) fun v7 =>
 on v7 (rt (-1))
 fun a8 => gR 12 a0 0 fun v9 =>
 nn v9 fun a10 =>
 ck 11 a10 <| cl (fX10_handAt a10 x3) fun v11 =>
 on v11 (rt (-1))
 fun a12 => gR 12 a0 0 fun v13 =>
 nO 8 12 fun a14 =>
 gR 12 a0 0 fun v15 =>
 nn v15 fun a17 =>
 gI 11 a17 4 fun v16 =>
 cl (fX7_init a14 x1 x2 x3 v16) fun v18 =>
 nn v13 fun a19 =>
 ck 11 a19 <| cl (fX10_addPiece a19 (some a14)) fun v20 =>
 rt v20))
set_option maxHeartbeats 4000000 in
set_option maxRecDepth 100000 in
theorem mX11_out {E : Ev} {l : Launch} (a0 : Nat) (x1 : Int32) (x2 : Int32) (x3 : Int32) : MF E l dpX11_out yX11_out cX11_out 4 (some .int) rvI [.ref (E.1 + a0), .int x1, .int x2, .int x3] (fX11_out a0 x1 x2 x3) := by
  refine MF.of (lv := [(0, .ref (E.1 + a0)), (1, .int x1), (2, .int x2), (3, .int x3)]) (by decide) (Nat.le_of_ble_eq_true rfl) rfl ?_
  unfold fX11_out
  refine sn_aload_n (pc := 0) (j := 0) dX11_out_0 rfl rfl ?_
  refine sn_gR (pc := 1) dX11_out_1 flX11_12 rfl (fun v1 => ?_)
  rcases v1 with _ | a3
  · exact sn_no
  refine sn_nn ?_
  refine sn_gI (pc := 4) dX11_out_4 flX11_225 rfl (fun v2 => ?_)
  refine sn_bipush (pc := 7) (v := 60) dX11_out_7 (by decide) ?_
  refine sn_icmp_ge (pc := 9) (tgt := 41) dX11_out_9 (by decide) ?_ ?_
  · refine sn_iconst (pc := 41) (v := (-1)) dX11_out_41 (by decide) ?_
    exact sn_iret (pc := 42) dX11_out_42 rfl
  · refine sn_iload_n (pc := 12) (j := 1) dX11_out_12 rfl rfl ?_
    refine sn_callS (pc := 13) dX11_out_13 iX11_isDealer wt3_17 wt3_16 (mX11_isDealer x1) (by decide) rfl rfl (Nat.le_of_ble_eq_true rfl) (fun v4 => ?_)
    refine sn_if_eq (pc := 16) (tgt := 41) dX11_out_16 (by decide) ?_ ?_
    · refine sn_iconst (pc := 41) (v := (-1)) dX11_out_41 (by decide) ?_
      exact sn_iret (pc := 42) dX11_out_42 rfl
    · refine sn_aload_n (pc := 19) (j := 0) dX11_out_19 rfl rfl ?_
      refine sn_gR (pc := 20) dX11_out_20 flX11_12 rfl (fun v5 => ?_)
      refine sn_iload_n (pc := 23) (j := 2) dX11_out_23 rfl rfl ?_
      rcases v5 with _ | a6
      · exact sn_no
      refine sn_nn ?_
      refine sn_callV (ci := 10) (pc := 24) dX11_out_24 iX10_patternAt wt3_193 wt3_194 wt3_192 ⟨_, rfl, rfl⟩ (by decide) (mX10_patternAt a6 x2) (by decide) rfl rfl (Nat.le_of_ble_eq_true rfl) (fun v7 => ?_)
      rcases v7 with _ | a8
      · refine sn_onN ?_
        refine sn_ifnull_n (pc := 27) (tgt := 41) dX11_out_27 (by decide) ?_
        refine sn_iconst (pc := 41) (v := (-1)) dX11_out_41 (by decide) ?_
        exact sn_iret (pc := 42) dX11_out_42 rfl
      · refine sn_onS ?_
        refine sn_ifnull_s (pc := 27) dX11_out_27 ?_
        refine sn_aload_n (pc := 30) (j := 0) dX11_out_30 rfl rfl ?_
        refine sn_gR (pc := 31) dX11_out_31 flX11_12 rfl (fun v9 => ?_)
        refine sn_iload_n (pc := 34) (j := 3) dX11_out_34 rfl rfl ?_
        rcases v9 with _ | a10
        · exact sn_no
        refine sn_nn ?_
        refine sn_callV (ci := 10) (pc := 35) dX11_out_35 iX10_handAt wt4_54 wt4_55 wt4_53 ⟨_, rfl, rfl⟩ (by decide) (mX10_handAt a10 x3) (by decide) rfl rfl (Nat.le_of_ble_eq_true rfl) (fun v11 => ?_)
        rcases v11 with _ | a12
        · refine sn_onN ?_
          refine sn_ifnonnull_n (pc := 38) dX11_out_38 ?_
          refine sn_iconst (pc := 41) (v := (-1)) dX11_out_41 (by decide) ?_
          exact sn_iret (pc := 42) dX11_out_42 rfl
        · refine sn_onS ?_
          refine sn_ifnonnull_s (pc := 38) (tgt := 43) dX11_out_38 (by decide) ?_
          refine sn_aload_n (pc := 43) (j := 0) dX11_out_43 rfl rfl ?_
          refine sn_gR (pc := 44) dX11_out_44 flX11_12 rfl (fun v13 => ?_)
          refine sn_new (pc := 47) dX11_out_47 ci_X7 wt4_130 (fun a14 => ?_)
          refine sn_dup (pc := 50) dX11_out_50 rfl ?_
          refine sn_iload_n (pc := 51) (j := 1) dX11_out_51 rfl rfl ?_
          refine sn_iload_n (pc := 52) (j := 2) dX11_out_52 rfl rfl ?_
          refine sn_iload_n (pc := 53) (j := 3) dX11_out_53 rfl rfl ?_
          refine sn_aload_n (pc := 54) (j := 0) dX11_out_54 rfl rfl ?_
          refine sn_gR (pc := 55) dX11_out_55 flX11_12 rfl (fun v15 => ?_)
          rcases v15 with _ | a17
          · exact sn_no
          refine sn_nn ?_
          refine sn_gI (pc := 58) dX11_out_58 flX11_118 rfl (fun v16 => ?_)
          refine sn_callI (pc := 61) dX11_out_61 iX7_init rfl rfl wt4_133 wt4_132 (mX7_init a14 x1 x2 x3 v16) (by decide) rfl rfl (by simp [rf_some, rf_cat, cat_int, cat_long, cat_ref, rvV, rvI, rvZ, rvR, rvJ]) (fun v18 => ?_)
          rcases v13 with _ | a19
          · exact sn_no
          refine sn_nn ?_
          refine sn_callV (ci := 10) (pc := 64) dX11_out_64 iX10_addPiece wt4_197 wt4_198 wt4_196 ⟨_, rfl, rfl⟩ (by decide) (mX10_addPiece a19 (some a14)) (by decide) rfl rfl (Nat.le_of_ble_eq_true rfl) (fun v20 => ?_)
          exact sn_iret (pc := 67) dX11_out_67 rfl
theorem iX11_out : MI yX11_out cX11_out 4 (some .int) 3 := ⟨wt1_1, wt4_129, by decide +kernel, by decide⟩
