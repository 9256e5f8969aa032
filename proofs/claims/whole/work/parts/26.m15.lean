-- NeedleHomesModel term(IIIIII)I
theorem dX12_term_0 : decode cX12_term 0 = .ok (.iload_n 1, 1) := by decide +kernel
theorem dX12_term_1 : decode cX12_term 1 = .ok (.iconst 0, 1) := by decide +kernel
theorem dX12_term_2 : decode cX12_term 2 = .ok (.iconst 5, 1) := by decide +kernel
theorem dX12_term_3 : decode cX12_term 3 = .ok (.invokestatic 51, 3) := by decide +kernel
theorem dX12_term_6 : decode cX12_term 6 = .ok (.ifCond .eq 31, 3) := by decide +kernel
theorem dX12_term_9 : decode cX12_term 9 = .ok (.iload_n 2, 1) := by decide +kernel
theorem dX12_term_10 : decode cX12_term 10 = .ok (.iconst 0, 1) := by decide +kernel
theorem dX12_term_11 : decode cX12_term 11 = .ok (.iconst 2, 1) := by decide +kernel
theorem dX12_term_12 : decode cX12_term 12 = .ok (.invokestatic 51, 3) := by decide +kernel
theorem dX12_term_15 : decode cX12_term 15 = .ok (.ifCond .eq 22, 3) := by decide +kernel
theorem dX12_term_18 : decode cX12_term 18 = .ok (.aload_n 0, 1) := by decide +kernel
theorem dX12_term_19 : decode cX12_term 19 = .ok (.iload_n 3, 1) := by decide +kernel
theorem dX12_term_20 : decode cX12_term 20 = .ok (.iconst 0, 1) := by decide +kernel
theorem dX12_term_21 : decode cX12_term 21 = .ok (.invokevirtual 178, 3) := by decide +kernel
theorem dX12_term_24 : decode cX12_term 24 = .ok (.ifCond .eq 13, 3) := by decide +kernel
theorem dX12_term_27 : decode cX12_term 27 = .ok (.aload_n 0, 1) := by decide +kernel
theorem dX12_term_28 : decode cX12_term 28 = .ok (.iload 4, 2) := by decide +kernel
theorem dX12_term_30 : decode cX12_term 30 = .ok (.iconst 2, 1) := by decide +kernel
theorem dX12_term_31 : decode cX12_term 31 = .ok (.invokevirtual 178, 3) := by decide +kernel
theorem dX12_term_34 : decode cX12_term 34 = .ok (.ifCond .ne 5, 3) := by decide +kernel
theorem dX12_term_37 : decode cX12_term 37 = .ok (.iconst (-1), 1) := by decide +kernel
theorem dX12_term_38 : decode cX12_term 38 = .ok (.ireturn, 1) := by decide +kernel
theorem dX12_term_39 : decode cX12_term 39 = .ok (.iload_n 1, 1) := by decide +kernel
theorem dX12_term_40 : decode cX12_term 40 = .ok (.iconst 2, 1) := by decide +kernel
theorem dX12_term_41 : decode cX12_term 41 = .ok (.if_icmp .ge 25, 3) := by decide +kernel
theorem dX12_term_44 : decode cX12_term 44 = .ok (.iload 5, 2) := by decide +kernel
theorem dX12_term_46 : decode cX12_term 46 = .ok (.iconst 0, 1) := by decide +kernel
theorem dX12_term_47 : decode cX12_term 47 = .ok (.iconst 5, 1) := by decide +kernel
theorem dX12_term_48 : decode cX12_term 48 = .ok (.invokestatic 51, 3) := by decide +kernel
theorem dX12_term_51 : decode cX12_term 51 = .ok (.ifCond .eq 13, 3) := by decide +kernel
theorem dX12_term_54 : decode cX12_term 54 = .ok (.iload 6, 2) := by decide +kernel
theorem dX12_term_56 : decode cX12_term 56 = .ok (.iconst 0, 1) := by decide +kernel
theorem dX12_term_57 : decode cX12_term 57 = .ok (.iconst 3, 1) := by decide +kernel
theorem dX12_term_58 : decode cX12_term 58 = .ok (.invokestatic 51, 3) := by decide +kernel
theorem dX12_term_61 : decode cX12_term 61 = .ok (.ifCond .ne 5, 3) := by decide +kernel
theorem dX12_term_64 : decode cX12_term 64 = .ok (.iconst (-1), 1) := by decide +kernel
theorem dX12_term_65 : decode cX12_term 65 = .ok (.ireturn, 1) := by decide +kernel
theorem dX12_term_66 : decode cX12_term 66 = .ok (.aload_n 0, 1) := by decide +kernel
theorem dX12_term_67 : decode cX12_term 67 = .ok (.iload_n 3, 1) := by decide +kernel
theorem dX12_term_68 : decode cX12_term 68 = .ok (.iload 4, 2) := by decide +kernel
theorem dX12_term_70 : decode cX12_term 70 = .ok (.aload_n 0, 1) := by decide +kernel
theorem dX12_term_71 : decode cX12_term 71 = .ok (.invokevirtual 244, 3) := by decide +kernel
theorem dX12_term_74 : decode cX12_term 74 = .ok (.iconst 0, 1) := by decide +kernel
theorem dX12_term_75 : decode cX12_term 75 = .ok (.invokevirtual 247, 3) := by decide +kernel
theorem dX12_term_78 : decode cX12_term 78 = .ok (.aload_n 0, 1) := by decide +kernel
theorem dX12_term_79 : decode cX12_term 79 = .ok (.aload_n 0, 1) := by decide +kernel
theorem dX12_term_80 : decode cX12_term 80 = .ok (.iload_n 2, 1) := by decide +kernel
theorem dX12_term_81 : decode cX12_term 81 = .ok (.aload_n 0, 1) := by decide +kernel
theorem dX12_term_82 : decode cX12_term 82 = .ok (.invokevirtual 244, 3) := by decide +kernel
theorem dX12_term_85 : decode cX12_term 85 = .ok (.aload_n 0, 1) := by decide +kernel
theorem dX12_term_86 : decode cX12_term 86 = .ok (.getfield 7, 3) := by decide +kernel
theorem dX12_term_89 : decode cX12_term 89 = .ok (.iconst 4, 1) := by decide +kernel
theorem dX12_term_90 : decode cX12_term 90 = .ok (.iaload, 1) := by decide +kernel
theorem dX12_term_91 : decode cX12_term 91 = .ok (.invokevirtual 201, 3) := by decide +kernel
theorem dX12_term_94 : decode cX12_term 94 = .ok (.iload_n 1, 1) := by decide +kernel
theorem dX12_term_95 : decode cX12_term 95 = .ok (.iload 5, 2) := by decide +kernel
theorem dX12_term_97 : decode cX12_term 97 = .ok (.iload 6, 2) := by decide +kernel
theorem dX12_term_99 : decode cX12_term 99 = .ok (.invokevirtual 251, 3) := by decide +kernel
theorem dX12_term_102 : decode cX12_term 102 = .ok (.ireturn, 1) := by decide +kernel
abbrev dpX12_term : Nat := 3
def fX12_term_66 (a0 : Nat) (x1 : Int32) (x2 : Int32) (x3 : Int32) (x4 : Int32) (x5 : Int32) (x6 : Int32) : St → Option (Int32 × St) :=
 ck 13 a0 <| cl (fX12_week a0) fun v1001 =>
 ck 13 a0 <| cl (fX12_asks a0 x3 x4 v1001 0) fun v1002 =>
 ck 13 a0 <| cl (fX12_week a0) fun v1003 =>
 gR 13 a0 0 fun v1004 =>
 nn v1004 fun a1006 =>
 aI 15 a1006 4 fun v1005 =>
 ck 13 a0 <| cl (fX12_listOf a0 x2 v1003 v1005) fun v1007 =>
 ck 13 a0 <| cl (fX12_termOf a0 v1007 x1 x5 x6) fun v1008 =>
 rt v1008
set_option maxHeartbeats 4000000 in
set_option maxRecDepth 100000 in
theorem sfX12_term_66 {E : Ev} {l : Launch} (a0 : Nat) (x1 : Int32) (x2 : Int32) (x3 : Int32) (x4 : Int32) (x5 : Int32) (x6 : Int32) : Snd E l (dpX12_term, RX12, cX12_term, 7, (some .int), "term") rvI 66 [(0, .ref (E.1 + a0)), (1, .int x1), (2, .int x2), (3, .int x3), (4, .int x4), (5, .int x5), (6, .int x6)] [] (fX12_term_66 a0 x1 x2 x3 x4 x5 x6) := by
  unfold fX12_term_66
  refine sn_aload_n (pc := 66) (j := 0) dX12_term_66 rfl rfl ?_
  refine sn_iload_n (pc := 67) (j := 3) dX12_term_67 rfl rfl ?_
  refine sn_iload (pc := 68) (j := 4) dX12_term_68 rfl ?_
  refine sn_aload_n (pc := 70) (j := 0) dX12_term_70 rfl rfl ?_
  refine sn_callV (ci := 12) (pc := 71) dX12_term_71 iX12_week wt7_42 ws_60 wt7_40 ⟨_, rfl, rfl⟩ (by decide) (mX12_week a0) (by decide) rfl rfl (Nat.le_of_ble_eq_true rfl) (fun v1001 => ?_)
  refine sn_iconst (pc := 74) (v := 0) dX12_term_74 (by decide) ?_
  refine sn_callV (ci := 12) (pc := 75) dX12_term_75 iX12_asks wt7_46 ws_61 wt7_44 ⟨_, rfl, rfl⟩ (by decide) (mX12_asks a0 x3 x4 v1001 0) (by decide) rfl rfl (Nat.le_of_ble_eq_true rfl) (fun v1002 => ?_)
  refine sn_aload_n (pc := 78) (j := 0) dX12_term_78 rfl rfl ?_
  refine sn_aload_n (pc := 79) (j := 0) dX12_term_79 rfl rfl ?_
  refine sn_iload_n (pc := 80) (j := 2) dX12_term_80 rfl rfl ?_
  refine sn_aload_n (pc := 81) (j := 0) dX12_term_81 rfl rfl ?_
  refine sn_callV (ci := 12) (pc := 82) dX12_term_82 iX12_week wt7_42 ws_60 wt7_40 ⟨_, rfl, rfl⟩ (by decide) (mX12_week a0) (by decide) rfl rfl (Nat.le_of_ble_eq_true rfl) (fun v1003 => ?_)
  refine sn_aload_n (pc := 85) (j := 0) dX12_term_85 rfl rfl ?_
  refine sn_gR (pc := 86) dX12_term_86 flX12_7 rfl (fun v1004 => ?_)
  refine sn_iconst (pc := 89) (v := 4) dX12_term_89 (by decide) ?_
  rcases v1004 with _ | a1006
  · exact sn_no
  refine sn_nn ?_
  refine sn_iald (pc := 90) dX12_term_90 (fun v1005 => ?_)
  refine sn_callV (ci := 12) (pc := 91) dX12_term_91 iX12_listOf wt7_30 ws_59 wt7_28 ⟨_, rfl, rfl⟩ (by decide) (mX12_listOf a0 x2 v1003 v1005) (by decide) rfl rfl (Nat.le_of_ble_eq_true rfl) (fun v1007 => ?_)
  refine sn_iload_n (pc := 94) (j := 1) dX12_term_94 rfl rfl ?_
  refine sn_iload (pc := 95) (j := 5) dX12_term_95 rfl ?_
  refine sn_iload (pc := 97) (j := 6) dX12_term_97 rfl ?_
  refine sn_callV (ci := 12) (pc := 99) dX12_term_99 iX12_termOf wt7_58 ws_64 wt7_56 ⟨_, rfl, rfl⟩ (by decide) (mX12_termOf a0 v1007 x1 x5 x6) (by decide) rfl rfl (Nat.le_of_ble_eq_true rfl) (fun v1008 => ?_)
  exact sn_iret (pc := 102) dX12_term_102 rfl
def fX12_term (a0 : Nat) (x1 : Int32) (x2 : Int32) (x3 : Int32) (x4 : Int32) (x5 : Int32) (x6 : Int32) : St → Option (Int32 × St) :=
 cl (fX12_isIn x1 0 5) fun v1 =>
 br ((bi v1) = 0) (rt (-1))
 (cl (fX12_isIn x2 0 2) fun v2 =>
 br ((bi v2) = 0) (rt (-1))
 (ck 13 a0 <| cl (fX12_isOf a0 x3 0) fun v3 =>
 br ((bi v3) = 0) (rt (-1))
 (ck 13 a0 <| cl (fX12_isOf a0 x4 2) fun v4 =>
 br ((bi v4) = 0) (rt (-1))
 (br (2 ≤ x1) (fX12_term_66  a0 x1 x2 x3 x4 x5 x6)
 (cl (fX12_isIn x5 0 5) fun v5 =>
 br ((bi v5) = 0) (rt (-1))
 (cl (fX12_isIn x6 0 3) fun v6 =>
 br ((bi v6) = 0) (rt (-1))
 (fX12_term_66  a0 x1 x2 x3 x4 x5 x6)))))))
set_option maxHeartbeats 4000000 in
set_option maxRecDepth 100000 in
theorem mX12_term {E : Ev} {l : Launch} (a0 : Nat) (x1 : Int32) (x2 : Int32) (x3 : Int32) (x4 : Int32) (x5 : Int32) (x6 : Int32) : MF E l dpX12_term yX12_term cX12_term 7 (some .int) rvI [.ref (E.1 + a0), .int x1, .int x2, .int x3, .int x4, .int x5, .int x6] (fX12_term a0 x1 x2 x3 x4 x5 x6) := by
  refine MF.of (lv := [(0, .ref (E.1 + a0)), (1, .int x1), (2, .int x2), (3, .int x3), (4, .int x4), (5, .int x5), (6, .int x6)]) (by decide) (Nat.le_of_ble_eq_true rfl) rfl ?_
  unfold fX12_term
  refine sn_iload_n (pc := 0) (j := 1) dX12_term_0 rfl rfl ?_
  refine sn_iconst (pc := 1) (v := 0) dX12_term_1 (by decide) ?_
  refine sn_iconst (pc := 2) (v := 5) dX12_term_2 (by decide) ?_
  refine sn_callS (pc := 3) dX12_term_3 iX12_isIn wt6_138 wt6_137 (mX12_isIn x1 0 5) (by decide) rfl rfl (Nat.le_of_ble_eq_true rfl) (fun v1 => ?_)
  refine sn_if_eq (pc := 6) (tgt := 37) dX12_term_6 (by decide) ?_ ?_
  · refine sn_iconst (pc := 37) (v := (-1)) dX12_term_37 (by decide) ?_
    exact sn_iret (pc := 38) dX12_term_38 rfl
  · refine sn_iload_n (pc := 9) (j := 2) dX12_term_9 rfl rfl ?_
    refine sn_iconst (pc := 10) (v := 0) dX12_term_10 (by decide) ?_
    refine sn_iconst (pc := 11) (v := 2) dX12_term_11 (by decide) ?_
    refine sn_callS (pc := 12) dX12_term_12 iX12_isIn wt6_138 wt6_137 (mX12_isIn x2 0 2) (by decide) rfl rfl (Nat.le_of_ble_eq_true rfl) (fun v2 => ?_)
    refine sn_if_eq (pc := 15) (tgt := 37) dX12_term_15 (by decide) ?_ ?_
    · refine sn_iconst (pc := 37) (v := (-1)) dX12_term_37 (by decide) ?_
      exact sn_iret (pc := 38) dX12_term_38 rfl
    · refine sn_aload_n (pc := 18) (j := 0) dX12_term_18 rfl rfl ?_
      refine sn_iload_n (pc := 19) (j := 3) dX12_term_19 rfl rfl ?_
      refine sn_iconst (pc := 20) (v := 0) dX12_term_20 (by decide) ?_
      refine sn_callV (ci := 12) (pc := 21) dX12_term_21 iX12_isOf wt6_235 ws_54 wt6_233 ⟨_, rfl, rfl⟩ (by decide) (mX12_isOf a0 x3 0) (by decide) rfl rfl (Nat.le_of_ble_eq_true rfl) (fun v3 => ?_)
      refine sn_if_eq (pc := 24) (tgt := 37) dX12_term_24 (by decide) ?_ ?_
      · refine sn_iconst (pc := 37) (v := (-1)) dX12_term_37 (by decide) ?_
        exact sn_iret (pc := 38) dX12_term_38 rfl
      · refine sn_aload_n (pc := 27) (j := 0) dX12_term_27 rfl rfl ?_
        refine sn_iload (pc := 28) (j := 4) dX12_term_28 rfl ?_
        refine sn_iconst (pc := 30) (v := 2) dX12_term_30 (by decide) ?_
        refine sn_callV (ci := 12) (pc := 31) dX12_term_31 iX12_isOf wt6_235 ws_54 wt6_233 ⟨_, rfl, rfl⟩ (by decide) (mX12_isOf a0 x4 2) (by decide) rfl rfl (Nat.le_of_ble_eq_true rfl) (fun v4 => ?_)
        refine sn_if_ne (pc := 34) (tgt := 39) dX12_term_34 (by decide) ?_ ?_
        · refine sn_iload_n (pc := 39) (j := 1) dX12_term_39 rfl rfl ?_
          refine sn_iconst (pc := 40) (v := 2) dX12_term_40 (by decide) ?_
          refine sn_icmp_ge (pc := 41) (tgt := 66) dX12_term_41 (by decide) ?_ ?_
          · exact sn_sub (lv' := [(0, .ref (E.1 + a0)), (1, .int x1), (2, .int x2), (3, .int x3), (4, .int x4), (5, .int x5), (6, .int x6)]) [0, 1, 2, 3, 4, 5, 6] rfl (sfX12_term_66  a0 x1 x2 x3 x4 x5 x6)
          · refine sn_iload (pc := 44) (j := 5) dX12_term_44 rfl ?_
            refine sn_iconst (pc := 46) (v := 0) dX12_term_46 (by decide) ?_
            refine sn_iconst (pc := 47) (v := 5) dX12_term_47 (by decide) ?_
            refine sn_callS (pc := 48) dX12_term_48 iX12_isIn wt6_138 wt6_137 (mX12_isIn x5 0 5) (by decide) rfl rfl (Nat.le_of_ble_eq_true rfl) (fun v5 => ?_)
            refine sn_if_eq (pc := 51) (tgt := 64) dX12_term_51 (by decide) ?_ ?_
            · refine sn_iconst (pc := 64) (v := (-1)) dX12_term_64 (by decide) ?_
              exact sn_iret (pc := 65) dX12_term_65 rfl
            · refine sn_iload (pc := 54) (j := 6) dX12_term_54 rfl ?_
              refine sn_iconst (pc := 56) (v := 0) dX12_term_56 (by decide) ?_
              refine sn_iconst (pc := 57) (v := 3) dX12_term_57 (by decide) ?_
              refine sn_callS (pc := 58) dX12_term_58 iX12_isIn wt6_138 wt6_137 (mX12_isIn x6 0 3) (by decide) rfl rfl (Nat.le_of_ble_eq_true rfl) (fun v6 => ?_)
              refine sn_if_ne (pc := 61) (tgt := 66) dX12_term_61 (by decide) ?_ ?_
              · exact sn_sub (lv' := [(0, .ref (E.1 + a0)), (1, .int x1), (2, .int x2), (3, .int x3), (4, .int x4), (5, .int x5), (6, .int x6)]) [0, 1, 2, 3, 4, 5, 6] rfl (sfX12_term_66  a0 x1 x2 x3 x4 x5 x6)
              · refine sn_iconst (pc := 64) (v := (-1)) dX12_term_64 (by decide) ?_
                exact sn_iret (pc := 65) dX12_term_65 rfl
        · refine sn_iconst (pc := 37) (v := (-1)) dX12_term_37 (by decide) ?_
          exact sn_iret (pc := 38) dX12_term_38 rfl
theorem iX12_term : MI yX12_term cX12_term 7 (some .int) 6 := ⟨wt1_10, wt7_39, by decide +kernel, by decide⟩
-- NeedleHomesModel hand(III)I
theorem dX12_hand_0 : decode cX12_hand 0 = .ok (.aload_n 0, 1) := by decide +kernel
theorem dX12_hand_1 : decode cX12_hand 1 = .ok (.getfield 7, 3) := by decide +kernel
theorem dX12_hand_4 : decode cX12_hand 4 = .ok (.iconst 2, 1) := by decide +kernel
theorem dX12_hand_5 : decode cX12_hand 5 = .ok (.iaload, 1) := by decide +kernel
theorem dX12_hand_6 : decode cX12_hand 6 = .ok (.bipush 12, 2) := by decide +kernel
theorem dX12_hand_8 : decode cX12_hand 8 = .ok (.if_icmp .eq 33, 3) := by decide +kernel
theorem dX12_hand_11 : decode cX12_hand 11 = .ok (.iload_n 1, 1) := by decide +kernel
theorem dX12_hand_12 : decode cX12_hand 12 = .ok (.iconst 1, 1) := by decide +kernel
theorem dX12_hand_13 : decode cX12_hand 13 = .ok (.sipush 200, 3) := by decide +kernel
theorem dX12_hand_16 : decode cX12_hand 16 = .ok (.invokestatic 51, 3) := by decide +kernel
theorem dX12_hand_19 : decode cX12_hand 19 = .ok (.ifCond .eq 22, 3) := by decide +kernel
theorem dX12_hand_22 : decode cX12_hand 22 = .ok (.iload_n 2, 1) := by decide +kernel
theorem dX12_hand_23 : decode cX12_hand 23 = .ok (.iconst 1, 1) := by decide +kernel
theorem dX12_hand_24 : decode cX12_hand 24 = .ok (.bipush 12, 2) := by decide +kernel
theorem dX12_hand_26 : decode cX12_hand 26 = .ok (.invokestatic 51, 3) := by decide +kernel
theorem dX12_hand_29 : decode cX12_hand 29 = .ok (.ifCond .eq 12, 3) := by decide +kernel
theorem dX12_hand_32 : decode cX12_hand 32 = .ok (.iload_n 3, 1) := by decide +kernel
theorem dX12_hand_33 : decode cX12_hand 33 = .ok (.iconst 0, 1) := by decide +kernel
theorem dX12_hand_34 : decode cX12_hand 34 = .ok (.iconst 2, 1) := by decide +kernel
theorem dX12_hand_35 : decode cX12_hand 35 = .ok (.invokestatic 51, 3) := by decide +kernel
theorem dX12_hand_38 : decode cX12_hand 38 = .ok (.ifCond .ne 5, 3) := by decide +kernel
theorem dX12_hand_41 : decode cX12_hand 41 = .ok (.iconst (-1), 1) := by decide +kernel
theorem dX12_hand_42 : decode cX12_hand 42 = .ok (.ireturn, 1) := by decide +kernel
theorem dX12_hand_43 : decode cX12_hand 43 = .ok (.sipush 3440, 3) := by decide +kernel
theorem dX12_hand_46 : decode cX12_hand 46 = .ok (.sipush 160, 3) := by decide +kernel
theorem dX12_hand_49 : decode cX12_hand 49 = .ok (.aload_n 0, 1) := by decide +kernel
theorem dX12_hand_50 : decode cX12_hand 50 = .ok (.getfield 7, 3) := by decide +kernel
theorem dX12_hand_53 : decode cX12_hand 53 = .ok (.iconst 2, 1) := by decide +kernel
theorem dX12_hand_54 : decode cX12_hand 54 = .ok (.iaload, 1) := by decide +kernel
theorem dX12_hand_55 : decode cX12_hand 55 = .ok (.imul, 1) := by decide +kernel
theorem dX12_hand_56 : decode cX12_hand 56 = .ok (.iadd, 1) := by decide +kernel
theorem dX12_hand_57 : decode cX12_hand 57 = .ok (.istore 4, 2) := by decide +kernel
theorem dX12_hand_59 : decode cX12_hand 59 = .ok (.iconst 0, 1) := by decide +kernel
theorem dX12_hand_60 : decode cX12_hand 60 = .ok (.istore 5, 2) := by decide +kernel
theorem dX12_hand_62 : decode cX12_hand 62 = .ok (.iload 5, 2) := by decide +kernel
theorem dX12_hand_64 : decode cX12_hand 64 = .ok (.sipush 160, 3) := by decide +kernel
theorem dX12_hand_67 : decode cX12_hand 67 = .ok (.if_icmp .ge 36, 3) := by decide +kernel
theorem dX12_hand_70 : decode cX12_hand 70 = .ok (.aload_n 0, 1) := by decide +kernel
theorem dX12_hand_71 : decode cX12_hand 71 = .ok (.getfield 7, 3) := by decide +kernel
theorem dX12_hand_74 : decode cX12_hand 74 = .ok (.iload 4, 2) := by decide +kernel
theorem dX12_hand_76 : decode cX12_hand 76 = .ok (.iload 5, 2) := by decide +kernel
theorem dX12_hand_78 : decode cX12_hand 78 = .ok (.iadd, 1) := by decide +kernel
theorem dX12_hand_79 : decode cX12_hand 79 = .ok (.iload 5, 2) := by decide +kernel
theorem dX12_hand_81 : decode cX12_hand 81 = .ok (.iconst 5, 1) := by decide +kernel
theorem dX12_hand_82 : decode cX12_hand 82 = .ok (.bipush 10, 2) := by decide +kernel
theorem dX12_hand_84 : decode cX12_hand 84 = .ok (.invokestatic 51, 3) := by decide +kernel
theorem dX12_hand_87 : decode cX12_hand 87 = .ok (.ifCond .eq 8, 3) := by decide +kernel
theorem dX12_hand_90 : decode cX12_hand 90 = .ok (.bipush 50, 2) := by decide +kernel
theorem dX12_hand_92 : decode cX12_hand 92 = .ok (.goto 4, 3) := by decide +kernel
theorem dX12_hand_95 : decode cX12_hand 95 = .ok (.iconst 0, 1) := by decide +kernel
theorem dX12_hand_96 : decode cX12_hand 96 = .ok (.iastore, 1) := by decide +kernel
theorem dX12_hand_97 : decode cX12_hand 97 = .ok (.iinc 5 1, 3) := by decide +kernel
theorem dX12_hand_100 : decode cX12_hand 100 = .ok (.goto (-38), 3) := by decide +kernel
theorem dX12_hand_103 : decode cX12_hand 103 = .ok (.aload_n 0, 1) := by decide +kernel
theorem dX12_hand_104 : decode cX12_hand 104 = .ok (.getfield 7, 3) := by decide +kernel
theorem dX12_hand_107 : decode cX12_hand 107 = .ok (.iload 4, 2) := by decide +kernel
theorem dX12_hand_109 : decode cX12_hand 109 = .ok (.iload_n 1, 1) := by decide +kernel
theorem dX12_hand_110 : decode cX12_hand 110 = .ok (.iastore, 1) := by decide +kernel
theorem dX12_hand_111 : decode cX12_hand 111 = .ok (.aload_n 0, 1) := by decide +kernel
theorem dX12_hand_112 : decode cX12_hand 112 = .ok (.getfield 7, 3) := by decide +kernel
theorem dX12_hand_115 : decode cX12_hand 115 = .ok (.iload 4, 2) := by decide +kernel
theorem dX12_hand_117 : decode cX12_hand 117 = .ok (.iconst 1, 1) := by decide +kernel
theorem dX12_hand_118 : decode cX12_hand 118 = .ok (.iadd, 1) := by decide +kernel
theorem dX12_hand_119 : decode cX12_hand 119 = .ok (.iload_n 2, 1) := by decide +kernel
theorem dX12_hand_120 : decode cX12_hand 120 = .ok (.iastore, 1) := by decide +kernel
theorem dX12_hand_121 : decode cX12_hand 121 = .ok (.aload_n 0, 1) := by decide +kernel
theorem dX12_hand_122 : decode cX12_hand 122 = .ok (.getfield 7, 3) := by decide +kernel
theorem dX12_hand_125 : decode cX12_hand 125 = .ok (.iload 4, 2) := by decide +kernel
theorem dX12_hand_127 : decode cX12_hand 127 = .ok (.iconst 2, 1) := by decide +kernel
theorem dX12_hand_128 : decode cX12_hand 128 = .ok (.iadd, 1) := by decide +kernel
theorem dX12_hand_129 : decode cX12_hand 129 = .ok (.iload_n 3, 1) := by decide +kernel
theorem dX12_hand_130 : decode cX12_hand 130 = .ok (.iastore, 1) := by decide +kernel
theorem dX12_hand_131 : decode cX12_hand 131 = .ok (.aload_n 0, 1) := by decide +kernel
theorem dX12_hand_132 : decode cX12_hand 132 = .ok (.getfield 7, 3) := by decide +kernel
theorem dX12_hand_135 : decode cX12_hand 135 = .ok (.iconst 2, 1) := by decide +kernel
theorem dX12_hand_136 : decode cX12_hand 136 = .ok (.dup2, 1) := by decide +kernel
theorem dX12_hand_137 : decode cX12_hand 137 = .ok (.iaload, 1) := by decide +kernel
theorem dX12_hand_138 : decode cX12_hand 138 = .ok (.iconst 1, 1) := by decide +kernel
theorem dX12_hand_139 : decode cX12_hand 139 = .ok (.iadd, 1) := by decide +kernel
theorem dX12_hand_140 : decode cX12_hand 140 = .ok (.iastore, 1) := by decide +kernel
theorem dX12_hand_141 : decode cX12_hand 141 = .ok (.aload_n 0, 1) := by decide +kernel
theorem dX12_hand_142 : decode cX12_hand 142 = .ok (.getfield 7, 3) := by decide +kernel
theorem dX12_hand_145 : decode cX12_hand 145 = .ok (.iconst 2, 1) := by decide +kernel
theorem dX12_hand_146 : decode cX12_hand 146 = .ok (.iaload, 1) := by decide +kernel
theorem dX12_hand_147 : decode cX12_hand 147 = .ok (.iconst 1, 1) := by decide +kernel
theorem dX12_hand_148 : decode cX12_hand 148 = .ok (.isub, 1) := by decide +kernel
theorem dX12_hand_149 : decode cX12_hand 149 = .ok (.ireturn, 1) := by decide +kernel
abbrev dpX12_hand : Nat := 1
def fX12_hand_96 (k62 : (Nat × Int32 × Int32 × Int32 × Int32 × Int32) → St → Option (Int32 × St)) (a0 : Nat) (x1 : Int32) (x2 : Int32) (x3 : Int32) (x4 : Int32) (x5 : Int32) (y0 : Int32) (y1 : Int32) (y2 : Option Nat) : St → Option (Int32 × St) :=
 nn y2 fun a2001 =>
 wI a2001 y1 y0 <|
 k62 (a0, x1, x2, x3, x4, (x5 + 1))
set_option maxHeartbeats 4000000 in
set_option maxRecDepth 100000 in
theorem sfX12_hand_96 {E : Ev} {l : Launch} (k62 : (Nat × Int32 × Int32 × Int32 × Int32 × Int32) → St → Option (Int32 × St)) (hk62 : ∀ p : Nat × Int32 × Int32 × Int32 × Int32 × Int32, Snd E l (dpX12_hand, RX12, cX12_hand, 6, (some .int), "hand") rvI 62 [(0, .ref (E.1 + p.1)), (1, .int p.2.1), (2, .int p.2.2.1), (3, .int p.2.2.2.1), (4, .int p.2.2.2.2.1), (5, .int p.2.2.2.2.2)] [] (k62 p)) (a0 : Nat) (x1 : Int32) (x2 : Int32) (x3 : Int32) (x4 : Int32) (x5 : Int32) (y0 : Int32) (y1 : Int32) (y2 : Option Nat) : Snd E l (dpX12_hand, RX12, cX12_hand, 6, (some .int), "hand") rvI 96 [(0, .ref (E.1 + a0)), (1, .int x1), (2, .int x2), (3, .int x3), (4, .int x4), (5, .int x5)] [.int y0, .int y1, rf E.1 y2] (fX12_hand_96 k62 a0 x1 x2 x3 x4 x5 y0 y1 y2) := by
  unfold fX12_hand_96
  rcases y2 with _ | a2001
  · exact sn_no
  refine sn_nn ?_
  refine sn_iast (pc := 96) dX12_hand_96 ?_
  refine sn_iinc (pc := 97) (v := x5 + 1) (lv' := [(5, .int (x5 + 1)), (0, .ref (E.1 + a0)), (1, .int x1), (2, .int x2), (3, .int x3), (4, .int x4)]) (j := 5) dX12_hand_97 rfl rfl (by decide) rfl ?_
  refine sn_goto (pc := 100) (tgt := 62) dX12_hand_100 (by decide) ?_
  exact sn_sub (lv' := [(0, .ref (E.1 + a0)), (1, .int x1), (2, .int x2), (3, .int x3), (4, .int x4), (5, .int (x5 + 1))]) [1, 2, 3, 4, 5, 0] rfl (hk62 (a0, x1, x2, x3, x4, (x5 + 1)))
def fX12_hand_62 (k62 : (Nat × Int32 × Int32 × Int32 × Int32 × Int32) → St → Option (Int32 × St)) (a0 : Nat) (x1 : Int32) (x2 : Int32) (x3 : Int32) (x4 : Int32) (x5 : Int32) : St → Option (Int32 × St) :=
 br (160 ≤ x5) (gR 13 a0 0 fun v1001 =>
 nn v1001 fun a1002 =>
 wI a1002 x4 x1 <|
 gR 13 a0 0 fun v1003 =>
 nn v1003 fun a1004 =>
 wI a1004 (x4 + 1) x2 <|
 gR 13 a0 0 fun v1005 =>
 nn v1005 fun a1006 =>
 wI a1006 (x4 + 2) x3 <|
 gR 13 a0 0 fun v1007 =>
 nn v1007 fun a1009 =>
 aI 15 a1009 2 fun v1008 =>
 wI a1009 2 (v1008 + 1) <|
 gR 13 a0 0 fun v1010 =>
 nn v1010 fun a1012 =>
 aI 15 a1012 2 fun v1011 =>
 rt (v1011 - 1))
 (gR 13 a0 0 fun v1013 =>
 cl (fX12_isIn x5 5 10) fun v1014 =>
 br ((bi v1014) = 0) (fX12_hand_96 k62 a0 x1 x2 x3 x4 x5 0 (x4 + x5) v1013)
 (fX12_hand_96 k62 a0 x1 x2 x3 x4 x5 50 (x4 + x5) v1013))
set_option maxHeartbeats 4000000 in
set_option maxRecDepth 100000 in
theorem sfX12_hand_62 {E : Ev} {l : Launch} (k62 : (Nat × Int32 × Int32 × Int32 × Int32 × Int32) → St → Option (Int32 × St)) (hk62 : ∀ p : Nat × Int32 × Int32 × Int32 × Int32 × Int32, Snd E l (dpX12_hand, RX12, cX12_hand, 6, (some .int), "hand") rvI 62 [(0, .ref (E.1 + p.1)), (1, .int p.2.1), (2, .int p.2.2.1), (3, .int p.2.2.2.1), (4, .int p.2.2.2.2.1), (5, .int p.2.2.2.2.2)] [] (k62 p)) (a0 : Nat) (x1 : Int32) (x2 : Int32) (x3 : Int32) (x4 : Int32) (x5 : Int32) : Snd E l (dpX12_hand, RX12, cX12_hand, 6, (some .int), "hand") rvI 62 [(0, .ref (E.1 + a0)), (1, .int x1), (2, .int x2), (3, .int x3), (4, .int x4), (5, .int x5)] [] (fX12_hand_62 k62 a0 x1 x2 x3 x4 x5) := by
  unfold fX12_hand_62
  refine sn_iload (pc := 62) (j := 5) dX12_hand_62 rfl ?_
  refine sn_sipush (pc := 64) (v := 160) dX12_hand_64 (by decide) ?_
  refine sn_icmp_ge (pc := 67) (tgt := 103) dX12_hand_67 (by decide) ?_ ?_
  · refine sn_aload_n (pc := 103) (j := 0) dX12_hand_103 rfl rfl ?_
    refine sn_gR (pc := 104) dX12_hand_104 flX12_7 rfl (fun v1001 => ?_)
    refine sn_iload (pc := 107) (j := 4) dX12_hand_107 rfl ?_
    refine sn_iload_n (pc := 109) (j := 1) dX12_hand_109 rfl rfl ?_
    rcases v1001 with _ | a1002
    · exact sn_no
    refine sn_nn ?_
    refine sn_iast (pc := 110) dX12_hand_110 ?_
    refine sn_aload_n (pc := 111) (j := 0) dX12_hand_111 rfl rfl ?_
    refine sn_gR (pc := 112) dX12_hand_112 flX12_7 rfl (fun v1003 => ?_)
    refine sn_iload (pc := 115) (j := 4) dX12_hand_115 rfl ?_
    refine sn_iconst (pc := 117) (v := 1) dX12_hand_117 (by decide) ?_
    refine sn_iadd (pc := 118) dX12_hand_118 ?_
    refine sn_iload_n (pc := 119) (j := 2) dX12_hand_119 rfl rfl ?_
    rcases v1003 with _ | a1004
    · exact sn_no
    refine sn_nn ?_
    refine sn_iast (pc := 120) dX12_hand_120 ?_
    refine sn_aload_n (pc := 121) (j := 0) dX12_hand_121 rfl rfl ?_
    refine sn_gR (pc := 122) dX12_hand_122 flX12_7 rfl (fun v1005 => ?_)
    refine sn_iload (pc := 125) (j := 4) dX12_hand_125 rfl ?_
    refine sn_iconst (pc := 127) (v := 2) dX12_hand_127 (by decide) ?_
    refine sn_iadd (pc := 128) dX12_hand_128 ?_
    refine sn_iload_n (pc := 129) (j := 3) dX12_hand_129 rfl rfl ?_
    rcases v1005 with _ | a1006
    · exact sn_no
    refine sn_nn ?_
    refine sn_iast (pc := 130) dX12_hand_130 ?_
    refine sn_aload_n (pc := 131) (j := 0) dX12_hand_131 rfl rfl ?_
    refine sn_gR (pc := 132) dX12_hand_132 flX12_7 rfl (fun v1007 => ?_)
    refine sn_iconst (pc := 135) (v := 2) dX12_hand_135 (by decide) ?_
    refine sn_dup2 (pc := 136) dX12_hand_136 rfl (rf_cat _ _) ?_
    rcases v1007 with _ | a1009
    · exact sn_no
    refine sn_nn ?_
    refine sn_iald (pc := 137) dX12_hand_137 (fun v1008 => ?_)
    refine sn_iconst (pc := 138) (v := 1) dX12_hand_138 (by decide) ?_
    refine sn_iadd (pc := 139) dX12_hand_139 ?_
    refine sn_iast (pc := 140) dX12_hand_140 ?_
    refine sn_aload_n (pc := 141) (j := 0) dX12_hand_141 rfl rfl ?_
    refine sn_gR (pc := 142) dX12_hand_142 flX12_7 rfl (fun v1010 => ?_)
    refine sn_iconst (pc := 145) (v := 2) dX12_hand_145 (by decide) ?_
    rcases v1010 with _ | a1012
    · exact sn_no
    refine sn_nn ?_
    refine sn_iald (pc := 146) dX12_hand_146 (fun v1011 => ?_)
    refine sn_iconst (pc := 147) (v := 1) dX12_hand_147 (by decide) ?_
    refine sn_isub (pc := 148) dX12_hand_148 ?_
    exact sn_iret (pc := 149) dX12_hand_149 rfl
  · refine sn_aload_n (pc := 70) (j := 0) dX12_hand_70 rfl rfl ?_
    refine sn_gR (pc := 71) dX12_hand_71 flX12_7 rfl (fun v1013 => ?_)
    refine sn_iload (pc := 74) (j := 4) dX12_hand_74 rfl ?_
    refine sn_iload (pc := 76) (j := 5) dX12_hand_76 rfl ?_
    refine sn_iadd (pc := 78) dX12_hand_78 ?_
    refine sn_iload (pc := 79) (j := 5) dX12_hand_79 rfl ?_
    refine sn_iconst (pc := 81) (v := 5) dX12_hand_81 (by decide) ?_
    refine sn_bipush (pc := 82) (v := 10) dX12_hand_82 (by decide) ?_
    refine sn_callS (pc := 84) dX12_hand_84 iX12_isIn wt6_138 wt6_137 (mX12_isIn x5 5 10) (by decide) rfl rfl (by simp [rf_some, rf_cat, cat_int, cat_long, cat_ref, rvV, rvI, rvZ, rvR, rvJ]) (fun v1014 => ?_)
    refine sn_if_eq (pc := 87) (tgt := 95) dX12_hand_87 (by decide) ?_ ?_
    · refine sn_iconst (pc := 95) (v := 0) dX12_hand_95 (by decide) ?_
      exact sn_sub (lv' := [(0, .ref (E.1 + a0)), (1, .int x1), (2, .int x2), (3, .int x3), (4, .int x4), (5, .int x5)]) [0, 1, 2, 3, 4, 5] rfl (sfX12_hand_96 k62 hk62 a0 x1 x2 x3 x4 x5 0 (x4 + x5) v1013)
    · refine sn_bipush (pc := 90) (v := 50) dX12_hand_90 (by decide) ?_
      refine sn_goto (pc := 92) (tgt := 96) dX12_hand_92 (by decide) ?_
      exact sn_sub (lv' := [(0, .ref (E.1 + a0)), (1, .int x1), (2, .int x2), (3, .int x3), (4, .int x4), (5, .int x5)]) [0, 1, 2, 3, 4, 5] rfl (sfX12_hand_96 k62 hk62 a0 x1 x2 x3 x4 x5 50 (x4 + x5) v1013)
def fX12_hand (a0 : Nat) (x1 : Int32) (x2 : Int32) (x3 : Int32) : St → Option (Int32 × St) :=
 gR 13 a0 0 fun v1 =>
 nn v1 fun a3 =>
 aI 15 a3 2 fun v2 =>
 br (v2 = 12) (rt (-1))
 (cl (fX12_isIn x1 1 200) fun v4 =>
 br ((bi v4) = 0) (rt (-1))
 (cl (fX12_isIn x2 1 12) fun v5 =>
 br ((bi v5) = 0) (rt (-1))
 (cl (fX12_isIn x3 0 2) fun v6 =>
 br ((bi v6) = 0) (rt (-1))
 (gR 13 a0 0 fun v7 =>
 nn v7 fun a9 =>
 aI 15 a9 2 fun v8 =>
 itr (fun k (p : Nat × Int32 × Int32 × Int32 × Int32 × Int32) => fX12_hand_62  k p.1 p.2.1 p.2.2.1 p.2.2.2.1 p.2.2.2.2.1 p.2.2.2.2.2) FU (a0, x1, x2, x3, (3440 + (160 * v8)), 0)))))
set_option maxHeartbeats 4000000 in
set_option maxRecDepth 100000 in
theorem mX12_hand {E : Ev} {l : Launch} (a0 : Nat) (x1 : Int32) (x2 : Int32) (x3 : Int32) : MF E l dpX12_hand yX12_hand cX12_hand 6 (some .int) rvI [.ref (E.1 + a0), .int x1, .int x2, .int x3] (fX12_hand a0 x1 x2 x3) := by
  refine MF.of (lv := [(0, .ref (E.1 + a0)), (1, .int x1), (2, .int x2), (3, .int x3)]) (by decide) (Nat.le_of_ble_eq_true rfl) rfl ?_
  unfold fX12_hand
  refine sn_aload_n (pc := 0) (j := 0) dX12_hand_0 rfl rfl ?_
  refine sn_gR (pc := 1) dX12_hand_1 flX12_7 rfl (fun v1 => ?_)
  refine sn_iconst (pc := 4) (v := 2) dX12_hand_4 (by decide) ?_
  rcases v1 with _ | a3
  · exact sn_no
  refine sn_nn ?_
  refine sn_iald (pc := 5) dX12_hand_5 (fun v2 => ?_)
  refine sn_bipush (pc := 6) (v := 12) dX12_hand_6 (by decide) ?_
  refine sn_icmp_eq (pc := 8) (tgt := 41) dX12_hand_8 (by decide) ?_ ?_
  · refine sn_iconst (pc := 41) (v := (-1)) dX12_hand_41 (by decide) ?_
    exact sn_iret (pc := 42) dX12_hand_42 rfl
  · refine sn_iload_n (pc := 11) (j := 1) dX12_hand_11 rfl rfl ?_
    refine sn_iconst (pc := 12) (v := 1) dX12_hand_12 (by decide) ?_
    refine sn_sipush (pc := 13) (v := 200) dX12_hand_13 (by decide) ?_
    refine sn_callS (pc := 16) dX12_hand_16 iX12_isIn wt6_138 wt6_137 (mX12_isIn x1 1 200) (by decide) rfl rfl (Nat.le_of_ble_eq_true rfl) (fun v4 => ?_)
    refine sn_if_eq (pc := 19) (tgt := 41) dX12_hand_19 (by decide) ?_ ?_
    · refine sn_iconst (pc := 41) (v := (-1)) dX12_hand_41 (by decide) ?_
      exact sn_iret (pc := 42) dX12_hand_42 rfl
    · refine sn_iload_n (pc := 22) (j := 2) dX12_hand_22 rfl rfl ?_
      refine sn_iconst (pc := 23) (v := 1) dX12_hand_23 (by decide) ?_
      refine sn_bipush (pc := 24) (v := 12) dX12_hand_24 (by decide) ?_
      refine sn_callS (pc := 26) dX12_hand_26 iX12_isIn wt6_138 wt6_137 (mX12_isIn x2 1 12) (by decide) rfl rfl (Nat.le_of_ble_eq_true rfl) (fun v5 => ?_)
      refine sn_if_eq (pc := 29) (tgt := 41) dX12_hand_29 (by decide) ?_ ?_
      · refine sn_iconst (pc := 41) (v := (-1)) dX12_hand_41 (by decide) ?_
        exact sn_iret (pc := 42) dX12_hand_42 rfl
      · refine sn_iload_n (pc := 32) (j := 3) dX12_hand_32 rfl rfl ?_
        refine sn_iconst (pc := 33) (v := 0) dX12_hand_33 (by decide) ?_
        refine sn_iconst (pc := 34) (v := 2) dX12_hand_34 (by decide) ?_
        refine sn_callS (pc := 35) dX12_hand_35 iX12_isIn wt6_138 wt6_137 (mX12_isIn x3 0 2) (by decide) rfl rfl (Nat.le_of_ble_eq_true rfl) (fun v6 => ?_)
        refine sn_if_ne (pc := 38) (tgt := 43) dX12_hand_38 (by decide) ?_ ?_
        · refine sn_sipush (pc := 43) (v := 3440) dX12_hand_43 (by decide) ?_
          refine sn_sipush (pc := 46) (v := 160) dX12_hand_46 (by decide) ?_
          refine sn_aload_n (pc := 49) (j := 0) dX12_hand_49 rfl rfl ?_
          refine sn_gR (pc := 50) dX12_hand_50 flX12_7 rfl (fun v7 => ?_)
          refine sn_iconst (pc := 53) (v := 2) dX12_hand_53 (by decide) ?_
          rcases v7 with _ | a9
          · exact sn_no
          refine sn_nn ?_
          refine sn_iald (pc := 54) dX12_hand_54 (fun v8 => ?_)
          refine sn_imul (pc := 55) dX12_hand_55 ?_
          refine sn_iadd (pc := 56) dX12_hand_56 ?_
          refine sn_istore (pc := 57) (i := 4) (lv' := [(4, .int (3440 + (160 * v8))), (0, .ref (E.1 + a0)), (1, .int x1), (2, .int x2), (3, .int x3)]) dX12_hand_57 (by decide) rfl ?_
          refine sn_iconst (pc := 59) (v := 0) dX12_hand_59 (by decide) ?_
          refine sn_istore (pc := 60) (i := 5) (lv' := [(5, .int 0), (4, .int (3440 + (160 * v8))), (0, .ref (E.1 + a0)), (1, .int x1), (2, .int x2), (3, .int x3)]) dX12_hand_60 (by decide) rfl ?_
          exact sn_sub (lv' := [(0, .ref (E.1 + a0)), (1, .int x1), (2, .int x2), (3, .int x3), (4, .int (3440 + (160 * v8))), (5, .int 0)]) [2, 3, 4, 5, 1, 0] rfl (sn_itr (lvf := fun p => [(0, .ref (E.1 + p.1)), (1, .int p.2.1), (2, .int p.2.2.1), (3, .int p.2.2.2.1), (4, .int p.2.2.2.2.1), (5, .int p.2.2.2.2.2)]) (stf := fun p => []) (fun k hk p => sfX12_hand_62  k hk p.1 p.2.1 p.2.2.1 p.2.2.2.1 p.2.2.2.2.1 p.2.2.2.2.2) FU (a0, x1, x2, x3, (3440 + (160 * v8)), 0))
        · refine sn_iconst (pc := 41) (v := (-1)) dX12_hand_41 (by decide) ?_
          exact sn_iret (pc := 42) dX12_hand_42 rfl
theorem iX12_hand : MI yX12_hand cX12_hand 6 (some .int) 3 := ⟨wt1_10, wt7_74, by decide +kernel, by decide⟩
-- NeedleHomesModel habit(III)Z
theorem dX12_habit_0 : decode cX12_habit 0 = .ok (.aload_n 0, 1) := by decide +kernel
theorem dX12_habit_1 : decode cX12_habit 1 = .ok (.iload_n 1, 1) := by decide +kernel
theorem dX12_habit_2 : decode cX12_habit 2 = .ok (.iconst 2, 1) := by decide +kernel
theorem dX12_habit_3 : decode cX12_habit 3 = .ok (.invokevirtual 178, 3) := by decide +kernel
theorem dX12_habit_6 : decode cX12_habit 6 = .ok (.ifCond .eq 22, 3) := by decide +kernel
theorem dX12_habit_9 : decode cX12_habit 9 = .ok (.iload_n 2, 1) := by decide +kernel
theorem dX12_habit_10 : decode cX12_habit 10 = .ok (.iconst 0, 1) := by decide +kernel
theorem dX12_habit_11 : decode cX12_habit 11 = .ok (.iconst 5, 1) := by decide +kernel
theorem dX12_habit_12 : decode cX12_habit 12 = .ok (.invokestatic 51, 3) := by decide +kernel
theorem dX12_habit_15 : decode cX12_habit 15 = .ok (.ifCond .eq 13, 3) := by decide +kernel
theorem dX12_habit_18 : decode cX12_habit 18 = .ok (.iload_n 3, 1) := by decide +kernel
theorem dX12_habit_19 : decode cX12_habit 19 = .ok (.iconst 0, 1) := by decide +kernel
theorem dX12_habit_20 : decode cX12_habit 20 = .ok (.bipush 100, 2) := by decide +kernel
theorem dX12_habit_22 : decode cX12_habit 22 = .ok (.invokestatic 51, 3) := by decide +kernel
theorem dX12_habit_25 : decode cX12_habit 25 = .ok (.ifCond .ne 5, 3) := by decide +kernel
theorem dX12_habit_28 : decode cX12_habit 28 = .ok (.iconst 0, 1) := by decide +kernel
theorem dX12_habit_29 : decode cX12_habit 29 = .ok (.ireturn, 1) := by decide +kernel
theorem dX12_habit_30 : decode cX12_habit 30 = .ok (.aload_n 0, 1) := by decide +kernel
theorem dX12_habit_31 : decode cX12_habit 31 = .ok (.getfield 7, 3) := by decide +kernel
theorem dX12_habit_34 : decode cX12_habit 34 = .ok (.sipush 3440, 3) := by decide +kernel
theorem dX12_habit_37 : decode cX12_habit 37 = .ok (.sipush 160, 3) := by decide +kernel
theorem dX12_habit_40 : decode cX12_habit 40 = .ok (.iload_n 1, 1) := by decide +kernel
theorem dX12_habit_41 : decode cX12_habit 41 = .ok (.imul, 1) := by decide +kernel
theorem dX12_habit_42 : decode cX12_habit 42 = .ok (.iadd, 1) := by decide +kernel
theorem dX12_habit_43 : decode cX12_habit 43 = .ok (.iconst 5, 1) := by decide +kernel
theorem dX12_habit_44 : decode cX12_habit 44 = .ok (.iadd, 1) := by decide +kernel
theorem dX12_habit_45 : decode cX12_habit 45 = .ok (.iload_n 2, 1) := by decide +kernel
theorem dX12_habit_46 : decode cX12_habit 46 = .ok (.iadd, 1) := by decide +kernel
theorem dX12_habit_47 : decode cX12_habit 47 = .ok (.iload_n 3, 1) := by decide +kernel
theorem dX12_habit_48 : decode cX12_habit 48 = .ok (.iastore, 1) := by decide +kernel
theorem dX12_habit_49 : decode cX12_habit 49 = .ok (.iconst 1, 1) := by decide +kernel
theorem dX12_habit_50 : decode cX12_habit 50 = .ok (.ireturn, 1) := by decide +kernel
abbrev dpX12_habit : Nat := 2
def fX12_habit (a0 : Nat) (x1 : Int32) (x2 : Int32) (x3 : Int32) : St → Option (Bool × St) :=
 ck 13 a0 <| cl (fX12_isOf a0 x1 2) fun v1 =>
 br ((bi v1) = 0) (rtZ 0)
 (cl (fX12_isIn x2 0 5) fun v2 =>
 br ((bi v2) = 0) (rtZ 0)
 (cl (fX12_isIn x3 0 100) fun v3 =>
 br ((bi v3) = 0) (rtZ 0)
 (gR 13 a0 0 fun v4 =>
 nn v4 fun a5 =>
 wI a5 (((3440 + (160 * x1)) + 5) + x2) x3 <|
 rtZ 1)))
set_option maxHeartbeats 4000000 in
set_option maxRecDepth 100000 in
theorem mX12_habit {E : Ev} {l : Launch} (a0 : Nat) (x1 : Int32) (x2 : Int32) (x3 : Int32) : MF E l dpX12_habit yX12_habit cX12_habit 4 (some .boolean) rvZ [.ref (E.1 + a0), .int x1, .int x2, .int x3] (fX12_habit a0 x1 x2 x3) := by
  refine MF.of (lv := [(0, .ref (E.1 + a0)), (1, .int x1), (2, .int x2), (3, .int x3)]) (by decide) (Nat.le_of_ble_eq_true rfl) rfl ?_
  unfold fX12_habit
  refine sn_aload_n (pc := 0) (j := 0) dX12_habit_0 rfl rfl ?_
  refine sn_iload_n (pc := 1) (j := 1) dX12_habit_1 rfl rfl ?_
  refine sn_iconst (pc := 2) (v := 2) dX12_habit_2 (by decide) ?_
  refine sn_callV (ci := 12) (pc := 3) dX12_habit_3 iX12_isOf wt6_235 ws_54 wt6_233 ⟨_, rfl, rfl⟩ (by decide) (mX12_isOf a0 x1 2) (by decide) rfl rfl (Nat.le_of_ble_eq_true rfl) (fun v1 => ?_)
  refine sn_if_eq (pc := 6) (tgt := 28) dX12_habit_6 (by decide) ?_ ?_
  · refine sn_iconst (pc := 28) (v := 0) dX12_habit_28 (by decide) ?_
    exact sn_zret (pc := 29) dX12_habit_29 rfl
  · refine sn_iload_n (pc := 9) (j := 2) dX12_habit_9 rfl rfl ?_
    refine sn_iconst (pc := 10) (v := 0) dX12_habit_10 (by decide) ?_
    refine sn_iconst (pc := 11) (v := 5) dX12_habit_11 (by decide) ?_
    refine sn_callS (pc := 12) dX12_habit_12 iX12_isIn wt6_138 wt6_137 (mX12_isIn x2 0 5) (by decide) rfl rfl (Nat.le_of_ble_eq_true rfl) (fun v2 => ?_)
    refine sn_if_eq (pc := 15) (tgt := 28) dX12_habit_15 (by decide) ?_ ?_
    · refine sn_iconst (pc := 28) (v := 0) dX12_habit_28 (by decide) ?_
      exact sn_zret (pc := 29) dX12_habit_29 rfl
    · refine sn_iload_n (pc := 18) (j := 3) dX12_habit_18 rfl rfl ?_
      refine sn_iconst (pc := 19) (v := 0) dX12_habit_19 (by decide) ?_
      refine sn_bipush (pc := 20) (v := 100) dX12_habit_20 (by decide) ?_
      refine sn_callS (pc := 22) dX12_habit_22 iX12_isIn wt6_138 wt6_137 (mX12_isIn x3 0 100) (by decide) rfl rfl (Nat.le_of_ble_eq_true rfl) (fun v3 => ?_)
      refine sn_if_ne (pc := 25) (tgt := 30) dX12_habit_25 (by decide) ?_ ?_
      · refine sn_aload_n (pc := 30) (j := 0) dX12_habit_30 rfl rfl ?_
        refine sn_gR (pc := 31) dX12_habit_31 flX12_7 rfl (fun v4 => ?_)
        refine sn_sipush (pc := 34) (v := 3440) dX12_habit_34 (by decide) ?_
        refine sn_sipush (pc := 37) (v := 160) dX12_habit_37 (by decide) ?_
        refine sn_iload_n (pc := 40) (j := 1) dX12_habit_40 rfl rfl ?_
        refine sn_imul (pc := 41) dX12_habit_41 ?_
        refine sn_iadd (pc := 42) dX12_habit_42 ?_
        refine sn_iconst (pc := 43) (v := 5) dX12_habit_43 (by decide) ?_
        refine sn_iadd (pc := 44) dX12_habit_44 ?_
        refine sn_iload_n (pc := 45) (j := 2) dX12_habit_45 rfl rfl ?_
        refine sn_iadd (pc := 46) dX12_habit_46 ?_
        refine sn_iload_n (pc := 47) (j := 3) dX12_habit_47 rfl rfl ?_
        rcases v4 with _ | a5
        · exact sn_no
        refine sn_nn ?_
        refine sn_iast (pc := 48) dX12_habit_48 ?_
        refine sn_iconst (pc := 49) (v := 1) dX12_habit_49 (by decide) ?_
        exact sn_zret (pc := 50) dX12_habit_50 rfl
      · refine sn_iconst (pc := 28) (v := 0) dX12_habit_28 (by decide) ?_
        exact sn_zret (pc := 29) dX12_habit_29 rfl
theorem iX12_habit : MI yX12_habit cX12_habit 4 (some .boolean) 3 := ⟨wt1_10, wt7_78, by decide +kernel, by decide⟩
-- NeedleHomesModel hay(IIZ)Z
theorem dX12_hay_0 : decode cX12_hay 0 = .ok (.aload_n 0, 1) := by decide +kernel
theorem dX12_hay_1 : decode cX12_hay 1 = .ok (.iload_n 1, 1) := by decide +kernel
theorem dX12_hay_2 : decode cX12_hay 2 = .ok (.iconst 2, 1) := by decide +kernel
theorem dX12_hay_3 : decode cX12_hay 3 = .ok (.invokevirtual 178, 3) := by decide +kernel
theorem dX12_hay_6 : decode cX12_hay 6 = .ok (.ifCond .eq 14, 3) := by decide +kernel
theorem dX12_hay_9 : decode cX12_hay 9 = .ok (.iload_n 2, 1) := by decide +kernel
theorem dX12_hay_10 : decode cX12_hay 10 = .ok (.iconst 0, 1) := by decide +kernel
theorem dX12_hay_11 : decode cX12_hay 11 = .ok (.sipush 142, 3) := by decide +kernel
theorem dX12_hay_14 : decode cX12_hay 14 = .ok (.invokestatic 51, 3) := by decide +kernel
theorem dX12_hay_17 : decode cX12_hay 17 = .ok (.ifCond .ne 5, 3) := by decide +kernel
theorem dX12_hay_20 : decode cX12_hay 20 = .ok (.iconst 0, 1) := by decide +kernel
theorem dX12_hay_21 : decode cX12_hay 21 = .ok (.ireturn, 1) := by decide +kernel
theorem dX12_hay_22 : decode cX12_hay 22 = .ok (.aload_n 0, 1) := by decide +kernel
theorem dX12_hay_23 : decode cX12_hay 23 = .ok (.getfield 7, 3) := by decide +kernel
theorem dX12_hay_26 : decode cX12_hay 26 = .ok (.sipush 3440, 3) := by decide +kernel
theorem dX12_hay_29 : decode cX12_hay 29 = .ok (.sipush 160, 3) := by decide +kernel
theorem dX12_hay_32 : decode cX12_hay 32 = .ok (.iload_n 1, 1) := by decide +kernel
theorem dX12_hay_33 : decode cX12_hay 33 = .ok (.imul, 1) := by decide +kernel
theorem dX12_hay_34 : decode cX12_hay 34 = .ok (.iadd, 1) := by decide +kernel
theorem dX12_hay_35 : decode cX12_hay 35 = .ok (.bipush 16, 2) := by decide +kernel
theorem dX12_hay_37 : decode cX12_hay 37 = .ok (.iadd, 1) := by decide +kernel
theorem dX12_hay_38 : decode cX12_hay 38 = .ok (.iload_n 2, 1) := by decide +kernel
theorem dX12_hay_39 : decode cX12_hay 39 = .ok (.iadd, 1) := by decide +kernel
theorem dX12_hay_40 : decode cX12_hay 40 = .ok (.iload_n 3, 1) := by decide +kernel
theorem dX12_hay_41 : decode cX12_hay 41 = .ok (.ifCond .eq 7, 3) := by decide +kernel
theorem dX12_hay_44 : decode cX12_hay 44 = .ok (.iconst 1, 1) := by decide +kernel
theorem dX12_hay_45 : decode cX12_hay 45 = .ok (.goto 4, 3) := by decide +kernel
theorem dX12_hay_48 : decode cX12_hay 48 = .ok (.iconst 0, 1) := by decide +kernel
theorem dX12_hay_49 : decode cX12_hay 49 = .ok (.iastore, 1) := by decide +kernel
theorem dX12_hay_50 : decode cX12_hay 50 = .ok (.iconst 1, 1) := by decide +kernel
theorem dX12_hay_51 : decode cX12_hay 51 = .ok (.ireturn, 1) := by decide +kernel
abbrev dpX12_hay : Nat := 2
def fX12_hay (a0 : Nat) (x1 : Int32) (x2 : Int32) (x3 : Int32) : St → Option (Bool × St) :=
 ck 13 a0 <| cl (fX12_isOf a0 x1 2) fun v1 =>
 br ((bi v1) = 0) (rtZ 0)
 (cl (fX12_isIn x2 0 142) fun v2 =>
 br ((bi v2) = 0) (rtZ 0)
 (gR 13 a0 0 fun v3 =>
 br (x3 = 0) (nn v3 fun a4 =>
 wI a4 (((3440 + (160 * x1)) + 16) + x2) 0 <|
 rtZ 1)
 (nn v3 fun a5 =>
 wI a5 (((3440 + (160 * x1)) + 16) + x2) 1 <|
 rtZ 1)))
set_option maxHeartbeats 4000000 in
set_option maxRecDepth 100000 in
theorem mX12_hay {E : Ev} {l : Launch} (a0 : Nat) (x1 : Int32) (x2 : Int32) (x3 : Int32) : MF E l dpX12_hay yX12_hay cX12_hay 4 (some .boolean) rvZ [.ref (E.1 + a0), .int x1, .int x2, .int x3] (fX12_hay a0 x1 x2 x3) := by
  refine MF.of (lv := [(0, .ref (E.1 + a0)), (1, .int x1), (2, .int x2), (3, .int x3)]) (by decide) (Nat.le_of_ble_eq_true rfl) rfl ?_
  unfold fX12_hay
  refine sn_aload_n (pc := 0) (j := 0) dX12_hay_0 rfl rfl ?_
  refine sn_iload_n (pc := 1) (j := 1) dX12_hay_1 rfl rfl ?_
  refine sn_iconst (pc := 2) (v := 2) dX12_hay_2 (by decide) ?_
  refine sn_callV (ci := 12) (pc := 3) dX12_hay_3 iX12_isOf wt6_235 ws_54 wt6_233 ⟨_, rfl, rfl⟩ (by decide) (mX12_isOf a0 x1 2) (by decide) rfl rfl (Nat.le_of_ble_eq_true rfl) (fun v1 => ?_)
  refine sn_if_eq (pc := 6) (tgt := 20) dX12_hay_6 (by decide) ?_ ?_
  · refine sn_iconst (pc := 20) (v := 0) dX12_hay_20 (by decide) ?_
    exact sn_zret (pc := 21) dX12_hay_21 rfl
  · refine sn_iload_n (pc := 9) (j := 2) dX12_hay_9 rfl rfl ?_
    refine sn_iconst (pc := 10) (v := 0) dX12_hay_10 (by decide) ?_
    refine sn_sipush (pc := 11) (v := 142) dX12_hay_11 (by decide) ?_
    refine sn_callS (pc := 14) dX12_hay_14 iX12_isIn wt6_138 wt6_137 (mX12_isIn x2 0 142) (by decide) rfl rfl (Nat.le_of_ble_eq_true rfl) (fun v2 => ?_)
    refine sn_if_ne (pc := 17) (tgt := 22) dX12_hay_17 (by decide) ?_ ?_
    · refine sn_aload_n (pc := 22) (j := 0) dX12_hay_22 rfl rfl ?_
      refine sn_gR (pc := 23) dX12_hay_23 flX12_7 rfl (fun v3 => ?_)
      refine sn_sipush (pc := 26) (v := 3440) dX12_hay_26 (by decide) ?_
      refine sn_sipush (pc := 29) (v := 160) dX12_hay_29 (by decide) ?_
      refine sn_iload_n (pc := 32) (j := 1) dX12_hay_32 rfl rfl ?_
      refine sn_imul (pc := 33) dX12_hay_33 ?_
      refine sn_iadd (pc := 34) dX12_hay_34 ?_
      refine sn_bipush (pc := 35) (v := 16) dX12_hay_35 (by decide) ?_
      refine sn_iadd (pc := 37) dX12_hay_37 ?_
      refine sn_iload_n (pc := 38) (j := 2) dX12_hay_38 rfl rfl ?_
      refine sn_iadd (pc := 39) dX12_hay_39 ?_
      refine sn_iload_n (pc := 40) (j := 3) dX12_hay_40 rfl rfl ?_
      refine sn_if_eq (pc := 41) (tgt := 48) dX12_hay_41 (by decide) ?_ ?_
      · refine sn_iconst (pc := 48) (v := 0) dX12_hay_48 (by decide) ?_
        rcases v3 with _ | a4
        · exact sn_no
        refine sn_nn ?_
        refine sn_iast (pc := 49) dX12_hay_49 ?_
        refine sn_iconst (pc := 50) (v := 1) dX12_hay_50 (by decide) ?_
        exact sn_zret (pc := 51) dX12_hay_51 rfl
      · refine sn_iconst (pc := 44) (v := 1) dX12_hay_44 (by decide) ?_
        refine sn_goto (pc := 45) (tgt := 49) dX12_hay_45 (by decide) ?_
        rcases v3 with _ | a5
        · exact sn_no
        refine sn_nn ?_
        refine sn_iast (pc := 49) dX12_hay_49 ?_
        refine sn_iconst (pc := 50) (v := 1) dX12_hay_50 (by decide) ?_
        exact sn_zret (pc := 51) dX12_hay_51 rfl
    · refine sn_iconst (pc := 20) (v := 0) dX12_hay_20 (by decide) ?_
      exact sn_zret (pc := 21) dX12_hay_21 rfl
theorem iX12_hay : MI yX12_hay cX12_hay 4 (some .boolean) 3 := ⟨wt1_10, wt7_82, by decide +kernel, by decide⟩
-- NeedleHomesModel advance(II)I
theorem dX12_advance_0 : decode cX12_advance 0 = .ok (.aload_n 0, 1) := by decide +kernel
theorem dX12_advance_1 : decode cX12_advance 1 = .ok (.iload_n 1, 1) := by decide +kernel
theorem dX12_advance_2 : decode cX12_advance 2 = .ok (.iconst 2, 1) := by decide +kernel
theorem dX12_advance_3 : decode cX12_advance 3 = .ok (.invokevirtual 178, 3) := by decide +kernel
theorem dX12_advance_6 : decode cX12_advance 6 = .ok (.ifCond .eq 13, 3) := by decide +kernel
theorem dX12_advance_9 : decode cX12_advance 9 = .ok (.iload_n 2, 1) := by decide +kernel
theorem dX12_advance_10 : decode cX12_advance 10 = .ok (.iconst 1, 1) := by decide +kernel
theorem dX12_advance_11 : decode cX12_advance 11 = .ok (.ldc 255, 2) := by decide +kernel
theorem dX12_advance_13 : decode cX12_advance 13 = .ok (.invokestatic 51, 3) := by decide +kernel
theorem dX12_advance_16 : decode cX12_advance 16 = .ok (.ifCond .ne 5, 3) := by decide +kernel
theorem dX12_advance_19 : decode cX12_advance 19 = .ok (.iconst (-1), 1) := by decide +kernel
theorem dX12_advance_20 : decode cX12_advance 20 = .ok (.ireturn, 1) := by decide +kernel
theorem dX12_advance_21 : decode cX12_advance 21 = .ok (.aload_n 0, 1) := by decide +kernel
theorem dX12_advance_22 : decode cX12_advance 22 = .ok (.getfield 7, 3) := by decide +kernel
theorem dX12_advance_25 : decode cX12_advance 25 = .ok (.sipush 3440, 3) := by decide +kernel
theorem dX12_advance_28 : decode cX12_advance 28 = .ok (.sipush 160, 3) := by decide +kernel
theorem dX12_advance_31 : decode cX12_advance 31 = .ok (.iload_n 1, 1) := by decide +kernel
theorem dX12_advance_32 : decode cX12_advance 32 = .ok (.imul, 1) := by decide +kernel
theorem dX12_advance_33 : decode cX12_advance 33 = .ok (.iadd, 1) := by decide +kernel
theorem dX12_advance_34 : decode cX12_advance 34 = .ok (.iconst 3, 1) := by decide +kernel
theorem dX12_advance_35 : decode cX12_advance 35 = .ok (.iadd, 1) := by decide +kernel
theorem dX12_advance_36 : decode cX12_advance 36 = .ok (.dup2, 1) := by decide +kernel
theorem dX12_advance_37 : decode cX12_advance 37 = .ok (.iaload, 1) := by decide +kernel
theorem dX12_advance_38 : decode cX12_advance 38 = .ok (.iload_n 2, 1) := by decide +kernel
theorem dX12_advance_39 : decode cX12_advance 39 = .ok (.iadd, 1) := by decide +kernel
theorem dX12_advance_40 : decode cX12_advance 40 = .ok (.iastore, 1) := by decide +kernel
theorem dX12_advance_41 : decode cX12_advance 41 = .ok (.aload_n 0, 1) := by decide +kernel
theorem dX12_advance_42 : decode cX12_advance 42 = .ok (.iload_n 1, 1) := by decide +kernel
theorem dX12_advance_43 : decode cX12_advance 43 = .ok (.iconst 3, 1) := by decide +kernel
theorem dX12_advance_44 : decode cX12_advance 44 = .ok (.invokevirtual 211, 3) := by decide +kernel
theorem dX12_advance_47 : decode cX12_advance 47 = .ok (.ireturn, 1) := by decide +kernel
abbrev dpX12_advance : Nat := 2
def fX12_advance (a0 : Nat) (x1 : Int32) (x2 : Int32) : St → Option (Int32 × St) :=
 ck 13 a0 <| cl (fX12_isOf a0 x1 2) fun v1 =>
 br ((bi v1) = 0) (rt (-1))
 (cl (fX12_isIn x2 1 100000) fun v2 =>
 br ((bi v2) = 0) (rt (-1))
 (gR 13 a0 0 fun v3 =>
 nn v3 fun a5 =>
 aI 15 a5 ((3440 + (160 * x1)) + 3) fun v4 =>
 wI a5 ((3440 + (160 * x1)) + 3) (v4 + x2) <|
 ck 13 a0 <| cl (fX12_handOf a0 x1 3) fun v6 =>
 rt v6))
set_option maxHeartbeats 4000000 in
set_option maxRecDepth 100000 in
theorem mX12_advance {E : Ev} {l : Launch} (a0 : Nat) (x1 : Int32) (x2 : Int32) : MF E l dpX12_advance yX12_advance cX12_advance 3 (some .int) rvI [.ref (E.1 + a0), .int x1, .int x2] (fX12_advance a0 x1 x2) := by
  refine MF.of (lv := [(0, .ref (E.1 + a0)), (1, .int x1), (2, .int x2)]) (by decide) (Nat.le_of_ble_eq_true rfl) rfl ?_
  unfold fX12_advance
  refine sn_aload_n (pc := 0) (j := 0) dX12_advance_0 rfl rfl ?_
  refine sn_iload_n (pc := 1) (j := 1) dX12_advance_1 rfl rfl ?_
  refine sn_iconst (pc := 2) (v := 2) dX12_advance_2 (by decide) ?_
  refine sn_callV (ci := 12) (pc := 3) dX12_advance_3 iX12_isOf wt6_235 ws_54 wt6_233 ⟨_, rfl, rfl⟩ (by decide) (mX12_isOf a0 x1 2) (by decide) rfl rfl (Nat.le_of_ble_eq_true rfl) (fun v1 => ?_)
  refine sn_if_eq (pc := 6) (tgt := 19) dX12_advance_6 (by decide) ?_ ?_
  · refine sn_iconst (pc := 19) (v := (-1)) dX12_advance_19 (by decide) ?_
    exact sn_iret (pc := 20) dX12_advance_20 rfl
  · refine sn_iload_n (pc := 9) (j := 2) dX12_advance_9 rfl rfl ?_
    refine sn_iconst (pc := 10) (v := 1) dX12_advance_10 (by decide) ?_
    refine sn_ldc (pc := 11) (v := 100000) dX12_advance_11 wt7_87 ?_
    refine sn_callS (pc := 13) dX12_advance_13 iX12_isIn wt6_138 wt6_137 (mX12_isIn x2 1 100000) (by decide) rfl rfl (Nat.le_of_ble_eq_true rfl) (fun v2 => ?_)
    refine sn_if_ne (pc := 16) (tgt := 21) dX12_advance_16 (by decide) ?_ ?_
    · refine sn_aload_n (pc := 21) (j := 0) dX12_advance_21 rfl rfl ?_
      refine sn_gR (pc := 22) dX12_advance_22 flX12_7 rfl (fun v3 => ?_)
      refine sn_sipush (pc := 25) (v := 3440) dX12_advance_25 (by decide) ?_
      refine sn_sipush (pc := 28) (v := 160) dX12_advance_28 (by decide) ?_
      refine sn_iload_n (pc := 31) (j := 1) dX12_advance_31 rfl rfl ?_
      refine sn_imul (pc := 32) dX12_advance_32 ?_
      refine sn_iadd (pc := 33) dX12_advance_33 ?_
      refine sn_iconst (pc := 34) (v := 3) dX12_advance_34 (by decide) ?_
      refine sn_iadd (pc := 35) dX12_advance_35 ?_
      refine sn_dup2 (pc := 36) dX12_advance_36 rfl (rf_cat _ _) ?_
      rcases v3 with _ | a5
      · exact sn_no
      refine sn_nn ?_
      refine sn_iald (pc := 37) dX12_advance_37 (fun v4 => ?_)
      refine sn_iload_n (pc := 38) (j := 2) dX12_advance_38 rfl rfl ?_
      refine sn_iadd (pc := 39) dX12_advance_39 ?_
      refine sn_iast (pc := 40) dX12_advance_40 ?_
      refine sn_aload_n (pc := 41) (j := 0) dX12_advance_41 rfl rfl ?_
      refine sn_iload_n (pc := 42) (j := 1) dX12_advance_42 rfl rfl ?_
      refine sn_iconst (pc := 43) (v := 3) dX12_advance_43 (by decide) ?_
      refine sn_callV (ci := 12) (pc := 44) dX12_advance_44 iX12_handOf wt7_50 ws_62 wt7_48 ⟨_, rfl, rfl⟩ (by decide) (mX12_handOf a0 x1 3) (by decide) rfl rfl (Nat.le_of_ble_eq_true rfl) (fun v6 => ?_)
      exact sn_iret (pc := 47) dX12_advance_47 rfl
    · refine sn_iconst (pc := 19) (v := (-1)) dX12_advance_19 (by decide) ?_
      exact sn_iret (pc := 20) dX12_advance_20 rfl
theorem iX12_advance : MI yX12_advance cX12_advance 3 (some .int) 2 := ⟨wt1_10, wt7_86, by decide +kernel, by decide⟩
-- NeedleHomesModel tell(II)I
theorem dX12_tell_0 : decode cX12_tell 0 = .ok (.aload_n 0, 1) := by decide +kernel
theorem dX12_tell_1 : decode cX12_tell 1 = .ok (.iload_n 1, 1) := by decide +kernel
theorem dX12_tell_2 : decode cX12_tell 2 = .ok (.iconst 2, 1) := by decide +kernel
theorem dX12_tell_3 : decode cX12_tell 3 = .ok (.invokevirtual 178, 3) := by decide +kernel
theorem dX12_tell_6 : decode cX12_tell 6 = .ok (.ifCond .ne 6, 3) := by decide +kernel
theorem dX12_tell_9 : decode cX12_tell 9 = .ok (.bipush (-2), 2) := by decide +kernel
theorem dX12_tell_11 : decode cX12_tell 11 = .ok (.ireturn, 1) := by decide +kernel
theorem dX12_tell_12 : decode cX12_tell 12 = .ok (.iload_n 2, 1) := by decide +kernel
theorem dX12_tell_13 : decode cX12_tell 13 = .ok (.iconst 0, 1) := by decide +kernel
theorem dX12_tell_14 : decode cX12_tell 14 = .ok (.iconst 4, 1) := by decide +kernel
theorem dX12_tell_15 : decode cX12_tell 15 = .ok (.invokestatic 51, 3) := by decide +kernel
theorem dX12_tell_18 : decode cX12_tell 18 = .ok (.ifCond .eq 10, 3) := by decide +kernel
theorem dX12_tell_21 : decode cX12_tell 21 = .ok (.aload_n 0, 1) := by decide +kernel
theorem dX12_tell_22 : decode cX12_tell 22 = .ok (.iload_n 1, 1) := by decide +kernel
theorem dX12_tell_23 : decode cX12_tell 23 = .ok (.iload_n 2, 1) := by decide +kernel
theorem dX12_tell_24 : decode cX12_tell 24 = .ok (.invokevirtual 211, 3) := by decide +kernel
theorem dX12_tell_27 : decode cX12_tell 27 = .ok (.ireturn, 1) := by decide +kernel
theorem dX12_tell_28 : decode cX12_tell 28 = .ok (.iconst 0, 1) := by decide +kernel
theorem dX12_tell_29 : decode cX12_tell 29 = .ok (.istore_n 3, 1) := by decide +kernel
theorem dX12_tell_30 : decode cX12_tell 30 = .ok (.iconst 0, 1) := by decide +kernel
theorem dX12_tell_31 : decode cX12_tell 31 = .ok (.istore 4, 2) := by decide +kernel
theorem dX12_tell_33 : decode cX12_tell 33 = .ok (.iload 4, 2) := by decide +kernel
theorem dX12_tell_35 : decode cX12_tell 35 = .ok (.aload_n 0, 1) := by decide +kernel
theorem dX12_tell_36 : decode cX12_tell 36 = .ok (.getfield 7, 3) := by decide +kernel
theorem dX12_tell_39 : decode cX12_tell 39 = .ok (.iconst 3, 1) := by decide +kernel
theorem dX12_tell_40 : decode cX12_tell 40 = .ok (.iaload, 1) := by decide +kernel
theorem dX12_tell_41 : decode cX12_tell 41 = .ok (.if_icmp .ge 38, 3) := by decide +kernel
theorem dX12_tell_44 : decode cX12_tell 44 = .ok (.iload_n 3, 1) := by decide +kernel
theorem dX12_tell_45 : decode cX12_tell 45 = .ok (.aload_n 0, 1) := by decide +kernel
theorem dX12_tell_46 : decode cX12_tell 46 = .ok (.iload 4, 2) := by decide +kernel
theorem dX12_tell_48 : decode cX12_tell 48 = .ok (.iconst 2, 1) := by decide +kernel
theorem dX12_tell_49 : decode cX12_tell 49 = .ok (.invokevirtual 256, 3) := by decide +kernel
theorem dX12_tell_52 : decode cX12_tell 52 = .ok (.iload_n 1, 1) := by decide +kernel
theorem dX12_tell_53 : decode cX12_tell 53 = .ok (.if_icmp .ne 17, 3) := by decide +kernel
theorem dX12_tell_56 : decode cX12_tell 56 = .ok (.aload_n 0, 1) := by decide +kernel
theorem dX12_tell_57 : decode cX12_tell 57 = .ok (.iload 4, 2) := by decide +kernel
theorem dX12_tell_59 : decode cX12_tell 59 = .ok (.iconst 4, 1) := by decide +kernel
theorem dX12_tell_60 : decode cX12_tell 60 = .ok (.invokevirtual 256, 3) := by decide +kernel
theorem dX12_tell_63 : decode cX12_tell 63 = .ok (.ifCond .ge 7, 3) := by decide +kernel
theorem dX12_tell_66 : decode cX12_tell 66 = .ok (.iconst 1, 1) := by decide +kernel
theorem dX12_tell_67 : decode cX12_tell 67 = .ok (.goto 4, 3) := by decide +kernel
theorem dX12_tell_70 : decode cX12_tell 70 = .ok (.iconst 0, 1) := by decide +kernel
theorem dX12_tell_71 : decode cX12_tell 71 = .ok (.iadd, 1) := by decide +kernel
theorem dX12_tell_72 : decode cX12_tell 72 = .ok (.istore_n 3, 1) := by decide +kernel
theorem dX12_tell_73 : decode cX12_tell 73 = .ok (.iinc 4 1, 3) := by decide +kernel
theorem dX12_tell_76 : decode cX12_tell 76 = .ok (.goto (-43), 3) := by decide +kernel
theorem dX12_tell_79 : decode cX12_tell 79 = .ok (.iload_n 2, 1) := by decide +kernel
theorem dX12_tell_80 : decode cX12_tell 80 = .ok (.iconst 5, 1) := by decide +kernel
theorem dX12_tell_81 : decode cX12_tell 81 = .ok (.if_icmp .ne 7, 3) := by decide +kernel
theorem dX12_tell_84 : decode cX12_tell 84 = .ok (.iload_n 3, 1) := by decide +kernel
theorem dX12_tell_85 : decode cX12_tell 85 = .ok (.goto 5, 3) := by decide +kernel
theorem dX12_tell_88 : decode cX12_tell 88 = .ok (.bipush (-2), 2) := by decide +kernel
theorem dX12_tell_90 : decode cX12_tell 90 = .ok (.ireturn, 1) := by decide +kernel
abbrev dpX12_tell : Nat := 2
def fX12_tell_71 (k33 : (Nat × Int32 × Int32 × Int32 × Int32) → St → Option (Int32 × St)) (a0 : Nat) (x1 : Int32) (x2 : Int32) (x4 : Int32) (y0 : Int32) (y1 : Int32) : St → Option (Int32 × St) :=
 k33 (a0, x1, x2, (y1 + y0), (x4 + 1))
set_option maxHeartbeats 4000000 in
set_option maxRecDepth 100000 in
theorem sfX12_tell_71 {E : Ev} {l : Launch} (k33 : (Nat × Int32 × Int32 × Int32 × Int32) → St → Option (Int32 × St)) (hk33 : ∀ p : Nat × Int32 × Int32 × Int32 × Int32, Snd E l (dpX12_tell, RX12, cX12_tell, 5, (some .int), "tell") rvI 33 [(0, .ref (E.1 + p.1)), (1, .int p.2.1), (2, .int p.2.2.1), (3, .int p.2.2.2.1), (4, .int p.2.2.2.2)] [] (k33 p)) (a0 : Nat) (x1 : Int32) (x2 : Int32) (x4 : Int32) (y0 : Int32) (y1 : Int32) : Snd E l (dpX12_tell, RX12, cX12_tell, 5, (some .int), "tell") rvI 71 [(0, .ref (E.1 + a0)), (1, .int x1), (2, .int x2), (4, .int x4)] [.int y0, .int y1] (fX12_tell_71 k33 a0 x1 x2 x4 y0 y1) := by
  unfold fX12_tell_71
  refine sn_iadd (pc := 71) dX12_tell_71 ?_
  refine sn_istore_n (pc := 72) (i := 3) (lv' := [(3, .int (y1 + y0)), (0, .ref (E.1 + a0)), (1, .int x1), (2, .int x2), (4, .int x4)]) dX12_tell_72 rfl (by decide) rfl ?_
  refine sn_iinc (pc := 73) (v := x4 + 1) (lv' := [(4, .int (x4 + 1)), (3, .int (y1 + y0)), (0, .ref (E.1 + a0)), (1, .int x1), (2, .int x2)]) (j := 4) dX12_tell_73 rfl rfl (by decide) rfl ?_
  refine sn_goto (pc := 76) (tgt := 33) dX12_tell_76 (by decide) ?_
  exact sn_sub (lv' := [(0, .ref (E.1 + a0)), (1, .int x1), (2, .int x2), (3, .int (y1 + y0)), (4, .int (x4 + 1))]) [2, 3, 4, 1, 0] rfl (hk33 (a0, x1, x2, (y1 + y0), (x4 + 1)))
def fX12_tell_70 (k33 : (Nat × Int32 × Int32 × Int32 × Int32) → St → Option (Int32 × St)) (a0 : Nat) (x1 : Int32) (x2 : Int32) (x4 : Int32) (y0 : Int32) : St → Option (Int32 × St) :=
 fX12_tell_71 k33 a0 x1 x2 x4 0 y0
set_option maxHeartbeats 4000000 in
set_option maxRecDepth 100000 in
theorem sfX12_tell_70 {E : Ev} {l : Launch} (k33 : (Nat × Int32 × Int32 × Int32 × Int32) → St → Option (Int32 × St)) (hk33 : ∀ p : Nat × Int32 × Int32 × Int32 × Int32, Snd E l (dpX12_tell, RX12, cX12_tell, 5, (some .int), "tell") rvI 33 [(0, .ref (E.1 + p.1)), (1, .int p.2.1), (2, .int p.2.2.1), (3, .int p.2.2.2.1), (4, .int p.2.2.2.2)] [] (k33 p)) (a0 : Nat) (x1 : Int32) (x2 : Int32) (x4 : Int32) (y0 : Int32) : Snd E l (dpX12_tell, RX12, cX12_tell, 5, (some .int), "tell") rvI 70 [(0, .ref (E.1 + a0)), (1, .int x1), (2, .int x2), (4, .int x4)] [.int y0] (fX12_tell_70 k33 a0 x1 x2 x4 y0) := by
  unfold fX12_tell_70
  refine sn_iconst (pc := 70) (v := 0) dX12_tell_70 (by decide) ?_
  exact sn_sub (lv' := [(0, .ref (E.1 + a0)), (1, .int x1), (2, .int x2), (4, .int x4)]) [0, 1, 2, 3] rfl (sfX12_tell_71 k33 hk33 a0 x1 x2 x4 0 y0)
def fX12_tell_33 (k33 : (Nat × Int32 × Int32 × Int32 × Int32) → St → Option (Int32 × St)) (a0 : Nat) (x1 : Int32) (x2 : Int32) (x3 : Int32) (x4 : Int32) : St → Option (Int32 × St) :=
 gR 13 a0 0 fun v1001 =>
 nn v1001 fun a1003 =>
 aI 15 a1003 3 fun v1002 =>
 br (v1002 ≤ x4) (br (x2 = 5) (rt x3)
 (rt (-2)))
 (ck 13 a0 <| cl (fX12_pieceOf a0 x4 2) fun v1004 =>
 br (v1004 = x1) (ck 13 a0 <| cl (fX12_pieceOf a0 x4 4) fun v1005 =>
 br (0 ≤ v1005) (fX12_tell_70 k33 a0 x1 x2 x4 x3)
 (fX12_tell_71 k33 a0 x1 x2 x4 1 x3))
 (fX12_tell_70 k33 a0 x1 x2 x4 x3))
set_option maxHeartbeats 4000000 in
set_option maxRecDepth 100000 in
theorem sfX12_tell_33 {E : Ev} {l : Launch} (k33 : (Nat × Int32 × Int32 × Int32 × Int32) → St → Option (Int32 × St)) (hk33 : ∀ p : Nat × Int32 × Int32 × Int32 × Int32, Snd E l (dpX12_tell, RX12, cX12_tell, 5, (some .int), "tell") rvI 33 [(0, .ref (E.1 + p.1)), (1, .int p.2.1), (2, .int p.2.2.1), (3, .int p.2.2.2.1), (4, .int p.2.2.2.2)] [] (k33 p)) (a0 : Nat) (x1 : Int32) (x2 : Int32) (x3 : Int32) (x4 : Int32) : Snd E l (dpX12_tell, RX12, cX12_tell, 5, (some .int), "tell") rvI 33 [(0, .ref (E.1 + a0)), (1, .int x1), (2, .int x2), (3, .int x3), (4, .int x4)] [] (fX12_tell_33 k33 a0 x1 x2 x3 x4) := by
  unfold fX12_tell_33
  refine sn_iload (pc := 33) (j := 4) dX12_tell_33 rfl ?_
  refine sn_aload_n (pc := 35) (j := 0) dX12_tell_35 rfl rfl ?_
  refine sn_gR (pc := 36) dX12_tell_36 flX12_7 rfl (fun v1001 => ?_)
  refine sn_iconst (pc := 39) (v := 3) dX12_tell_39 (by decide) ?_
  rcases v1001 with _ | a1003
  · exact sn_no
  refine sn_nn ?_
  refine sn_iald (pc := 40) dX12_tell_40 (fun v1002 => ?_)
  refine sn_icmp_ge (pc := 41) (tgt := 79) dX12_tell_41 (by decide) ?_ ?_
  · refine sn_iload_n (pc := 79) (j := 2) dX12_tell_79 rfl rfl ?_
    refine sn_iconst (pc := 80) (v := 5) dX12_tell_80 (by decide) ?_
    refine sn_icmp_ne (pc := 81) (tgt := 88) dX12_tell_81 (by decide) ?_ ?_
    · refine sn_bipush (pc := 88) (v := (-2)) dX12_tell_88 (by decide) ?_
      exact sn_iret (pc := 90) dX12_tell_90 rfl
    · refine sn_iload_n (pc := 84) (j := 3) dX12_tell_84 rfl rfl ?_
      refine sn_goto (pc := 85) (tgt := 90) dX12_tell_85 (by decide) ?_
      exact sn_iret (pc := 90) dX12_tell_90 rfl
  · refine sn_iload_n (pc := 44) (j := 3) dX12_tell_44 rfl rfl ?_
    refine sn_aload_n (pc := 45) (j := 0) dX12_tell_45 rfl rfl ?_
    refine sn_iload (pc := 46) (j := 4) dX12_tell_46 rfl ?_
    refine sn_iconst (pc := 48) (v := 2) dX12_tell_48 (by decide) ?_
    refine sn_callV (ci := 12) (pc := 49) dX12_tell_49 iX12_pieceOf wt7_94 ws_67 wt7_92 ⟨_, rfl, rfl⟩ (by decide) (mX12_pieceOf a0 x4 2) (by decide) rfl rfl (Nat.le_of_ble_eq_true rfl) (fun v1004 => ?_)
    refine sn_iload_n (pc := 52) (j := 1) dX12_tell_52 rfl rfl ?_
    refine sn_icmp_ne (pc := 53) (tgt := 70) dX12_tell_53 (by decide) ?_ ?_
    · exact sn_sub (lv' := [(0, .ref (E.1 + a0)), (1, .int x1), (2, .int x2), (4, .int x4)]) [0, 1, 2, 4] rfl (sfX12_tell_70 k33 hk33 a0 x1 x2 x4 x3)
    · refine sn_aload_n (pc := 56) (j := 0) dX12_tell_56 rfl rfl ?_
      refine sn_iload (pc := 57) (j := 4) dX12_tell_57 rfl ?_
      refine sn_iconst (pc := 59) (v := 4) dX12_tell_59 (by decide) ?_
      refine sn_callV (ci := 12) (pc := 60) dX12_tell_60 iX12_pieceOf wt7_94 ws_67 wt7_92 ⟨_, rfl, rfl⟩ (by decide) (mX12_pieceOf a0 x4 4) (by decide) rfl rfl (Nat.le_of_ble_eq_true rfl) (fun v1005 => ?_)
      refine sn_if_ge (pc := 63) (tgt := 70) dX12_tell_63 (by decide) ?_ ?_
      · exact sn_sub (lv' := [(0, .ref (E.1 + a0)), (1, .int x1), (2, .int x2), (4, .int x4)]) [0, 1, 2, 4] rfl (sfX12_tell_70 k33 hk33 a0 x1 x2 x4 x3)
      · refine sn_iconst (pc := 66) (v := 1) dX12_tell_66 (by decide) ?_
        refine sn_goto (pc := 67) (tgt := 71) dX12_tell_67 (by decide) ?_
        exact sn_sub (lv' := [(0, .ref (E.1 + a0)), (1, .int x1), (2, .int x2), (4, .int x4)]) [0, 1, 2, 4] rfl (sfX12_tell_71 k33 hk33 a0 x1 x2 x4 1 x3)
def fX12_tell (a0 : Nat) (x1 : Int32) (x2 : Int32) : St → Option (Int32 × St) :=
 ck 13 a0 <| cl (fX12_isOf a0 x1 2) fun v1 =>
 br ((bi v1) = 0) (rt (-2))
 (cl (fX12_isIn x2 0 4) fun v2 =>
 br ((bi v2) = 0) (itr (fun k (p : Nat × Int32 × Int32 × Int32 × Int32) => fX12_tell_33  k p.1 p.2.1 p.2.2.1 p.2.2.2.1 p.2.2.2.2) FU (a0, x1, x2, 0, 0))
 (ck 13 a0 <| cl (fX12_handOf a0 x1 x2) fun v3 =>
 rt v3))
set_option maxHeartbeats 4000000 in
set_option maxRecDepth 100000 in
theorem mX12_tell {E : Ev} {l : Launch} (a0 : Nat) (x1 : Int32) (x2 : Int32) : MF E l dpX12_tell yX12_tell cX12_tell 5 (some .int) rvI [.ref (E.1 + a0), .int x1, .int x2] (fX12_tell a0 x1 x2) := by
  refine MF.of (lv := [(0, .ref (E.1 + a0)), (1, .int x1), (2, .int x2)]) (by decide) (Nat.le_of_ble_eq_true rfl) rfl ?_
  unfold fX12_tell
  refine sn_aload_n (pc := 0) (j := 0) dX12_tell_0 rfl rfl ?_
  refine sn_iload_n (pc := 1) (j := 1) dX12_tell_1 rfl rfl ?_
  refine sn_iconst (pc := 2) (v := 2) dX12_tell_2 (by decide) ?_
  refine sn_callV (ci := 12) (pc := 3) dX12_tell_3 iX12_isOf wt6_235 ws_54 wt6_233 ⟨_, rfl, rfl⟩ (by decide) (mX12_isOf a0 x1 2) (by decide) rfl rfl (Nat.le_of_ble_eq_true rfl) (fun v1 => ?_)
  refine sn_if_ne (pc := 6) (tgt := 12) dX12_tell_6 (by decide) ?_ ?_
  · refine sn_iload_n (pc := 12) (j := 2) dX12_tell_12 rfl rfl ?_
    refine sn_iconst (pc := 13) (v := 0) dX12_tell_13 (by decide) ?_
    refine sn_iconst (pc := 14) (v := 4) dX12_tell_14 (by decide) ?_
    refine sn_callS (pc := 15) dX12_tell_15 iX12_isIn wt6_138 wt6_137 (mX12_isIn x2 0 4) (by decide) rfl rfl (Nat.le_of_ble_eq_true rfl) (fun v2 => ?_)
    refine sn_if_eq (pc := 18) (tgt := 28) dX12_tell_18 (by decide) ?_ ?_
    · refine sn_iconst (pc := 28) (v := 0) dX12_tell_28 (by decide) ?_
      refine sn_istore_n (pc := 29) (i := 3) (lv' := [(3, .int 0), (0, .ref (E.1 + a0)), (1, .int x1), (2, .int x2)]) dX12_tell_29 rfl (by decide) rfl ?_
      refine sn_iconst (pc := 30) (v := 0) dX12_tell_30 (by decide) ?_
      refine sn_istore (pc := 31) (i := 4) (lv' := [(4, .int 0), (3, .int 0), (0, .ref (E.1 + a0)), (1, .int x1), (2, .int x2)]) dX12_tell_31 (by decide) rfl ?_
      exact sn_sub (lv' := [(0, .ref (E.1 + a0)), (1, .int x1), (2, .int x2), (3, .int 0), (4, .int 0)]) [2, 3, 4, 1, 0] rfl (sn_itr (lvf := fun p => [(0, .ref (E.1 + p.1)), (1, .int p.2.1), (2, .int p.2.2.1), (3, .int p.2.2.2.1), (4, .int p.2.2.2.2)]) (stf := fun p => []) (fun k hk p => sfX12_tell_33  k hk p.1 p.2.1 p.2.2.1 p.2.2.2.1 p.2.2.2.2) FU (a0, x1, x2, 0, 0))
    · refine sn_aload_n (pc := 21) (j := 0) dX12_tell_21 rfl rfl ?_
      refine sn_iload_n (pc := 22) (j := 1) dX12_tell_22 rfl rfl ?_
      refine sn_iload_n (pc := 23) (j := 2) dX12_tell_23 rfl rfl ?_
      refine sn_callV (ci := 12) (pc := 24) dX12_tell_24 iX12_handOf wt7_50 ws_62 wt7_48 ⟨_, rfl, rfl⟩ (by decide) (mX12_handOf a0 x1 x2) (by decide) rfl rfl (Nat.le_of_ble_eq_true rfl) (fun v3 => ?_)
      exact sn_iret (pc := 27) dX12_tell_27 rfl
  · refine sn_bipush (pc := 9) (v := (-2)) dX12_tell_9 (by decide) ?_
    exact sn_iret (pc := 11) dX12_tell_11 rfl
theorem iX12_tell : MI yX12_tell cX12_tell 5 (some .int) 2 := ⟨wt1_10, wt7_91, by decide +kernel, by decide⟩
-- NeedleHomesModel out(III)I
theorem dX12_out_0 : decode cX12_out 0 = .ok (.aload_n 0, 1) := by decide +kernel
theorem dX12_out_1 : decode cX12_out 1 = .ok (.getfield 7, 3) := by decide +kernel
theorem dX12_out_4 : decode cX12_out 4 = .ok (.iconst 3, 1) := by decide +kernel
theorem dX12_out_5 : decode cX12_out 5 = .ok (.iaload, 1) := by decide +kernel
theorem dX12_out_6 : decode cX12_out 6 = .ok (.bipush 60, 2) := by decide +kernel
theorem dX12_out_8 : decode cX12_out 8 = .ok (.if_icmp .eq 30, 3) := by decide +kernel
theorem dX12_out_11 : decode cX12_out 11 = .ok (.iload_n 1, 1) := by decide +kernel
theorem dX12_out_12 : decode cX12_out 12 = .ok (.iconst 0, 1) := by decide +kernel
theorem dX12_out_13 : decode cX12_out 13 = .ok (.iconst 2, 1) := by decide +kernel
theorem dX12_out_14 : decode cX12_out 14 = .ok (.invokestatic 51, 3) := by decide +kernel
theorem dX12_out_17 : decode cX12_out 17 = .ok (.ifCond .eq 21, 3) := by decide +kernel
theorem dX12_out_20 : decode cX12_out 20 = .ok (.aload_n 0, 1) := by decide +kernel
theorem dX12_out_21 : decode cX12_out 21 = .ok (.iload_n 2, 1) := by decide +kernel
theorem dX12_out_22 : decode cX12_out 22 = .ok (.iconst 0, 1) := by decide +kernel
theorem dX12_out_23 : decode cX12_out 23 = .ok (.invokevirtual 178, 3) := by decide +kernel
theorem dX12_out_26 : decode cX12_out 26 = .ok (.ifCond .eq 12, 3) := by decide +kernel
theorem dX12_out_29 : decode cX12_out 29 = .ok (.aload_n 0, 1) := by decide +kernel
theorem dX12_out_30 : decode cX12_out 30 = .ok (.iload_n 3, 1) := by decide +kernel
theorem dX12_out_31 : decode cX12_out 31 = .ok (.iconst 2, 1) := by decide +kernel
theorem dX12_out_32 : decode cX12_out 32 = .ok (.invokevirtual 178, 3) := by decide +kernel
theorem dX12_out_35 : decode cX12_out 35 = .ok (.ifCond .ne 5, 3) := by decide +kernel
theorem dX12_out_38 : decode cX12_out 38 = .ok (.iconst (-1), 1) := by decide +kernel
theorem dX12_out_39 : decode cX12_out 39 = .ok (.ireturn, 1) := by decide +kernel
theorem dX12_out_40 : decode cX12_out 40 = .ok (.sipush 5360, 3) := by decide +kernel
theorem dX12_out_43 : decode cX12_out 43 = .ok (.bipush 28, 2) := by decide +kernel
theorem dX12_out_45 : decode cX12_out 45 = .ok (.aload_n 0, 1) := by decide +kernel
theorem dX12_out_46 : decode cX12_out 46 = .ok (.getfield 7, 3) := by decide +kernel
theorem dX12_out_49 : decode cX12_out 49 = .ok (.iconst 3, 1) := by decide +kernel
theorem dX12_out_50 : decode cX12_out 50 = .ok (.iaload, 1) := by decide +kernel
theorem dX12_out_51 : decode cX12_out 51 = .ok (.imul, 1) := by decide +kernel
theorem dX12_out_52 : decode cX12_out 52 = .ok (.iadd, 1) := by decide +kernel
theorem dX12_out_53 : decode cX12_out 53 = .ok (.istore 4, 2) := by decide +kernel
theorem dX12_out_55 : decode cX12_out 55 = .ok (.iconst 0, 1) := by decide +kernel
theorem dX12_out_56 : decode cX12_out 56 = .ok (.istore 5, 2) := by decide +kernel
theorem dX12_out_58 : decode cX12_out 58 = .ok (.iload 5, 2) := by decide +kernel
theorem dX12_out_60 : decode cX12_out 60 = .ok (.bipush 28, 2) := by decide +kernel
theorem dX12_out_62 : decode cX12_out 62 = .ok (.if_icmp .ge 20, 3) := by decide +kernel
theorem dX12_out_65 : decode cX12_out 65 = .ok (.aload_n 0, 1) := by decide +kernel
theorem dX12_out_66 : decode cX12_out 66 = .ok (.getfield 7, 3) := by decide +kernel
theorem dX12_out_69 : decode cX12_out 69 = .ok (.iload 4, 2) := by decide +kernel
theorem dX12_out_71 : decode cX12_out 71 = .ok (.iload 5, 2) := by decide +kernel
theorem dX12_out_73 : decode cX12_out 73 = .ok (.iadd, 1) := by decide +kernel
theorem dX12_out_74 : decode cX12_out 74 = .ok (.iconst 0, 1) := by decide +kernel
theorem dX12_out_75 : decode cX12_out 75 = .ok (.iastore, 1) := by decide +kernel
theorem dX12_out_76 : decode cX12_out 76 = .ok (.iinc 5 1, 3) := by decide +kernel
theorem dX12_out_79 : decode cX12_out 79 = .ok (.goto (-21), 3) := by decide +kernel
theorem dX12_out_82 : decode cX12_out 82 = .ok (.aload_n 0, 1) := by decide +kernel
theorem dX12_out_83 : decode cX12_out 83 = .ok (.getfield 7, 3) := by decide +kernel
theorem dX12_out_86 : decode cX12_out 86 = .ok (.iload 4, 2) := by decide +kernel
theorem dX12_out_88 : decode cX12_out 88 = .ok (.iload_n 1, 1) := by decide +kernel
theorem dX12_out_89 : decode cX12_out 89 = .ok (.iastore, 1) := by decide +kernel
theorem dX12_out_90 : decode cX12_out 90 = .ok (.aload_n 0, 1) := by decide +kernel
theorem dX12_out_91 : decode cX12_out 91 = .ok (.getfield 7, 3) := by decide +kernel
theorem dX12_out_94 : decode cX12_out 94 = .ok (.iload 4, 2) := by decide +kernel
theorem dX12_out_96 : decode cX12_out 96 = .ok (.iconst 1, 1) := by decide +kernel
theorem dX12_out_97 : decode cX12_out 97 = .ok (.iadd, 1) := by decide +kernel
theorem dX12_out_98 : decode cX12_out 98 = .ok (.iload_n 2, 1) := by decide +kernel
theorem dX12_out_99 : decode cX12_out 99 = .ok (.iastore, 1) := by decide +kernel
theorem dX12_out_100 : decode cX12_out 100 = .ok (.aload_n 0, 1) := by decide +kernel
theorem dX12_out_101 : decode cX12_out 101 = .ok (.getfield 7, 3) := by decide +kernel
theorem dX12_out_104 : decode cX12_out 104 = .ok (.iload 4, 2) := by decide +kernel
theorem dX12_out_106 : decode cX12_out 106 = .ok (.iconst 2, 1) := by decide +kernel
theorem dX12_out_107 : decode cX12_out 107 = .ok (.iadd, 1) := by decide +kernel
theorem dX12_out_108 : decode cX12_out 108 = .ok (.iload_n 3, 1) := by decide +kernel
theorem dX12_out_109 : decode cX12_out 109 = .ok (.iastore, 1) := by decide +kernel
theorem dX12_out_110 : decode cX12_out 110 = .ok (.aload_n 0, 1) := by decide +kernel
theorem dX12_out_111 : decode cX12_out 111 = .ok (.getfield 7, 3) := by decide +kernel
theorem dX12_out_114 : decode cX12_out 114 = .ok (.iload 4, 2) := by decide +kernel
theorem dX12_out_116 : decode cX12_out 116 = .ok (.iconst 3, 1) := by decide +kernel
theorem dX12_out_117 : decode cX12_out 117 = .ok (.iadd, 1) := by decide +kernel
theorem dX12_out_118 : decode cX12_out 118 = .ok (.aload_n 0, 1) := by decide +kernel
theorem dX12_out_119 : decode cX12_out 119 = .ok (.getfield 7, 3) := by decide +kernel
theorem dX12_out_122 : decode cX12_out 122 = .ok (.iconst 4, 1) := by decide +kernel
theorem dX12_out_123 : decode cX12_out 123 = .ok (.iaload, 1) := by decide +kernel
theorem dX12_out_124 : decode cX12_out 124 = .ok (.iastore, 1) := by decide +kernel
theorem dX12_out_125 : decode cX12_out 125 = .ok (.aload_n 0, 1) := by decide +kernel
theorem dX12_out_126 : decode cX12_out 126 = .ok (.getfield 7, 3) := by decide +kernel
theorem dX12_out_129 : decode cX12_out 129 = .ok (.iload 4, 2) := by decide +kernel
theorem dX12_out_131 : decode cX12_out 131 = .ok (.iconst 4, 1) := by decide +kernel
theorem dX12_out_132 : decode cX12_out 132 = .ok (.iadd, 1) := by decide +kernel
theorem dX12_out_133 : decode cX12_out 133 = .ok (.iconst (-1), 1) := by decide +kernel
theorem dX12_out_134 : decode cX12_out 134 = .ok (.iastore, 1) := by decide +kernel
theorem dX12_out_135 : decode cX12_out 135 = .ok (.aload_n 0, 1) := by decide +kernel
theorem dX12_out_136 : decode cX12_out 136 = .ok (.getfield 7, 3) := by decide +kernel
theorem dX12_out_139 : decode cX12_out 139 = .ok (.iconst 3, 1) := by decide +kernel
theorem dX12_out_140 : decode cX12_out 140 = .ok (.dup2, 1) := by decide +kernel
theorem dX12_out_141 : decode cX12_out 141 = .ok (.iaload, 1) := by decide +kernel
theorem dX12_out_142 : decode cX12_out 142 = .ok (.iconst 1, 1) := by decide +kernel
theorem dX12_out_143 : decode cX12_out 143 = .ok (.iadd, 1) := by decide +kernel
theorem dX12_out_144 : decode cX12_out 144 = .ok (.iastore, 1) := by decide +kernel
theorem dX12_out_145 : decode cX12_out 145 = .ok (.aload_n 0, 1) := by decide +kernel
theorem dX12_out_146 : decode cX12_out 146 = .ok (.getfield 7, 3) := by decide +kernel
theorem dX12_out_149 : decode cX12_out 149 = .ok (.iconst 3, 1) := by decide +kernel
theorem dX12_out_150 : decode cX12_out 150 = .ok (.iaload, 1) := by decide +kernel
theorem dX12_out_151 : decode cX12_out 151 = .ok (.iconst 1, 1) := by decide +kernel
theorem dX12_out_152 : decode cX12_out 152 = .ok (.isub, 1) := by decide +kernel
theorem dX12_out_153 : decode cX12_out 153 = .ok (.ireturn, 1) := by decide +kernel
abbrev dpX12_out : Nat := 2
def fX12_out_58 (k58 : (Nat × Int32 × Int32 × Int32 × Int32 × Int32) → St → Option (Int32 × St)) (a0 : Nat) (x1 : Int32) (x2 : Int32) (x3 : Int32) (x4 : Int32) (x5 : Int32) : St → Option (Int32 × St) :=
 br (28 ≤ x5) (gR 13 a0 0 fun v1001 =>
 nn v1001 fun a1002 =>
 wI a1002 x4 x1 <|
 gR 13 a0 0 fun v1003 =>
 nn v1003 fun a1004 =>
 wI a1004 (x4 + 1) x2 <|
 gR 13 a0 0 fun v1005 =>
 nn v1005 fun a1006 =>
 wI a1006 (x4 + 2) x3 <|
 gR 13 a0 0 fun v1007 =>
 gR 13 a0 0 fun v1008 =>
 nn v1008 fun a1010 =>
 aI 15 a1010 4 fun v1009 =>
 nn v1007 fun a1011 =>
 wI a1011 (x4 + 3) v1009 <|
 gR 13 a0 0 fun v1012 =>
 nn v1012 fun a1013 =>
 wI a1013 (x4 + 4) (-1) <|
 gR 13 a0 0 fun v1014 =>
 nn v1014 fun a1016 =>
 aI 15 a1016 3 fun v1015 =>
 wI a1016 3 (v1015 + 1) <|
 gR 13 a0 0 fun v1017 =>
 nn v1017 fun a1019 =>
 aI 15 a1019 3 fun v1018 =>
 rt (v1018 - 1))
 (gR 13 a0 0 fun v1020 =>
 nn v1020 fun a1021 =>
 wI a1021 (x4 + x5) 0 <|
 k58 (a0, x1, x2, x3, x4, (x5 + 1)))
set_option maxHeartbeats 4000000 in
set_option maxRecDepth 100000 in
theorem sfX12_out_58 {E : Ev} {l : Launch} (k58 : (Nat × Int32 × Int32 × Int32 × Int32 × Int32) → St → Option (Int32 × St)) (hk58 : ∀ p : Nat × Int32 × Int32 × Int32 × Int32 × Int32, Snd E l (dpX12_out, RX12, cX12_out, 6, (some .int), "out") rvI 58 [(0, .ref (E.1 + p.1)), (1, .int p.2.1), (2, .int p.2.2.1), (3, .int p.2.2.2.1), (4, .int p.2.2.2.2.1), (5, .int p.2.2.2.2.2)] [] (k58 p)) (a0 : Nat) (x1 : Int32) (x2 : Int32) (x3 : Int32) (x4 : Int32) (x5 : Int32) : Snd E l (dpX12_out, RX12, cX12_out, 6, (some .int), "out") rvI 58 [(0, .ref (E.1 + a0)), (1, .int x1), (2, .int x2), (3, .int x3), (4, .int x4), (5, .int x5)] [] (fX12_out_58 k58 a0 x1 x2 x3 x4 x5) := by
  unfold fX12_out_58
  refine sn_iload (pc := 58) (j := 5) dX12_out_58 rfl ?_
  refine sn_bipush (pc := 60) (v := 28) dX12_out_60 (by decide) ?_
  refine sn_icmp_ge (pc := 62) (tgt := 82) dX12_out_62 (by decide) ?_ ?_
  · refine sn_aload_n (pc := 82) (j := 0) dX12_out_82 rfl rfl ?_
    refine sn_gR (pc := 83) dX12_out_83 flX12_7 rfl (fun v1001 => ?_)
    refine sn_iload (pc := 86) (j := 4) dX12_out_86 rfl ?_
    refine sn_iload_n (pc := 88) (j := 1) dX12_out_88 rfl rfl ?_
    rcases v1001 with _ | a1002
    · exact sn_no
    refine sn_nn ?_
    refine sn_iast (pc := 89) dX12_out_89 ?_
    refine sn_aload_n (pc := 90) (j := 0) dX12_out_90 rfl rfl ?_
    refine sn_gR (pc := 91) dX12_out_91 flX12_7 rfl (fun v1003 => ?_)
    refine sn_iload (pc := 94) (j := 4) dX12_out_94 rfl ?_
    refine sn_iconst (pc := 96) (v := 1) dX12_out_96 (by decide) ?_
    refine sn_iadd (pc := 97) dX12_out_97 ?_
    refine sn_iload_n (pc := 98) (j := 2) dX12_out_98 rfl rfl ?_
    rcases v1003 with _ | a1004
    · exact sn_no
    refine sn_nn ?_
    refine sn_iast (pc := 99) dX12_out_99 ?_
    refine sn_aload_n (pc := 100) (j := 0) dX12_out_100 rfl rfl ?_
    refine sn_gR (pc := 101) dX12_out_101 flX12_7 rfl (fun v1005 => ?_)
    refine sn_iload (pc := 104) (j := 4) dX12_out_104 rfl ?_
    refine sn_iconst (pc := 106) (v := 2) dX12_out_106 (by decide) ?_
    refine sn_iadd (pc := 107) dX12_out_107 ?_
    refine sn_iload_n (pc := 108) (j := 3) dX12_out_108 rfl rfl ?_
    rcases v1005 with _ | a1006
    · exact sn_no
    refine sn_nn ?_
    refine sn_iast (pc := 109) dX12_out_109 ?_
    refine sn_aload_n (pc := 110) (j := 0) dX12_out_110 rfl rfl ?_
    refine sn_gR (pc := 111) dX12_out_111 flX12_7 rfl (fun v1007 => ?_)
    refine sn_iload (pc := 114) (j := 4) dX12_out_114 rfl ?_
    refine sn_iconst (pc := 116) (v := 3) dX12_out_116 (by decide) ?_
    refine sn_iadd (pc := 117) dX12_out_117 ?_
    refine sn_aload_n (pc := 118) (j := 0) dX12_out_118 rfl rfl ?_
    refine sn_gR (pc := 119) dX12_out_119 flX12_7 rfl (fun v1008 => ?_)
    refine sn_iconst (pc := 122) (v := 4) dX12_out_122 (by decide) ?_
    rcases v1008 with _ | a1010
    · exact sn_no
    refine sn_nn ?_
    refine sn_iald (pc := 123) dX12_out_123 (fun v1009 => ?_)
    rcases v1007 with _ | a1011
    · exact sn_no
    refine sn_nn ?_
    refine sn_iast (pc := 124) dX12_out_124 ?_
    refine sn_aload_n (pc := 125) (j := 0) dX12_out_125 rfl rfl ?_
    refine sn_gR (pc := 126) dX12_out_126 flX12_7 rfl (fun v1012 => ?_)
    refine sn_iload (pc := 129) (j := 4) dX12_out_129 rfl ?_
    refine sn_iconst (pc := 131) (v := 4) dX12_out_131 (by decide) ?_
    refine sn_iadd (pc := 132) dX12_out_132 ?_
    refine sn_iconst (pc := 133) (v := (-1)) dX12_out_133 (by decide) ?_
    rcases v1012 with _ | a1013
    · exact sn_no
    refine sn_nn ?_
    refine sn_iast (pc := 134) dX12_out_134 ?_
    refine sn_aload_n (pc := 135) (j := 0) dX12_out_135 rfl rfl ?_
    refine sn_gR (pc := 136) dX12_out_136 flX12_7 rfl (fun v1014 => ?_)
    refine sn_iconst (pc := 139) (v := 3) dX12_out_139 (by decide) ?_
    refine sn_dup2 (pc := 140) dX12_out_140 rfl (rf_cat _ _) ?_
    rcases v1014 with _ | a1016
    · exact sn_no
    refine sn_nn ?_
    refine sn_iald (pc := 141) dX12_out_141 (fun v1015 => ?_)
    refine sn_iconst (pc := 142) (v := 1) dX12_out_142 (by decide) ?_
    refine sn_iadd (pc := 143) dX12_out_143 ?_
    refine sn_iast (pc := 144) dX12_out_144 ?_
    refine sn_aload_n (pc := 145) (j := 0) dX12_out_145 rfl rfl ?_
    refine sn_gR (pc := 146) dX12_out_146 flX12_7 rfl (fun v1017 => ?_)
    refine sn_iconst (pc := 149) (v := 3) dX12_out_149 (by decide) ?_
    rcases v1017 with _ | a1019
    · exact sn_no
    refine sn_nn ?_
    refine sn_iald (pc := 150) dX12_out_150 (fun v1018 => ?_)
    refine sn_iconst (pc := 151) (v := 1) dX12_out_151 (by decide) ?_
    refine sn_isub (pc := 152) dX12_out_152 ?_
    exact sn_iret (pc := 153) dX12_out_153 rfl
  · refine sn_aload_n (pc := 65) (j := 0) dX12_out_65 rfl rfl ?_
    refine sn_gR (pc := 66) dX12_out_66 flX12_7 rfl (fun v1020 => ?_)
    refine sn_iload (pc := 69) (j := 4) dX12_out_69 rfl ?_
    refine sn_iload (pc := 71) (j := 5) dX12_out_71 rfl ?_
    refine sn_iadd (pc := 73) dX12_out_73 ?_
    refine sn_iconst (pc := 74) (v := 0) dX12_out_74 (by decide) ?_
    rcases v1020 with _ | a1021
    · exact sn_no
    refine sn_nn ?_
    refine sn_iast (pc := 75) dX12_out_75 ?_
    refine sn_iinc (pc := 76) (v := x5 + 1) (lv' := [(5, .int (x5 + 1)), (0, .ref (E.1 + a0)), (1, .int x1), (2, .int x2), (3, .int x3), (4, .int x4)]) (j := 5) dX12_out_76 rfl rfl (by decide) rfl ?_
    refine sn_goto (pc := 79) (tgt := 58) dX12_out_79 (by decide) ?_
    exact sn_sub (lv' := [(0, .ref (E.1 + a0)), (1, .int x1), (2, .int x2), (3, .int x3), (4, .int x4), (5, .int (x5 + 1))]) [1, 2, 3, 4, 5, 0] rfl (hk58 (a0, x1, x2, x3, x4, (x5 + 1)))
def fX12_out (a0 : Nat) (x1 : Int32) (x2 : Int32) (x3 : Int32) : St → Option (Int32 × St) :=
 gR 13 a0 0 fun v1 =>
 nn v1 fun a3 =>
 aI 15 a3 3 fun v2 =>
 br (v2 = 60) (rt (-1))
 (cl (fX12_isIn x1 0 2) fun v4 =>
 br ((bi v4) = 0) (rt (-1))
 (ck 13 a0 <| cl (fX12_isOf a0 x2 0) fun v5 =>
 br ((bi v5) = 0) (rt (-1))
 (ck 13 a0 <| cl (fX12_isOf a0 x3 2) fun v6 =>
 br ((bi v6) = 0) (rt (-1))
 (gR 13 a0 0 fun v7 =>
 nn v7 fun a9 =>
 aI 15 a9 3 fun v8 =>
 itr (fun k (p : Nat × Int32 × Int32 × Int32 × Int32 × Int32) => fX12_out_58  k p.1 p.2.1 p.2.2.1 p.2.2.2.1 p.2.2.2.2.1 p.2.2.2.2.2) FU (a0, x1, x2, x3, (5360 + (28 * v8)), 0)))))
set_option maxHeartbeats 4000000 in
set_option maxRecDepth 100000 in
theorem mX12_out {E : Ev} {l : Launch} (a0 : Nat) (x1 : Int32) (x2 : Int32) (x3 : Int32) : MF E l dpX12_out yX12_out cX12_out 6 (some .int) rvI [.ref (E.1 + a0), .int x1, .int x2, .int x3] (fX12_out a0 x1 x2 x3) := by
  refine MF.of (lv := [(0, .ref (E.1 + a0)), (1, .int x1), (2, .int x2), (3, .int x3)]) (by decide) (Nat.le_of_ble_eq_true rfl) rfl ?_
  unfold fX12_out
  refine sn_aload_n (pc := 0) (j := 0) dX12_out_0 rfl rfl ?_
  refine sn_gR (pc := 1) dX12_out_1 flX12_7 rfl (fun v1 => ?_)
  refine sn_iconst (pc := 4) (v := 3) dX12_out_4 (by decide) ?_
  rcases v1 with _ | a3
  · exact sn_no
  refine sn_nn ?_
  refine sn_iald (pc := 5) dX12_out_5 (fun v2 => ?_)
  refine sn_bipush (pc := 6) (v := 60) dX12_out_6 (by decide) ?_
  refine sn_icmp_eq (pc := 8) (tgt := 38) dX12_out_8 (by decide) ?_ ?_
  · refine sn_iconst (pc := 38) (v := (-1)) dX12_out_38 (by decide) ?_
    exact sn_iret (pc := 39) dX12_out_39 rfl
  · refine sn_iload_n (pc := 11) (j := 1) dX12_out_11 rfl rfl ?_
    refine sn_iconst (pc := 12) (v := 0) dX12_out_12 (by decide) ?_
    refine sn_iconst (pc := 13) (v := 2) dX12_out_13 (by decide) ?_
    refine sn_callS (pc := 14) dX12_out_14 iX12_isIn wt6_138 wt6_137 (mX12_isIn x1 0 2) (by decide) rfl rfl (Nat.le_of_ble_eq_true rfl) (fun v4 => ?_)
    refine sn_if_eq (pc := 17) (tgt := 38) dX12_out_17 (by decide) ?_ ?_
    · refine sn_iconst (pc := 38) (v := (-1)) dX12_out_38 (by decide) ?_
      exact sn_iret (pc := 39) dX12_out_39 rfl
    · refine sn_aload_n (pc := 20) (j := 0) dX12_out_20 rfl rfl ?_
      refine sn_iload_n (pc := 21) (j := 2) dX12_out_21 rfl rfl ?_
      refine sn_iconst (pc := 22) (v := 0) dX12_out_22 (by decide) ?_
      refine sn_callV (ci := 12) (pc := 23) dX12_out_23 iX12_isOf wt6_235 ws_54 wt6_233 ⟨_, rfl, rfl⟩ (by decide) (mX12_isOf a0 x2 0) (by decide) rfl rfl (Nat.le_of_ble_eq_true rfl) (fun v5 => ?_)
      refine sn_if_eq (pc := 26) (tgt := 38) dX12_out_26 (by decide) ?_ ?_
      · refine sn_iconst (pc := 38) (v := (-1)) dX12_out_38 (by decide) ?_
        exact sn_iret (pc := 39) dX12_out_39 rfl
      · refine sn_aload_n (pc := 29) (j := 0) dX12_out_29 rfl rfl ?_
        refine sn_iload_n (pc := 30) (j := 3) dX12_out_30 rfl rfl ?_
        refine sn_iconst (pc := 31) (v := 2) dX12_out_31 (by decide) ?_
        refine sn_callV (ci := 12) (pc := 32) dX12_out_32 iX12_isOf wt6_235 ws_54 wt6_233 ⟨_, rfl, rfl⟩ (by decide) (mX12_isOf a0 x3 2) (by decide) rfl rfl (Nat.le_of_ble_eq_true rfl) (fun v6 => ?_)
        refine sn_if_ne (pc := 35) (tgt := 40) dX12_out_35 (by decide) ?_ ?_
        · refine sn_sipush (pc := 40) (v := 5360) dX12_out_40 (by decide) ?_
          refine sn_bipush (pc := 43) (v := 28) dX12_out_43 (by decide) ?_
          refine sn_aload_n (pc := 45) (j := 0) dX12_out_45 rfl rfl ?_
          refine sn_gR (pc := 46) dX12_out_46 flX12_7 rfl (fun v7 => ?_)
          refine sn_iconst (pc := 49) (v := 3) dX12_out_49 (by decide) ?_
          rcases v7 with _ | a9
          · exact sn_no
          refine sn_nn ?_
          refine sn_iald (pc := 50) dX12_out_50 (fun v8 => ?_)
          refine sn_imul (pc := 51) dX12_out_51 ?_
          refine sn_iadd (pc := 52) dX12_out_52 ?_
          refine sn_istore (pc := 53) (i := 4) (lv' := [(4, .int (5360 + (28 * v8))), (0, .ref (E.1 + a0)), (1, .int x1), (2, .int x2), (3, .int x3)]) dX12_out_53 (by decide) rfl ?_
          refine sn_iconst (pc := 55) (v := 0) dX12_out_55 (by decide) ?_
          refine sn_istore (pc := 56) (i := 5) (lv' := [(5, .int 0), (4, .int (5360 + (28 * v8))), (0, .ref (E.1 + a0)), (1, .int x1), (2, .int x2), (3, .int x3)]) dX12_out_56 (by decide) rfl ?_
          exact sn_sub (lv' := [(0, .ref (E.1 + a0)), (1, .int x1), (2, .int x2), (3, .int x3), (4, .int (5360 + (28 * v8))), (5, .int 0)]) [2, 3, 4, 5, 1, 0] rfl (sn_itr (lvf := fun p => [(0, .ref (E.1 + p.1)), (1, .int p.2.1), (2, .int p.2.2.1), (3, .int p.2.2.2.1), (4, .int p.2.2.2.2.1), (5, .int p.2.2.2.2.2)]) (stf := fun p => []) (fun k hk p => sfX12_out_58  k hk p.1 p.2.1 p.2.2.1 p.2.2.2.1 p.2.2.2.2.1 p.2.2.2.2.2) FU (a0, x1, x2, x3, (5360 + (28 * v8)), 0))
        · refine sn_iconst (pc := 38) (v := (-1)) dX12_out_38 (by decide) ?_
          exact sn_iret (pc := 39) dX12_out_39 rfl
theorem iX12_out : MI yX12_out cX12_out 6 (some .int) 3 := ⟨wt1_10, wt7_99, by decide +kernel, by decide⟩
-- NeedleHomesModel bills(IIII)V
theorem dX12_bills_0 : decode cX12_bills 0 = .ok (.aload_n 0, 1) := by decide +kernel
theorem dX12_bills_1 : decode cX12_bills 1 = .ok (.iload_n 1, 1) := by decide +kernel
theorem dX12_bills_2 : decode cX12_bills 2 = .ok (.iconst 1, 1) := by decide +kernel
theorem dX12_bills_3 : decode cX12_bills 3 = .ok (.invokevirtual 256, 3) := by decide +kernel
theorem dX12_bills_6 : decode cX12_bills 6 = .ok (.istore 5, 2) := by decide +kernel
theorem dX12_bills_8 : decode cX12_bills 8 = .ok (.aload_n 0, 1) := by decide +kernel
theorem dX12_bills_9 : decode cX12_bills 9 = .ok (.iload_n 1, 1) := by decide +kernel
theorem dX12_bills_10 : decode cX12_bills 10 = .ok (.iconst 3, 1) := by decide +kernel
theorem dX12_bills_11 : decode cX12_bills 11 = .ok (.invokevirtual 256, 3) := by decide +kernel
theorem dX12_bills_14 : decode cX12_bills 14 = .ok (.bipush 7, 2) := by decide +kernel
theorem dX12_bills_16 : decode cX12_bills 16 = .ok (.idiv, 1) := by decide +kernel
theorem dX12_bills_17 : decode cX12_bills 17 = .ok (.istore 6, 2) := by decide +kernel
theorem dX12_bills_19 : decode cX12_bills 19 = .ok (.aload_n 0, 1) := by decide +kernel
theorem dX12_bills_20 : decode cX12_bills 20 = .ok (.aload_n 0, 1) := by decide +kernel
theorem dX12_bills_21 : decode cX12_bills 21 = .ok (.iload_n 1, 1) := by decide +kernel
theorem dX12_bills_22 : decode cX12_bills 22 = .ok (.iconst 0, 1) := by decide +kernel
theorem dX12_bills_23 : decode cX12_bills 23 = .ok (.invokevirtual 256, 3) := by decide +kernel
theorem dX12_bills_26 : decode cX12_bills 26 = .ok (.iload 6, 2) := by decide +kernel
theorem dX12_bills_28 : decode cX12_bills 28 = .ok (.iload_n 2, 1) := by decide +kernel
theorem dX12_bills_29 : decode cX12_bills 29 = .ok (.invokevirtual 201, 3) := by decide +kernel
theorem dX12_bills_32 : decode cX12_bills 32 = .ok (.istore 7, 2) := by decide +kernel
theorem dX12_bills_34 : decode cX12_bills 34 = .ok (.aload_n 0, 1) := by decide +kernel
theorem dX12_bills_35 : decode cX12_bills 35 = .ok (.iload 5, 2) := by decide +kernel
theorem dX12_bills_37 : decode cX12_bills 37 = .ok (.aload_n 0, 1) := by decide +kernel
theorem dX12_bills_38 : decode cX12_bills 38 = .ok (.iload_n 1, 1) := by decide +kernel
theorem dX12_bills_39 : decode cX12_bills 39 = .ok (.iconst 2, 1) := by decide +kernel
theorem dX12_bills_40 : decode cX12_bills 40 = .ok (.invokevirtual 256, 3) := by decide +kernel
theorem dX12_bills_43 : decode cX12_bills 43 = .ok (.iload 6, 2) := by decide +kernel
theorem dX12_bills_45 : decode cX12_bills 45 = .ok (.iload 4, 2) := by decide +kernel
theorem dX12_bills_47 : decode cX12_bills 47 = .ok (.invokevirtual 247, 3) := by decide +kernel
theorem dX12_bills_50 : decode cX12_bills 50 = .ok (.aload_n 0, 1) := by decide +kernel
theorem dX12_bills_51 : decode cX12_bills 51 = .ok (.iconst 0, 1) := by decide +kernel
theorem dX12_bills_52 : decode cX12_bills 52 = .ok (.putfield 259, 3) := by decide +kernel
theorem dX12_bills_55 : decode cX12_bills 55 = .ok (.aload_n 0, 1) := by decide +kernel
theorem dX12_bills_56 : decode cX12_bills 56 = .ok (.iconst 0, 1) := by decide +kernel
theorem dX12_bills_57 : decode cX12_bills 57 = .ok (.putfield 262, 3) := by decide +kernel
theorem dX12_bills_60 : decode cX12_bills 60 = .ok (.iconst 0, 1) := by decide +kernel
theorem dX12_bills_61 : decode cX12_bills 61 = .ok (.istore 8, 2) := by decide +kernel
theorem dX12_bills_63 : decode cX12_bills 63 = .ok (.iload 8, 2) := by decide +kernel
theorem dX12_bills_65 : decode cX12_bills 65 = .ok (.bipush 24, 2) := by decide +kernel
theorem dX12_bills_67 : decode cX12_bills 67 = .ok (.if_icmp .ge 88, 3) := by decide +kernel
theorem dX12_bills_70 : decode cX12_bills 70 = .ok (.aload_n 0, 1) := by decide +kernel
theorem dX12_bills_71 : decode cX12_bills 71 = .ok (.iload 5, 2) := by decide +kernel
theorem dX12_bills_73 : decode cX12_bills 73 = .ok (.iconst 3, 1) := by decide +kernel
theorem dX12_bills_74 : decode cX12_bills 74 = .ok (.iload 8, 2) := by decide +kernel
theorem dX12_bills_76 : decode cX12_bills 76 = .ok (.iadd, 1) := by decide +kernel
theorem dX12_bills_77 : decode cX12_bills 77 = .ok (.invokevirtual 182, 3) := by decide +kernel
theorem dX12_bills_80 : decode cX12_bills 80 = .ok (.i2l, 1) := by decide +kernel
theorem dX12_bills_81 : decode cX12_bills 81 = .ok (.lstore 9, 2) := by decide +kernel
theorem dX12_bills_83 : decode cX12_bills 83 = .ok (.aload_n 0, 1) := by decide +kernel
theorem dX12_bills_84 : decode cX12_bills 84 = .ok (.dup, 1) := by decide +kernel
theorem dX12_bills_85 : decode cX12_bills 85 = .ok (.getfield 259, 3) := by decide +kernel
theorem dX12_bills_88 : decode cX12_bills 88 = .ok (.lload 9, 2) := by decide +kernel
theorem dX12_bills_90 : decode cX12_bills 90 = .ok (.aload_n 0, 1) := by decide +kernel
theorem dX12_bills_91 : decode cX12_bills 91 = .ok (.iload 7, 2) := by decide +kernel
theorem dX12_bills_93 : decode cX12_bills 93 = .ok (.iconst 1, 1) := by decide +kernel
theorem dX12_bills_94 : decode cX12_bills 94 = .ok (.iload 8, 2) := by decide +kernel
theorem dX12_bills_96 : decode cX12_bills 96 = .ok (.iconst 4, 1) := by decide +kernel
theorem dX12_bills_97 : decode cX12_bills 97 = .ok (.idiv, 1) := by decide +kernel
theorem dX12_bills_98 : decode cX12_bills 98 = .ok (.iload 8, 2) := by decide +kernel
theorem dX12_bills_100 : decode cX12_bills 100 = .ok (.iconst 4, 1) := by decide +kernel
theorem dX12_bills_101 : decode cX12_bills 101 = .ok (.irem, 1) := by decide +kernel
theorem dX12_bills_102 : decode cX12_bills 102 = .ok (.invokevirtual 251, 3) := by decide +kernel
theorem dX12_bills_105 : decode cX12_bills 105 = .ok (.i2l, 1) := by decide +kernel
theorem dX12_bills_106 : decode cX12_bills 106 = .ok (.lmul, 1) := by decide +kernel
theorem dX12_bills_107 : decode cX12_bills 107 = .ok (.ldc2_w 265, 3) := by decide +kernel
theorem dX12_bills_110 : decode cX12_bills 110 = .ok (.ldiv, 1) := by decide +kernel
theorem dX12_bills_111 : decode cX12_bills 111 = .ok (.l2i, 1) := by decide +kernel
theorem dX12_bills_112 : decode cX12_bills 112 = .ok (.iadd, 1) := by decide +kernel
theorem dX12_bills_113 : decode cX12_bills 113 = .ok (.putfield 259, 3) := by decide +kernel
theorem dX12_bills_116 : decode cX12_bills 116 = .ok (.aload_n 0, 1) := by decide +kernel
theorem dX12_bills_117 : decode cX12_bills 117 = .ok (.dup, 1) := by decide +kernel
theorem dX12_bills_118 : decode cX12_bills 118 = .ok (.getfield 262, 3) := by decide +kernel
theorem dX12_bills_121 : decode cX12_bills 121 = .ok (.lload 9, 2) := by decide +kernel
theorem dX12_bills_123 : decode cX12_bills 123 = .ok (.aload_n 0, 1) := by decide +kernel
theorem dX12_bills_124 : decode cX12_bills 124 = .ok (.iload 7, 2) := by decide +kernel
theorem dX12_bills_126 : decode cX12_bills 126 = .ok (.iconst 0, 1) := by decide +kernel
theorem dX12_bills_127 : decode cX12_bills 127 = .ok (.iload 8, 2) := by decide +kernel
theorem dX12_bills_129 : decode cX12_bills 129 = .ok (.iconst 4, 1) := by decide +kernel
theorem dX12_bills_130 : decode cX12_bills 130 = .ok (.idiv, 1) := by decide +kernel
theorem dX12_bills_131 : decode cX12_bills 131 = .ok (.iload 8, 2) := by decide +kernel
theorem dX12_bills_133 : decode cX12_bills 133 = .ok (.iconst 4, 1) := by decide +kernel
theorem dX12_bills_134 : decode cX12_bills 134 = .ok (.irem, 1) := by decide +kernel
theorem dX12_bills_135 : decode cX12_bills 135 = .ok (.invokevirtual 251, 3) := by decide +kernel
theorem dX12_bills_138 : decode cX12_bills 138 = .ok (.i2l, 1) := by decide +kernel
theorem dX12_bills_139 : decode cX12_bills 139 = .ok (.lmul, 1) := by decide +kernel
theorem dX12_bills_140 : decode cX12_bills 140 = .ok (.ldc2_w 265, 3) := by decide +kernel
theorem dX12_bills_143 : decode cX12_bills 143 = .ok (.ldiv, 1) := by decide +kernel
theorem dX12_bills_144 : decode cX12_bills 144 = .ok (.l2i, 1) := by decide +kernel
theorem dX12_bills_145 : decode cX12_bills 145 = .ok (.iadd, 1) := by decide +kernel
theorem dX12_bills_146 : decode cX12_bills 146 = .ok (.putfield 262, 3) := by decide +kernel
theorem dX12_bills_149 : decode cX12_bills 149 = .ok (.iinc 8 1, 3) := by decide +kernel
theorem dX12_bills_152 : decode cX12_bills 152 = .ok (.goto (-89), 3) := by decide +kernel
theorem dX12_bills_155 : decode cX12_bills 155 = .ok (.aload_n 0, 1) := by decide +kernel
theorem dX12_bills_156 : decode cX12_bills 156 = .ok (.aload_n 0, 1) := by decide +kernel
theorem dX12_bills_157 : decode cX12_bills 157 = .ok (.iload_n 1, 1) := by decide +kernel
theorem dX12_bills_158 : decode cX12_bills 158 = .ok (.iconst 3, 1) := by decide +kernel
theorem dX12_bills_159 : decode cX12_bills 159 = .ok (.invokevirtual 256, 3) := by decide +kernel
theorem dX12_bills_162 : decode cX12_bills 162 = .ok (.aload_n 0, 1) := by decide +kernel
theorem dX12_bills_163 : decode cX12_bills 163 = .ok (.iload 7, 2) := by decide +kernel
theorem dX12_bills_165 : decode cX12_bills 165 = .ok (.iconst 4, 1) := by decide +kernel
theorem dX12_bills_166 : decode cX12_bills 166 = .ok (.iconst 0, 1) := by decide +kernel
theorem dX12_bills_167 : decode cX12_bills 167 = .ok (.iconst 0, 1) := by decide +kernel
theorem dX12_bills_168 : decode cX12_bills 168 = .ok (.invokevirtual 251, 3) := by decide +kernel
theorem dX12_bills_171 : decode cX12_bills 171 = .ok (.iadd, 1) := by decide +kernel
theorem dX12_bills_172 : decode cX12_bills 172 = .ok (.putfield 267, 3) := by decide +kernel
theorem dX12_bills_175 : decode cX12_bills 175 = .ok (.aload_n 0, 1) := by decide +kernel
theorem dX12_bills_176 : decode cX12_bills 176 = .ok (.iconst 0, 1) := by decide +kernel
theorem dX12_bills_177 : decode cX12_bills 177 = .ok (.putfield 270, 3) := by decide +kernel
theorem dX12_bills_180 : decode cX12_bills 180 = .ok (.aload_n 0, 1) := by decide +kernel
theorem dX12_bills_181 : decode cX12_bills 181 = .ok (.iconst 0, 1) := by decide +kernel
theorem dX12_bills_182 : decode cX12_bills 182 = .ok (.putfield 273, 3) := by decide +kernel
theorem dX12_bills_185 : decode cX12_bills 185 = .ok (.iload_n 3, 1) := by decide +kernel
theorem dX12_bills_186 : decode cX12_bills 186 = .ok (.ifCond .ge 4, 3) := by decide +kernel
theorem dX12_bills_189 : decode cX12_bills 189 = .ok (.return_, 1) := by decide +kernel
theorem dX12_bills_190 : decode cX12_bills 190 = .ok (.aload_n 0, 1) := by decide +kernel
theorem dX12_bills_191 : decode cX12_bills 191 = .ok (.iload 4, 2) := by decide +kernel
theorem dX12_bills_193 : decode cX12_bills 193 = .ok (.aload_n 0, 1) := by decide +kernel
theorem dX12_bills_194 : decode cX12_bills 194 = .ok (.iload 7, 2) := by decide +kernel
theorem dX12_bills_196 : decode cX12_bills 196 = .ok (.iconst 2, 1) := by decide +kernel
theorem dX12_bills_197 : decode cX12_bills 197 = .ok (.iconst 0, 1) := by decide +kernel
theorem dX12_bills_198 : decode cX12_bills 198 = .ok (.iconst 0, 1) := by decide +kernel
theorem dX12_bills_199 : decode cX12_bills 199 = .ok (.invokevirtual 251, 3) := by decide +kernel
theorem dX12_bills_202 : decode cX12_bills 202 = .ok (.imul, 1) := by decide +kernel
theorem dX12_bills_203 : decode cX12_bills 203 = .ok (.iload_n 3, 1) := by decide +kernel
theorem dX12_bills_204 : decode cX12_bills 204 = .ok (.aload_n 0, 1) := by decide +kernel
theorem dX12_bills_205 : decode cX12_bills 205 = .ok (.getfield 267, 3) := by decide +kernel
theorem dX12_bills_208 : decode cX12_bills 208 = .ok (.if_icmp .le 22, 3) := by decide +kernel
theorem dX12_bills_211 : decode cX12_bills 211 = .ok (.iload_n 3, 1) := by decide +kernel
theorem dX12_bills_212 : decode cX12_bills 212 = .ok (.aload_n 0, 1) := by decide +kernel
theorem dX12_bills_213 : decode cX12_bills 213 = .ok (.getfield 267, 3) := by decide +kernel
theorem dX12_bills_216 : decode cX12_bills 216 = .ok (.isub, 1) := by decide +kernel
theorem dX12_bills_217 : decode cX12_bills 217 = .ok (.aload_n 0, 1) := by decide +kernel
theorem dX12_bills_218 : decode cX12_bills 218 = .ok (.iload 7, 2) := by decide +kernel
theorem dX12_bills_220 : decode cX12_bills 220 = .ok (.iconst 3, 1) := by decide +kernel
theorem dX12_bills_221 : decode cX12_bills 221 = .ok (.iconst 0, 1) := by decide +kernel
theorem dX12_bills_222 : decode cX12_bills 222 = .ok (.iconst 0, 1) := by decide +kernel
theorem dX12_bills_223 : decode cX12_bills 223 = .ok (.invokevirtual 251, 3) := by decide +kernel
theorem dX12_bills_226 : decode cX12_bills 226 = .ok (.imul, 1) := by decide +kernel
theorem dX12_bills_227 : decode cX12_bills 227 = .ok (.goto 4, 3) := by decide +kernel
theorem dX12_bills_230 : decode cX12_bills 230 = .ok (.iconst 0, 1) := by decide +kernel
theorem dX12_bills_231 : decode cX12_bills 231 = .ok (.iadd, 1) := by decide +kernel
theorem dX12_bills_232 : decode cX12_bills 232 = .ok (.putfield 270, 3) := by decide +kernel
theorem dX12_bills_235 : decode cX12_bills 235 = .ok (.aload_n 0, 1) := by decide +kernel
theorem dX12_bills_236 : decode cX12_bills 236 = .ok (.getfield 270, 3) := by decide +kernel
theorem dX12_bills_239 : decode cX12_bills 239 = .ok (.aload_n 0, 1) := by decide +kernel
theorem dX12_bills_240 : decode cX12_bills 240 = .ok (.getfield 262, 3) := by decide +kernel
theorem dX12_bills_243 : decode cX12_bills 243 = .ok (.if_icmp .le 11, 3) := by decide +kernel
theorem dX12_bills_246 : decode cX12_bills 246 = .ok (.aload_n 0, 1) := by decide +kernel
theorem dX12_bills_247 : decode cX12_bills 247 = .ok (.aload_n 0, 1) := by decide +kernel
theorem dX12_bills_248 : decode cX12_bills 248 = .ok (.getfield 262, 3) := by decide +kernel
theorem dX12_bills_251 : decode cX12_bills 251 = .ok (.putfield 270, 3) := by decide +kernel
theorem dX12_bills_254 : decode cX12_bills 254 = .ok (.aload_n 0, 1) := by decide +kernel
theorem dX12_bills_255 : decode cX12_bills 255 = .ok (.aload_n 0, 1) := by decide +kernel
theorem dX12_bills_256 : decode cX12_bills 256 = .ok (.getfield 262, 3) := by decide +kernel
theorem dX12_bills_259 : decode cX12_bills 259 = .ok (.aload_n 0, 1) := by decide +kernel
theorem dX12_bills_260 : decode cX12_bills 260 = .ok (.getfield 270, 3) := by decide +kernel
theorem dX12_bills_263 : decode cX12_bills 263 = .ok (.isub, 1) := by decide +kernel
theorem dX12_bills_264 : decode cX12_bills 264 = .ok (.i2l, 1) := by decide +kernel
theorem dX12_bills_265 : decode cX12_bills 265 = .ok (.aload_n 0, 1) := by decide +kernel
theorem dX12_bills_266 : decode cX12_bills 266 = .ok (.iload 7, 2) := by decide +kernel
theorem dX12_bills_268 : decode cX12_bills 268 = .ok (.iconst 5, 1) := by decide +kernel
theorem dX12_bills_269 : decode cX12_bills 269 = .ok (.iconst 0, 1) := by decide +kernel
theorem dX12_bills_270 : decode cX12_bills 270 = .ok (.iconst 0, 1) := by decide +kernel
theorem dX12_bills_271 : decode cX12_bills 271 = .ok (.invokevirtual 251, 3) := by decide +kernel
theorem dX12_bills_274 : decode cX12_bills 274 = .ok (.i2l, 1) := by decide +kernel
theorem dX12_bills_275 : decode cX12_bills 275 = .ok (.lmul, 1) := by decide +kernel
theorem dX12_bills_276 : decode cX12_bills 276 = .ok (.ldc2_w 265, 3) := by decide +kernel
theorem dX12_bills_279 : decode cX12_bills 279 = .ok (.ldiv, 1) := by decide +kernel
theorem dX12_bills_280 : decode cX12_bills 280 = .ok (.l2i, 1) := by decide +kernel
theorem dX12_bills_281 : decode cX12_bills 281 = .ok (.putfield 273, 3) := by decide +kernel
theorem dX12_bills_284 : decode cX12_bills 284 = .ok (.return_, 1) := by decide +kernel
abbrev dpX12_bills : Nat := 3
def fX12_bills_254 (a0 : Nat) (x7 : Int32) : St → Option (Unit × St) :=
 gI 13 a0 27 fun v3001 =>
 gI 13 a0 29 fun v3002 =>
 ck 13 a0 <| cl (fX12_termOf a0 x7 5 0 0) fun v3003 =>
 dvJ 100 <|
 pI 13 a0 30 (((((v3001 - v3002).toInt64) * v3003.toInt64) / 100).toInt32) <|
 rt ()
set_option maxHeartbeats 4000000 in
set_option maxRecDepth 100000 in
theorem sfX12_bills_254 {E : Ev} {l : Launch} (a0 : Nat) (x7 : Int32) : Snd E l (dpX12_bills, RX12, cX12_bills, 11, none, "bills") rvV 254 [(0, .ref (E.1 + a0)), (7, .int x7)] [] (fX12_bills_254 a0 x7) := by
  unfold fX12_bills_254
  refine sn_aload_n (pc := 254) (j := 0) dX12_bills_254 rfl rfl ?_
  refine sn_aload_n (pc := 255) (j := 0) dX12_bills_255 rfl rfl ?_
  refine sn_gI (pc := 256) dX12_bills_256 flX12_262 rfl (fun v3001 => ?_)
  refine sn_aload_n (pc := 259) (j := 0) dX12_bills_259 rfl rfl ?_
  refine sn_gI (pc := 260) dX12_bills_260 flX12_270 rfl (fun v3002 => ?_)
  refine sn_isub (pc := 263) dX12_bills_263 ?_
  refine sn_i2l (pc := 264) dX12_bills_264 ?_
  refine sn_aload_n (pc := 265) (j := 0) dX12_bills_265 rfl rfl ?_
  refine sn_iload (pc := 266) (j := 1) dX12_bills_266 rfl ?_
  refine sn_iconst (pc := 268) (v := 5) dX12_bills_268 (by decide) ?_
  refine sn_iconst (pc := 269) (v := 0) dX12_bills_269 (by decide) ?_
  refine sn_iconst (pc := 270) (v := 0) dX12_bills_270 (by decide) ?_
  refine sn_callV (ci := 12) (pc := 271) dX12_bills_271 iX12_termOf wt7_58 ws_64 wt7_56 ⟨_, rfl, rfl⟩ (by decide) (mX12_termOf a0 x7 5 0 0) (by decide) rfl rfl (Nat.le_of_ble_eq_true rfl) (fun v3003 => ?_)
  refine sn_i2l (pc := 274) dX12_bills_274 ?_
  refine sn_lmul (pc := 275) dX12_bills_275 ?_
  refine sn_ldc2 (pc := 276) (v := 100) dX12_bills_276 wt7_108 ?_
  refine sn_ldiv (pc := 279) dX12_bills_279 ?_
  refine sn_l2i (pc := 280) dX12_bills_280 ?_
  refine sn_pI (pc := 281) dX12_bills_281 flX12_273 rfl rfl (Or.inl rfl) ?_
  exact sn_vret (pc := 284) dX12_bills_284 rfl
def fX12_bills_231 (a0 : Nat) (x7 : Int32) (y0 : Int32) (y1 : Int32) (y2 : Nat) : St → Option (Unit × St) :=
 pI 13 y2 29 (y1 + y0) <|
 gI 13 a0 29 fun v2001 =>
 gI 13 a0 27 fun v2002 =>
 br (v2001 ≤ v2002) (fX12_bills_254  a0 x7)
 (gI 13 a0 27 fun v2003 =>
 pI 13 a0 29 v2003 <|
 fX12_bills_254  a0 x7)
set_option maxHeartbeats 4000000 in
set_option maxRecDepth 100000 in
theorem sfX12_bills_231 {E : Ev} {l : Launch} (a0 : Nat) (x7 : Int32) (y0 : Int32) (y1 : Int32) (y2 : Nat) : Snd E l (dpX12_bills, RX12, cX12_bills, 11, none, "bills") rvV 231 [(0, .ref (E.1 + a0)), (7, .int x7)] [.int y0, .int y1, .ref (E.1 + y2)] (fX12_bills_231 a0 x7 y0 y1 y2) := by
  unfold fX12_bills_231
  refine sn_iadd (pc := 231) dX12_bills_231 ?_
  refine sn_pI (pc := 232) dX12_bills_232 flX12_270 rfl rfl (Or.inl rfl) ?_
  refine sn_aload_n (pc := 235) (j := 0) dX12_bills_235 rfl rfl ?_
  refine sn_gI (pc := 236) dX12_bills_236 flX12_270 rfl (fun v2001 => ?_)
  refine sn_aload_n (pc := 239) (j := 0) dX12_bills_239 rfl rfl ?_
  refine sn_gI (pc := 240) dX12_bills_240 flX12_262 rfl (fun v2002 => ?_)
  refine sn_icmp_le (pc := 243) (tgt := 254) dX12_bills_243 (by decide) ?_ ?_
  · exact sn_sub (lv' := [(0, .ref (E.1 + a0)), (7, .int x7)]) [0, 1] rfl (sfX12_bills_254  a0 x7)
  · refine sn_aload_n (pc := 246) (j := 0) dX12_bills_246 rfl rfl ?_
    refine sn_aload_n (pc := 247) (j := 0) dX12_bills_247 rfl rfl ?_
    refine sn_gI (pc := 248) dX12_bills_248 flX12_262 rfl (fun v2003 => ?_)
    refine sn_pI (pc := 251) dX12_bills_251 flX12_270 rfl rfl (Or.inl rfl) ?_
    exact sn_sub (lv' := [(0, .ref (E.1 + a0)), (7, .int x7)]) [0, 1] rfl (sfX12_bills_254  a0 x7)
def fX12_bills_63 (k63 : (Nat × Int32 × Int32 × Int32 × Int32 × Int32 × Int32) → St → Option (Unit × St)) (a0 : Nat) (x1 : Int32) (x3 : Int32) (x4 : Int32) (x5 : Int32) (x7 : Int32) (x8 : Int32) : St → Option (Unit × St) :=
 br (24 ≤ x8) (ck 13 a0 <| cl (fX12_pieceOf a0 x1 3) fun v1001 =>
 ck 13 a0 <| cl (fX12_termOf a0 x7 4 0 0) fun v1002 =>
 pI 13 a0 28 (v1001 + v1002) <|
 pI 13 a0 29 0 <|
 pI 13 a0 30 0 <|
 br (0 ≤ x3) (ck 13 a0 <| cl (fX12_termOf a0 x7 2 0 0) fun v1003 =>
 gI 13 a0 28 fun v1004 =>
 br (x3 ≤ v1004) (fX12_bills_231  a0 x7 0 (x4 * v1003) a0)
 (gI 13 a0 28 fun v1005 =>
 ck 13 a0 <| cl (fX12_termOf a0 x7 3 0 0) fun v1006 =>
 fX12_bills_231  a0 x7 ((x3 - v1005) * v1006) (x4 * v1003) a0))
 (rt ()))
 (ck 13 a0 <| cl (fX12_patternOf a0 x5 (3 + x8)) fun v1007 =>
 gI 13 a0 26 fun v1008 =>
 dv 4 <|
 dv 4 <|
 ck 13 a0 <| cl (fX12_termOf a0 x7 1 (x8 / 4) (irm x8 4)) fun v1009 =>
 dvJ 100 <|
 pI 13 a0 26 (v1008 + (((v1007.toInt64 * v1009.toInt64) / 100).toInt32)) <|
 gI 13 a0 27 fun v1010 =>
 dv 4 <|
 dv 4 <|
 ck 13 a0 <| cl (fX12_termOf a0 x7 0 (x8 / 4) (irm x8 4)) fun v1011 =>
 dvJ 100 <|
 pI 13 a0 27 (v1010 + (((v1007.toInt64 * v1011.toInt64) / 100).toInt32)) <|
 k63 (a0, x1, x3, x4, x5, x7, (x8 + 1)))
set_option maxHeartbeats 4000000 in
set_option maxRecDepth 100000 in
theorem sfX12_bills_63 {E : Ev} {l : Launch} (k63 : (Nat × Int32 × Int32 × Int32 × Int32 × Int32 × Int32) → St → Option (Unit × St)) (hk63 : ∀ p : Nat × Int32 × Int32 × Int32 × Int32 × Int32 × Int32, Snd E l (dpX12_bills, RX12, cX12_bills, 11, none, "bills") rvV 63 [(0, .ref (E.1 + p.1)), (1, .int p.2.1), (3, .int p.2.2.1), (4, .int p.2.2.2.1), (5, .int p.2.2.2.2.1), (7, .int p.2.2.2.2.2.1), (8, .int p.2.2.2.2.2.2)] [] (k63 p)) (a0 : Nat) (x1 : Int32) (x3 : Int32) (x4 : Int32) (x5 : Int32) (x7 : Int32) (x8 : Int32) : Snd E l (dpX12_bills, RX12, cX12_bills, 11, none, "bills") rvV 63 [(0, .ref (E.1 + a0)), (1, .int x1), (3, .int x3), (4, .int x4), (5, .int x5), (7, .int x7), (8, .int x8)] [] (fX12_bills_63 k63 a0 x1 x3 x4 x5 x7 x8) := by
  unfold fX12_bills_63
  refine sn_iload (pc := 63) (j := 6) dX12_bills_63 rfl ?_
  refine sn_bipush (pc := 65) (v := 24) dX12_bills_65 (by decide) ?_
  refine sn_icmp_ge (pc := 67) (tgt := 155) dX12_bills_67 (by decide) ?_ ?_
  · refine sn_aload_n (pc := 155) (j := 0) dX12_bills_155 rfl rfl ?_
    refine sn_aload_n (pc := 156) (j := 0) dX12_bills_156 rfl rfl ?_
    refine sn_iload_n (pc := 157) (j := 1) dX12_bills_157 rfl rfl ?_
    refine sn_iconst (pc := 158) (v := 3) dX12_bills_158 (by decide) ?_
    refine sn_callV (ci := 12) (pc := 159) dX12_bills_159 iX12_pieceOf wt7_94 ws_67 wt7_92 ⟨_, rfl, rfl⟩ (by decide) (mX12_pieceOf a0 x1 3) (by decide) rfl rfl (Nat.le_of_ble_eq_true rfl) (fun v1001 => ?_)
    refine sn_aload_n (pc := 162) (j := 0) dX12_bills_162 rfl rfl ?_
    refine sn_iload (pc := 163) (j := 5) dX12_bills_163 rfl ?_
    refine sn_iconst (pc := 165) (v := 4) dX12_bills_165 (by decide) ?_
    refine sn_iconst (pc := 166) (v := 0) dX12_bills_166 (by decide) ?_
    refine sn_iconst (pc := 167) (v := 0) dX12_bills_167 (by decide) ?_
    refine sn_callV (ci := 12) (pc := 168) dX12_bills_168 iX12_termOf wt7_58 ws_64 wt7_56 ⟨_, rfl, rfl⟩ (by decide) (mX12_termOf a0 x7 4 0 0) (by decide) rfl rfl (Nat.le_of_ble_eq_true rfl) (fun v1002 => ?_)
    refine sn_iadd (pc := 171) dX12_bills_171 ?_
    refine sn_pI (pc := 172) dX12_bills_172 flX12_267 rfl rfl (Or.inl rfl) ?_
    refine sn_aload_n (pc := 175) (j := 0) dX12_bills_175 rfl rfl ?_
    refine sn_iconst (pc := 176) (v := 0) dX12_bills_176 (by decide) ?_
    refine sn_pI (pc := 177) dX12_bills_177 flX12_270 rfl rfl (Or.inl rfl) ?_
    refine sn_aload_n (pc := 180) (j := 0) dX12_bills_180 rfl rfl ?_
    refine sn_iconst (pc := 181) (v := 0) dX12_bills_181 (by decide) ?_
    refine sn_pI (pc := 182) dX12_bills_182 flX12_273 rfl rfl (Or.inl rfl) ?_
    refine sn_iload_n (pc := 185) (j := 2) dX12_bills_185 rfl rfl ?_
    refine sn_if_ge (pc := 186) (tgt := 190) dX12_bills_186 (by decide) ?_ ?_
    · refine sn_aload_n (pc := 190) (j := 0) dX12_bills_190 rfl rfl ?_
      refine sn_iload (pc := 191) (j := 3) dX12_bills_191 rfl ?_
      refine sn_aload_n (pc := 193) (j := 0) dX12_bills_193 rfl rfl ?_
      refine sn_iload (pc := 194) (j := 5) dX12_bills_194 rfl ?_
      refine sn_iconst (pc := 196) (v := 2) dX12_bills_196 (by decide) ?_
      refine sn_iconst (pc := 197) (v := 0) dX12_bills_197 (by decide) ?_
      refine sn_iconst (pc := 198) (v := 0) dX12_bills_198 (by decide) ?_
      refine sn_callV (ci := 12) (pc := 199) dX12_bills_199 iX12_termOf wt7_58 ws_64 wt7_56 ⟨_, rfl, rfl⟩ (by decide) (mX12_termOf a0 x7 2 0 0) (by decide) rfl rfl (Nat.le_of_ble_eq_true rfl) (fun v1003 => ?_)
      refine sn_imul (pc := 202) dX12_bills_202 ?_
      refine sn_iload_n (pc := 203) (j := 2) dX12_bills_203 rfl rfl ?_
      refine sn_aload_n (pc := 204) (j := 0) dX12_bills_204 rfl rfl ?_
      refine sn_gI (pc := 205) dX12_bills_205 flX12_267 rfl (fun v1004 => ?_)
      refine sn_icmp_le (pc := 208) (tgt := 230) dX12_bills_208 (by decide) ?_ ?_
      · refine sn_iconst (pc := 230) (v := 0) dX12_bills_230 (by decide) ?_
        exact sn_sub (lv' := [(0, .ref (E.1 + a0)), (7, .int x7)]) [0, 5] rfl (sfX12_bills_231  a0 x7 0 (x4 * v1003) a0)
      · refine sn_iload_n (pc := 211) (j := 2) dX12_bills_211 rfl rfl ?_
        refine sn_aload_n (pc := 212) (j := 0) dX12_bills_212 rfl rfl ?_
        refine sn_gI (pc := 213) dX12_bills_213 flX12_267 rfl (fun v1005 => ?_)
        refine sn_isub (pc := 216) dX12_bills_216 ?_
        refine sn_aload_n (pc := 217) (j := 0) dX12_bills_217 rfl rfl ?_
        refine sn_iload (pc := 218) (j := 5) dX12_bills_218 rfl ?_
        refine sn_iconst (pc := 220) (v := 3) dX12_bills_220 (by decide) ?_
        refine sn_iconst (pc := 221) (v := 0) dX12_bills_221 (by decide) ?_
        refine sn_iconst (pc := 222) (v := 0) dX12_bills_222 (by decide) ?_
        refine sn_callV (ci := 12) (pc := 223) dX12_bills_223 iX12_termOf wt7_58 ws_64 wt7_56 ⟨_, rfl, rfl⟩ (by decide) (mX12_termOf a0 x7 3 0 0) (by decide) rfl rfl (Nat.le_of_ble_eq_true rfl) (fun v1006 => ?_)
        refine sn_imul (pc := 226) dX12_bills_226 ?_
        refine sn_goto (pc := 227) (tgt := 231) dX12_bills_227 (by decide) ?_
        exact sn_sub (lv' := [(0, .ref (E.1 + a0)), (7, .int x7)]) [0, 5] rfl (sfX12_bills_231  a0 x7 ((x3 - v1005) * v1006) (x4 * v1003) a0)
    · exact sn_vret (pc := 189) dX12_bills_189 rfl
  · refine sn_aload_n (pc := 70) (j := 0) dX12_bills_70 rfl rfl ?_
    refine sn_iload (pc := 71) (j := 4) dX12_bills_71 rfl ?_
    refine sn_iconst (pc := 73) (v := 3) dX12_bills_73 (by decide) ?_
    refine sn_iload (pc := 74) (j := 6) dX12_bills_74 rfl ?_
    refine sn_iadd (pc := 76) dX12_bills_76 ?_
    refine sn_callV (ci := 12) (pc := 77) dX12_bills_77 iX12_patternOf wt6_239 ws_55 wt6_237 ⟨_, rfl, rfl⟩ (by decide) (mX12_patternOf a0 x5 (3 + x8)) (by decide) rfl rfl (Nat.le_of_ble_eq_true rfl) (fun v1007 => ?_)
    refine sn_i2l (pc := 80) dX12_bills_80 ?_
    refine sn_lstore (pc := 81) (i := 9) (lv' := [(9, .long v1007.toInt64), (0, .ref (E.1 + a0)), (1, .int x1), (3, .int x3), (4, .int x4), (5, .int x5), (7, .int x7), (8, .int x8)]) dX12_bills_81 (by decide) rfl ?_
    refine sn_aload_n (pc := 83) (j := 1) dX12_bills_83 rfl rfl ?_
    refine sn_dup (pc := 84) dX12_bills_84 rfl ?_
    refine sn_gI (pc := 85) dX12_bills_85 flX12_259 rfl (fun v1008 => ?_)
    refine sn_lload (pc := 88) (j := 0) dX12_bills_88 rfl ?_
    refine sn_aload_n (pc := 90) (j := 1) dX12_bills_90 rfl rfl ?_
    refine sn_iload (pc := 91) (j := 6) dX12_bills_91 rfl ?_
    refine sn_iconst (pc := 93) (v := 1) dX12_bills_93 (by decide) ?_
    refine sn_iload (pc := 94) (j := 7) dX12_bills_94 rfl ?_
    refine sn_iconst (pc := 96) (v := 4) dX12_bills_96 (by decide) ?_
    refine sn_idiv (pc := 97) dX12_bills_97 ?_
    refine sn_iload (pc := 98) (j := 7) dX12_bills_98 rfl ?_
    refine sn_iconst (pc := 100) (v := 4) dX12_bills_100 (by decide) ?_
    refine sn_irem (pc := 101) dX12_bills_101 ?_
    refine sn_callV (ci := 12) (pc := 102) dX12_bills_102 iX12_termOf wt7_58 ws_64 wt7_56 ⟨_, rfl, rfl⟩ (by decide) (mX12_termOf a0 x7 1 (x8 / 4) (irm x8 4)) (by decide) rfl rfl (Nat.le_of_ble_eq_true rfl) (fun v1009 => ?_)
    refine sn_i2l (pc := 105) dX12_bills_105 ?_
    refine sn_lmul (pc := 106) dX12_bills_106 ?_
    refine sn_ldc2 (pc := 107) (v := 100) dX12_bills_107 wt7_108 ?_
    refine sn_ldiv (pc := 110) dX12_bills_110 ?_
    refine sn_l2i (pc := 111) dX12_bills_111 ?_
    refine sn_iadd (pc := 112) dX12_bills_112 ?_
    refine sn_pI (pc := 113) dX12_bills_113 flX12_259 rfl rfl (Or.inl rfl) ?_
    refine sn_aload_n (pc := 116) (j := 1) dX12_bills_116 rfl rfl ?_
    refine sn_dup (pc := 117) dX12_bills_117 rfl ?_
    refine sn_gI (pc := 118) dX12_bills_118 flX12_262 rfl (fun v1010 => ?_)
    refine sn_lload (pc := 121) (j := 0) dX12_bills_121 rfl ?_
    refine sn_aload_n (pc := 123) (j := 1) dX12_bills_123 rfl rfl ?_
    refine sn_iload (pc := 124) (j := 6) dX12_bills_124 rfl ?_
    refine sn_iconst (pc := 126) (v := 0) dX12_bills_126 (by decide) ?_
    refine sn_iload (pc := 127) (j := 7) dX12_bills_127 rfl ?_
    refine sn_iconst (pc := 129) (v := 4) dX12_bills_129 (by decide) ?_
    refine sn_idiv (pc := 130) dX12_bills_130 ?_
    refine sn_iload (pc := 131) (j := 7) dX12_bills_131 rfl ?_
    refine sn_iconst (pc := 133) (v := 4) dX12_bills_133 (by decide) ?_
    refine sn_irem (pc := 134) dX12_bills_134 ?_
    refine sn_callV (ci := 12) (pc := 135) dX12_bills_135 iX12_termOf wt7_58 ws_64 wt7_56 ⟨_, rfl, rfl⟩ (by decide) (mX12_termOf a0 x7 0 (x8 / 4) (irm x8 4)) (by decide) rfl rfl (Nat.le_of_ble_eq_true rfl) (fun v1011 => ?_)
    refine sn_i2l (pc := 138) dX12_bills_138 ?_
    refine sn_lmul (pc := 139) dX12_bills_139 ?_
    refine sn_ldc2 (pc := 140) (v := 100) dX12_bills_140 wt7_108 ?_
    refine sn_ldiv (pc := 143) dX12_bills_143 ?_
    refine sn_l2i (pc := 144) dX12_bills_144 ?_
    refine sn_iadd (pc := 145) dX12_bills_145 ?_
    refine sn_pI (pc := 146) dX12_bills_146 flX12_262 rfl rfl (Or.inl rfl) ?_
    refine sn_iinc (pc := 149) (v := x8 + 1) (lv' := [(8, .int (x8 + 1)), (9, .long v1007.toInt64), (0, .ref (E.1 + a0)), (1, .int x1), (3, .int x3), (4, .int x4), (5, .int x5), (7, .int x7)]) (j := 7) dX12_bills_149 rfl rfl (by decide) rfl ?_
    refine sn_goto (pc := 152) (tgt := 63) dX12_bills_152 (by decide) ?_
    exact sn_sub (lv' := [(0, .ref (E.1 + a0)), (1, .int x1), (3, .int x3), (4, .int x4), (5, .int x5), (7, .int x7), (8, .int (x8 + 1))]) [2, 3, 4, 5, 6, 7, 0] rfl (hk63 (a0, x1, x3, x4, x5, x7, (x8 + 1)))
def fX12_bills (a0 : Nat) (x1 : Int32) (x2 : Int32) (x3 : Int32) (x4 : Int32) : St → Option (Unit × St) :=
 ck 13 a0 <| cl (fX12_pieceOf a0 x1 1) fun v1 =>
 ck 13 a0 <| cl (fX12_pieceOf a0 x1 3) fun v2 =>
 dv 7 <|
 ck 13 a0 <| cl (fX12_pieceOf a0 x1 0) fun v3 =>
 ck 13 a0 <| cl (fX12_listOf a0 v3 (v2 / 7) x2) fun v4 =>
 ck 13 a0 <| cl (fX12_pieceOf a0 x1 2) fun v5 =>
 ck 13 a0 <| cl (fX12_asks a0 v1 v5 (v2 / 7) x4) fun v6 =>
 pI 13 a0 26 0 <|
 pI 13 a0 27 0 <|
 itr (fun k (p : Nat × Int32 × Int32 × Int32 × Int32 × Int32 × Int32) => fX12_bills_63  k p.1 p.2.1 p.2.2.1 p.2.2.2.1 p.2.2.2.2.1 p.2.2.2.2.2.1 p.2.2.2.2.2.2) FU (a0, x1, x3, x4, v1, v4, 0)
set_option maxHeartbeats 4000000 in
set_option maxRecDepth 100000 in
theorem mX12_bills {E : Ev} {l : Launch} (a0 : Nat) (x1 : Int32) (x2 : Int32) (x3 : Int32) (x4 : Int32) : MF E l dpX12_bills yX12_bills cX12_bills 11 none rvV [.ref (E.1 + a0), .int x1, .int x2, .int x3, .int x4] (fX12_bills a0 x1 x2 x3 x4) := by
  refine MF.of (lv := [(0, .ref (E.1 + a0)), (1, .int x1), (2, .int x2), (3, .int x3), (4, .int x4)]) (by decide) (Nat.le_of_ble_eq_true rfl) rfl ?_
  unfold fX12_bills
  refine sn_aload_n (pc := 0) (j := 0) dX12_bills_0 rfl rfl ?_
  refine sn_iload_n (pc := 1) (j := 1) dX12_bills_1 rfl rfl ?_
  refine sn_iconst (pc := 2) (v := 1) dX12_bills_2 (by decide) ?_
  refine sn_callV (ci := 12) (pc := 3) dX12_bills_3 iX12_pieceOf wt7_94 ws_67 wt7_92 ⟨_, rfl, rfl⟩ (by decide) (mX12_pieceOf a0 x1 1) (by decide) rfl rfl (Nat.le_of_ble_eq_true rfl) (fun v1 => ?_)
  refine sn_istore (pc := 6) (i := 5) (lv' := [(5, .int v1), (0, .ref (E.1 + a0)), (1, .int x1), (2, .int x2), (3, .int x3), (4, .int x4)]) dX12_bills_6 (by decide) rfl ?_
  refine sn_aload_n (pc := 8) (j := 1) dX12_bills_8 rfl rfl ?_
  refine sn_iload_n (pc := 9) (j := 2) dX12_bills_9 rfl rfl ?_
  refine sn_iconst (pc := 10) (v := 3) dX12_bills_10 (by decide) ?_
  refine sn_callV (ci := 12) (pc := 11) dX12_bills_11 iX12_pieceOf wt7_94 ws_67 wt7_92 ⟨_, rfl, rfl⟩ (by decide) (mX12_pieceOf a0 x1 3) (by decide) rfl rfl (Nat.le_of_ble_eq_true rfl) (fun v2 => ?_)
  refine sn_bipush (pc := 14) (v := 7) dX12_bills_14 (by decide) ?_
  refine sn_idiv (pc := 16) dX12_bills_16 ?_
  refine sn_istore (pc := 17) (i := 6) (lv' := [(6, .int (v2 / 7)), (5, .int v1), (0, .ref (E.1 + a0)), (1, .int x1), (2, .int x2), (3, .int x3), (4, .int x4)]) dX12_bills_17 (by decide) rfl ?_
  refine sn_aload_n (pc := 19) (j := 2) dX12_bills_19 rfl rfl ?_
  refine sn_aload_n (pc := 20) (j := 2) dX12_bills_20 rfl rfl ?_
  refine sn_iload_n (pc := 21) (j := 3) dX12_bills_21 rfl rfl ?_
  refine sn_iconst (pc := 22) (v := 0) dX12_bills_22 (by decide) ?_
  refine sn_callV (ci := 12) (pc := 23) dX12_bills_23 iX12_pieceOf wt7_94 ws_67 wt7_92 ⟨_, rfl, rfl⟩ (by decide) (mX12_pieceOf a0 x1 0) (by decide) rfl rfl (Nat.le_of_ble_eq_true rfl) (fun v3 => ?_)
  refine sn_iload (pc := 26) (j := 0) dX12_bills_26 rfl ?_
  refine sn_iload_n (pc := 28) (j := 4) dX12_bills_28 rfl rfl ?_
  refine sn_callV (ci := 12) (pc := 29) dX12_bills_29 iX12_listOf wt7_30 ws_59 wt7_28 ⟨_, rfl, rfl⟩ (by decide) (mX12_listOf a0 v3 (v2 / 7) x2) (by decide) rfl rfl (Nat.le_of_ble_eq_true rfl) (fun v4 => ?_)
  refine sn_istore (pc := 32) (i := 7) (lv' := [(7, .int v4), (6, .int (v2 / 7)), (5, .int v1), (0, .ref (E.1 + a0)), (1, .int x1), (2, .int x2), (3, .int x3), (4, .int x4)]) dX12_bills_32 (by decide) rfl ?_
  refine sn_aload_n (pc := 34) (j := 3) dX12_bills_34 rfl rfl ?_
  refine sn_iload (pc := 35) (j := 2) dX12_bills_35 rfl ?_
  refine sn_aload_n (pc := 37) (j := 3) dX12_bills_37 rfl rfl ?_
  refine sn_iload_n (pc := 38) (j := 4) dX12_bills_38 rfl rfl ?_
  refine sn_iconst (pc := 39) (v := 2) dX12_bills_39 (by decide) ?_
  refine sn_callV (ci := 12) (pc := 40) dX12_bills_40 iX12_pieceOf wt7_94 ws_67 wt7_92 ⟨_, rfl, rfl⟩ (by decide) (mX12_pieceOf a0 x1 2) (by decide) rfl rfl (Nat.le_of_ble_eq_true rfl) (fun v5 => ?_)
  refine sn_iload (pc := 43) (j := 1) dX12_bills_43 rfl ?_
  refine sn_iload (pc := 45) (j := 7) dX12_bills_45 rfl ?_
  refine sn_callV (ci := 12) (pc := 47) dX12_bills_47 iX12_asks wt7_46 ws_61 wt7_44 ⟨_, rfl, rfl⟩ (by decide) (mX12_asks a0 v1 v5 (v2 / 7) x4) (by decide) rfl rfl (Nat.le_of_ble_eq_true rfl) (fun v6 => ?_)
  refine sn_aload_n (pc := 50) (j := 3) dX12_bills_50 rfl rfl ?_
  refine sn_iconst (pc := 51) (v := 0) dX12_bills_51 (by decide) ?_
  refine sn_pI (pc := 52) dX12_bills_52 flX12_259 rfl rfl (Or.inl rfl) ?_
  refine sn_aload_n (pc := 55) (j := 3) dX12_bills_55 rfl rfl ?_
  refine sn_iconst (pc := 56) (v := 0) dX12_bills_56 (by decide) ?_
  refine sn_pI (pc := 57) dX12_bills_57 flX12_262 rfl rfl (Or.inl rfl) ?_
  refine sn_iconst (pc := 60) (v := 0) dX12_bills_60 (by decide) ?_
  refine sn_istore (pc := 61) (i := 8) (lv' := [(8, .int 0), (7, .int v4), (6, .int (v2 / 7)), (5, .int v1), (0, .ref (E.1 + a0)), (1, .int x1), (2, .int x2), (3, .int x3), (4, .int x4)]) dX12_bills_61 (by decide) rfl ?_
  exact sn_sub (lv' := [(0, .ref (E.1 + a0)), (1, .int x1), (3, .int x3), (4, .int x4), (5, .int v1), (7, .int v4), (8, .int 0)]) [4, 5, 7, 8, 3, 1, 0] rfl (sn_itr (lvf := fun p => [(0, .ref (E.1 + p.1)), (1, .int p.2.1), (3, .int p.2.2.1), (4, .int p.2.2.2.1), (5, .int p.2.2.2.2.1), (7, .int p.2.2.2.2.2.1), (8, .int p.2.2.2.2.2.2)]) (stf := fun p => []) (fun k hk p => sfX12_bills_63  k hk p.1 p.2.1 p.2.2.1 p.2.2.2.1 p.2.2.2.2.1 p.2.2.2.2.2.1 p.2.2.2.2.2.2) FU (a0, x1, x3, x4, v1, v4, 0))
theorem iX12_bills : MI yX12_bills cX12_bills 11 none 4 := ⟨wt1_10, wt7_107, by decide +kernel, by decide⟩
