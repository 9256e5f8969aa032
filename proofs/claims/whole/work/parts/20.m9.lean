-- NeedleHomes settle(LNeedleHomes$Piece;LNeedleHomes$Hand;)V
theorem dX11_settle_0 : decode cX11_settle 0 = .ok (.aload_n 0, 1) := by decide +kernel
theorem dX11_settle_1 : decode cX11_settle 1 = .ok (.getfield 37, 3) := by decide +kernel
theorem dX11_settle_4 : decode cX11_settle 4 = .ok (.invokevirtual 297, 3) := by decide +kernel
theorem dX11_settle_7 : decode cX11_settle 7 = .ok (.istore_n 3, 1) := by decide +kernel
theorem dX11_settle_8 : decode cX11_settle 8 = .ok (.aload_n 1, 1) := by decide +kernel
theorem dX11_settle_9 : decode cX11_settle 9 = .ok (.iload_n 3, 1) := by decide +kernel
theorem dX11_settle_10 : decode cX11_settle 10 = .ok (.iconst 2, 1) := by decide +kernel
theorem dX11_settle_11 : decode cX11_settle 11 = .ok (.idiv, 1) := by decide +kernel
theorem dX11_settle_12 : decode cX11_settle 12 = .ok (.aload_n 2, 1) := by decide +kernel
theorem dX11_settle_13 : decode cX11_settle 13 = .ok (.getfield 191, 3) := by decide +kernel
theorem dX11_settle_16 : decode cX11_settle 16 = .ok (.invokestatic 377, 3) := by decide +kernel
theorem dX11_settle_19 : decode cX11_settle 19 = .ok (.putfield 281, 3) := by decide +kernel
theorem dX11_settle_22 : decode cX11_settle 22 = .ok (.aload_n 1, 1) := by decide +kernel
theorem dX11_settle_23 : decode cX11_settle 23 = .ok (.iload_n 3, 1) := by decide +kernel
theorem dX11_settle_24 : decode cX11_settle 24 = .ok (.aload_n 1, 1) := by decide +kernel
theorem dX11_settle_25 : decode cX11_settle 25 = .ok (.getfield 281, 3) := by decide +kernel
theorem dX11_settle_28 : decode cX11_settle 28 = .ok (.isub, 1) := by decide +kernel
theorem dX11_settle_29 : decode cX11_settle 29 = .ok (.putfield 265, 3) := by decide +kernel
theorem dX11_settle_32 : decode cX11_settle 32 = .ok (.aload_n 2, 1) := by decide +kernel
theorem dX11_settle_33 : decode cX11_settle 33 = .ok (.dup, 1) := by decide +kernel
theorem dX11_settle_34 : decode cX11_settle 34 = .ok (.getfield 191, 3) := by decide +kernel
theorem dX11_settle_37 : decode cX11_settle 37 = .ok (.aload_n 1, 1) := by decide +kernel
theorem dX11_settle_38 : decode cX11_settle 38 = .ok (.getfield 281, 3) := by decide +kernel
theorem dX11_settle_41 : decode cX11_settle 41 = .ok (.isub, 1) := by decide +kernel
theorem dX11_settle_42 : decode cX11_settle 42 = .ok (.putfield 191, 3) := by decide +kernel
theorem dX11_settle_45 : decode cX11_settle 45 = .ok (.aload_n 2, 1) := by decide +kernel
theorem dX11_settle_46 : decode cX11_settle 46 = .ok (.dup, 1) := by decide +kernel
theorem dX11_settle_47 : decode cX11_settle 47 = .ok (.getfield 203, 3) := by decide +kernel
theorem dX11_settle_50 : decode cX11_settle 50 = .ok (.aload_n 1, 1) := by decide +kernel
theorem dX11_settle_51 : decode cX11_settle 51 = .ok (.getfield 265, 3) := by decide +kernel
theorem dX11_settle_54 : decode cX11_settle 54 = .ok (.iadd, 1) := by decide +kernel
theorem dX11_settle_55 : decode cX11_settle 55 = .ok (.putfield 203, 3) := by decide +kernel
theorem dX11_settle_58 : decode cX11_settle 58 = .ok (.aload_n 0, 1) := by decide +kernel
theorem dX11_settle_59 : decode cX11_settle 59 = .ok (.getfield 12, 3) := by decide +kernel
theorem dX11_settle_62 : decode cX11_settle 62 = .ok (.aload_n 2, 1) := by decide +kernel
theorem dX11_settle_63 : decode cX11_settle 63 = .ok (.getfield 200, 3) := by decide +kernel
theorem dX11_settle_66 : decode cX11_settle 66 = .ok (.aload_n 0, 1) := by decide +kernel
theorem dX11_settle_67 : decode cX11_settle 67 = .ok (.getfield 37, 3) := by decide +kernel
theorem dX11_settle_70 : decode cX11_settle 70 = .ok (.getfield 293, 3) := by decide +kernel
theorem dX11_settle_73 : decode cX11_settle 73 = .ok (.invokevirtual 395, 3) := by decide +kernel
theorem dX11_settle_76 : decode cX11_settle 76 = .ok (.return_, 1) := by decide +kernel
abbrev dpX11_settle : Nat := 2
def fX11_settle (a0 : Nat) (x1 : Option Nat) (x2 : Option Nat) : St → Option (Unit × St) :=
 gR 12 a0 4 fun v1 =>
 nn v1 fun a2 =>
 ck 1 a2 <| cl (fX0_paid a2) fun v3 =>
 dv 2 <|
 nn x2 fun a5 =>
 gI 3 a5 3 fun v4 =>
 nn x1 fun a6 =>
 pI 8 a6 7 (mnI (v3 / 2) v4) <|
 gI 8 a6 7 fun v7 =>
 pI 8 a6 8 (v3 - v7) <|
 gI 3 a5 3 fun v8 =>
 gI 8 a6 7 fun v9 =>
 pI 3 a5 3 (v8 - v9) <|
 gI 3 a5 4 fun v10 =>
 gI 8 a6 8 fun v11 =>
 pI 3 a5 4 (v10 + v11) <|
 gR 12 a0 0 fun v12 =>
 gI 3 a5 2 fun v13 =>
 gR 12 a0 4 fun v14 =>
 nn v14 fun a16 =>
 gI 1 a16 4 fun v15 =>
 nn v12 fun a17 =>
 ck 11 a17 <| cl (fX10_addCarried a17 v13 v15) fun v18 =>
 rt ()
set_option maxHeartbeats 4000000 in
set_option maxRecDepth 100000 in
theorem mX11_settle {E : Ev} {l : Launch} (a0 : Nat) (x1 : Option Nat) (x2 : Option Nat) : MF E l dpX11_settle yX11_settle cX11_settle 4 none rvV [.ref (E.1 + a0), rf E.1 x1, rf E.1 x2] (fX11_settle a0 x1 x2) := by
  refine MF.of (lv := [(0, .ref (E.1 + a0)), (1, rf E.1 x1), (2, rf E.1 x2)]) (by decide) (by simp [lg_sl, rf_cat, cat_int, cat_long, cat_ref]) (by simp [lv_args, rf_cat, cat_int, cat_long, cat_ref]) ?_
  unfold fX11_settle
  refine sn_aload_n (pc := 0) (j := 0) dX11_settle_0 rfl rfl ?_
  refine sn_gR (pc := 1) dX11_settle_1 flX11_37 rfl (fun v1 => ?_)
  rcases v1 with _ | a2
  · exact sn_no
  refine sn_nn ?_
  refine sn_callV (ci := 0) (pc := 4) dX11_settle_4 iX0_paid wt4_239 wt5_0 wt4_238 ⟨_, rfl, rfl⟩ (by decide) (mX0_paid a2) (by decide) rfl rfl (Nat.le_of_ble_eq_true rfl) (fun v3 => ?_)
  refine sn_istore_n (pc := 7) (i := 3) (lv' := [(3, .int v3), (0, .ref (E.1 + a0)), (1, rf E.1 x1), (2, rf E.1 x2)]) dX11_settle_7 rfl (by decide) (by simp [rf_some, rf_cat, cat_int, cat_long, cat_ref]) ?_
  refine sn_aloadR_n (pc := 8) (r := x1) (j := 2) dX11_settle_8 rfl rfl ?_
  refine sn_iload_n (pc := 9) (j := 0) dX11_settle_9 rfl rfl ?_
  refine sn_iconst (pc := 10) (v := 2) dX11_settle_10 (by decide) ?_
  refine sn_idiv (pc := 11) dX11_settle_11 ?_
  refine sn_aloadR_n (pc := 12) (r := x2) (j := 3) dX11_settle_12 rfl rfl ?_
  rcases x2 with _ | a5
  · exact sn_no
  refine sn_nn ?_
  refine sn_gI (pc := 13) dX11_settle_13 flX11_191 rfl (fun v4 => ?_)
  refine sn_mmin (pc := 16) dX11_settle_16 wt4_97 wt2_116 wt1_11 wt2_117 (by decide) (by simp [rf_some, rf_cat, cat_int, cat_long, cat_ref, rvV, rvI, rvZ, rvR, rvJ]) ?_
  rcases x1 with _ | a6
  · exact sn_no
  refine sn_nn ?_
  refine sn_pI (pc := 19) dX11_settle_19 flX11_281 rfl rfl (Or.inl rfl) ?_
  refine sn_aload_n (pc := 22) (j := 2) dX11_settle_22 rfl rfl ?_
  refine sn_iload_n (pc := 23) (j := 0) dX11_settle_23 rfl rfl ?_
  refine sn_aload_n (pc := 24) (j := 2) dX11_settle_24 rfl rfl ?_
  refine sn_gI (pc := 25) dX11_settle_25 flX11_281 rfl (fun v7 => ?_)
  refine sn_isub (pc := 28) dX11_settle_28 ?_
  refine sn_pI (pc := 29) dX11_settle_29 flX11_265 rfl rfl (Or.inl rfl) ?_
  refine sn_aload_n (pc := 32) (j := 3) dX11_settle_32 rfl rfl ?_
  refine sn_dup (pc := 33) dX11_settle_33 rfl ?_
  refine sn_gI (pc := 34) dX11_settle_34 flX11_191 rfl (fun v8 => ?_)
  refine sn_aload_n (pc := 37) (j := 2) dX11_settle_37 rfl rfl ?_
  refine sn_gI (pc := 38) dX11_settle_38 flX11_281 rfl (fun v9 => ?_)
  refine sn_isub (pc := 41) dX11_settle_41 ?_
  refine sn_pI (pc := 42) dX11_settle_42 flX11_191 rfl rfl (Or.inl rfl) ?_
  refine sn_aload_n (pc := 45) (j := 3) dX11_settle_45 rfl rfl ?_
  refine sn_dup (pc := 46) dX11_settle_46 rfl ?_
  refine sn_gI (pc := 47) dX11_settle_47 flX11_203 rfl (fun v10 => ?_)
  refine sn_aload_n (pc := 50) (j := 2) dX11_settle_50 rfl rfl ?_
  refine sn_gI (pc := 51) dX11_settle_51 flX11_265 rfl (fun v11 => ?_)
  refine sn_iadd (pc := 54) dX11_settle_54 ?_
  refine sn_pI (pc := 55) dX11_settle_55 flX11_203 rfl rfl (Or.inl rfl) ?_
  refine sn_aload_n (pc := 58) (j := 1) dX11_settle_58 rfl rfl ?_
  refine sn_gR (pc := 59) dX11_settle_59 flX11_12 rfl (fun v12 => ?_)
  refine sn_aload_n (pc := 62) (j := 3) dX11_settle_62 rfl rfl ?_
  refine sn_gI (pc := 63) dX11_settle_63 flX11_200 rfl (fun v13 => ?_)
  refine sn_aload_n (pc := 66) (j := 1) dX11_settle_66 rfl rfl ?_
  refine sn_gR (pc := 67) dX11_settle_67 flX11_37 rfl (fun v14 => ?_)
  rcases v14 with _ | a16
  · exact sn_no
  refine sn_nn ?_
  refine sn_gI (pc := 70) dX11_settle_70 flX11_293 rfl (fun v15 => ?_)
  rcases v12 with _ | a17
  · exact sn_no
  refine sn_nn ?_
  refine sn_callV (ci := 10) (pc := 73) dX11_settle_73 iX10_addCarried wt5_3 wt5_4 wt5_2 ⟨_, rfl, rfl⟩ (by decide) (mX10_addCarried a17 v13 v15) (by decide) rfl rfl (Nat.le_of_ble_eq_true rfl) (fun v18 => ?_)
  exact sn_vret (pc := 76) dX11_settle_76 rfl
theorem iX11_settle : MI yX11_settle cX11_settle 4 none 2 := ⟨wt1_1, wt4_237, by decide +kernel, by decide⟩
-- NeedleHomes in(III)I
theorem dX11_in_0 : decode cX11_in 0 = .ok (.aload_n 0, 1) := by decide +kernel
theorem dX11_in_1 : decode cX11_in 1 = .ok (.getfield 12, 3) := by decide +kernel
theorem dX11_in_4 : decode cX11_in 4 = .ok (.iload_n 1, 1) := by decide +kernel
theorem dX11_in_5 : decode cX11_in 5 = .ok (.invokevirtual 237, 3) := by decide +kernel
theorem dX11_in_8 : decode cX11_in 8 = .ok (.astore 4, 2) := by decide +kernel
theorem dX11_in_10 : decode cX11_in 10 = .ok (.aload 4, 2) := by decide +kernel
theorem dX11_in_12 : decode cX11_in 12 = .ok (.ifnull 21, 3) := by decide +kernel
theorem dX11_in_15 : decode cX11_in 15 = .ok (.aload 4, 2) := by decide +kernel
theorem dX11_in_17 : decode cX11_in 17 = .ok (.invokevirtual 241, 3) := by decide +kernel
theorem dX11_in_20 : decode cX11_in 20 = .ok (.ifCond .ne 13, 3) := by decide +kernel
theorem dX11_in_23 : decode cX11_in 23 = .ok (.iload_n 2, 1) := by decide +kernel
theorem dX11_in_24 : decode cX11_in 24 = .ok (.iconst 0, 1) := by decide +kernel
theorem dX11_in_25 : decode cX11_in 25 = .ok (.bipush 99, 2) := by decide +kernel
theorem dX11_in_27 : decode cX11_in 27 = .ok (.invokestatic 67, 3) := by decide +kernel
theorem dX11_in_30 : decode cX11_in 30 = .ok (.ifCond .ne 5, 3) := by decide +kernel
theorem dX11_in_33 : decode cX11_in 33 = .ok (.iconst (-1), 1) := by decide +kernel
theorem dX11_in_34 : decode cX11_in 34 = .ok (.ireturn, 1) := by decide +kernel
theorem dX11_in_35 : decode cX11_in 35 = .ok (.aload_n 0, 1) := by decide +kernel
theorem dX11_in_36 : decode cX11_in 36 = .ok (.getfield 12, 3) := by decide +kernel
theorem dX11_in_39 : decode cX11_in 39 = .ok (.aload 4, 2) := by decide +kernel
theorem dX11_in_41 : decode cX11_in 41 = .ok (.getfield 245, 3) := by decide +kernel
theorem dX11_in_44 : decode cX11_in 44 = .ok (.invokevirtual 179, 3) := by decide +kernel
theorem dX11_in_47 : decode cX11_in 47 = .ok (.astore 5, 2) := by decide +kernel
theorem dX11_in_49 : decode cX11_in 49 = .ok (.aload_n 0, 1) := by decide +kernel
theorem dX11_in_50 : decode cX11_in 50 = .ok (.getfield 37, 3) := by decide +kernel
theorem dX11_in_53 : decode cX11_in 53 = .ok (.aload_n 0, 1) := by decide +kernel
theorem dX11_in_54 : decode cX11_in 54 = .ok (.getfield 12, 3) := by decide +kernel
theorem dX11_in_57 : decode cX11_in 57 = .ok (.aload 4, 2) := by decide +kernel
theorem dX11_in_59 : decode cX11_in 59 = .ok (.aload 4, 2) := by decide +kernel
theorem dX11_in_61 : decode cX11_in 61 = .ok (.getfield 248, 3) := by decide +kernel
theorem dX11_in_64 : decode cX11_in 64 = .ok (.invokevirtual 251, 3) := by decide +kernel
theorem dX11_in_67 : decode cX11_in 67 = .ok (.aload 5, 2) := by decide +kernel
theorem dX11_in_69 : decode cX11_in 69 = .ok (.ifnull 18, 3) := by decide +kernel
theorem dX11_in_72 : decode cX11_in 72 = .ok (.iload_n 3, 1) := by decide +kernel
theorem dX11_in_73 : decode cX11_in 73 = .ok (.iconst 0, 1) := by decide +kernel
theorem dX11_in_74 : decode cX11_in 74 = .ok (.aload_n 0, 1) := by decide +kernel
theorem dX11_in_75 : decode cX11_in 75 = .ok (.getfield 37, 3) := by decide +kernel
theorem dX11_in_78 : decode cX11_in 78 = .ok (.getfield 255, 3) := by decide +kernel
theorem dX11_in_81 : decode cX11_in 81 = .ok (.invokestatic 67, 3) := by decide +kernel
theorem dX11_in_84 : decode cX11_in 84 = .ok (.ifCond .ne 5, 3) := by decide +kernel
theorem dX11_in_87 : decode cX11_in 87 = .ok (.iconst (-1), 1) := by decide +kernel
theorem dX11_in_88 : decode cX11_in 88 = .ok (.ireturn, 1) := by decide +kernel
theorem dX11_in_89 : decode cX11_in 89 = .ok (.aload 4, 2) := by decide +kernel
theorem dX11_in_91 : decode cX11_in 91 = .ok (.aload_n 0, 1) := by decide +kernel
theorem dX11_in_92 : decode cX11_in 92 = .ok (.getfield 12, 3) := by decide +kernel
theorem dX11_in_95 : decode cX11_in 95 = .ok (.getfield 118, 3) := by decide +kernel
theorem dX11_in_98 : decode cX11_in 98 = .ok (.iload_n 2, 1) := by decide +kernel
theorem dX11_in_99 : decode cX11_in 99 = .ok (.iload_n 3, 1) := by decide +kernel
theorem dX11_in_100 : decode cX11_in 100 = .ok (.invokevirtual 258, 3) := by decide +kernel
theorem dX11_in_103 : decode cX11_in 103 = .ok (.aload_n 0, 1) := by decide +kernel
theorem dX11_in_104 : decode cX11_in 104 = .ok (.getfield 37, 3) := by decide +kernel
theorem dX11_in_107 : decode cX11_in 107 = .ok (.aload_n 0, 1) := by decide +kernel
theorem dX11_in_108 : decode cX11_in 108 = .ok (.getfield 12, 3) := by decide +kernel
theorem dX11_in_111 : decode cX11_in 111 = .ok (.aload 4, 2) := by decide +kernel
theorem dX11_in_113 : decode cX11_in 113 = .ok (.aload 4, 2) := by decide +kernel
theorem dX11_in_115 : decode cX11_in 115 = .ok (.getfield 248, 3) := by decide +kernel
theorem dX11_in_118 : decode cX11_in 118 = .ok (.invokevirtual 251, 3) := by decide +kernel
theorem dX11_in_121 : decode cX11_in 121 = .ok (.aload_n 0, 1) := by decide +kernel
theorem dX11_in_122 : decode cX11_in 122 = .ok (.aload 4, 2) := by decide +kernel
theorem dX11_in_124 : decode cX11_in 124 = .ok (.aload 5, 2) := by decide +kernel
theorem dX11_in_126 : decode cX11_in 126 = .ok (.invokevirtual 261, 3) := by decide +kernel
theorem dX11_in_129 : decode cX11_in 129 = .ok (.aload 4, 2) := by decide +kernel
theorem dX11_in_131 : decode cX11_in 131 = .ok (.getfield 265, 3) := by decide +kernel
theorem dX11_in_134 : decode cX11_in 134 = .ok (.ireturn, 1) := by decide +kernel
abbrev dpX11_in : Nat := 6
def fX11_in (a0 : Nat) (x1 : Int32) (x2 : Int32) (x3 : Int32) : St → Option (Int32 × St) :=
 gR 12 a0 0 fun v1 =>
 nn v1 fun a2 =>
 ck 11 a2 <| cl (fX10_pieceAt a2 x1) fun v3 =>
 on v3 (rt (-1))
 fun a4 => ck 8 a4 <| cl (fX7_isIn a4) fun v5 =>
 br ((bi v5) = 0) (cl (fX11_within x2 0 99) fun v6 =>
 br ((bi v6) = 0) (rt (-1))
 (gR 12 a0 0 fun v7 =>
 gI 8 a4 2 fun v8 =>
 nn v7 fun a9 =>
 ck 11 a9 <| cl (fX10_handAt a9 v8) fun v10 =>
 gR 12 a0 4 fun v11 =>
 gR 12 a0 0 fun v12 =>
 gI 8 a4 3 fun v13 =>
 nn v11 fun a14 =>
 ck 1 a14 <| cl (fX0_reckon a14 v12 (some a4) v13) fun v15 =>
 on v10 (rt (-1))
 fun a16 => gR 12 a0 4 fun v17 =>
 nn v17 fun a19 =>
 gI 1 a19 0 fun v18 =>
 cl (fX11_within x3 0 v18) fun v20 =>
 br ((bi v20) = 0) (rt (-1))
 (gR 12 a0 0 fun v21 =>
 nn v21 fun a23 =>
 gI 11 a23 4 fun v22 =>
 ck 8 a4 <| cl (fX7_bringIn a4 v22 x2 x3) fun v24 =>
 gR 12 a0 4 fun v25 =>
 gR 12 a0 0 fun v26 =>
 gI 8 a4 3 fun v27 =>
 nn v25 fun a28 =>
 ck 1 a28 <| cl (fX0_reckon a28 v26 (some a4) v27) fun v29 =>
 ck 12 a0 <| cl (fX11_settle a0 (some a4) (some a16)) fun v30 =>
 gI 8 a4 8 fun v31 =>
 rt v31)))
 (rt (-1))
set_option maxHeartbeats 4000000 in
set_option maxRecDepth 100000 in
theorem mX11_in {E : Ev} {l : Launch} (a0 : Nat) (x1 : Int32) (x2 : Int32) (x3 : Int32) : MF E l dpX11_in yX11_in cX11_in 6 (some .int) rvI [.ref (E.1 + a0), .int x1, .int x2, .int x3] (fX11_in a0 x1 x2 x3) := by
  refine MF.of (lv := [(0, .ref (E.1 + a0)), (1, .int x1), (2, .int x2), (3, .int x3)]) (by decide) (Nat.le_of_ble_eq_true rfl) rfl ?_
  unfold fX11_in
  refine sn_aload_n (pc := 0) (j := 0) dX11_in_0 rfl rfl ?_
  refine sn_gR (pc := 1) dX11_in_1 flX11_12 rfl (fun v1 => ?_)
  refine sn_iload_n (pc := 4) (j := 1) dX11_in_4 rfl rfl ?_
  rcases v1 with _ | a2
  · exact sn_no
  refine sn_nn ?_
  refine sn_callV (ci := 10) (pc := 5) dX11_in_5 iX10_pieceAt wt4_80 wt4_81 wt4_204 ⟨_, rfl, rfl⟩ (by decide) (mX10_pieceAt a2 x1) (by decide) rfl rfl (Nat.le_of_ble_eq_true rfl) (fun v3 => ?_)
  refine sn_astoreR (pc := 8) (r := v3) (i := 4) (lv' := [(4, rf E.1 v3), (0, .ref (E.1 + a0)), (1, .int x1), (2, .int x2), (3, .int x3)]) dX11_in_8 (by decide) rfl ?_
  refine sn_aloadR (pc := 10) (r := v3) (j := 0) dX11_in_10 rfl ?_
  rcases v3 with _ | a4
  · refine sn_onN ?_
    refine sn_ifnull_n (pc := 12) (tgt := 33) dX11_in_12 (by decide) ?_
    refine sn_iconst (pc := 33) (v := (-1)) dX11_in_33 (by decide) ?_
    exact sn_iret (pc := 34) dX11_in_34 rfl
  · refine sn_onS ?_
    refine sn_ifnull_s (pc := 12) dX11_in_12 ?_
    refine sn_aload (pc := 15) (j := 0) dX11_in_15 rfl ?_
    refine sn_callV (ci := 7) (pc := 17) dX11_in_17 iX7_isIn wt4_84 wt4_85 wt4_205 ⟨_, rfl, rfl⟩ (by decide) (mX7_isIn a4) (by decide) rfl rfl (Nat.le_of_ble_eq_true rfl) (fun v5 => ?_)
    refine sn_if_ne (pc := 20) (tgt := 33) dX11_in_20 (by decide) ?_ ?_
    · refine sn_iconst (pc := 33) (v := (-1)) dX11_in_33 (by decide) ?_
      exact sn_iret (pc := 34) dX11_in_34 rfl
    · refine sn_iload_n (pc := 23) (j := 3) dX11_in_23 rfl rfl ?_
      refine sn_iconst (pc := 24) (v := 0) dX11_in_24 (by decide) ?_
      refine sn_bipush (pc := 25) (v := 99) dX11_in_25 (by decide) ?_
      refine sn_callS (pc := 27) dX11_in_27 iX11_within wt2_96 wt2_95 (mX11_within x2 0 99) (by decide) rfl rfl (Nat.le_of_ble_eq_true rfl) (fun v6 => ?_)
      refine sn_if_ne (pc := 30) (tgt := 35) dX11_in_30 (by decide) ?_ ?_
      · refine sn_aload_n (pc := 35) (j := 1) dX11_in_35 rfl rfl ?_
        refine sn_gR (pc := 36) dX11_in_36 flX11_12 rfl (fun v7 => ?_)
        refine sn_aload (pc := 39) (j := 0) dX11_in_39 rfl ?_
        refine sn_gI (pc := 41) dX11_in_41 flX11_245 rfl (fun v8 => ?_)
        rcases v7 with _ | a9
        · exact sn_no
        refine sn_nn ?_
        refine sn_callV (ci := 10) (pc := 44) dX11_in_44 iX10_handAt wt4_54 wt4_55 wt4_53 ⟨_, rfl, rfl⟩ (by decide) (mX10_handAt a9 v8) (by decide) rfl rfl (Nat.le_of_ble_eq_true rfl) (fun v10 => ?_)
        refine sn_astoreR (pc := 47) (r := v10) (i := 5) (lv' := [(5, rf E.1 v10), (4, .ref (E.1 + a4)), (0, .ref (E.1 + a0)), (1, .int x1), (2, .int x2), (3, .int x3)]) dX11_in_47 (by decide) rfl ?_
        refine sn_aload_n (pc := 49) (j := 2) dX11_in_49 rfl rfl ?_
        refine sn_gR (pc := 50) dX11_in_50 flX11_37 rfl (fun v11 => ?_)
        refine sn_aload_n (pc := 53) (j := 2) dX11_in_53 rfl rfl ?_
        refine sn_gR (pc := 54) dX11_in_54 flX11_12 rfl (fun v12 => ?_)
        refine sn_aload (pc := 57) (j := 1) dX11_in_57 rfl ?_
        refine sn_aload (pc := 59) (j := 1) dX11_in_59 rfl ?_
        refine sn_gI (pc := 61) dX11_in_61 flX11_248 rfl (fun v13 => ?_)
        rcases v11 with _ | a14
        · exact sn_no
        refine sn_nn ?_
        refine sn_callV (ci := 0) (pc := 64) dX11_in_64 iX0_reckon wt4_207 wt4_208 wt4_206 ⟨_, rfl, rfl⟩ (by decide) (mX0_reckon a14 v12 (some a4) v13) (by decide) rfl rfl (Nat.le_of_ble_eq_true rfl) (fun v15 => ?_)
        refine sn_aloadR (pc := 67) (r := v10) (j := 0) dX11_in_67 rfl ?_
        rcases v10 with _ | a16
        · refine sn_onN ?_
          refine sn_ifnull_n (pc := 69) (tgt := 87) dX11_in_69 (by decide) ?_
          refine sn_iconst (pc := 87) (v := (-1)) dX11_in_87 (by decide) ?_
          exact sn_iret (pc := 88) dX11_in_88 rfl
        · refine sn_onS ?_
          refine sn_ifnull_s (pc := 69) dX11_in_69 ?_
          refine sn_iload_n (pc := 72) (j := 5) dX11_in_72 rfl rfl ?_
          refine sn_iconst (pc := 73) (v := 0) dX11_in_73 (by decide) ?_
          refine sn_aload_n (pc := 74) (j := 2) dX11_in_74 rfl rfl ?_
          refine sn_gR (pc := 75) dX11_in_75 flX11_37 rfl (fun v17 => ?_)
          rcases v17 with _ | a19
          · exact sn_no
          refine sn_nn ?_
          refine sn_gI (pc := 78) dX11_in_78 flX11_255 rfl (fun v18 => ?_)
          refine sn_callS (pc := 81) dX11_in_81 iX11_within wt2_96 wt2_95 (mX11_within x3 0 v18) (by decide) rfl rfl (Nat.le_of_ble_eq_true rfl) (fun v20 => ?_)
          refine sn_if_ne (pc := 84) (tgt := 89) dX11_in_84 (by decide) ?_ ?_
          · refine sn_aload (pc := 89) (j := 1) dX11_in_89 rfl ?_
            refine sn_aload_n (pc := 91) (j := 2) dX11_in_91 rfl rfl ?_
            refine sn_gR (pc := 92) dX11_in_92 flX11_12 rfl (fun v21 => ?_)
            rcases v21 with _ | a23
            · exact sn_no
            refine sn_nn ?_
            refine sn_gI (pc := 95) dX11_in_95 flX11_118 rfl (fun v22 => ?_)
            refine sn_iload_n (pc := 98) (j := 4) dX11_in_98 rfl rfl ?_
            refine sn_iload_n (pc := 99) (j := 5) dX11_in_99 rfl rfl ?_
            refine sn_callV (ci := 7) (pc := 100) dX11_in_100 iX7_bringIn wt4_231 wt4_232 wt4_230 ⟨_, rfl, rfl⟩ (by decide) (mX7_bringIn a4 v22 x2 x3) (by decide) rfl rfl (Nat.le_of_ble_eq_true rfl) (fun v24 => ?_)
            refine sn_aload_n (pc := 103) (j := 2) dX11_in_103 rfl rfl ?_
            refine sn_gR (pc := 104) dX11_in_104 flX11_37 rfl (fun v25 => ?_)
            refine sn_aload_n (pc := 107) (j := 2) dX11_in_107 rfl rfl ?_
            refine sn_gR (pc := 108) dX11_in_108 flX11_12 rfl (fun v26 => ?_)
            refine sn_aload (pc := 111) (j := 1) dX11_in_111 rfl ?_
            refine sn_aload (pc := 113) (j := 1) dX11_in_113 rfl ?_
            refine sn_gI (pc := 115) dX11_in_115 flX11_248 rfl (fun v27 => ?_)
            rcases v25 with _ | a28
            · exact sn_no
            refine sn_nn ?_
            refine sn_callV (ci := 0) (pc := 118) dX11_in_118 iX0_reckon wt4_207 wt4_208 wt4_206 ⟨_, rfl, rfl⟩ (by decide) (mX0_reckon a28 v26 (some a4) v27) (by decide) rfl rfl (Nat.le_of_ble_eq_true rfl) (fun v29 => ?_)
            refine sn_aload_n (pc := 121) (j := 2) dX11_in_121 rfl rfl ?_
            refine sn_aload (pc := 122) (j := 1) dX11_in_122 rfl ?_
            refine sn_aload (pc := 124) (j := 0) dX11_in_124 rfl ?_
            refine sn_callV (ci := 11) (pc := 126) dX11_in_126 iX11_settle wt4_236 ws_26 wt4_234 ⟨_, rfl, rfl⟩ (by decide) (mX11_settle a0 (some a4) (some a16)) (by decide) rfl rfl (Nat.le_of_ble_eq_true rfl) (fun v30 => ?_)
            refine sn_aload (pc := 129) (j := 1) dX11_in_129 rfl ?_
            refine sn_gI (pc := 131) dX11_in_131 flX11_265 rfl (fun v31 => ?_)
            exact sn_iret (pc := 134) dX11_in_134 rfl
          · refine sn_iconst (pc := 87) (v := (-1)) dX11_in_87 (by decide) ?_
            exact sn_iret (pc := 88) dX11_in_88 rfl
      · refine sn_iconst (pc := 33) (v := (-1)) dX11_in_33 (by decide) ?_
        exact sn_iret (pc := 34) dX11_in_34 rfl
theorem iX11_in : MI yX11_in cX11_in 6 (some .int) 3 := ⟨wt1_1, wt4_203, by decide +kernel, by decide⟩
-- NeedleHomes piece(II)I
theorem dX11_piece_0 : decode cX11_piece 0 = .ok (.aload_n 0, 1) := by decide +kernel
theorem dX11_piece_1 : decode cX11_piece 1 = .ok (.getfield 12, 3) := by decide +kernel
theorem dX11_piece_4 : decode cX11_piece 4 = .ok (.iload_n 1, 1) := by decide +kernel
theorem dX11_piece_5 : decode cX11_piece 5 = .ok (.invokevirtual 237, 3) := by decide +kernel
theorem dX11_piece_8 : decode cX11_piece 8 = .ok (.astore_n 3, 1) := by decide +kernel
theorem dX11_piece_9 : decode cX11_piece 9 = .ok (.aload_n 3, 1) := by decide +kernel
theorem dX11_piece_10 : decode cX11_piece 10 = .ok (.ifnonnull 6, 3) := by decide +kernel
theorem dX11_piece_13 : decode cX11_piece 13 = .ok (.bipush (-2), 2) := by decide +kernel
theorem dX11_piece_15 : decode cX11_piece 15 = .ok (.ireturn, 1) := by decide +kernel
theorem dX11_piece_16 : decode cX11_piece 16 = .ok (.iload_n 2, 1) := by decide +kernel
theorem dX11_piece_17 : decode cX11_piece 17 = .ok (.tableswitch 96 0 8 #[51, 56, 61, 66, 71, 76, 81, 86, 91], 51) := by decide +kernel
theorem dX11_piece_68 : decode cX11_piece 68 = .ok (.aload_n 3, 1) := by decide +kernel
theorem dX11_piece_69 : decode cX11_piece 69 = .ok (.getfield 266, 3) := by decide +kernel
theorem dX11_piece_72 : decode cX11_piece 72 = .ok (.ireturn, 1) := by decide +kernel
theorem dX11_piece_73 : decode cX11_piece 73 = .ok (.aload_n 3, 1) := by decide +kernel
theorem dX11_piece_74 : decode cX11_piece 74 = .ok (.getfield 269, 3) := by decide +kernel
theorem dX11_piece_77 : decode cX11_piece 77 = .ok (.ireturn, 1) := by decide +kernel
theorem dX11_piece_78 : decode cX11_piece 78 = .ok (.aload_n 3, 1) := by decide +kernel
theorem dX11_piece_79 : decode cX11_piece 79 = .ok (.getfield 245, 3) := by decide +kernel
theorem dX11_piece_82 : decode cX11_piece 82 = .ok (.ireturn, 1) := by decide +kernel
theorem dX11_piece_83 : decode cX11_piece 83 = .ok (.aload_n 3, 1) := by decide +kernel
theorem dX11_piece_84 : decode cX11_piece 84 = .ok (.getfield 248, 3) := by decide +kernel
theorem dX11_piece_87 : decode cX11_piece 87 = .ok (.ireturn, 1) := by decide +kernel
theorem dX11_piece_88 : decode cX11_piece 88 = .ok (.aload_n 3, 1) := by decide +kernel
theorem dX11_piece_89 : decode cX11_piece 89 = .ok (.getfield 272, 3) := by decide +kernel
theorem dX11_piece_92 : decode cX11_piece 92 = .ok (.ireturn, 1) := by decide +kernel
theorem dX11_piece_93 : decode cX11_piece 93 = .ok (.aload_n 3, 1) := by decide +kernel
theorem dX11_piece_94 : decode cX11_piece 94 = .ok (.getfield 275, 3) := by decide +kernel
theorem dX11_piece_97 : decode cX11_piece 97 = .ok (.ireturn, 1) := by decide +kernel
theorem dX11_piece_98 : decode cX11_piece 98 = .ok (.aload_n 3, 1) := by decide +kernel
theorem dX11_piece_99 : decode cX11_piece 99 = .ok (.getfield 278, 3) := by decide +kernel
theorem dX11_piece_102 : decode cX11_piece 102 = .ok (.ireturn, 1) := by decide +kernel
theorem dX11_piece_103 : decode cX11_piece 103 = .ok (.aload_n 3, 1) := by decide +kernel
theorem dX11_piece_104 : decode cX11_piece 104 = .ok (.getfield 281, 3) := by decide +kernel
theorem dX11_piece_107 : decode cX11_piece 107 = .ok (.ireturn, 1) := by decide +kernel
theorem dX11_piece_108 : decode cX11_piece 108 = .ok (.aload_n 3, 1) := by decide +kernel
theorem dX11_piece_109 : decode cX11_piece 109 = .ok (.getfield 265, 3) := by decide +kernel
theorem dX11_piece_112 : decode cX11_piece 112 = .ok (.ireturn, 1) := by decide +kernel
theorem dX11_piece_113 : decode cX11_piece 113 = .ok (.bipush (-2), 2) := by decide +kernel
theorem dX11_piece_115 : decode cX11_piece 115 = .ok (.ireturn, 1) := by decide +kernel
abbrev dpX11_piece : Nat := 2
def fX11_piece (a0 : Nat) (x1 : Int32) (x2 : Int32) : St → Option (Int32 × St) :=
 gR 12 a0 0 fun v1 =>
 nn v1 fun a2 =>
 ck 11 a2 <| cl (fX10_pieceAt a2 x1) fun v3 =>
 on v3 (rt (-2))
 fun a4 => br (x2 = 0) (gI 8 a4 0 fun v5 =>
 rt v5) <|
 br (x2 = 1) (gI 8 a4 1 fun v6 =>
 rt v6) <|
 br (x2 = 2) (gI 8 a4 2 fun v7 =>
 rt v7) <|
 br (x2 = 3) (gI 8 a4 3 fun v8 =>
 rt v8) <|
 br (x2 = 4) (gI 8 a4 4 fun v9 =>
 rt v9) <|
 br (x2 = 5) (gI 8 a4 5 fun v10 =>
 rt v10) <|
 br (x2 = 6) (gI 8 a4 6 fun v11 =>
 rt v11) <|
 br (x2 = 7) (gI 8 a4 7 fun v12 =>
 rt v12) <|
 br (x2 = 8) (gI 8 a4 8 fun v13 =>
 rt v13) <|
 (rt (-2))
set_option maxHeartbeats 4000000 in
set_option maxRecDepth 100000 in
theorem mX11_piece {E : Ev} {l : Launch} (a0 : Nat) (x1 : Int32) (x2 : Int32) : MF E l dpX11_piece yX11_piece cX11_piece 4 (some .int) rvI [.ref (E.1 + a0), .int x1, .int x2] (fX11_piece a0 x1 x2) := by
  refine MF.of (lv := [(0, .ref (E.1 + a0)), (1, .int x1), (2, .int x2)]) (by decide) (Nat.le_of_ble_eq_true rfl) rfl ?_
  unfold fX11_piece
  refine sn_aload_n (pc := 0) (j := 0) dX11_piece_0 rfl rfl ?_
  refine sn_gR (pc := 1) dX11_piece_1 flX11_12 rfl (fun v1 => ?_)
  refine sn_iload_n (pc := 4) (j := 1) dX11_piece_4 rfl rfl ?_
  rcases v1 with _ | a2
  · exact sn_no
  refine sn_nn ?_
  refine sn_callV (ci := 10) (pc := 5) dX11_piece_5 iX10_pieceAt wt4_80 wt4_81 wt4_204 ⟨_, rfl, rfl⟩ (by decide) (mX10_pieceAt a2 x1) (by decide) rfl rfl (Nat.le_of_ble_eq_true rfl) (fun v3 => ?_)
  refine sn_astoreR_n (pc := 8) (r := v3) (i := 3) (lv' := [(3, rf E.1 v3), (0, .ref (E.1 + a0)), (1, .int x1), (2, .int x2)]) dX11_piece_8 rfl (by decide) rfl ?_
  refine sn_aloadR_n (pc := 9) (r := v3) (j := 0) dX11_piece_9 rfl rfl ?_
  rcases v3 with _ | a4
  · refine sn_onN ?_
    refine sn_ifnonnull_n (pc := 10) dX11_piece_10 ?_
    refine sn_bipush (pc := 13) (v := (-2)) dX11_piece_13 (by decide) ?_
    exact sn_iret (pc := 15) dX11_piece_15 rfl
  · refine sn_onS ?_
    refine sn_ifnonnull_s (pc := 10) (tgt := 16) dX11_piece_10 (by decide) ?_
    refine sn_iload_n (pc := 16) (j := 3) dX11_piece_16 rfl rfl ?_
    refine sw_start ?_
    refine sw_case (tgt := 68) 0 dX11_piece_17 (by decide) (by decide) rfl (by decide) ?_ ?_
    · refine sn_aload_n (pc := 68) (j := 0) dX11_piece_68 rfl rfl ?_
      refine sn_gI (pc := 69) dX11_piece_69 flX11_266 rfl (fun v5 => ?_)
      exact sn_iret (pc := 72) dX11_piece_72 rfl
    refine sw_case (tgt := 73) 1 dX11_piece_17 (by decide) (by decide) rfl (by decide) ?_ ?_
    · refine sn_aload_n (pc := 73) (j := 0) dX11_piece_73 rfl rfl ?_
      refine sn_gI (pc := 74) dX11_piece_74 flX11_269 rfl (fun v6 => ?_)
      exact sn_iret (pc := 77) dX11_piece_77 rfl
    refine sw_case (tgt := 78) 2 dX11_piece_17 (by decide) (by decide) rfl (by decide) ?_ ?_
    · refine sn_aload_n (pc := 78) (j := 0) dX11_piece_78 rfl rfl ?_
      refine sn_gI (pc := 79) dX11_piece_79 flX11_245 rfl (fun v7 => ?_)
      exact sn_iret (pc := 82) dX11_piece_82 rfl
    refine sw_case (tgt := 83) 3 dX11_piece_17 (by decide) (by decide) rfl (by decide) ?_ ?_
    · refine sn_aload_n (pc := 83) (j := 0) dX11_piece_83 rfl rfl ?_
      refine sn_gI (pc := 84) dX11_piece_84 flX11_248 rfl (fun v8 => ?_)
      exact sn_iret (pc := 87) dX11_piece_87 rfl
    refine sw_case (tgt := 88) 4 dX11_piece_17 (by decide) (by decide) rfl (by decide) ?_ ?_
    · refine sn_aload_n (pc := 88) (j := 0) dX11_piece_88 rfl rfl ?_
      refine sn_gI (pc := 89) dX11_piece_89 flX11_272 rfl (fun v9 => ?_)
      exact sn_iret (pc := 92) dX11_piece_92 rfl
    refine sw_case (tgt := 93) 5 dX11_piece_17 (by decide) (by decide) rfl (by decide) ?_ ?_
    · refine sn_aload_n (pc := 93) (j := 0) dX11_piece_93 rfl rfl ?_
      refine sn_gI (pc := 94) dX11_piece_94 flX11_275 rfl (fun v10 => ?_)
      exact sn_iret (pc := 97) dX11_piece_97 rfl
    refine sw_case (tgt := 98) 6 dX11_piece_17 (by decide) (by decide) rfl (by decide) ?_ ?_
    · refine sn_aload_n (pc := 98) (j := 0) dX11_piece_98 rfl rfl ?_
      refine sn_gI (pc := 99) dX11_piece_99 flX11_278 rfl (fun v11 => ?_)
      exact sn_iret (pc := 102) dX11_piece_102 rfl
    refine sw_case (tgt := 103) 7 dX11_piece_17 (by decide) (by decide) rfl (by decide) ?_ ?_
    · refine sn_aload_n (pc := 103) (j := 0) dX11_piece_103 rfl rfl ?_
      refine sn_gI (pc := 104) dX11_piece_104 flX11_281 rfl (fun v12 => ?_)
      exact sn_iret (pc := 107) dX11_piece_107 rfl
    refine sw_case (tgt := 108) 8 dX11_piece_17 (by decide) (by decide) rfl (by decide) ?_ ?_
    · refine sn_aload_n (pc := 108) (j := 0) dX11_piece_108 rfl rfl ?_
      refine sn_gI (pc := 109) dX11_piece_109 flX11_265 rfl (fun v13 => ?_)
      exact sn_iret (pc := 112) dX11_piece_112 rfl
    refine sw_dflt (tgt := 113) dX11_piece_17 (fun hc => ?_) (by decide) ?_
    · obtain ⟨⟨⟨⟨⟨⟨⟨⟨⟨-, q0⟩, q1⟩, q2⟩, q3⟩, q4⟩, q5⟩, q6⟩, q7⟩, q8⟩ := hc
      have q0 := ne_toInt q0
      have q1 := ne_toInt q1
      have q2 := ne_toInt q2
      have q3 := ne_toInt q3
      have q4 := ne_toInt q4
      have q5 := ne_toInt q5
      have q6 := ne_toInt q6
      have q7 := ne_toInt q7
      have q8 := ne_toInt q8
      have e0 : (0 : Int32).toInt = 0 := by decide
      have e1 : (1 : Int32).toInt = 1 := by decide
      have e2 : (2 : Int32).toInt = 2 := by decide
      have e3 : (3 : Int32).toInt = 3 := by decide
      have e4 : (4 : Int32).toInt = 4 := by decide
      have e5 : (5 : Int32).toInt = 5 := by decide
      have e6 : (6 : Int32).toInt = 6 := by decide
      have e7 : (7 : Int32).toInt = 7 := by decide
      have e8 : (8 : Int32).toInt = 8 := by decide
      rw [e0] at q0
      rw [e1] at q1
      rw [e2] at q2
      rw [e3] at q3
      rw [e4] at q4
      rw [e5] at q5
      rw [e6] at q6
      rw [e7] at q7
      rw [e8] at q8
      omega
    · refine sn_bipush (pc := 113) (v := (-2)) dX11_piece_113 (by decide) ?_
      exact sn_iret (pc := 115) dX11_piece_115 rfl
theorem iX11_piece : MI yX11_piece cX11_piece 4 (some .int) 2 := ⟨wt1_1, wt5_9, by decide +kernel, by decide⟩
-- NeedleHomes bill(III)I
theorem dX11_bill_0 : decode cX11_bill 0 = .ok (.aload_n 0, 1) := by decide +kernel
theorem dX11_bill_1 : decode cX11_bill 1 = .ok (.getfield 12, 3) := by decide +kernel
theorem dX11_bill_4 : decode cX11_bill 4 = .ok (.iload_n 1, 1) := by decide +kernel
theorem dX11_bill_5 : decode cX11_bill 5 = .ok (.invokevirtual 237, 3) := by decide +kernel
theorem dX11_bill_8 : decode cX11_bill 8 = .ok (.astore 4, 2) := by decide +kernel
theorem dX11_bill_10 : decode cX11_bill 10 = .ok (.aload 4, 2) := by decide +kernel
theorem dX11_bill_12 : decode cX11_bill 12 = .ok (.ifnull 11, 3) := by decide +kernel
theorem dX11_bill_15 : decode cX11_bill 15 = .ok (.aload_n 0, 1) := by decide +kernel
theorem dX11_bill_16 : decode cX11_bill 16 = .ok (.iload_n 2, 1) := by decide +kernel
theorem dX11_bill_17 : decode cX11_bill 17 = .ok (.invokevirtual 160, 3) := by decide +kernel
theorem dX11_bill_20 : decode cX11_bill 20 = .ok (.ifCond .ne 5, 3) := by decide +kernel
theorem dX11_bill_23 : decode cX11_bill 23 = .ok (.iconst (-1), 1) := by decide +kernel
theorem dX11_bill_24 : decode cX11_bill 24 = .ok (.ireturn, 1) := by decide +kernel
theorem dX11_bill_25 : decode cX11_bill 25 = .ok (.aload_n 0, 1) := by decide +kernel
theorem dX11_bill_26 : decode cX11_bill 26 = .ok (.getfield 37, 3) := by decide +kernel
theorem dX11_bill_29 : decode cX11_bill 29 = .ok (.aload_n 0, 1) := by decide +kernel
theorem dX11_bill_30 : decode cX11_bill 30 = .ok (.getfield 12, 3) := by decide +kernel
theorem dX11_bill_33 : decode cX11_bill 33 = .ok (.aload 4, 2) := by decide +kernel
theorem dX11_bill_35 : decode cX11_bill 35 = .ok (.iload_n 2, 1) := by decide +kernel
theorem dX11_bill_36 : decode cX11_bill 36 = .ok (.invokevirtual 251, 3) := by decide +kernel
theorem dX11_bill_39 : decode cX11_bill 39 = .ok (.iload_n 3, 1) := by decide +kernel
theorem dX11_bill_40 : decode cX11_bill 40 = .ok (.tableswitch 76 0 4 #[36, 44, 52, 60, 68], 36) := by decide +kernel
theorem dX11_bill_76 : decode cX11_bill 76 = .ok (.aload_n 0, 1) := by decide +kernel
theorem dX11_bill_77 : decode cX11_bill 77 = .ok (.getfield 37, 3) := by decide +kernel
theorem dX11_bill_80 : decode cX11_bill 80 = .ok (.getfield 255, 3) := by decide +kernel
theorem dX11_bill_83 : decode cX11_bill 83 = .ok (.ireturn, 1) := by decide +kernel
theorem dX11_bill_84 : decode cX11_bill 84 = .ok (.aload_n 0, 1) := by decide +kernel
theorem dX11_bill_85 : decode cX11_bill 85 = .ok (.getfield 37, 3) := by decide +kernel
theorem dX11_bill_88 : decode cX11_bill 88 = .ok (.getfield 284, 3) := by decide +kernel
theorem dX11_bill_91 : decode cX11_bill 91 = .ok (.ireturn, 1) := by decide +kernel
theorem dX11_bill_92 : decode cX11_bill 92 = .ok (.aload_n 0, 1) := by decide +kernel
theorem dX11_bill_93 : decode cX11_bill 93 = .ok (.getfield 37, 3) := by decide +kernel
theorem dX11_bill_96 : decode cX11_bill 96 = .ok (.getfield 287, 3) := by decide +kernel
theorem dX11_bill_99 : decode cX11_bill 99 = .ok (.ireturn, 1) := by decide +kernel
theorem dX11_bill_100 : decode cX11_bill 100 = .ok (.aload_n 0, 1) := by decide +kernel
theorem dX11_bill_101 : decode cX11_bill 101 = .ok (.getfield 37, 3) := by decide +kernel
theorem dX11_bill_104 : decode cX11_bill 104 = .ok (.getfield 290, 3) := by decide +kernel
theorem dX11_bill_107 : decode cX11_bill 107 = .ok (.ireturn, 1) := by decide +kernel
theorem dX11_bill_108 : decode cX11_bill 108 = .ok (.aload_n 0, 1) := by decide +kernel
theorem dX11_bill_109 : decode cX11_bill 109 = .ok (.getfield 37, 3) := by decide +kernel
theorem dX11_bill_112 : decode cX11_bill 112 = .ok (.getfield 293, 3) := by decide +kernel
theorem dX11_bill_115 : decode cX11_bill 115 = .ok (.ireturn, 1) := by decide +kernel
theorem dX11_bill_116 : decode cX11_bill 116 = .ok (.iconst (-1), 1) := by decide +kernel
theorem dX11_bill_117 : decode cX11_bill 117 = .ok (.ireturn, 1) := by decide +kernel
abbrev dpX11_bill : Nat := 6
def fX11_bill (a0 : Nat) (x1 : Int32) (x2 : Int32) (x3 : Int32) : St → Option (Int32 × St) :=
 gR 12 a0 0 fun v1 =>
 nn v1 fun a2 =>
 ck 11 a2 <| cl (fX10_pieceAt a2 x1) fun v3 =>
 on v3 (rt (-1))
 fun a4 => ck 12 a0 <| cl (fX11_isPastDay a0 x2) fun v5 =>
 br ((bi v5) = 0) (rt (-1))
 (gR 12 a0 4 fun v6 =>
 gR 12 a0 0 fun v7 =>
 nn v6 fun a8 =>
 ck 1 a8 <| cl (fX0_reckon a8 v7 (some a4) x2) fun v9 =>
 br (x3 = 0) (gR 12 a0 4 fun v10 =>
 nn v10 fun a12 =>
 gI 1 a12 0 fun v11 =>
 rt v11) <|
 br (x3 = 1) (gR 12 a0 4 fun v13 =>
 nn v13 fun a15 =>
 gI 1 a15 1 fun v14 =>
 rt v14) <|
 br (x3 = 2) (gR 12 a0 4 fun v16 =>
 nn v16 fun a18 =>
 gI 1 a18 2 fun v17 =>
 rt v17) <|
 br (x3 = 3) (gR 12 a0 4 fun v19 =>
 nn v19 fun a21 =>
 gI 1 a21 3 fun v20 =>
 rt v20) <|
 br (x3 = 4) (gR 12 a0 4 fun v22 =>
 nn v22 fun a24 =>
 gI 1 a24 4 fun v23 =>
 rt v23) <|
 (rt (-1)))
set_option maxHeartbeats 4000000 in
set_option maxRecDepth 100000 in
theorem mX11_bill {E : Ev} {l : Launch} (a0 : Nat) (x1 : Int32) (x2 : Int32) (x3 : Int32) : MF E l dpX11_bill yX11_bill cX11_bill 5 (some .int) rvI [.ref (E.1 + a0), .int x1, .int x2, .int x3] (fX11_bill a0 x1 x2 x3) := by
  refine MF.of (lv := [(0, .ref (E.1 + a0)), (1, .int x1), (2, .int x2), (3, .int x3)]) (by decide) (Nat.le_of_ble_eq_true rfl) rfl ?_
  unfold fX11_bill
  refine sn_aload_n (pc := 0) (j := 0) dX11_bill_0 rfl rfl ?_
  refine sn_gR (pc := 1) dX11_bill_1 flX11_12 rfl (fun v1 => ?_)
  refine sn_iload_n (pc := 4) (j := 1) dX11_bill_4 rfl rfl ?_
  rcases v1 with _ | a2
  · exact sn_no
  refine sn_nn ?_
  refine sn_callV (ci := 10) (pc := 5) dX11_bill_5 iX10_pieceAt wt4_80 wt4_81 wt4_204 ⟨_, rfl, rfl⟩ (by decide) (mX10_pieceAt a2 x1) (by decide) rfl rfl (Nat.le_of_ble_eq_true rfl) (fun v3 => ?_)
  refine sn_astoreR (pc := 8) (r := v3) (i := 4) (lv' := [(4, rf E.1 v3), (0, .ref (E.1 + a0)), (1, .int x1), (2, .int x2), (3, .int x3)]) dX11_bill_8 (by decide) rfl ?_
  refine sn_aloadR (pc := 10) (r := v3) (j := 0) dX11_bill_10 rfl ?_
  rcases v3 with _ | a4
  · refine sn_onN ?_
    refine sn_ifnull_n (pc := 12) (tgt := 23) dX11_bill_12 (by decide) ?_
    refine sn_iconst (pc := 23) (v := (-1)) dX11_bill_23 (by decide) ?_
    exact sn_iret (pc := 24) dX11_bill_24 rfl
  · refine sn_onS ?_
    refine sn_ifnull_s (pc := 12) dX11_bill_12 ?_
    refine sn_aload_n (pc := 15) (j := 1) dX11_bill_15 rfl rfl ?_
    refine sn_iload_n (pc := 16) (j := 3) dX11_bill_16 rfl rfl ?_
    refine sn_callV (ci := 11) (pc := 17) dX11_bill_17 iX11_isPastDay wt3_229 ws_21 wt3_227 ⟨_, rfl, rfl⟩ (by decide) (mX11_isPastDay a0 x2) (by decide) rfl rfl (Nat.le_of_ble_eq_true rfl) (fun v5 => ?_)
    refine sn_if_ne (pc := 20) (tgt := 25) dX11_bill_20 (by decide) ?_ ?_
    · refine sn_aload_n (pc := 25) (j := 1) dX11_bill_25 rfl rfl ?_
      refine sn_gR (pc := 26) dX11_bill_26 flX11_37 rfl (fun v6 => ?_)
      refine sn_aload_n (pc := 29) (j := 1) dX11_bill_29 rfl rfl ?_
      refine sn_gR (pc := 30) dX11_bill_30 flX11_12 rfl (fun v7 => ?_)
      refine sn_aload (pc := 33) (j := 0) dX11_bill_33 rfl ?_
      refine sn_iload_n (pc := 35) (j := 3) dX11_bill_35 rfl rfl ?_
      rcases v6 with _ | a8
      · exact sn_no
      refine sn_nn ?_
      refine sn_callV (ci := 0) (pc := 36) dX11_bill_36 iX0_reckon wt4_207 wt4_208 wt4_206 ⟨_, rfl, rfl⟩ (by decide) (mX0_reckon a8 v7 (some a4) x2) (by decide) rfl rfl (Nat.le_of_ble_eq_true rfl) (fun v9 => ?_)
      refine sn_iload_n (pc := 39) (j := 4) dX11_bill_39 rfl rfl ?_
      refine sw_start ?_
      refine sw_case (tgt := 76) 0 dX11_bill_40 (by decide) (by decide) rfl (by decide) ?_ ?_
      · refine sn_aload_n (pc := 76) (j := 1) dX11_bill_76 rfl rfl ?_
        refine sn_gR (pc := 77) dX11_bill_77 flX11_37 rfl (fun v10 => ?_)
        rcases v10 with _ | a12
        · exact sn_no
        refine sn_nn ?_
        refine sn_gI (pc := 80) dX11_bill_80 flX11_255 rfl (fun v11 => ?_)
        exact sn_iret (pc := 83) dX11_bill_83 rfl
      refine sw_case (tgt := 84) 1 dX11_bill_40 (by decide) (by decide) rfl (by decide) ?_ ?_
      · refine sn_aload_n (pc := 84) (j := 1) dX11_bill_84 rfl rfl ?_
        refine sn_gR (pc := 85) dX11_bill_85 flX11_37 rfl (fun v13 => ?_)
        rcases v13 with _ | a15
        · exact sn_no
        refine sn_nn ?_
        refine sn_gI (pc := 88) dX11_bill_88 flX11_284 rfl (fun v14 => ?_)
        exact sn_iret (pc := 91) dX11_bill_91 rfl
      refine sw_case (tgt := 92) 2 dX11_bill_40 (by decide) (by decide) rfl (by decide) ?_ ?_
      · refine sn_aload_n (pc := 92) (j := 1) dX11_bill_92 rfl rfl ?_
        refine sn_gR (pc := 93) dX11_bill_93 flX11_37 rfl (fun v16 => ?_)
        rcases v16 with _ | a18
        · exact sn_no
        refine sn_nn ?_
        refine sn_gI (pc := 96) dX11_bill_96 flX11_287 rfl (fun v17 => ?_)
        exact sn_iret (pc := 99) dX11_bill_99 rfl
      refine sw_case (tgt := 100) 3 dX11_bill_40 (by decide) (by decide) rfl (by decide) ?_ ?_
      · refine sn_aload_n (pc := 100) (j := 1) dX11_bill_100 rfl rfl ?_
        refine sn_gR (pc := 101) dX11_bill_101 flX11_37 rfl (fun v19 => ?_)
        rcases v19 with _ | a21
        · exact sn_no
        refine sn_nn ?_
        refine sn_gI (pc := 104) dX11_bill_104 flX11_290 rfl (fun v20 => ?_)
        exact sn_iret (pc := 107) dX11_bill_107 rfl
      refine sw_case (tgt := 108) 4 dX11_bill_40 (by decide) (by decide) rfl (by decide) ?_ ?_
      · refine sn_aload_n (pc := 108) (j := 1) dX11_bill_108 rfl rfl ?_
        refine sn_gR (pc := 109) dX11_bill_109 flX11_37 rfl (fun v22 => ?_)
        rcases v22 with _ | a24
        · exact sn_no
        refine sn_nn ?_
        refine sn_gI (pc := 112) dX11_bill_112 flX11_293 rfl (fun v23 => ?_)
        exact sn_iret (pc := 115) dX11_bill_115 rfl
      refine sw_dflt (tgt := 116) dX11_bill_40 (fun hc => ?_) (by decide) ?_
      · obtain ⟨⟨⟨⟨⟨-, q0⟩, q1⟩, q2⟩, q3⟩, q4⟩ := hc
        have q0 := ne_toInt q0
        have q1 := ne_toInt q1
        have q2 := ne_toInt q2
        have q3 := ne_toInt q3
        have q4 := ne_toInt q4
        have e0 : (0 : Int32).toInt = 0 := by decide
        have e1 : (1 : Int32).toInt = 1 := by decide
        have e2 : (2 : Int32).toInt = 2 := by decide
        have e3 : (3 : Int32).toInt = 3 := by decide
        have e4 : (4 : Int32).toInt = 4 := by decide
        rw [e0] at q0
        rw [e1] at q1
        rw [e2] at q2
        rw [e3] at q3
        rw [e4] at q4
        omega
      · refine sn_iconst (pc := 116) (v := (-1)) dX11_bill_116 (by decide) ?_
        exact sn_iret (pc := 117) dX11_bill_117 rfl
    · refine sn_iconst (pc := 23) (v := (-1)) dX11_bill_23 (by decide) ?_
      exact sn_iret (pc := 24) dX11_bill_24 rfl
theorem iX11_bill : MI yX11_bill cX11_bill 5 (some .int) 3 := ⟨wt1_1, wt5_13, by decide +kernel, by decide⟩
-- NeedleHomes wronged(II)I
theorem dX11_wronged_0 : decode cX11_wronged 0 = .ok (.aload_n 0, 1) := by decide +kernel
theorem dX11_wronged_1 : decode cX11_wronged 1 = .ok (.getfield 12, 3) := by decide +kernel
theorem dX11_wronged_4 : decode cX11_wronged 4 = .ok (.iload_n 1, 1) := by decide +kernel
theorem dX11_wronged_5 : decode cX11_wronged 5 = .ok (.invokevirtual 237, 3) := by decide +kernel
theorem dX11_wronged_8 : decode cX11_wronged 8 = .ok (.astore_n 3, 1) := by decide +kernel
theorem dX11_wronged_9 : decode cX11_wronged 9 = .ok (.aload_n 3, 1) := by decide +kernel
theorem dX11_wronged_10 : decode cX11_wronged 10 = .ok (.ifnull 18, 3) := by decide +kernel
theorem dX11_wronged_13 : decode cX11_wronged 13 = .ok (.aload_n 3, 1) := by decide +kernel
theorem dX11_wronged_14 : decode cX11_wronged 14 = .ok (.invokevirtual 241, 3) := by decide +kernel
theorem dX11_wronged_17 : decode cX11_wronged 17 = .ok (.ifCond .eq 11, 3) := by decide +kernel
theorem dX11_wronged_20 : decode cX11_wronged 20 = .ok (.aload_n 0, 1) := by decide +kernel
theorem dX11_wronged_21 : decode cX11_wronged 21 = .ok (.iload_n 2, 1) := by decide +kernel
theorem dX11_wronged_22 : decode cX11_wronged 22 = .ok (.invokevirtual 160, 3) := by decide +kernel
theorem dX11_wronged_25 : decode cX11_wronged 25 = .ok (.ifCond .ne 7, 3) := by decide +kernel
theorem dX11_wronged_28 : decode cX11_wronged 28 = .ok (.ldc_w 296, 3) := by decide +kernel
theorem dX11_wronged_31 : decode cX11_wronged 31 = .ok (.ireturn, 1) := by decide +kernel
theorem dX11_wronged_32 : decode cX11_wronged 32 = .ok (.aload_n 0, 1) := by decide +kernel
theorem dX11_wronged_33 : decode cX11_wronged 33 = .ok (.getfield 37, 3) := by decide +kernel
theorem dX11_wronged_36 : decode cX11_wronged 36 = .ok (.aload_n 0, 1) := by decide +kernel
theorem dX11_wronged_37 : decode cX11_wronged 37 = .ok (.getfield 12, 3) := by decide +kernel
theorem dX11_wronged_40 : decode cX11_wronged 40 = .ok (.aload_n 3, 1) := by decide +kernel
theorem dX11_wronged_41 : decode cX11_wronged 41 = .ok (.iload_n 2, 1) := by decide +kernel
theorem dX11_wronged_42 : decode cX11_wronged 42 = .ok (.invokevirtual 251, 3) := by decide +kernel
theorem dX11_wronged_45 : decode cX11_wronged 45 = .ok (.aload_n 0, 1) := by decide +kernel
theorem dX11_wronged_46 : decode cX11_wronged 46 = .ok (.getfield 37, 3) := by decide +kernel
theorem dX11_wronged_49 : decode cX11_wronged 49 = .ok (.invokevirtual 297, 3) := by decide +kernel
theorem dX11_wronged_52 : decode cX11_wronged 52 = .ok (.istore 4, 2) := by decide +kernel
theorem dX11_wronged_54 : decode cX11_wronged 54 = .ok (.aload_n 0, 1) := by decide +kernel
theorem dX11_wronged_55 : decode cX11_wronged 55 = .ok (.getfield 37, 3) := by decide +kernel
theorem dX11_wronged_58 : decode cX11_wronged 58 = .ok (.aload_n 0, 1) := by decide +kernel
theorem dX11_wronged_59 : decode cX11_wronged 59 = .ok (.getfield 12, 3) := by decide +kernel
theorem dX11_wronged_62 : decode cX11_wronged 62 = .ok (.aload_n 3, 1) := by decide +kernel
theorem dX11_wronged_63 : decode cX11_wronged 63 = .ok (.aload_n 3, 1) := by decide +kernel
theorem dX11_wronged_64 : decode cX11_wronged 64 = .ok (.getfield 248, 3) := by decide +kernel
theorem dX11_wronged_67 : decode cX11_wronged 67 = .ok (.invokevirtual 251, 3) := by decide +kernel
theorem dX11_wronged_70 : decode cX11_wronged 70 = .ok (.iload 4, 2) := by decide +kernel
theorem dX11_wronged_72 : decode cX11_wronged 72 = .ok (.aload_n 0, 1) := by decide +kernel
theorem dX11_wronged_73 : decode cX11_wronged 73 = .ok (.getfield 37, 3) := by decide +kernel
theorem dX11_wronged_76 : decode cX11_wronged 76 = .ok (.invokevirtual 297, 3) := by decide +kernel
theorem dX11_wronged_79 : decode cX11_wronged 79 = .ok (.isub, 1) := by decide +kernel
theorem dX11_wronged_80 : decode cX11_wronged 80 = .ok (.ireturn, 1) := by decide +kernel
abbrev dpX11_wronged : Nat := 6
def fX11_wronged (a0 : Nat) (x1 : Int32) (x2 : Int32) : St → Option (Int32 × St) :=
 gR 12 a0 0 fun v1 =>
 nn v1 fun a2 =>
 ck 11 a2 <| cl (fX10_pieceAt a2 x1) fun v3 =>
 on v3 (rt (-1000000000))
 fun a4 => ck 8 a4 <| cl (fX7_isIn a4) fun v5 =>
 br ((bi v5) = 0) (rt (-1000000000))
 (ck 12 a0 <| cl (fX11_isPastDay a0 x2) fun v6 =>
 br ((bi v6) = 0) (rt (-1000000000))
 (gR 12 a0 4 fun v7 =>
 gR 12 a0 0 fun v8 =>
 nn v7 fun a9 =>
 ck 1 a9 <| cl (fX0_reckon a9 v8 (some a4) x2) fun v10 =>
 gR 12 a0 4 fun v11 =>
 nn v11 fun a12 =>
 ck 1 a12 <| cl (fX0_paid a12) fun v13 =>
 gR 12 a0 4 fun v14 =>
 gR 12 a0 0 fun v15 =>
 gI 8 a4 3 fun v16 =>
 nn v14 fun a17 =>
 ck 1 a17 <| cl (fX0_reckon a17 v15 (some a4) v16) fun v18 =>
 gR 12 a0 4 fun v19 =>
 nn v19 fun a20 =>
 ck 1 a20 <| cl (fX0_paid a20) fun v21 =>
 rt (v13 - v21)))
set_option maxHeartbeats 4000000 in
set_option maxRecDepth 100000 in
theorem mX11_wronged {E : Ev} {l : Launch} (a0 : Nat) (x1 : Int32) (x2 : Int32) : MF E l dpX11_wronged yX11_wronged cX11_wronged 5 (some .int) rvI [.ref (E.1 + a0), .int x1, .int x2] (fX11_wronged a0 x1 x2) := by
  refine MF.of (lv := [(0, .ref (E.1 + a0)), (1, .int x1), (2, .int x2)]) (by decide) (Nat.le_of_ble_eq_true rfl) rfl ?_
  unfold fX11_wronged
  refine sn_aload_n (pc := 0) (j := 0) dX11_wronged_0 rfl rfl ?_
  refine sn_gR (pc := 1) dX11_wronged_1 flX11_12 rfl (fun v1 => ?_)
  refine sn_iload_n (pc := 4) (j := 1) dX11_wronged_4 rfl rfl ?_
  rcases v1 with _ | a2
  · exact sn_no
  refine sn_nn ?_
  refine sn_callV (ci := 10) (pc := 5) dX11_wronged_5 iX10_pieceAt wt4_80 wt4_81 wt4_204 ⟨_, rfl, rfl⟩ (by decide) (mX10_pieceAt a2 x1) (by decide) rfl rfl (Nat.le_of_ble_eq_true rfl) (fun v3 => ?_)
  refine sn_astoreR_n (pc := 8) (r := v3) (i := 3) (lv' := [(3, rf E.1 v3), (0, .ref (E.1 + a0)), (1, .int x1), (2, .int x2)]) dX11_wronged_8 rfl (by decide) rfl ?_
  refine sn_aloadR_n (pc := 9) (r := v3) (j := 0) dX11_wronged_9 rfl rfl ?_
  rcases v3 with _ | a4
  · refine sn_onN ?_
    refine sn_ifnull_n (pc := 10) (tgt := 28) dX11_wronged_10 (by decide) ?_
    refine sn_ldcw (pc := 28) (v := (-1000000000)) dX11_wronged_28 wt5_18 ?_
    exact sn_iret (pc := 31) dX11_wronged_31 rfl
  · refine sn_onS ?_
    refine sn_ifnull_s (pc := 10) dX11_wronged_10 ?_
    refine sn_aload_n (pc := 13) (j := 0) dX11_wronged_13 rfl rfl ?_
    refine sn_callV (ci := 7) (pc := 14) dX11_wronged_14 iX7_isIn wt4_84 wt4_85 wt4_205 ⟨_, rfl, rfl⟩ (by decide) (mX7_isIn a4) (by decide) rfl rfl (Nat.le_of_ble_eq_true rfl) (fun v5 => ?_)
    refine sn_if_eq (pc := 17) (tgt := 28) dX11_wronged_17 (by decide) ?_ ?_
    · refine sn_ldcw (pc := 28) (v := (-1000000000)) dX11_wronged_28 wt5_18 ?_
      exact sn_iret (pc := 31) dX11_wronged_31 rfl
    · refine sn_aload_n (pc := 20) (j := 1) dX11_wronged_20 rfl rfl ?_
      refine sn_iload_n (pc := 21) (j := 3) dX11_wronged_21 rfl rfl ?_
      refine sn_callV (ci := 11) (pc := 22) dX11_wronged_22 iX11_isPastDay wt3_229 ws_21 wt3_227 ⟨_, rfl, rfl⟩ (by decide) (mX11_isPastDay a0 x2) (by decide) rfl rfl (Nat.le_of_ble_eq_true rfl) (fun v6 => ?_)
      refine sn_if_ne (pc := 25) (tgt := 32) dX11_wronged_25 (by decide) ?_ ?_
      · refine sn_aload_n (pc := 32) (j := 1) dX11_wronged_32 rfl rfl ?_
        refine sn_gR (pc := 33) dX11_wronged_33 flX11_37 rfl (fun v7 => ?_)
        refine sn_aload_n (pc := 36) (j := 1) dX11_wronged_36 rfl rfl ?_
        refine sn_gR (pc := 37) dX11_wronged_37 flX11_12 rfl (fun v8 => ?_)
        refine sn_aload_n (pc := 40) (j := 0) dX11_wronged_40 rfl rfl ?_
        refine sn_iload_n (pc := 41) (j := 3) dX11_wronged_41 rfl rfl ?_
        rcases v7 with _ | a9
        · exact sn_no
        refine sn_nn ?_
        refine sn_callV (ci := 0) (pc := 42) dX11_wronged_42 iX0_reckon wt4_207 wt4_208 wt4_206 ⟨_, rfl, rfl⟩ (by decide) (mX0_reckon a9 v8 (some a4) x2) (by decide) rfl rfl (Nat.le_of_ble_eq_true rfl) (fun v10 => ?_)
        refine sn_aload_n (pc := 45) (j := 1) dX11_wronged_45 rfl rfl ?_
        refine sn_gR (pc := 46) dX11_wronged_46 flX11_37 rfl (fun v11 => ?_)
        rcases v11 with _ | a12
        · exact sn_no
        refine sn_nn ?_
        refine sn_callV (ci := 0) (pc := 49) dX11_wronged_49 iX0_paid wt4_239 wt5_0 wt4_238 ⟨_, rfl, rfl⟩ (by decide) (mX0_paid a12) (by decide) rfl rfl (Nat.le_of_ble_eq_true rfl) (fun v13 => ?_)
        refine sn_istore (pc := 52) (i := 4) (lv' := [(4, .int v13), (3, .ref (E.1 + a4)), (0, .ref (E.1 + a0)), (1, .int x1), (2, .int x2)]) dX11_wronged_52 (by decide) rfl ?_
        refine sn_aload_n (pc := 54) (j := 2) dX11_wronged_54 rfl rfl ?_
        refine sn_gR (pc := 55) dX11_wronged_55 flX11_37 rfl (fun v14 => ?_)
        refine sn_aload_n (pc := 58) (j := 2) dX11_wronged_58 rfl rfl ?_
        refine sn_gR (pc := 59) dX11_wronged_59 flX11_12 rfl (fun v15 => ?_)
        refine sn_aload_n (pc := 62) (j := 1) dX11_wronged_62 rfl rfl ?_
        refine sn_aload_n (pc := 63) (j := 1) dX11_wronged_63 rfl rfl ?_
        refine sn_gI (pc := 64) dX11_wronged_64 flX11_248 rfl (fun v16 => ?_)
        rcases v14 with _ | a17
        · exact sn_no
        refine sn_nn ?_
        refine sn_callV (ci := 0) (pc := 67) dX11_wronged_67 iX0_reckon wt4_207 wt4_208 wt4_206 ⟨_, rfl, rfl⟩ (by decide) (mX0_reckon a17 v15 (some a4) v16) (by decide) rfl rfl (Nat.le_of_ble_eq_true rfl) (fun v18 => ?_)
        refine sn_iload (pc := 70) (j := 0) dX11_wronged_70 rfl ?_
        refine sn_aload_n (pc := 72) (j := 2) dX11_wronged_72 rfl rfl ?_
        refine sn_gR (pc := 73) dX11_wronged_73 flX11_37 rfl (fun v19 => ?_)
        rcases v19 with _ | a20
        · exact sn_no
        refine sn_nn ?_
        refine sn_callV (ci := 0) (pc := 76) dX11_wronged_76 iX0_paid wt4_239 wt5_0 wt4_238 ⟨_, rfl, rfl⟩ (by decide) (mX0_paid a20) (by decide) rfl rfl (Nat.le_of_ble_eq_true rfl) (fun v21 => ?_)
        refine sn_isub (pc := 79) dX11_wronged_79 ?_
        exact sn_iret (pc := 80) dX11_wronged_80 rfl
      · refine sn_ldcw (pc := 28) (v := (-1000000000)) dX11_wronged_28 wt5_18 ?_
        exact sn_iret (pc := 31) dX11_wronged_31 rfl
theorem iX11_wronged : MI yX11_wronged cX11_wronged 5 (some .int) 2 := ⟨wt1_1, wt5_17, by decide +kernel, by decide⟩
-- NeedleHomes carried(I)I
theorem dX11_carried_0 : decode cX11_carried 0 = .ok (.iload_n 1, 1) := by decide +kernel
theorem dX11_carried_1 : decode cX11_carried 1 = .ok (.iconst 0, 1) := by decide +kernel
theorem dX11_carried_2 : decode cX11_carried 2 = .ok (.iconst 2, 1) := by decide +kernel
theorem dX11_carried_3 : decode cX11_carried 3 = .ok (.invokestatic 67, 3) := by decide +kernel
theorem dX11_carried_6 : decode cX11_carried 6 = .ok (.ifCond .eq 15, 3) := by decide +kernel
theorem dX11_carried_9 : decode cX11_carried 9 = .ok (.aload_n 0, 1) := by decide +kernel
theorem dX11_carried_10 : decode cX11_carried 10 = .ok (.getfield 12, 3) := by decide +kernel
theorem dX11_carried_13 : decode cX11_carried 13 = .ok (.getfield 300, 3) := by decide +kernel
theorem dX11_carried_16 : decode cX11_carried 16 = .ok (.iload_n 1, 1) := by decide +kernel
theorem dX11_carried_17 : decode cX11_carried 17 = .ok (.iaload, 1) := by decide +kernel
theorem dX11_carried_18 : decode cX11_carried 18 = .ok (.goto 4, 3) := by decide +kernel
theorem dX11_carried_21 : decode cX11_carried 21 = .ok (.iconst (-1), 1) := by decide +kernel
theorem dX11_carried_22 : decode cX11_carried 22 = .ok (.ireturn, 1) := by decide +kernel
abbrev dpX11_carried : Nat := 1
def fX11_carried (a0 : Nat) (x1 : Int32) : St → Option (Int32 × St) :=
 cl (fX11_within x1 0 2) fun v1 =>
 br ((bi v1) = 0) (rt (-1))
 (gR 12 a0 0 fun v2 =>
 nn v2 fun a4 =>
 gR 11 a4 14 fun v3 =>
 nn v3 fun a6 =>
 aI 15 a6 x1 fun v5 =>
 rt v5)
set_option maxHeartbeats 4000000 in
set_option maxRecDepth 100000 in
theorem mX11_carried {E : Ev} {l : Launch} (a0 : Nat) (x1 : Int32) : MF E l dpX11_carried yX11_carried cX11_carried 2 (some .int) rvI [.ref (E.1 + a0), .int x1] (fX11_carried a0 x1) := by
  refine MF.of (lv := [(0, .ref (E.1 + a0)), (1, .int x1)]) (by decide) (Nat.le_of_ble_eq_true rfl) rfl ?_
  unfold fX11_carried
  refine sn_iload_n (pc := 0) (j := 1) dX11_carried_0 rfl rfl ?_
  refine sn_iconst (pc := 1) (v := 0) dX11_carried_1 (by decide) ?_
  refine sn_iconst (pc := 2) (v := 2) dX11_carried_2 (by decide) ?_
  refine sn_callS (pc := 3) dX11_carried_3 iX11_within wt2_96 wt2_95 (mX11_within x1 0 2) (by decide) rfl rfl (Nat.le_of_ble_eq_true rfl) (fun v1 => ?_)
  refine sn_if_eq (pc := 6) (tgt := 21) dX11_carried_6 (by decide) ?_ ?_
  · refine sn_iconst (pc := 21) (v := (-1)) dX11_carried_21 (by decide) ?_
    exact sn_iret (pc := 22) dX11_carried_22 rfl
  · refine sn_aload_n (pc := 9) (j := 0) dX11_carried_9 rfl rfl ?_
    refine sn_gR (pc := 10) dX11_carried_10 flX11_12 rfl (fun v2 => ?_)
    rcases v2 with _ | a4
    · exact sn_no
    refine sn_nn ?_
    refine sn_gR (pc := 13) dX11_carried_13 flX11_300 rfl (fun v3 => ?_)
    refine sn_iload_n (pc := 16) (j := 1) dX11_carried_16 rfl rfl ?_
    rcases v3 with _ | a6
    · exact sn_no
    refine sn_nn ?_
    refine sn_iald (pc := 17) dX11_carried_17 (fun v5 => ?_)
    refine sn_goto (pc := 18) (tgt := 22) dX11_carried_18 (by decide) ?_
    exact sn_iret (pc := 22) dX11_carried_22 rfl
theorem iX11_carried : MI yX11_carried cX11_carried 2 (some .int) 1 := ⟨wt1_1, wt5_22, by decide +kernel, by decide⟩
-- NeedleHomes write(IIII)Z
theorem dX11_write_0 : decode cX11_write 0 = .ok (.aload_n 0, 1) := by decide +kernel
theorem dX11_write_1 : decode cX11_write 1 = .ok (.getfield 12, 3) := by decide +kernel
theorem dX11_write_4 : decode cX11_write 4 = .ok (.iload_n 2, 1) := by decide +kernel
theorem dX11_write_5 : decode cX11_write 5 = .ok (.invokevirtual 237, 3) := by decide +kernel
theorem dX11_write_8 : decode cX11_write 8 = .ok (.astore 5, 2) := by decide +kernel
theorem dX11_write_10 : decode cX11_write 10 = .ok (.aload 5, 2) := by decide +kernel
theorem dX11_write_12 : decode cX11_write 12 = .ok (.ifnull 33, 3) := by decide +kernel
theorem dX11_write_15 : decode cX11_write 15 = .ok (.iload_n 1, 1) := by decide +kernel
theorem dX11_write_16 : decode cX11_write 16 = .ok (.iconst 0, 1) := by decide +kernel
theorem dX11_write_17 : decode cX11_write 17 = .ok (.iconst 1, 1) := by decide +kernel
theorem dX11_write_18 : decode cX11_write 18 = .ok (.invokestatic 67, 3) := by decide +kernel
theorem dX11_write_21 : decode cX11_write 21 = .ok (.ifCond .eq 24, 3) := by decide +kernel
theorem dX11_write_24 : decode cX11_write 24 = .ok (.iload_n 3, 1) := by decide +kernel
theorem dX11_write_25 : decode cX11_write 25 = .ok (.iconst 0, 1) := by decide +kernel
theorem dX11_write_26 : decode cX11_write 26 = .ok (.iconst 2, 1) := by decide +kernel
theorem dX11_write_27 : decode cX11_write 27 = .ok (.invokestatic 67, 3) := by decide +kernel
theorem dX11_write_30 : decode cX11_write 30 = .ok (.ifCond .eq 15, 3) := by decide +kernel
theorem dX11_write_33 : decode cX11_write 33 = .ok (.iload 4, 2) := by decide +kernel
theorem dX11_write_35 : decode cX11_write 35 = .ok (.iconst 0, 1) := by decide +kernel
theorem dX11_write_36 : decode cX11_write 36 = .ok (.sipush 9999, 3) := by decide +kernel
theorem dX11_write_39 : decode cX11_write 39 = .ok (.invokestatic 67, 3) := by decide +kernel
theorem dX11_write_42 : decode cX11_write 42 = .ok (.ifCond .ne 5, 3) := by decide +kernel
theorem dX11_write_45 : decode cX11_write 45 = .ok (.iconst 0, 1) := by decide +kernel
theorem dX11_write_46 : decode cX11_write 46 = .ok (.ireturn, 1) := by decide +kernel
theorem dX11_write_47 : decode cX11_write 47 = .ok (.aload 5, 2) := by decide +kernel
theorem dX11_write_49 : decode cX11_write 49 = .ok (.getfield 303, 3) := by decide +kernel
theorem dX11_write_52 : decode cX11_write 52 = .ok (.iload_n 1, 1) := by decide +kernel
theorem dX11_write_53 : decode cX11_write 53 = .ok (.iconst 3, 1) := by decide +kernel
theorem dX11_write_54 : decode cX11_write 54 = .ok (.imul, 1) := by decide +kernel
theorem dX11_write_55 : decode cX11_write 55 = .ok (.iload_n 3, 1) := by decide +kernel
theorem dX11_write_56 : decode cX11_write 56 = .ok (.iadd, 1) := by decide +kernel
theorem dX11_write_57 : decode cX11_write 57 = .ok (.iload 4, 2) := by decide +kernel
theorem dX11_write_59 : decode cX11_write 59 = .ok (.iastore, 1) := by decide +kernel
theorem dX11_write_60 : decode cX11_write 60 = .ok (.iconst 1, 1) := by decide +kernel
theorem dX11_write_61 : decode cX11_write 61 = .ok (.ireturn, 1) := by decide +kernel
abbrev dpX11_write : Nat := 2
def fX11_write (a0 : Nat) (x1 : Int32) (x2 : Int32) (x3 : Int32) (x4 : Int32) : St → Option (Bool × St) :=
 gR 12 a0 0 fun v1 =>
 nn v1 fun a2 =>
 ck 11 a2 <| cl (fX10_pieceAt a2 x2) fun v3 =>
 on v3 (rtZ 0)
 fun a4 => cl (fX11_within x1 0 1) fun v5 =>
 br ((bi v5) = 0) (rtZ 0)
 (cl (fX11_within x3 0 2) fun v6 =>
 br ((bi v6) = 0) (rtZ 0)
 (cl (fX11_within x4 0 9999) fun v7 =>
 br ((bi v7) = 0) (rtZ 0)
 (gR 8 a4 9 fun v8 =>
 nn v8 fun a9 =>
 wI a9 ((x1 * 3) + x3) x4 <|
 rtZ 1)))
set_option maxHeartbeats 4000000 in
set_option maxRecDepth 100000 in
theorem mX11_write {E : Ev} {l : Launch} (a0 : Nat) (x1 : Int32) (x2 : Int32) (x3 : Int32) (x4 : Int32) : MF E l dpX11_write yX11_write cX11_write 6 (some .boolean) rvZ [.ref (E.1 + a0), .int x1, .int x2, .int x3, .int x4] (fX11_write a0 x1 x2 x3 x4) := by
  refine MF.of (lv := [(0, .ref (E.1 + a0)), (1, .int x1), (2, .int x2), (3, .int x3), (4, .int x4)]) (by decide) (Nat.le_of_ble_eq_true rfl) rfl ?_
  unfold fX11_write
  refine sn_aload_n (pc := 0) (j := 0) dX11_write_0 rfl rfl ?_
  refine sn_gR (pc := 1) dX11_write_1 flX11_12 rfl (fun v1 => ?_)
  refine sn_iload_n (pc := 4) (j := 2) dX11_write_4 rfl rfl ?_
  rcases v1 with _ | a2
  · exact sn_no
  refine sn_nn ?_
  refine sn_callV (ci := 10) (pc := 5) dX11_write_5 iX10_pieceAt wt4_80 wt4_81 wt4_204 ⟨_, rfl, rfl⟩ (by decide) (mX10_pieceAt a2 x2) (by decide) rfl rfl (Nat.le_of_ble_eq_true rfl) (fun v3 => ?_)
  refine sn_astoreR (pc := 8) (r := v3) (i := 5) (lv' := [(5, rf E.1 v3), (0, .ref (E.1 + a0)), (1, .int x1), (2, .int x2), (3, .int x3), (4, .int x4)]) dX11_write_8 (by decide) rfl ?_
  refine sn_aloadR (pc := 10) (r := v3) (j := 0) dX11_write_10 rfl ?_
  rcases v3 with _ | a4
  · refine sn_onN ?_
    refine sn_ifnull_n (pc := 12) (tgt := 45) dX11_write_12 (by decide) ?_
    refine sn_iconst (pc := 45) (v := 0) dX11_write_45 (by decide) ?_
    exact sn_zret (pc := 46) dX11_write_46 rfl
  · refine sn_onS ?_
    refine sn_ifnull_s (pc := 12) dX11_write_12 ?_
    refine sn_iload_n (pc := 15) (j := 2) dX11_write_15 rfl rfl ?_
    refine sn_iconst (pc := 16) (v := 0) dX11_write_16 (by decide) ?_
    refine sn_iconst (pc := 17) (v := 1) dX11_write_17 (by decide) ?_
    refine sn_callS (pc := 18) dX11_write_18 iX11_within wt2_96 wt2_95 (mX11_within x1 0 1) (by decide) rfl rfl (Nat.le_of_ble_eq_true rfl) (fun v5 => ?_)
    refine sn_if_eq (pc := 21) (tgt := 45) dX11_write_21 (by decide) ?_ ?_
    · refine sn_iconst (pc := 45) (v := 0) dX11_write_45 (by decide) ?_
      exact sn_zret (pc := 46) dX11_write_46 rfl
    · refine sn_iload_n (pc := 24) (j := 4) dX11_write_24 rfl rfl ?_
      refine sn_iconst (pc := 25) (v := 0) dX11_write_25 (by decide) ?_
      refine sn_iconst (pc := 26) (v := 2) dX11_write_26 (by decide) ?_
      refine sn_callS (pc := 27) dX11_write_27 iX11_within wt2_96 wt2_95 (mX11_within x3 0 2) (by decide) rfl rfl (Nat.le_of_ble_eq_true rfl) (fun v6 => ?_)
      refine sn_if_eq (pc := 30) (tgt := 45) dX11_write_30 (by decide) ?_ ?_
      · refine sn_iconst (pc := 45) (v := 0) dX11_write_45 (by decide) ?_
        exact sn_zret (pc := 46) dX11_write_46 rfl
      · refine sn_iload (pc := 33) (j := 5) dX11_write_33 rfl ?_
        refine sn_iconst (pc := 35) (v := 0) dX11_write_35 (by decide) ?_
        refine sn_sipush (pc := 36) (v := 9999) dX11_write_36 (by decide) ?_
        refine sn_callS (pc := 39) dX11_write_39 iX11_within wt2_96 wt2_95 (mX11_within x4 0 9999) (by decide) rfl rfl (Nat.le_of_ble_eq_true rfl) (fun v7 => ?_)
        refine sn_if_ne (pc := 42) (tgt := 47) dX11_write_42 (by decide) ?_ ?_
        · refine sn_aload (pc := 47) (j := 0) dX11_write_47 rfl ?_
          refine sn_gR (pc := 49) dX11_write_49 flX11_303 rfl (fun v8 => ?_)
          refine sn_iload_n (pc := 52) (j := 2) dX11_write_52 rfl rfl ?_
          refine sn_iconst (pc := 53) (v := 3) dX11_write_53 (by decide) ?_
          refine sn_imul (pc := 54) dX11_write_54 ?_
          refine sn_iload_n (pc := 55) (j := 4) dX11_write_55 rfl rfl ?_
          refine sn_iadd (pc := 56) dX11_write_56 ?_
          refine sn_iload (pc := 57) (j := 5) dX11_write_57 rfl ?_
          rcases v8 with _ | a9
          · exact sn_no
          refine sn_nn ?_
          refine sn_iast (pc := 59) dX11_write_59 ?_
          refine sn_iconst (pc := 60) (v := 1) dX11_write_60 (by decide) ?_
          exact sn_zret (pc := 61) dX11_write_61 rfl
        · refine sn_iconst (pc := 45) (v := 0) dX11_write_45 (by decide) ?_
          exact sn_zret (pc := 46) dX11_write_46 rfl
theorem iX11_write : MI yX11_write cX11_write 6 (some .boolean) 4 := ⟨wt1_1, wt5_26, by decide +kernel, by decide⟩
-- NeedleHomes differ(I)I
theorem dX11_differ_0 : decode cX11_differ 0 = .ok (.aload_n 0, 1) := by decide +kernel
theorem dX11_differ_1 : decode cX11_differ 1 = .ok (.getfield 12, 3) := by decide +kernel
theorem dX11_differ_4 : decode cX11_differ 4 = .ok (.iload_n 1, 1) := by decide +kernel
theorem dX11_differ_5 : decode cX11_differ 5 = .ok (.invokevirtual 237, 3) := by decide +kernel
theorem dX11_differ_8 : decode cX11_differ 8 = .ok (.astore_n 2, 1) := by decide +kernel
theorem dX11_differ_9 : decode cX11_differ 9 = .ok (.aload_n 2, 1) := by decide +kernel
theorem dX11_differ_10 : decode cX11_differ 10 = .ok (.ifnonnull 7, 3) := by decide +kernel
theorem dX11_differ_13 : decode cX11_differ 13 = .ok (.iconst (-1), 1) := by decide +kernel
theorem dX11_differ_14 : decode cX11_differ 14 = .ok (.goto 7, 3) := by decide +kernel
theorem dX11_differ_17 : decode cX11_differ 17 = .ok (.aload_n 2, 1) := by decide +kernel
theorem dX11_differ_18 : decode cX11_differ 18 = .ok (.invokevirtual 306, 3) := by decide +kernel
theorem dX11_differ_21 : decode cX11_differ 21 = .ok (.ireturn, 1) := by decide +kernel
abbrev dpX11_differ : Nat := 2
def fX11_differ (a0 : Nat) (x1 : Int32) : St → Option (Int32 × St) :=
 gR 12 a0 0 fun v1 =>
 nn v1 fun a2 =>
 ck 11 a2 <| cl (fX10_pieceAt a2 x1) fun v3 =>
 on v3 (rt (-1))
 fun a4 => ck 8 a4 <| cl (fX7_differences a4) fun v5 =>
 rt v5
set_option maxHeartbeats 4000000 in
set_option maxRecDepth 100000 in
theorem mX11_differ {E : Ev} {l : Launch} (a0 : Nat) (x1 : Int32) : MF E l dpX11_differ yX11_differ cX11_differ 3 (some .int) rvI [.ref (E.1 + a0), .int x1] (fX11_differ a0 x1) := by
  refine MF.of (lv := [(0, .ref (E.1 + a0)), (1, .int x1)]) (by decide) (Nat.le_of_ble_eq_true rfl) rfl ?_
  unfold fX11_differ
  refine sn_aload_n (pc := 0) (j := 0) dX11_differ_0 rfl rfl ?_
  refine sn_gR (pc := 1) dX11_differ_1 flX11_12 rfl (fun v1 => ?_)
  refine sn_iload_n (pc := 4) (j := 1) dX11_differ_4 rfl rfl ?_
  rcases v1 with _ | a2
  · exact sn_no
  refine sn_nn ?_
  refine sn_callV (ci := 10) (pc := 5) dX11_differ_5 iX10_pieceAt wt4_80 wt4_81 wt4_204 ⟨_, rfl, rfl⟩ (by decide) (mX10_pieceAt a2 x1) (by decide) rfl rfl (Nat.le_of_ble_eq_true rfl) (fun v3 => ?_)
  refine sn_astoreR_n (pc := 8) (r := v3) (i := 2) (lv' := [(2, rf E.1 v3), (0, .ref (E.1 + a0)), (1, .int x1)]) dX11_differ_8 rfl (by decide) rfl ?_
  refine sn_aloadR_n (pc := 9) (r := v3) (j := 0) dX11_differ_9 rfl rfl ?_
  rcases v3 with _ | a4
  · refine sn_onN ?_
    refine sn_ifnonnull_n (pc := 10) dX11_differ_10 ?_
    refine sn_iconst (pc := 13) (v := (-1)) dX11_differ_13 (by decide) ?_
    refine sn_goto (pc := 14) (tgt := 21) dX11_differ_14 (by decide) ?_
    exact sn_iret (pc := 21) dX11_differ_21 rfl
  · refine sn_onS ?_
    refine sn_ifnonnull_s (pc := 10) (tgt := 17) dX11_differ_10 (by decide) ?_
    refine sn_aload_n (pc := 17) (j := 0) dX11_differ_17 rfl rfl ?_
    refine sn_callV (ci := 7) (pc := 18) dX11_differ_18 iX7_differences wt5_32 wt5_33 wt5_31 ⟨_, rfl, rfl⟩ (by decide) (mX7_differences a4) (by decide) rfl rfl (Nat.le_of_ble_eq_true rfl) (fun v5 => ?_)
    exact sn_iret (pc := 21) dX11_differ_21 rfl
theorem iX11_differ : MI yX11_differ cX11_differ 3 (some .int) 1 := ⟨wt1_1, wt5_30, by decide +kernel, by decide⟩
-- NeedleHomes findParting(III)Z
theorem dX11_findParting_0 : decode cX11_findParting 0 = .ok (.aload_n 0, 1) := by decide +kernel
theorem dX11_findParting_1 : decode cX11_findParting 1 = .ok (.getfield 12, 3) := by decide +kernel
theorem dX11_findParting_4 : decode cX11_findParting 4 = .ok (.iload_n 1, 1) := by decide +kernel
theorem dX11_findParting_5 : decode cX11_findParting 5 = .ok (.invokevirtual 131, 3) := by decide +kernel
theorem dX11_findParting_8 : decode cX11_findParting 8 = .ok (.astore 4, 2) := by decide +kernel
theorem dX11_findParting_10 : decode cX11_findParting 10 = .ok (.aload 4, 2) := by decide +kernel
theorem dX11_findParting_12 : decode cX11_findParting 12 = .ok (.ifnull 45, 3) := by decide +kernel
theorem dX11_findParting_15 : decode cX11_findParting 15 = .ok (.iload_n 2, 1) := by decide +kernel
theorem dX11_findParting_16 : decode cX11_findParting 16 = .ok (.iconst 1, 1) := by decide +kernel
theorem dX11_findParting_17 : decode cX11_findParting 17 = .ok (.bipush 40, 2) := by decide +kernel
theorem dX11_findParting_19 : decode cX11_findParting 19 = .ok (.invokestatic 67, 3) := by decide +kernel
theorem dX11_findParting_22 : decode cX11_findParting 22 = .ok (.ifCond .eq 35, 3) := by decide +kernel
theorem dX11_findParting_25 : decode cX11_findParting 25 = .ok (.iload_n 3, 1) := by decide +kernel
theorem dX11_findParting_26 : decode cX11_findParting 26 = .ok (.iconst 1, 1) := by decide +kernel
theorem dX11_findParting_27 : decode cX11_findParting 27 = .ok (.bipush 60, 2) := by decide +kernel
theorem dX11_findParting_29 : decode cX11_findParting 29 = .ok (.invokestatic 67, 3) := by decide +kernel
theorem dX11_findParting_32 : decode cX11_findParting 32 = .ok (.ifCond .eq 25, 3) := by decide +kernel
theorem dX11_findParting_35 : decode cX11_findParting 35 = .ok (.aload_n 0, 1) := by decide +kernel
theorem dX11_findParting_36 : decode cX11_findParting 36 = .ok (.getfield 44, 3) := by decide +kernel
theorem dX11_findParting_39 : decode cX11_findParting 39 = .ok (.aload_n 0, 1) := by decide +kernel
theorem dX11_findParting_40 : decode cX11_findParting 40 = .ok (.getfield 12, 3) := by decide +kernel
theorem dX11_findParting_43 : decode cX11_findParting 43 = .ok (.aload 4, 2) := by decide +kernel
theorem dX11_findParting_45 : decode cX11_findParting 45 = .ok (.iload_n 2, 1) := by decide +kernel
theorem dX11_findParting_46 : decode cX11_findParting 46 = .ok (.iload_n 3, 1) := by decide +kernel
theorem dX11_findParting_47 : decode cX11_findParting 47 = .ok (.invokevirtual 399, 3) := by decide +kernel
theorem dX11_findParting_50 : decode cX11_findParting 50 = .ok (.ifCond .eq 7, 3) := by decide +kernel
theorem dX11_findParting_53 : decode cX11_findParting 53 = .ok (.iconst 1, 1) := by decide +kernel
theorem dX11_findParting_54 : decode cX11_findParting 54 = .ok (.goto 4, 3) := by decide +kernel
theorem dX11_findParting_57 : decode cX11_findParting 57 = .ok (.iconst 0, 1) := by decide +kernel
theorem dX11_findParting_58 : decode cX11_findParting 58 = .ok (.ireturn, 1) := by decide +kernel
abbrev dpX11_findParting : Nat := 4
def fX11_findParting (a0 : Nat) (x1 : Int32) (x2 : Int32) (x3 : Int32) : St → Option (Bool × St) :=
 gR 12 a0 0 fun v1 =>
 nn v1 fun a2 =>
 ck 11 a2 <| cl (fX10_patternAt a2 x1) fun v3 =>
 on v3 (rtZ 0)
 fun a4 => cl (fX11_within x2 1 40) fun v5 =>
 br ((bi v5) = 0) (rtZ 0)
 (cl (fX11_within x3 1 60) fun v6 =>
 br ((bi v6) = 0) (rtZ 0)
 (gR 12 a0 5 fun v7 =>
 gR 12 a0 0 fun v8 =>
 nn v7 fun a9 =>
 ck 5 a9 <| cl (fX4_find a9 v8 (some a4) x2 x3) fun v10 =>
 br ((bi v10) = 0) (rtZ 0)
 (rtZ 1)))
set_option maxHeartbeats 4000000 in
set_option maxRecDepth 100000 in
theorem mX11_findParting {E : Ev} {l : Launch} (a0 : Nat) (x1 : Int32) (x2 : Int32) (x3 : Int32) : MF E l dpX11_findParting yX11_findParting cX11_findParting 5 (some .boolean) rvZ [.ref (E.1 + a0), .int x1, .int x2, .int x3] (fX11_findParting a0 x1 x2 x3) := by
  refine MF.of (lv := [(0, .ref (E.1 + a0)), (1, .int x1), (2, .int x2), (3, .int x3)]) (by decide) (Nat.le_of_ble_eq_true rfl) rfl ?_
  unfold fX11_findParting
  refine sn_aload_n (pc := 0) (j := 0) dX11_findParting_0 rfl rfl ?_
  refine sn_gR (pc := 1) dX11_findParting_1 flX11_12 rfl (fun v1 => ?_)
  refine sn_iload_n (pc := 4) (j := 1) dX11_findParting_4 rfl rfl ?_
  rcases v1 with _ | a2
  · exact sn_no
  refine sn_nn ?_
  refine sn_callV (ci := 10) (pc := 5) dX11_findParting_5 iX10_patternAt wt3_193 wt3_194 wt3_192 ⟨_, rfl, rfl⟩ (by decide) (mX10_patternAt a2 x1) (by decide) rfl rfl (Nat.le_of_ble_eq_true rfl) (fun v3 => ?_)
  refine sn_astoreR (pc := 8) (r := v3) (i := 4) (lv' := [(4, rf E.1 v3), (0, .ref (E.1 + a0)), (1, .int x1), (2, .int x2), (3, .int x3)]) dX11_findParting_8 (by decide) rfl ?_
  refine sn_aloadR (pc := 10) (r := v3) (j := 0) dX11_findParting_10 rfl ?_
  rcases v3 with _ | a4
  · refine sn_onN ?_
    refine sn_ifnull_n (pc := 12) (tgt := 57) dX11_findParting_12 (by decide) ?_
    refine sn_iconst (pc := 57) (v := 0) dX11_findParting_57 (by decide) ?_
    exact sn_zret (pc := 58) dX11_findParting_58 rfl
  · refine sn_onS ?_
    refine sn_ifnull_s (pc := 12) dX11_findParting_12 ?_
    refine sn_iload_n (pc := 15) (j := 3) dX11_findParting_15 rfl rfl ?_
    refine sn_iconst (pc := 16) (v := 1) dX11_findParting_16 (by decide) ?_
    refine sn_bipush (pc := 17) (v := 40) dX11_findParting_17 (by decide) ?_
    refine sn_callS (pc := 19) dX11_findParting_19 iX11_within wt2_96 wt2_95 (mX11_within x2 1 40) (by decide) rfl rfl (Nat.le_of_ble_eq_true rfl) (fun v5 => ?_)
    refine sn_if_eq (pc := 22) (tgt := 57) dX11_findParting_22 (by decide) ?_ ?_
    · refine sn_iconst (pc := 57) (v := 0) dX11_findParting_57 (by decide) ?_
      exact sn_zret (pc := 58) dX11_findParting_58 rfl
    · refine sn_iload_n (pc := 25) (j := 4) dX11_findParting_25 rfl rfl ?_
      refine sn_iconst (pc := 26) (v := 1) dX11_findParting_26 (by decide) ?_
      refine sn_bipush (pc := 27) (v := 60) dX11_findParting_27 (by decide) ?_
      refine sn_callS (pc := 29) dX11_findParting_29 iX11_within wt2_96 wt2_95 (mX11_within x3 1 60) (by decide) rfl rfl (Nat.le_of_ble_eq_true rfl) (fun v6 => ?_)
      refine sn_if_eq (pc := 32) (tgt := 57) dX11_findParting_32 (by decide) ?_ ?_
      · refine sn_iconst (pc := 57) (v := 0) dX11_findParting_57 (by decide) ?_
        exact sn_zret (pc := 58) dX11_findParting_58 rfl
      · refine sn_aload_n (pc := 35) (j := 1) dX11_findParting_35 rfl rfl ?_
        refine sn_gR (pc := 36) dX11_findParting_36 flX11_44 rfl (fun v7 => ?_)
        refine sn_aload_n (pc := 39) (j := 1) dX11_findParting_39 rfl rfl ?_
        refine sn_gR (pc := 40) dX11_findParting_40 flX11_12 rfl (fun v8 => ?_)
        refine sn_aload (pc := 43) (j := 0) dX11_findParting_43 rfl ?_
        refine sn_iload_n (pc := 45) (j := 3) dX11_findParting_45 rfl rfl ?_
        refine sn_iload_n (pc := 46) (j := 4) dX11_findParting_46 rfl rfl ?_
        rcases v7 with _ | a9
        · exact sn_no
        refine sn_nn ?_
        refine sn_callV (ci := 4) (pc := 47) dX11_findParting_47 iX4_find wt5_44 wt5_45 wt5_43 ⟨_, rfl, rfl⟩ (by decide) (mX4_find a9 v8 (some a4) x2 x3) (by decide) rfl rfl (Nat.le_of_ble_eq_true rfl) (fun v10 => ?_)
        refine sn_if_eq (pc := 50) (tgt := 57) dX11_findParting_50 (by decide) ?_ ?_
        · refine sn_iconst (pc := 57) (v := 0) dX11_findParting_57 (by decide) ?_
          exact sn_zret (pc := 58) dX11_findParting_58 rfl
        · refine sn_iconst (pc := 53) (v := 1) dX11_findParting_53 (by decide) ?_
          refine sn_goto (pc := 54) (tgt := 58) dX11_findParting_54 (by decide) ?_
          exact sn_zret (pc := 58) dX11_findParting_58 rfl
theorem iX11_findParting : MI yX11_findParting cX11_findParting 5 (some .boolean) 3 := ⟨wt1_1, wt5_42, by decide +kernel, by decide⟩
-- NeedleHomes part(IIII)I
theorem dX11_part_0 : decode cX11_part 0 = .ok (.aload_n 0, 1) := by decide +kernel
theorem dX11_part_1 : decode cX11_part 1 = .ok (.iload_n 1, 1) := by decide +kernel
theorem dX11_part_2 : decode cX11_part 2 = .ok (.iload_n 2, 1) := by decide +kernel
theorem dX11_part_3 : decode cX11_part 3 = .ok (.iload_n 3, 1) := by decide +kernel
theorem dX11_part_4 : decode cX11_part 4 = .ok (.invokevirtual 309, 3) := by decide +kernel
theorem dX11_part_7 : decode cX11_part 7 = .ok (.ifCond .ne 5, 3) := by decide +kernel
theorem dX11_part_10 : decode cX11_part 10 = .ok (.iconst (-1), 1) := by decide +kernel
theorem dX11_part_11 : decode cX11_part 11 = .ok (.ireturn, 1) := by decide +kernel
theorem dX11_part_12 : decode cX11_part 12 = .ok (.iload 4, 2) := by decide +kernel
theorem dX11_part_14 : decode cX11_part 14 = .ok (.tableswitch 50 0 2 #[26, 34, 42], 26) := by decide +kernel
theorem dX11_part_40 : decode cX11_part 40 = .ok (.aload_n 0, 1) := by decide +kernel
theorem dX11_part_41 : decode cX11_part 41 = .ok (.getfield 44, 3) := by decide +kernel
theorem dX11_part_44 : decode cX11_part 44 = .ok (.getfield 312, 3) := by decide +kernel
theorem dX11_part_47 : decode cX11_part 47 = .ok (.ireturn, 1) := by decide +kernel
theorem dX11_part_48 : decode cX11_part 48 = .ok (.aload_n 0, 1) := by decide +kernel
theorem dX11_part_49 : decode cX11_part 49 = .ok (.getfield 44, 3) := by decide +kernel
theorem dX11_part_52 : decode cX11_part 52 = .ok (.getfield 315, 3) := by decide +kernel
theorem dX11_part_55 : decode cX11_part 55 = .ok (.ireturn, 1) := by decide +kernel
theorem dX11_part_56 : decode cX11_part 56 = .ok (.aload_n 0, 1) := by decide +kernel
theorem dX11_part_57 : decode cX11_part 57 = .ok (.getfield 44, 3) := by decide +kernel
theorem dX11_part_60 : decode cX11_part 60 = .ok (.getfield 318, 3) := by decide +kernel
theorem dX11_part_63 : decode cX11_part 63 = .ok (.ireturn, 1) := by decide +kernel
theorem dX11_part_64 : decode cX11_part 64 = .ok (.iconst (-1), 1) := by decide +kernel
theorem dX11_part_65 : decode cX11_part 65 = .ok (.ireturn, 1) := by decide +kernel
abbrev dpX11_part : Nat := 5
def fX11_part (a0 : Nat) (x1 : Int32) (x2 : Int32) (x3 : Int32) (x4 : Int32) : St → Option (Int32 × St) :=
 ck 12 a0 <| cl (fX11_findParting a0 x1 x2 x3) fun v1 =>
 br ((bi v1) = 0) (rt (-1))
 (br (x4 = 0) (gR 12 a0 5 fun v2 =>
 nn v2 fun a4 =>
 gI 5 a4 0 fun v3 =>
 rt v3) <|
 br (x4 = 1) (gR 12 a0 5 fun v5 =>
 nn v5 fun a7 =>
 gI 5 a7 1 fun v6 =>
 rt v6) <|
 br (x4 = 2) (gR 12 a0 5 fun v8 =>
 nn v8 fun a10 =>
 gI 5 a10 2 fun v9 =>
 rt v9) <|
 (rt (-1)))
set_option maxHeartbeats 4000000 in
set_option maxRecDepth 100000 in
theorem mX11_part {E : Ev} {l : Launch} (a0 : Nat) (x1 : Int32) (x2 : Int32) (x3 : Int32) (x4 : Int32) : MF E l dpX11_part yX11_part cX11_part 5 (some .int) rvI [.ref (E.1 + a0), .int x1, .int x2, .int x3, .int x4] (fX11_part a0 x1 x2 x3 x4) := by
  refine MF.of (lv := [(0, .ref (E.1 + a0)), (1, .int x1), (2, .int x2), (3, .int x3), (4, .int x4)]) (by decide) (Nat.le_of_ble_eq_true rfl) rfl ?_
  unfold fX11_part
  refine sn_aload_n (pc := 0) (j := 0) dX11_part_0 rfl rfl ?_
  refine sn_iload_n (pc := 1) (j := 1) dX11_part_1 rfl rfl ?_
  refine sn_iload_n (pc := 2) (j := 2) dX11_part_2 rfl rfl ?_
  refine sn_iload_n (pc := 3) (j := 3) dX11_part_3 rfl rfl ?_
  refine sn_callV (ci := 11) (pc := 4) dX11_part_4 iX11_findParting wt5_41 ws_27 wt5_39 ⟨_, rfl, rfl⟩ (by decide) (mX11_findParting a0 x1 x2 x3) (by decide) rfl rfl (Nat.le_of_ble_eq_true rfl) (fun v1 => ?_)
  refine sn_if_ne (pc := 7) (tgt := 12) dX11_part_7 (by decide) ?_ ?_
  · refine sn_iload (pc := 12) (j := 4) dX11_part_12 rfl ?_
    refine sw_start ?_
    refine sw_case (tgt := 40) 0 dX11_part_14 (by decide) (by decide) rfl (by decide) ?_ ?_
    · refine sn_aload_n (pc := 40) (j := 0) dX11_part_40 rfl rfl ?_
      refine sn_gR (pc := 41) dX11_part_41 flX11_44 rfl (fun v2 => ?_)
      rcases v2 with _ | a4
      · exact sn_no
      refine sn_nn ?_
      refine sn_gI (pc := 44) dX11_part_44 flX11_312 rfl (fun v3 => ?_)
      exact sn_iret (pc := 47) dX11_part_47 rfl
    refine sw_case (tgt := 48) 1 dX11_part_14 (by decide) (by decide) rfl (by decide) ?_ ?_
    · refine sn_aload_n (pc := 48) (j := 0) dX11_part_48 rfl rfl ?_
      refine sn_gR (pc := 49) dX11_part_49 flX11_44 rfl (fun v5 => ?_)
      rcases v5 with _ | a7
      · exact sn_no
      refine sn_nn ?_
      refine sn_gI (pc := 52) dX11_part_52 flX11_315 rfl (fun v6 => ?_)
      exact sn_iret (pc := 55) dX11_part_55 rfl
    refine sw_case (tgt := 56) 2 dX11_part_14 (by decide) (by decide) rfl (by decide) ?_ ?_
    · refine sn_aload_n (pc := 56) (j := 0) dX11_part_56 rfl rfl ?_
      refine sn_gR (pc := 57) dX11_part_57 flX11_44 rfl (fun v8 => ?_)
      rcases v8 with _ | a10
      · exact sn_no
      refine sn_nn ?_
      refine sn_gI (pc := 60) dX11_part_60 flX11_318 rfl (fun v9 => ?_)
      exact sn_iret (pc := 63) dX11_part_63 rfl
    refine sw_dflt (tgt := 64) dX11_part_14 (fun hc => ?_) (by decide) ?_
    · obtain ⟨⟨⟨-, q0⟩, q1⟩, q2⟩ := hc
      have q0 := ne_toInt q0
      have q1 := ne_toInt q1
      have q2 := ne_toInt q2
      have e0 : (0 : Int32).toInt = 0 := by decide
      have e1 : (1 : Int32).toInt = 1 := by decide
      have e2 : (2 : Int32).toInt = 2 := by decide
      rw [e0] at q0
      rw [e1] at q1
      rw [e2] at q2
      omega
    · refine sn_iconst (pc := 64) (v := (-1)) dX11_part_64 (by decide) ?_
      exact sn_iret (pc := 65) dX11_part_65 rfl
  · refine sn_iconst (pc := 10) (v := (-1)) dX11_part_10 (by decide) ?_
    exact sn_iret (pc := 11) dX11_part_11 rfl
theorem iX11_part : MI yX11_part cX11_part 5 (some .int) 4 := ⟨wt1_1, wt5_38, by decide +kernel, by decide⟩
-- NeedleHomes parted(IIII)I
theorem dX11_parted_0 : decode cX11_parted 0 = .ok (.aload_n 0, 1) := by decide +kernel
theorem dX11_parted_1 : decode cX11_parted 1 = .ok (.getfield 12, 3) := by decide +kernel
theorem dX11_parted_4 : decode cX11_parted 4 = .ok (.iload 4, 2) := by decide +kernel
theorem dX11_parted_6 : decode cX11_parted 6 = .ok (.invokevirtual 179, 3) := by decide +kernel
theorem dX11_parted_9 : decode cX11_parted 9 = .ok (.ifnull 13, 3) := by decide +kernel
theorem dX11_parted_12 : decode cX11_parted 12 = .ok (.aload_n 0, 1) := by decide +kernel
theorem dX11_parted_13 : decode cX11_parted 13 = .ok (.iload_n 1, 1) := by decide +kernel
theorem dX11_parted_14 : decode cX11_parted 14 = .ok (.iload_n 2, 1) := by decide +kernel
theorem dX11_parted_15 : decode cX11_parted 15 = .ok (.iload_n 3, 1) := by decide +kernel
theorem dX11_parted_16 : decode cX11_parted 16 = .ok (.invokevirtual 309, 3) := by decide +kernel
theorem dX11_parted_19 : decode cX11_parted 19 = .ok (.ifCond .ne 5, 3) := by decide +kernel
theorem dX11_parted_22 : decode cX11_parted 22 = .ok (.iconst (-1), 1) := by decide +kernel
theorem dX11_parted_23 : decode cX11_parted 23 = .ok (.ireturn, 1) := by decide +kernel
theorem dX11_parted_24 : decode cX11_parted 24 = .ok (.aload_n 0, 1) := by decide +kernel
theorem dX11_parted_25 : decode cX11_parted 25 = .ok (.getfield 44, 3) := by decide +kernel
theorem dX11_parted_28 : decode cX11_parted 28 = .ok (.iload 4, 2) := by decide +kernel
theorem dX11_parted_30 : decode cX11_parted 30 = .ok (.invokevirtual 321, 3) := by decide +kernel
theorem dX11_parted_33 : decode cX11_parted 33 = .ok (.ireturn, 1) := by decide +kernel
abbrev dpX11_parted : Nat := 5
def fX11_parted (a0 : Nat) (x1 : Int32) (x2 : Int32) (x3 : Int32) (x4 : Int32) : St → Option (Int32 × St) :=
 gR 12 a0 0 fun v1 =>
 nn v1 fun a2 =>
 ck 11 a2 <| cl (fX10_handAt a2 x4) fun v3 =>
 on v3 (rt (-1))
 fun a4 => ck 12 a0 <| cl (fX11_findParting a0 x1 x2 x3) fun v5 =>
 br ((bi v5) = 0) (rt (-1))
 (gR 12 a0 5 fun v6 =>
 nn v6 fun a7 =>
 ck 5 a7 <| cl (fX4_shareOf a7 x4) fun v8 =>
 rt v8)
set_option maxHeartbeats 4000000 in
set_option maxRecDepth 100000 in
theorem mX11_parted {E : Ev} {l : Launch} (a0 : Nat) (x1 : Int32) (x2 : Int32) (x3 : Int32) (x4 : Int32) : MF E l dpX11_parted yX11_parted cX11_parted 5 (some .int) rvI [.ref (E.1 + a0), .int x1, .int x2, .int x3, .int x4] (fX11_parted a0 x1 x2 x3 x4) := by
  refine MF.of (lv := [(0, .ref (E.1 + a0)), (1, .int x1), (2, .int x2), (3, .int x3), (4, .int x4)]) (by decide) (Nat.le_of_ble_eq_true rfl) rfl ?_
  unfold fX11_parted
  refine sn_aload_n (pc := 0) (j := 0) dX11_parted_0 rfl rfl ?_
  refine sn_gR (pc := 1) dX11_parted_1 flX11_12 rfl (fun v1 => ?_)
  refine sn_iload (pc := 4) (j := 4) dX11_parted_4 rfl ?_
  rcases v1 with _ | a2
  · exact sn_no
  refine sn_nn ?_
  refine sn_callV (ci := 10) (pc := 6) dX11_parted_6 iX10_handAt wt4_54 wt4_55 wt4_53 ⟨_, rfl, rfl⟩ (by decide) (mX10_handAt a2 x4) (by decide) rfl rfl (Nat.le_of_ble_eq_true rfl) (fun v3 => ?_)
  rcases v3 with _ | a4
  · refine sn_onN ?_
    refine sn_ifnull_n (pc := 9) (tgt := 22) dX11_parted_9 (by decide) ?_
    refine sn_iconst (pc := 22) (v := (-1)) dX11_parted_22 (by decide) ?_
    exact sn_iret (pc := 23) dX11_parted_23 rfl
  · refine sn_onS ?_
    refine sn_ifnull_s (pc := 9) dX11_parted_9 ?_
    refine sn_aload_n (pc := 12) (j := 0) dX11_parted_12 rfl rfl ?_
    refine sn_iload_n (pc := 13) (j := 1) dX11_parted_13 rfl rfl ?_
    refine sn_iload_n (pc := 14) (j := 2) dX11_parted_14 rfl rfl ?_
    refine sn_iload_n (pc := 15) (j := 3) dX11_parted_15 rfl rfl ?_
    refine sn_callV (ci := 11) (pc := 16) dX11_parted_16 iX11_findParting wt5_41 ws_27 wt5_39 ⟨_, rfl, rfl⟩ (by decide) (mX11_findParting a0 x1 x2 x3) (by decide) rfl rfl (Nat.le_of_ble_eq_true rfl) (fun v5 => ?_)
    refine sn_if_ne (pc := 19) (tgt := 24) dX11_parted_19 (by decide) ?_ ?_
    · refine sn_aload_n (pc := 24) (j := 0) dX11_parted_24 rfl rfl ?_
      refine sn_gR (pc := 25) dX11_parted_25 flX11_44 rfl (fun v6 => ?_)
      refine sn_iload (pc := 28) (j := 4) dX11_parted_28 rfl ?_
      rcases v6 with _ | a7
      · exact sn_no
      refine sn_nn ?_
      refine sn_callV (ci := 4) (pc := 30) dX11_parted_30 iX4_shareOf wt5_95 wt5_96 wt5_94 ⟨_, rfl, rfl⟩ (by decide) (mX4_shareOf a7 x4) (by decide) rfl rfl (Nat.le_of_ble_eq_true rfl) (fun v8 => ?_)
      exact sn_iret (pc := 33) dX11_parted_33 rfl
    · refine sn_iconst (pc := 22) (v := (-1)) dX11_parted_22 (by decide) ?_
      exact sn_iret (pc := 23) dX11_parted_23 rfl
theorem iX11_parted : MI yX11_parted cX11_parted 5 (some .int) 4 := ⟨wt1_1, wt5_93, by decide +kernel, by decide⟩
-- NeedleHomes look(IIII)Z
theorem dX11_look_0 : decode cX11_look 0 = .ok (.aload_n 0, 1) := by decide +kernel
theorem dX11_look_1 : decode cX11_look 1 = .ok (.getfield 12, 3) := by decide +kernel
theorem dX11_look_4 : decode cX11_look 4 = .ok (.iload_n 1, 1) := by decide +kernel
theorem dX11_look_5 : decode cX11_look 5 = .ok (.invokevirtual 237, 3) := by decide +kernel
theorem dX11_look_8 : decode cX11_look 8 = .ok (.astore 5, 2) := by decide +kernel
theorem dX11_look_10 : decode cX11_look 10 = .ok (.aload 5, 2) := by decide +kernel
theorem dX11_look_12 : decode cX11_look 12 = .ok (.ifnull 31, 3) := by decide +kernel
theorem dX11_look_15 : decode cX11_look 15 = .ok (.iload_n 2, 1) := by decide +kernel
theorem dX11_look_16 : decode cX11_look 16 = .ok (.invokestatic 135, 3) := by decide +kernel
theorem dX11_look_19 : decode cX11_look 19 = .ok (.ifCond .eq 24, 3) := by decide +kernel
theorem dX11_look_22 : decode cX11_look 22 = .ok (.iload_n 3, 1) := by decide +kernel
theorem dX11_look_23 : decode cX11_look 23 = .ok (.iconst 1, 1) := by decide +kernel
theorem dX11_look_24 : decode cX11_look 24 = .ok (.sipush 999, 3) := by decide +kernel
theorem dX11_look_27 : decode cX11_look 27 = .ok (.invokestatic 67, 3) := by decide +kernel
theorem dX11_look_30 : decode cX11_look 30 = .ok (.ifCond .eq 13, 3) := by decide +kernel
theorem dX11_look_33 : decode cX11_look 33 = .ok (.iload 4, 2) := by decide +kernel
theorem dX11_look_35 : decode cX11_look 35 = .ok (.iconst 0, 1) := by decide +kernel
theorem dX11_look_36 : decode cX11_look 36 = .ok (.iload_n 3, 1) := by decide +kernel
theorem dX11_look_37 : decode cX11_look 37 = .ok (.invokestatic 67, 3) := by decide +kernel
theorem dX11_look_40 : decode cX11_look 40 = .ok (.ifCond .ne 5, 3) := by decide +kernel
theorem dX11_look_43 : decode cX11_look 43 = .ok (.iconst 0, 1) := by decide +kernel
theorem dX11_look_44 : decode cX11_look 44 = .ok (.ireturn, 1) := by decide +kernel
theorem dX11_look_45 : decode cX11_look 45 = .ok (.aload 5, 2) := by decide +kernel
theorem dX11_look_47 : decode cX11_look 47 = .ok (.getfield 324, 3) := by decide +kernel
theorem dX11_look_50 : decode cX11_look 50 = .ok (.iload_n 2, 1) := by decide +kernel
theorem dX11_look_51 : decode cX11_look 51 = .ok (.iload_n 3, 1) := by decide +kernel
theorem dX11_look_52 : decode cX11_look 52 = .ok (.iastore, 1) := by decide +kernel
theorem dX11_look_53 : decode cX11_look 53 = .ok (.aload 5, 2) := by decide +kernel
theorem dX11_look_55 : decode cX11_look 55 = .ok (.getfield 327, 3) := by decide +kernel
theorem dX11_look_58 : decode cX11_look 58 = .ok (.iload_n 2, 1) := by decide +kernel
theorem dX11_look_59 : decode cX11_look 59 = .ok (.iload 4, 2) := by decide +kernel
theorem dX11_look_61 : decode cX11_look 61 = .ok (.iastore, 1) := by decide +kernel
theorem dX11_look_62 : decode cX11_look 62 = .ok (.iconst 1, 1) := by decide +kernel
theorem dX11_look_63 : decode cX11_look 63 = .ok (.ireturn, 1) := by decide +kernel
abbrev dpX11_look : Nat := 2
def fX11_look (a0 : Nat) (x1 : Int32) (x2 : Int32) (x3 : Int32) (x4 : Int32) : St → Option (Bool × St) :=
 gR 12 a0 0 fun v1 =>
 nn v1 fun a2 =>
 ck 11 a2 <| cl (fX10_pieceAt a2 x1) fun v3 =>
 on v3 (rtZ 0)
 fun a4 => cl (fX11_isStitch x2) fun v5 =>
 br ((bi v5) = 0) (rtZ 0)
 (cl (fX11_within x3 1 999) fun v6 =>
 br ((bi v6) = 0) (rtZ 0)
 (cl (fX11_within x4 0 x3) fun v7 =>
 br ((bi v7) = 0) (rtZ 0)
 (gR 8 a4 10 fun v8 =>
 nn v8 fun a9 =>
 wI a9 x2 x3 <|
 gR 8 a4 11 fun v10 =>
 nn v10 fun a11 =>
 wI a11 x2 x4 <|
 rtZ 1)))
set_option maxHeartbeats 4000000 in
set_option maxRecDepth 100000 in
theorem mX11_look {E : Ev} {l : Launch} (a0 : Nat) (x1 : Int32) (x2 : Int32) (x3 : Int32) (x4 : Int32) : MF E l dpX11_look yX11_look cX11_look 6 (some .boolean) rvZ [.ref (E.1 + a0), .int x1, .int x2, .int x3, .int x4] (fX11_look a0 x1 x2 x3 x4) := by
  refine MF.of (lv := [(0, .ref (E.1 + a0)), (1, .int x1), (2, .int x2), (3, .int x3), (4, .int x4)]) (by decide) (Nat.le_of_ble_eq_true rfl) rfl ?_
  unfold fX11_look
  refine sn_aload_n (pc := 0) (j := 0) dX11_look_0 rfl rfl ?_
  refine sn_gR (pc := 1) dX11_look_1 flX11_12 rfl (fun v1 => ?_)
  refine sn_iload_n (pc := 4) (j := 1) dX11_look_4 rfl rfl ?_
  rcases v1 with _ | a2
  · exact sn_no
  refine sn_nn ?_
  refine sn_callV (ci := 10) (pc := 5) dX11_look_5 iX10_pieceAt wt4_80 wt4_81 wt4_204 ⟨_, rfl, rfl⟩ (by decide) (mX10_pieceAt a2 x1) (by decide) rfl rfl (Nat.le_of_ble_eq_true rfl) (fun v3 => ?_)
  refine sn_astoreR (pc := 8) (r := v3) (i := 5) (lv' := [(5, rf E.1 v3), (0, .ref (E.1 + a0)), (1, .int x1), (2, .int x2), (3, .int x3), (4, .int x4)]) dX11_look_8 (by decide) rfl ?_
  refine sn_aloadR (pc := 10) (r := v3) (j := 0) dX11_look_10 rfl ?_
  rcases v3 with _ | a4
  · refine sn_onN ?_
    refine sn_ifnull_n (pc := 12) (tgt := 43) dX11_look_12 (by decide) ?_
    refine sn_iconst (pc := 43) (v := 0) dX11_look_43 (by decide) ?_
    exact sn_zret (pc := 44) dX11_look_44 rfl
  · refine sn_onS ?_
    refine sn_ifnull_s (pc := 12) dX11_look_12 ?_
    refine sn_iload_n (pc := 15) (j := 3) dX11_look_15 rfl rfl ?_
    refine sn_callS (pc := 16) dX11_look_16 iX11_isStitch wt3_197 wt3_196 (mX11_isStitch x2) (by decide) rfl rfl (Nat.le_of_ble_eq_true rfl) (fun v5 => ?_)
    refine sn_if_eq (pc := 19) (tgt := 43) dX11_look_19 (by decide) ?_ ?_
    · refine sn_iconst (pc := 43) (v := 0) dX11_look_43 (by decide) ?_
      exact sn_zret (pc := 44) dX11_look_44 rfl
    · refine sn_iload_n (pc := 22) (j := 4) dX11_look_22 rfl rfl ?_
      refine sn_iconst (pc := 23) (v := 1) dX11_look_23 (by decide) ?_
      refine sn_sipush (pc := 24) (v := 999) dX11_look_24 (by decide) ?_
      refine sn_callS (pc := 27) dX11_look_27 iX11_within wt2_96 wt2_95 (mX11_within x3 1 999) (by decide) rfl rfl (Nat.le_of_ble_eq_true rfl) (fun v6 => ?_)
      refine sn_if_eq (pc := 30) (tgt := 43) dX11_look_30 (by decide) ?_ ?_
      · refine sn_iconst (pc := 43) (v := 0) dX11_look_43 (by decide) ?_
        exact sn_zret (pc := 44) dX11_look_44 rfl
      · refine sn_iload (pc := 33) (j := 5) dX11_look_33 rfl ?_
        refine sn_iconst (pc := 35) (v := 0) dX11_look_35 (by decide) ?_
        refine sn_iload_n (pc := 36) (j := 4) dX11_look_36 rfl rfl ?_
        refine sn_callS (pc := 37) dX11_look_37 iX11_within wt2_96 wt2_95 (mX11_within x4 0 x3) (by decide) rfl rfl (Nat.le_of_ble_eq_true rfl) (fun v7 => ?_)
        refine sn_if_ne (pc := 40) (tgt := 45) dX11_look_40 (by decide) ?_ ?_
        · refine sn_aload (pc := 45) (j := 0) dX11_look_45 rfl ?_
          refine sn_gR (pc := 47) dX11_look_47 flX11_324 rfl (fun v8 => ?_)
          refine sn_iload_n (pc := 50) (j := 3) dX11_look_50 rfl rfl ?_
          refine sn_iload_n (pc := 51) (j := 4) dX11_look_51 rfl rfl ?_
          rcases v8 with _ | a9
          · exact sn_no
          refine sn_nn ?_
          refine sn_iast (pc := 52) dX11_look_52 ?_
          refine sn_aload (pc := 53) (j := 0) dX11_look_53 rfl ?_
          refine sn_gR (pc := 55) dX11_look_55 flX11_327 rfl (fun v10 => ?_)
          refine sn_iload_n (pc := 58) (j := 3) dX11_look_58 rfl rfl ?_
          refine sn_iload (pc := 59) (j := 5) dX11_look_59 rfl ?_
          rcases v10 with _ | a11
          · exact sn_no
          refine sn_nn ?_
          refine sn_iast (pc := 61) dX11_look_61 ?_
          refine sn_iconst (pc := 62) (v := 1) dX11_look_62 (by decide) ?_
          exact sn_zret (pc := 63) dX11_look_63 rfl
        · refine sn_iconst (pc := 43) (v := 0) dX11_look_43 (by decide) ?_
          exact sn_zret (pc := 44) dX11_look_44 rfl
theorem iX11_look : MI yX11_look cX11_look 6 (some .boolean) 4 := ⟨wt1_1, wt5_102, by decide +kernel, by decide⟩
-- NeedleHomes unlike(II)I
theorem dX11_unlike_0 : decode cX11_unlike 0 = .ok (.aload_n 0, 1) := by decide +kernel
theorem dX11_unlike_1 : decode cX11_unlike 1 = .ok (.getfield 12, 3) := by decide +kernel
theorem dX11_unlike_4 : decode cX11_unlike 4 = .ok (.iload_n 1, 1) := by decide +kernel
theorem dX11_unlike_5 : decode cX11_unlike 5 = .ok (.invokevirtual 237, 3) := by decide +kernel
theorem dX11_unlike_8 : decode cX11_unlike 8 = .ok (.astore_n 3, 1) := by decide +kernel
theorem dX11_unlike_9 : decode cX11_unlike 9 = .ok (.aload_n 0, 1) := by decide +kernel
theorem dX11_unlike_10 : decode cX11_unlike 10 = .ok (.getfield 12, 3) := by decide +kernel
theorem dX11_unlike_13 : decode cX11_unlike 13 = .ok (.iload_n 2, 1) := by decide +kernel
theorem dX11_unlike_14 : decode cX11_unlike 14 = .ok (.invokevirtual 179, 3) := by decide +kernel
theorem dX11_unlike_17 : decode cX11_unlike 17 = .ok (.astore 4, 2) := by decide +kernel
theorem dX11_unlike_19 : decode cX11_unlike 19 = .ok (.aload_n 3, 1) := by decide +kernel
theorem dX11_unlike_20 : decode cX11_unlike 20 = .ok (.ifnull 8, 3) := by decide +kernel
theorem dX11_unlike_23 : decode cX11_unlike 23 = .ok (.aload 4, 2) := by decide +kernel
theorem dX11_unlike_25 : decode cX11_unlike 25 = .ok (.ifnonnull 7, 3) := by decide +kernel
theorem dX11_unlike_28 : decode cX11_unlike 28 = .ok (.iconst (-1), 1) := by decide +kernel
theorem dX11_unlike_29 : decode cX11_unlike 29 = .ok (.goto 9, 3) := by decide +kernel
theorem dX11_unlike_32 : decode cX11_unlike 32 = .ok (.aload_n 3, 1) := by decide +kernel
theorem dX11_unlike_33 : decode cX11_unlike 33 = .ok (.aload 4, 2) := by decide +kernel
theorem dX11_unlike_35 : decode cX11_unlike 35 = .ok (.invokevirtual 330, 3) := by decide +kernel
theorem dX11_unlike_38 : decode cX11_unlike 38 = .ok (.ireturn, 1) := by decide +kernel
abbrev dpX11_unlike : Nat := 2
def fX11_unlike (a0 : Nat) (x1 : Int32) (x2 : Int32) : St → Option (Int32 × St) :=
 gR 12 a0 0 fun v1 =>
 nn v1 fun a2 =>
 ck 11 a2 <| cl (fX10_pieceAt a2 x1) fun v3 =>
 gR 12 a0 0 fun v4 =>
 nn v4 fun a5 =>
 ck 11 a5 <| cl (fX10_handAt a5 x2) fun v6 =>
 on v3 (rt (-1))
 fun a7 => on v6 (rt (-1))
 fun a8 => ck 8 a7 <| cl (fX7_unlikenessOf a7 (some a8)) fun v9 =>
 rt v9
set_option maxHeartbeats 4000000 in
set_option maxRecDepth 100000 in
theorem mX11_unlike {E : Ev} {l : Launch} (a0 : Nat) (x1 : Int32) (x2 : Int32) : MF E l dpX11_unlike yX11_unlike cX11_unlike 5 (some .int) rvI [.ref (E.1 + a0), .int x1, .int x2] (fX11_unlike a0 x1 x2) := by
  refine MF.of (lv := [(0, .ref (E.1 + a0)), (1, .int x1), (2, .int x2)]) (by decide) (Nat.le_of_ble_eq_true rfl) rfl ?_
  unfold fX11_unlike
  refine sn_aload_n (pc := 0) (j := 0) dX11_unlike_0 rfl rfl ?_
  refine sn_gR (pc := 1) dX11_unlike_1 flX11_12 rfl (fun v1 => ?_)
  refine sn_iload_n (pc := 4) (j := 1) dX11_unlike_4 rfl rfl ?_
  rcases v1 with _ | a2
  · exact sn_no
  refine sn_nn ?_
  refine sn_callV (ci := 10) (pc := 5) dX11_unlike_5 iX10_pieceAt wt4_80 wt4_81 wt4_204 ⟨_, rfl, rfl⟩ (by decide) (mX10_pieceAt a2 x1) (by decide) rfl rfl (Nat.le_of_ble_eq_true rfl) (fun v3 => ?_)
  refine sn_astoreR_n (pc := 8) (r := v3) (i := 3) (lv' := [(3, rf E.1 v3), (0, .ref (E.1 + a0)), (1, .int x1), (2, .int x2)]) dX11_unlike_8 rfl (by decide) rfl ?_
  refine sn_aload_n (pc := 9) (j := 1) dX11_unlike_9 rfl rfl ?_
  refine sn_gR (pc := 10) dX11_unlike_10 flX11_12 rfl (fun v4 => ?_)
  refine sn_iload_n (pc := 13) (j := 3) dX11_unlike_13 rfl rfl ?_
  rcases v4 with _ | a5
  · exact sn_no
  refine sn_nn ?_
  refine sn_callV (ci := 10) (pc := 14) dX11_unlike_14 iX10_handAt wt4_54 wt4_55 wt4_53 ⟨_, rfl, rfl⟩ (by decide) (mX10_handAt a5 x2) (by decide) rfl rfl (Nat.le_of_ble_eq_true rfl) (fun v6 => ?_)
  refine sn_astoreR (pc := 17) (r := v6) (i := 4) (lv' := [(4, rf E.1 v6), (3, rf E.1 v3), (0, .ref (E.1 + a0)), (1, .int x1), (2, .int x2)]) dX11_unlike_17 (by decide) (by simp [rf_some, rf_cat, cat_int, cat_long, cat_ref]) ?_
  refine sn_aloadR_n (pc := 19) (r := v3) (j := 1) dX11_unlike_19 rfl rfl ?_
  rcases v3 with _ | a7
  · refine sn_onN ?_
    refine sn_ifnull_n (pc := 20) (tgt := 28) dX11_unlike_20 (by decide) ?_
    refine sn_iconst (pc := 28) (v := (-1)) dX11_unlike_28 (by decide) ?_
    refine sn_goto (pc := 29) (tgt := 38) dX11_unlike_29 (by decide) ?_
    exact sn_iret (pc := 38) dX11_unlike_38 rfl
  · refine sn_onS ?_
    refine sn_ifnull_s (pc := 20) dX11_unlike_20 ?_
    refine sn_aloadR (pc := 23) (r := v6) (j := 0) dX11_unlike_23 rfl ?_
    rcases v6 with _ | a8
    · refine sn_onN ?_
      refine sn_ifnonnull_n (pc := 25) dX11_unlike_25 ?_
      refine sn_iconst (pc := 28) (v := (-1)) dX11_unlike_28 (by decide) ?_
      refine sn_goto (pc := 29) (tgt := 38) dX11_unlike_29 (by decide) ?_
      exact sn_iret (pc := 38) dX11_unlike_38 rfl
    · refine sn_onS ?_
      refine sn_ifnonnull_s (pc := 25) (tgt := 32) dX11_unlike_25 (by decide) ?_
      refine sn_aload_n (pc := 32) (j := 1) dX11_unlike_32 rfl rfl ?_
      refine sn_aload (pc := 33) (j := 0) dX11_unlike_33 rfl ?_
      refine sn_callV (ci := 7) (pc := 35) dX11_unlike_35 iX7_unlikenessOf wt5_108 wt5_109 wt5_107 ⟨_, rfl, rfl⟩ (by decide) (mX7_unlikenessOf a7 (some a8)) (by decide) rfl rfl (Nat.le_of_ble_eq_true rfl) (fun v9 => ?_)
      exact sn_iret (pc := 38) dX11_unlike_38 rfl
theorem iX11_unlike : MI yX11_unlike cX11_unlike 5 (some .int) 2 := ⟨wt1_1, wt5_106, by decide +kernel, by decide⟩
-- NeedleHomes who(II)I
theorem dX11_who_0 : decode cX11_who 0 = .ok (.aload_n 0, 1) := by decide +kernel
theorem dX11_who_1 : decode cX11_who 1 = .ok (.getfield 12, 3) := by decide +kernel
theorem dX11_who_4 : decode cX11_who 4 = .ok (.iload_n 1, 1) := by decide +kernel
theorem dX11_who_5 : decode cX11_who 5 = .ok (.invokevirtual 237, 3) := by decide +kernel
theorem dX11_who_8 : decode cX11_who 8 = .ok (.astore_n 3, 1) := by decide +kernel
theorem dX11_who_9 : decode cX11_who 9 = .ok (.aload_n 3, 1) := by decide +kernel
theorem dX11_who_10 : decode cX11_who 10 = .ok (.ifnull 19, 3) := by decide +kernel
theorem dX11_who_13 : decode cX11_who 13 = .ok (.aload_n 3, 1) := by decide +kernel
theorem dX11_who_14 : decode cX11_who 14 = .ok (.invokevirtual 333, 3) := by decide +kernel
theorem dX11_who_17 : decode cX11_who 17 = .ok (.ifCond .eq 12, 3) := by decide +kernel
theorem dX11_who_20 : decode cX11_who 20 = .ok (.iload_n 2, 1) := by decide +kernel
theorem dX11_who_21 : decode cX11_who 21 = .ok (.iconst 0, 1) := by decide +kernel
theorem dX11_who_22 : decode cX11_who 22 = .ok (.iconst 1, 1) := by decide +kernel
theorem dX11_who_23 : decode cX11_who 23 = .ok (.invokestatic 67, 3) := by decide +kernel
theorem dX11_who_26 : decode cX11_who 26 = .ok (.ifCond .ne 5, 3) := by decide +kernel
theorem dX11_who_29 : decode cX11_who 29 = .ok (.iconst (-1), 1) := by decide +kernel
theorem dX11_who_30 : decode cX11_who 30 = .ok (.ireturn, 1) := by decide +kernel
theorem dX11_who_31 : decode cX11_who 31 = .ok (.aload_n 0, 1) := by decide +kernel
theorem dX11_who_32 : decode cX11_who 32 = .ok (.getfield 12, 3) := by decide +kernel
theorem dX11_who_35 : decode cX11_who 35 = .ok (.aload_n 3, 1) := by decide +kernel
theorem dX11_who_36 : decode cX11_who 36 = .ok (.iconst (-1), 1) := by decide +kernel
theorem dX11_who_37 : decode cX11_who 37 = .ok (.invokevirtual 336, 3) := by decide +kernel
theorem dX11_who_40 : decode cX11_who 40 = .ok (.istore 4, 2) := by decide +kernel
theorem dX11_who_42 : decode cX11_who 42 = .ok (.iload_n 2, 1) := by decide +kernel
theorem dX11_who_43 : decode cX11_who 43 = .ok (.ifCond .ne 6, 3) := by decide +kernel
theorem dX11_who_46 : decode cX11_who 46 = .ok (.iload 4, 2) := by decide +kernel
theorem dX11_who_48 : decode cX11_who 48 = .ok (.ireturn, 1) := by decide +kernel
theorem dX11_who_49 : decode cX11_who 49 = .ok (.aload_n 0, 1) := by decide +kernel
theorem dX11_who_50 : decode cX11_who 50 = .ok (.getfield 12, 3) := by decide +kernel
theorem dX11_who_53 : decode cX11_who 53 = .ok (.iload 4, 2) := by decide +kernel
theorem dX11_who_55 : decode cX11_who 55 = .ok (.invokevirtual 179, 3) := by decide +kernel
theorem dX11_who_58 : decode cX11_who 58 = .ok (.astore 5, 2) := by decide +kernel
theorem dX11_who_60 : decode cX11_who 60 = .ok (.aload_n 0, 1) := by decide +kernel
theorem dX11_who_61 : decode cX11_who 61 = .ok (.getfield 12, 3) := by decide +kernel
theorem dX11_who_64 : decode cX11_who 64 = .ok (.aload_n 0, 1) := by decide +kernel
theorem dX11_who_65 : decode cX11_who 65 = .ok (.getfield 12, 3) := by decide +kernel
theorem dX11_who_68 : decode cX11_who 68 = .ok (.aload_n 3, 1) := by decide +kernel
theorem dX11_who_69 : decode cX11_who 69 = .ok (.iload 4, 2) := by decide +kernel
theorem dX11_who_71 : decode cX11_who 71 = .ok (.invokevirtual 336, 3) := by decide +kernel
theorem dX11_who_74 : decode cX11_who 74 = .ok (.invokevirtual 179, 3) := by decide +kernel
theorem dX11_who_77 : decode cX11_who 77 = .ok (.astore 6, 2) := by decide +kernel
theorem dX11_who_79 : decode cX11_who 79 = .ok (.aload 5, 2) := by decide +kernel
theorem dX11_who_81 : decode cX11_who 81 = .ok (.ifnull 8, 3) := by decide +kernel
theorem dX11_who_84 : decode cX11_who 84 = .ok (.aload 6, 2) := by decide +kernel
theorem dX11_who_86 : decode cX11_who 86 = .ok (.ifnonnull 7, 3) := by decide +kernel
theorem dX11_who_89 : decode cX11_who 89 = .ok (.iconst (-1), 1) := by decide +kernel
theorem dX11_who_90 : decode cX11_who 90 = .ok (.goto 16, 3) := by decide +kernel
theorem dX11_who_93 : decode cX11_who 93 = .ok (.aload_n 3, 1) := by decide +kernel
theorem dX11_who_94 : decode cX11_who 94 = .ok (.aload 6, 2) := by decide +kernel
theorem dX11_who_96 : decode cX11_who 96 = .ok (.invokevirtual 330, 3) := by decide +kernel
theorem dX11_who_99 : decode cX11_who 99 = .ok (.aload_n 3, 1) := by decide +kernel
theorem dX11_who_100 : decode cX11_who 100 = .ok (.aload 5, 2) := by decide +kernel
theorem dX11_who_102 : decode cX11_who 102 = .ok (.invokevirtual 330, 3) := by decide +kernel
theorem dX11_who_105 : decode cX11_who 105 = .ok (.isub, 1) := by decide +kernel
theorem dX11_who_106 : decode cX11_who 106 = .ok (.ireturn, 1) := by decide +kernel
abbrev dpX11_who : Nat := 3
def fX11_who (a0 : Nat) (x1 : Int32) (x2 : Int32) : St → Option (Int32 × St) :=
 gR 12 a0 0 fun v1 =>
 nn v1 fun a2 =>
 ck 11 a2 <| cl (fX10_pieceAt a2 x1) fun v3 =>
 on v3 (rt (-1))
 fun a4 => ck 8 a4 <| cl (fX7_isLookedAt a4) fun v5 =>
 br ((bi v5) = 0) (rt (-1))
 (cl (fX11_within x2 0 1) fun v6 =>
 br ((bi v6) = 0) (rt (-1))
 (gR 12 a0 0 fun v7 =>
 nn v7 fun a8 =>
 ck 11 a8 <| cl (fX10_likestHand a8 (some a4) (-1)) fun v9 =>
 br (x2 = 0) (rt v9)
 (gR 12 a0 0 fun v10 =>
 nn v10 fun a11 =>
 ck 11 a11 <| cl (fX10_handAt a11 v9) fun v12 =>
 gR 12 a0 0 fun v13 =>
 gR 12 a0 0 fun v14 =>
 nn v14 fun a15 =>
 ck 11 a15 <| cl (fX10_likestHand a15 (some a4) v9) fun v16 =>
 nn v13 fun a17 =>
 ck 11 a17 <| cl (fX10_handAt a17 v16) fun v18 =>
 on v12 (rt (-1))
 fun a19 => on v18 (rt (-1))
 fun a20 => ck 8 a4 <| cl (fX7_unlikenessOf a4 (some a20)) fun v21 =>
 ck 8 a4 <| cl (fX7_unlikenessOf a4 (some a19)) fun v22 =>
 rt (v21 - v22))))
set_option maxHeartbeats 4000000 in
set_option maxRecDepth 100000 in
theorem mX11_who {E : Ev} {l : Launch} (a0 : Nat) (x1 : Int32) (x2 : Int32) : MF E l dpX11_who yX11_who cX11_who 7 (some .int) rvI [.ref (E.1 + a0), .int x1, .int x2] (fX11_who a0 x1 x2) := by
  refine MF.of (lv := [(0, .ref (E.1 + a0)), (1, .int x1), (2, .int x2)]) (by decide) (Nat.le_of_ble_eq_true rfl) rfl ?_
  unfold fX11_who
  refine sn_aload_n (pc := 0) (j := 0) dX11_who_0 rfl rfl ?_
  refine sn_gR (pc := 1) dX11_who_1 flX11_12 rfl (fun v1 => ?_)
  refine sn_iload_n (pc := 4) (j := 1) dX11_who_4 rfl rfl ?_
  rcases v1 with _ | a2
  · exact sn_no
  refine sn_nn ?_
  refine sn_callV (ci := 10) (pc := 5) dX11_who_5 iX10_pieceAt wt4_80 wt4_81 wt4_204 ⟨_, rfl, rfl⟩ (by decide) (mX10_pieceAt a2 x1) (by decide) rfl rfl (Nat.le_of_ble_eq_true rfl) (fun v3 => ?_)
  refine sn_astoreR_n (pc := 8) (r := v3) (i := 3) (lv' := [(3, rf E.1 v3), (0, .ref (E.1 + a0)), (1, .int x1), (2, .int x2)]) dX11_who_8 rfl (by decide) rfl ?_
  refine sn_aloadR_n (pc := 9) (r := v3) (j := 0) dX11_who_9 rfl rfl ?_
  rcases v3 with _ | a4
  · refine sn_onN ?_
    refine sn_ifnull_n (pc := 10) (tgt := 29) dX11_who_10 (by decide) ?_
    refine sn_iconst (pc := 29) (v := (-1)) dX11_who_29 (by decide) ?_
    exact sn_iret (pc := 30) dX11_who_30 rfl
  · refine sn_onS ?_
    refine sn_ifnull_s (pc := 10) dX11_who_10 ?_
    refine sn_aload_n (pc := 13) (j := 0) dX11_who_13 rfl rfl ?_
    refine sn_callV (ci := 7) (pc := 14) dX11_who_14 iX7_isLookedAt wt5_119 wt5_120 wt5_118 ⟨_, rfl, rfl⟩ (by decide) (mX7_isLookedAt a4) (by decide) rfl rfl (Nat.le_of_ble_eq_true rfl) (fun v5 => ?_)
    refine sn_if_eq (pc := 17) (tgt := 29) dX11_who_17 (by decide) ?_ ?_
    · refine sn_iconst (pc := 29) (v := (-1)) dX11_who_29 (by decide) ?_
      exact sn_iret (pc := 30) dX11_who_30 rfl
    · refine sn_iload_n (pc := 20) (j := 3) dX11_who_20 rfl rfl ?_
      refine sn_iconst (pc := 21) (v := 0) dX11_who_21 (by decide) ?_
      refine sn_iconst (pc := 22) (v := 1) dX11_who_22 (by decide) ?_
      refine sn_callS (pc := 23) dX11_who_23 iX11_within wt2_96 wt2_95 (mX11_within x2 0 1) (by decide) rfl rfl (Nat.le_of_ble_eq_true rfl) (fun v6 => ?_)
      refine sn_if_ne (pc := 26) (tgt := 31) dX11_who_26 (by decide) ?_ ?_
      · refine sn_aload_n (pc := 31) (j := 1) dX11_who_31 rfl rfl ?_
        refine sn_gR (pc := 32) dX11_who_32 flX11_12 rfl (fun v7 => ?_)
        refine sn_aload_n (pc := 35) (j := 0) dX11_who_35 rfl rfl ?_
        refine sn_iconst (pc := 36) (v := (-1)) dX11_who_36 (by decide) ?_
        rcases v7 with _ | a8
        · exact sn_no
        refine sn_nn ?_
        refine sn_callV (ci := 10) (pc := 37) dX11_who_37 iX10_likestHand wt5_123 wt5_124 wt5_122 ⟨_, rfl, rfl⟩ (by decide) (mX10_likestHand a8 (some a4) (-1)) (by decide) rfl rfl (Nat.le_of_ble_eq_true rfl) (fun v9 => ?_)
        refine sn_istore (pc := 40) (i := 4) (lv' := [(4, .int v9), (3, .ref (E.1 + a4)), (0, .ref (E.1 + a0)), (1, .int x1), (2, .int x2)]) dX11_who_40 (by decide) rfl ?_
        refine sn_iload_n (pc := 42) (j := 4) dX11_who_42 rfl rfl ?_
        refine sn_if_ne (pc := 43) (tgt := 49) dX11_who_43 (by decide) ?_ ?_
        · refine sn_aload_n (pc := 49) (j := 2) dX11_who_49 rfl rfl ?_
          refine sn_gR (pc := 50) dX11_who_50 flX11_12 rfl (fun v10 => ?_)
          refine sn_iload (pc := 53) (j := 0) dX11_who_53 rfl ?_
          rcases v10 with _ | a11
          · exact sn_no
          refine sn_nn ?_
          refine sn_callV (ci := 10) (pc := 55) dX11_who_55 iX10_handAt wt4_54 wt4_55 wt4_53 ⟨_, rfl, rfl⟩ (by decide) (mX10_handAt a11 v9) (by decide) rfl rfl (Nat.le_of_ble_eq_true rfl) (fun v12 => ?_)
          refine sn_astoreR (pc := 58) (r := v12) (i := 5) (lv' := [(5, rf E.1 v12), (4, .int v9), (3, .ref (E.1 + a4)), (0, .ref (E.1 + a0)), (1, .int x1), (2, .int x2)]) dX11_who_58 (by decide) rfl ?_
          refine sn_aload_n (pc := 60) (j := 3) dX11_who_60 rfl rfl ?_
          refine sn_gR (pc := 61) dX11_who_61 flX11_12 rfl (fun v13 => ?_)
          refine sn_aload_n (pc := 64) (j := 3) dX11_who_64 rfl rfl ?_
          refine sn_gR (pc := 65) dX11_who_65 flX11_12 rfl (fun v14 => ?_)
          refine sn_aload_n (pc := 68) (j := 2) dX11_who_68 rfl rfl ?_
          refine sn_iload (pc := 69) (j := 1) dX11_who_69 rfl ?_
          rcases v14 with _ | a15
          · exact sn_no
          refine sn_nn ?_
          refine sn_callV (ci := 10) (pc := 71) dX11_who_71 iX10_likestHand wt5_123 wt5_124 wt5_122 ⟨_, rfl, rfl⟩ (by decide) (mX10_likestHand a15 (some a4) v9) (by decide) rfl rfl (by simp [rf_some, rf_cat, cat_int, cat_long, cat_ref, rvV, rvI, rvZ, rvR, rvJ]) (fun v16 => ?_)
          rcases v13 with _ | a17
          · exact sn_no
          refine sn_nn ?_
          refine sn_callV (ci := 10) (pc := 74) dX11_who_74 iX10_handAt wt4_54 wt4_55 wt4_53 ⟨_, rfl, rfl⟩ (by decide) (mX10_handAt a17 v16) (by decide) rfl rfl (Nat.le_of_ble_eq_true rfl) (fun v18 => ?_)
          refine sn_astoreR (pc := 77) (r := v18) (i := 6) (lv' := [(6, rf E.1 v18), (5, rf E.1 v12), (4, .int v9), (3, .ref (E.1 + a4)), (0, .ref (E.1 + a0)), (1, .int x1), (2, .int x2)]) dX11_who_77 (by decide) (by simp [rf_some, rf_cat, cat_int, cat_long, cat_ref]) ?_
          refine sn_aloadR (pc := 79) (r := v12) (j := 1) dX11_who_79 rfl ?_
          rcases v12 with _ | a19
          · refine sn_onN ?_
            refine sn_ifnull_n (pc := 81) (tgt := 89) dX11_who_81 (by decide) ?_
            refine sn_iconst (pc := 89) (v := (-1)) dX11_who_89 (by decide) ?_
            refine sn_goto (pc := 90) (tgt := 106) dX11_who_90 (by decide) ?_
            exact sn_iret (pc := 106) dX11_who_106 rfl
          · refine sn_onS ?_
            refine sn_ifnull_s (pc := 81) dX11_who_81 ?_
            refine sn_aloadR (pc := 84) (r := v18) (j := 0) dX11_who_84 rfl ?_
            rcases v18 with _ | a20
            · refine sn_onN ?_
              refine sn_ifnonnull_n (pc := 86) dX11_who_86 ?_
              refine sn_iconst (pc := 89) (v := (-1)) dX11_who_89 (by decide) ?_
              refine sn_goto (pc := 90) (tgt := 106) dX11_who_90 (by decide) ?_
              exact sn_iret (pc := 106) dX11_who_106 rfl
            · refine sn_onS ?_
              refine sn_ifnonnull_s (pc := 86) (tgt := 93) dX11_who_86 (by decide) ?_
              refine sn_aload_n (pc := 93) (j := 3) dX11_who_93 rfl rfl ?_
              refine sn_aload (pc := 94) (j := 0) dX11_who_94 rfl ?_
              refine sn_callV (ci := 7) (pc := 96) dX11_who_96 iX7_unlikenessOf wt5_108 wt5_109 wt5_107 ⟨_, rfl, rfl⟩ (by decide) (mX7_unlikenessOf a4 (some a20)) (by decide) rfl rfl (Nat.le_of_ble_eq_true rfl) (fun v21 => ?_)
              refine sn_aload_n (pc := 99) (j := 3) dX11_who_99 rfl rfl ?_
              refine sn_aload (pc := 100) (j := 1) dX11_who_100 rfl ?_
              refine sn_callV (ci := 7) (pc := 102) dX11_who_102 iX7_unlikenessOf wt5_108 wt5_109 wt5_107 ⟨_, rfl, rfl⟩ (by decide) (mX7_unlikenessOf a4 (some a19)) (by decide) rfl rfl (Nat.le_of_ble_eq_true rfl) (fun v22 => ?_)
              refine sn_isub (pc := 105) dX11_who_105 ?_
              exact sn_iret (pc := 106) dX11_who_106 rfl
        · refine sn_iload (pc := 46) (j := 0) dX11_who_46 rfl ?_
          exact sn_iret (pc := 48) dX11_who_48 rfl
      · refine sn_iconst (pc := 29) (v := (-1)) dX11_who_29 (by decide) ?_
        exact sn_iret (pc := 30) dX11_who_30 rfl
theorem iX11_who : MI yX11_who cX11_who 7 (some .int) 2 := ⟨wt1_1, wt5_117, by decide +kernel, by decide⟩
