-- NeedleHomes$Hand copyFrom(LNeedleHomes$Hand;)V
theorem dX2_copyFrom_0 : decode cX2_copyFrom 0 = .ok (.aload_n 0, 1) := by decide +kernel
theorem dX2_copyFrom_1 : decode cX2_copyFrom 1 = .ok (.aload_n 1, 1) := by decide +kernel
theorem dX2_copyFrom_2 : decode cX2_copyFrom 2 = .ok (.getfield 18, 3) := by decide +kernel
theorem dX2_copyFrom_5 : decode cX2_copyFrom 5 = .ok (.putfield 18, 3) := by decide +kernel
theorem dX2_copyFrom_8 : decode cX2_copyFrom 8 = .ok (.aload_n 0, 1) := by decide +kernel
theorem dX2_copyFrom_9 : decode cX2_copyFrom 9 = .ok (.aload_n 1, 1) := by decide +kernel
theorem dX2_copyFrom_10 : decode cX2_copyFrom 10 = .ok (.getfield 22, 3) := by decide +kernel
theorem dX2_copyFrom_13 : decode cX2_copyFrom 13 = .ok (.putfield 22, 3) := by decide +kernel
theorem dX2_copyFrom_16 : decode cX2_copyFrom 16 = .ok (.aload_n 0, 1) := by decide +kernel
theorem dX2_copyFrom_17 : decode cX2_copyFrom 17 = .ok (.aload_n 1, 1) := by decide +kernel
theorem dX2_copyFrom_18 : decode cX2_copyFrom 18 = .ok (.getfield 25, 3) := by decide +kernel
theorem dX2_copyFrom_21 : decode cX2_copyFrom 21 = .ok (.putfield 25, 3) := by decide +kernel
theorem dX2_copyFrom_24 : decode cX2_copyFrom 24 = .ok (.aload_n 0, 1) := by decide +kernel
theorem dX2_copyFrom_25 : decode cX2_copyFrom 25 = .ok (.aload_n 1, 1) := by decide +kernel
theorem dX2_copyFrom_26 : decode cX2_copyFrom 26 = .ok (.getfield 34, 3) := by decide +kernel
theorem dX2_copyFrom_29 : decode cX2_copyFrom 29 = .ok (.putfield 34, 3) := by decide +kernel
theorem dX2_copyFrom_32 : decode cX2_copyFrom 32 = .ok (.aload_n 0, 1) := by decide +kernel
theorem dX2_copyFrom_33 : decode cX2_copyFrom 33 = .ok (.aload_n 1, 1) := by decide +kernel
theorem dX2_copyFrom_34 : decode cX2_copyFrom 34 = .ok (.getfield 37, 3) := by decide +kernel
theorem dX2_copyFrom_37 : decode cX2_copyFrom 37 = .ok (.putfield 37, 3) := by decide +kernel
theorem dX2_copyFrom_40 : decode cX2_copyFrom 40 = .ok (.aload_n 1, 1) := by decide +kernel
theorem dX2_copyFrom_41 : decode cX2_copyFrom 41 = .ok (.getfield 9, 3) := by decide +kernel
theorem dX2_copyFrom_44 : decode cX2_copyFrom 44 = .ok (.iconst 0, 1) := by decide +kernel
theorem dX2_copyFrom_45 : decode cX2_copyFrom 45 = .ok (.aload_n 0, 1) := by decide +kernel
theorem dX2_copyFrom_46 : decode cX2_copyFrom 46 = .ok (.getfield 9, 3) := by decide +kernel
theorem dX2_copyFrom_49 : decode cX2_copyFrom 49 = .ok (.iconst 0, 1) := by decide +kernel
theorem dX2_copyFrom_50 : decode cX2_copyFrom 50 = .ok (.bipush 6, 2) := by decide +kernel
theorem dX2_copyFrom_52 : decode cX2_copyFrom 52 = .ok (.invokestatic 40, 3) := by decide +kernel
theorem dX2_copyFrom_55 : decode cX2_copyFrom 55 = .ok (.aload_n 1, 1) := by decide +kernel
theorem dX2_copyFrom_56 : decode cX2_copyFrom 56 = .ok (.getfield 15, 3) := by decide +kernel
theorem dX2_copyFrom_59 : decode cX2_copyFrom 59 = .ok (.iconst 0, 1) := by decide +kernel
theorem dX2_copyFrom_60 : decode cX2_copyFrom 60 = .ok (.aload_n 0, 1) := by decide +kernel
theorem dX2_copyFrom_61 : decode cX2_copyFrom 61 = .ok (.getfield 15, 3) := by decide +kernel
theorem dX2_copyFrom_64 : decode cX2_copyFrom 64 = .ok (.iconst 0, 1) := by decide +kernel
theorem dX2_copyFrom_65 : decode cX2_copyFrom 65 = .ok (.iconst 5, 1) := by decide +kernel
theorem dX2_copyFrom_66 : decode cX2_copyFrom 66 = .ok (.invokestatic 40, 3) := by decide +kernel
theorem dX2_copyFrom_69 : decode cX2_copyFrom 69 = .ok (.return_, 1) := by decide +kernel
abbrev dpX2_copyFrom : Nat := 1
def fX2_copyFrom (a0 : Nat) (x1 : Option Nat) : St → Option (Unit × St) :=
 nn x1 fun a2 =>
 gI 3 a2 0 fun v1 =>
 pI 3 a0 0 v1 <|
 gI 3 a2 1 fun v3 =>
 pI 3 a0 1 v3 <|
 gI 3 a2 2 fun v4 =>
 pI 3 a0 2 v4 <|
 gI 3 a2 3 fun v5 =>
 pI 3 a0 3 v5 <|
 gI 3 a2 4 fun v6 =>
 pI 3 a0 4 v6 <|
 gR 3 a2 5 fun v7 =>
 gR 3 a0 5 fun v8 =>
 nn v8 fun a9 =>
 nn v7 fun a10 =>
 cp 15 a10 0 a9 0 6 <|
 gR 3 a2 6 fun v11 =>
 gR 3 a0 6 fun v12 =>
 nn v12 fun a13 =>
 nn v11 fun a14 =>
 cp 15 a14 0 a13 0 5 <|
 rt ()
set_option maxHeartbeats 4000000 in
set_option maxRecDepth 100000 in
theorem mX2_copyFrom {E : Ev} {l : Launch} (a0 : Nat) (x1 : Option Nat) : MF E l dpX2_copyFrom yX2_copyFrom cX2_copyFrom 2 none rvV [.ref (E.1 + a0), rf E.1 x1] (fX2_copyFrom a0 x1) := by
  refine MF.of (lv := [(0, .ref (E.1 + a0)), (1, rf E.1 x1)]) (by decide) (by simp [lg_sl, rf_cat, cat_int, cat_long, cat_ref]) (by simp [lv_args, rf_cat, cat_int, cat_long, cat_ref]) ?_
  unfold fX2_copyFrom
  refine sn_aload_n (pc := 0) (j := 0) dX2_copyFrom_0 rfl rfl ?_
  refine sn_aloadR_n (pc := 1) (r := x1) (j := 1) dX2_copyFrom_1 rfl rfl ?_
  rcases x1 with _ | a2
  · exact sn_no
  refine sn_nn ?_
  refine sn_gI (pc := 2) dX2_copyFrom_2 flX2_18 rfl (fun v1 => ?_)
  refine sn_pI (pc := 5) dX2_copyFrom_5 flX2_18 rfl rfl (Or.inl rfl) ?_
  refine sn_aload_n (pc := 8) (j := 0) dX2_copyFrom_8 rfl rfl ?_
  refine sn_aload_n (pc := 9) (j := 1) dX2_copyFrom_9 rfl rfl ?_
  refine sn_gI (pc := 10) dX2_copyFrom_10 flX2_22 rfl (fun v3 => ?_)
  refine sn_pI (pc := 13) dX2_copyFrom_13 flX2_22 rfl rfl (Or.inl rfl) ?_
  refine sn_aload_n (pc := 16) (j := 0) dX2_copyFrom_16 rfl rfl ?_
  refine sn_aload_n (pc := 17) (j := 1) dX2_copyFrom_17 rfl rfl ?_
  refine sn_gI (pc := 18) dX2_copyFrom_18 flX2_25 rfl (fun v4 => ?_)
  refine sn_pI (pc := 21) dX2_copyFrom_21 flX2_25 rfl rfl (Or.inl rfl) ?_
  refine sn_aload_n (pc := 24) (j := 0) dX2_copyFrom_24 rfl rfl ?_
  refine sn_aload_n (pc := 25) (j := 1) dX2_copyFrom_25 rfl rfl ?_
  refine sn_gI (pc := 26) dX2_copyFrom_26 flX2_34 rfl (fun v5 => ?_)
  refine sn_pI (pc := 29) dX2_copyFrom_29 flX2_34 rfl rfl (Or.inl rfl) ?_
  refine sn_aload_n (pc := 32) (j := 0) dX2_copyFrom_32 rfl rfl ?_
  refine sn_aload_n (pc := 33) (j := 1) dX2_copyFrom_33 rfl rfl ?_
  refine sn_gI (pc := 34) dX2_copyFrom_34 flX2_37 rfl (fun v6 => ?_)
  refine sn_pI (pc := 37) dX2_copyFrom_37 flX2_37 rfl rfl (Or.inl rfl) ?_
  refine sn_aload_n (pc := 40) (j := 1) dX2_copyFrom_40 rfl rfl ?_
  refine sn_gR (pc := 41) dX2_copyFrom_41 flX2_9 rfl (fun v7 => ?_)
  refine sn_iconst (pc := 44) (v := 0) dX2_copyFrom_44 (by decide) ?_
  refine sn_aload_n (pc := 45) (j := 0) dX2_copyFrom_45 rfl rfl ?_
  refine sn_gR (pc := 46) dX2_copyFrom_46 flX2_9 rfl (fun v8 => ?_)
  refine sn_iconst (pc := 49) (v := 0) dX2_copyFrom_49 (by decide) ?_
  refine sn_bipush (pc := 50) (v := 6) dX2_copyFrom_50 (by decide) ?_
  rcases v8 with _ | a9
  · exact sn_no
  refine sn_nn ?_
  rcases v7 with _ | a10
  · exact sn_no
  refine sn_nn ?_
  refine sn_copy (t := 1) (pc := 52) dX2_copyFrom_52 wt5_223 w_an w_as w_ai rfl (by decide) (by decide) (Nat.le_of_ble_eq_true rfl) ?_
  refine sn_aload_n (pc := 55) (j := 1) dX2_copyFrom_55 rfl rfl ?_
  refine sn_gR (pc := 56) dX2_copyFrom_56 flX2_15 rfl (fun v11 => ?_)
  refine sn_iconst (pc := 59) (v := 0) dX2_copyFrom_59 (by decide) ?_
  refine sn_aload_n (pc := 60) (j := 0) dX2_copyFrom_60 rfl rfl ?_
  refine sn_gR (pc := 61) dX2_copyFrom_61 flX2_15 rfl (fun v12 => ?_)
  refine sn_iconst (pc := 64) (v := 0) dX2_copyFrom_64 (by decide) ?_
  refine sn_iconst (pc := 65) (v := 5) dX2_copyFrom_65 (by decide) ?_
  rcases v12 with _ | a13
  · exact sn_no
  refine sn_nn ?_
  rcases v11 with _ | a14
  · exact sn_no
  refine sn_nn ?_
  refine sn_copy (t := 1) (pc := 66) dX2_copyFrom_66 wt5_223 w_an w_as w_ai rfl (by decide) (by decide) (Nat.le_of_ble_eq_true rfl) ?_
  exact sn_vret (pc := 69) dX2_copyFrom_69 rfl
theorem iX2_copyFrom : MI yX2_copyFrom cX2_copyFrom 2 none 1 := ⟨wt1_19, wt5_222, by decide +kernel, by decide⟩
-- NeedleHomes$Hand setHay(IZ)V
theorem dX2_setHay_0 : decode cX2_setHay 0 = .ok (.iload_n 1, 1) := by decide +kernel
theorem dX2_setHay_1 : decode cX2_setHay 1 = .ok (.iconst 0, 1) := by decide +kernel
theorem dX2_setHay_2 : decode cX2_setHay 2 = .ok (.sipush 142, 3) := by decide +kernel
theorem dX2_setHay_5 : decode cX2_setHay 5 = .ok (.invokestatic 46, 3) := by decide +kernel
theorem dX2_setHay_8 : decode cX2_setHay 8 = .ok (.ifCond .ne 4, 3) := by decide +kernel
theorem dX2_setHay_11 : decode cX2_setHay 11 = .ok (.return_, 1) := by decide +kernel
theorem dX2_setHay_12 : decode cX2_setHay 12 = .ok (.iconst 1, 1) := by decide +kernel
theorem dX2_setHay_13 : decode cX2_setHay 13 = .ok (.iload_n 1, 1) := by decide +kernel
theorem dX2_setHay_14 : decode cX2_setHay 14 = .ok (.bipush 32, 2) := by decide +kernel
theorem dX2_setHay_16 : decode cX2_setHay 16 = .ok (.irem, 1) := by decide +kernel
theorem dX2_setHay_17 : decode cX2_setHay 17 = .ok (.ishl, 1) := by decide +kernel
theorem dX2_setHay_18 : decode cX2_setHay 18 = .ok (.istore_n 3, 1) := by decide +kernel
theorem dX2_setHay_19 : decode cX2_setHay 19 = .ok (.iload_n 2, 1) := by decide +kernel
theorem dX2_setHay_20 : decode cX2_setHay 20 = .ok (.ifCond .eq 19, 3) := by decide +kernel
theorem dX2_setHay_23 : decode cX2_setHay 23 = .ok (.aload_n 0, 1) := by decide +kernel
theorem dX2_setHay_24 : decode cX2_setHay 24 = .ok (.getfield 15, 3) := by decide +kernel
theorem dX2_setHay_27 : decode cX2_setHay 27 = .ok (.iload_n 1, 1) := by decide +kernel
theorem dX2_setHay_28 : decode cX2_setHay 28 = .ok (.bipush 32, 2) := by decide +kernel
theorem dX2_setHay_30 : decode cX2_setHay 30 = .ok (.idiv, 1) := by decide +kernel
theorem dX2_setHay_31 : decode cX2_setHay 31 = .ok (.dup2, 1) := by decide +kernel
theorem dX2_setHay_32 : decode cX2_setHay 32 = .ok (.iaload, 1) := by decide +kernel
theorem dX2_setHay_33 : decode cX2_setHay 33 = .ok (.iload_n 3, 1) := by decide +kernel
theorem dX2_setHay_34 : decode cX2_setHay 34 = .ok (.ior, 1) := by decide +kernel
theorem dX2_setHay_35 : decode cX2_setHay 35 = .ok (.iastore, 1) := by decide +kernel
theorem dX2_setHay_36 : decode cX2_setHay 36 = .ok (.goto 18, 3) := by decide +kernel
theorem dX2_setHay_39 : decode cX2_setHay 39 = .ok (.aload_n 0, 1) := by decide +kernel
theorem dX2_setHay_40 : decode cX2_setHay 40 = .ok (.getfield 15, 3) := by decide +kernel
theorem dX2_setHay_43 : decode cX2_setHay 43 = .ok (.iload_n 1, 1) := by decide +kernel
theorem dX2_setHay_44 : decode cX2_setHay 44 = .ok (.bipush 32, 2) := by decide +kernel
theorem dX2_setHay_46 : decode cX2_setHay 46 = .ok (.idiv, 1) := by decide +kernel
theorem dX2_setHay_47 : decode cX2_setHay 47 = .ok (.dup2, 1) := by decide +kernel
theorem dX2_setHay_48 : decode cX2_setHay 48 = .ok (.iaload, 1) := by decide +kernel
theorem dX2_setHay_49 : decode cX2_setHay 49 = .ok (.iload_n 3, 1) := by decide +kernel
theorem dX2_setHay_50 : decode cX2_setHay 50 = .ok (.iconst (-1), 1) := by decide +kernel
theorem dX2_setHay_51 : decode cX2_setHay 51 = .ok (.ixor, 1) := by decide +kernel
theorem dX2_setHay_52 : decode cX2_setHay 52 = .ok (.iand, 1) := by decide +kernel
theorem dX2_setHay_53 : decode cX2_setHay 53 = .ok (.iastore, 1) := by decide +kernel
theorem dX2_setHay_54 : decode cX2_setHay 54 = .ok (.return_, 1) := by decide +kernel
abbrev dpX2_setHay : Nat := 1
def fX2_setHay (a0 : Nat) (x1 : Int32) (x2 : Int32) : St → Option (Unit × St) :=
 cl (fX11_within x1 0 142) fun v1 =>
 br ((bi v1) = 0) (rt ())
 (dv 32 <|
 br (x2 = 0) (gR 3 a0 6 fun v2 =>
 dv 32 <|
 nn v2 fun a4 =>
 aI 15 a4 (x1 / 32) fun v3 =>
 wI a4 (x1 / 32) (v3 &&& ((1 <<< ((irm x1 32) &&& 31)) ^^^ (-1))) <|
 rt ())
 (gR 3 a0 6 fun v5 =>
 dv 32 <|
 nn v5 fun a7 =>
 aI 15 a7 (x1 / 32) fun v6 =>
 wI a7 (x1 / 32) (v6 ||| (1 <<< ((irm x1 32) &&& 31))) <|
 rt ()))
set_option maxHeartbeats 4000000 in
set_option maxRecDepth 100000 in
theorem mX2_setHay {E : Ev} {l : Launch} (a0 : Nat) (x1 : Int32) (x2 : Int32) : MF E l dpX2_setHay yX2_setHay cX2_setHay 4 none rvV [.ref (E.1 + a0), .int x1, .int x2] (fX2_setHay a0 x1 x2) := by
  refine MF.of (lv := [(0, .ref (E.1 + a0)), (1, .int x1), (2, .int x2)]) (by decide) (Nat.le_of_ble_eq_true rfl) rfl ?_
  unfold fX2_setHay
  refine sn_iload_n (pc := 0) (j := 1) dX2_setHay_0 rfl rfl ?_
  refine sn_iconst (pc := 1) (v := 0) dX2_setHay_1 (by decide) ?_
  refine sn_sipush (pc := 2) (v := 142) dX2_setHay_2 (by decide) ?_
  refine sn_callSN (pc := 5) dX2_setHay_5 iX11_within wt2_96 (List.mem_of_getElem? (i := 13) rfl) (mX11_within x1 0 142) (by decide) rfl rfl (Nat.le_of_ble_eq_true rfl) (fun v1 => ?_)
  refine sn_if_ne (pc := 8) (tgt := 12) dX2_setHay_8 (by decide) ?_ ?_
  · refine sn_iconst (pc := 12) (v := 1) dX2_setHay_12 (by decide) ?_
    refine sn_iload_n (pc := 13) (j := 1) dX2_setHay_13 rfl rfl ?_
    refine sn_bipush (pc := 14) (v := 32) dX2_setHay_14 (by decide) ?_
    refine sn_irem (pc := 16) dX2_setHay_16 ?_
    refine sn_ishl (pc := 17) dX2_setHay_17 ?_
    refine sn_istore_n (pc := 18) (i := 3) (lv' := [(3, .int (1 <<< ((irm x1 32) &&& 31))), (0, .ref (E.1 + a0)), (1, .int x1), (2, .int x2)]) dX2_setHay_18 rfl (by decide) rfl ?_
    refine sn_iload_n (pc := 19) (j := 3) dX2_setHay_19 rfl rfl ?_
    refine sn_if_eq (pc := 20) (tgt := 39) dX2_setHay_20 (by decide) ?_ ?_
    · refine sn_aload_n (pc := 39) (j := 1) dX2_setHay_39 rfl rfl ?_
      refine sn_gR (pc := 40) dX2_setHay_40 flX2_15 rfl (fun v2 => ?_)
      refine sn_iload_n (pc := 43) (j := 2) dX2_setHay_43 rfl rfl ?_
      refine sn_bipush (pc := 44) (v := 32) dX2_setHay_44 (by decide) ?_
      refine sn_idiv (pc := 46) dX2_setHay_46 ?_
      refine sn_dup2 (pc := 47) dX2_setHay_47 rfl (rf_cat _ _) ?_
      rcases v2 with _ | a4
      · exact sn_no
      refine sn_nn ?_
      refine sn_iald (pc := 48) dX2_setHay_48 (fun v3 => ?_)
      refine sn_iload_n (pc := 49) (j := 0) dX2_setHay_49 rfl rfl ?_
      refine sn_iconst (pc := 50) (v := (-1)) dX2_setHay_50 (by decide) ?_
      refine sn_ixor (pc := 51) dX2_setHay_51 ?_
      refine sn_iand (pc := 52) dX2_setHay_52 ?_
      refine sn_iast (pc := 53) dX2_setHay_53 ?_
      exact sn_vret (pc := 54) dX2_setHay_54 rfl
    · refine sn_aload_n (pc := 23) (j := 1) dX2_setHay_23 rfl rfl ?_
      refine sn_gR (pc := 24) dX2_setHay_24 flX2_15 rfl (fun v5 => ?_)
      refine sn_iload_n (pc := 27) (j := 2) dX2_setHay_27 rfl rfl ?_
      refine sn_bipush (pc := 28) (v := 32) dX2_setHay_28 (by decide) ?_
      refine sn_idiv (pc := 30) dX2_setHay_30 ?_
      refine sn_dup2 (pc := 31) dX2_setHay_31 rfl (rf_cat _ _) ?_
      rcases v5 with _ | a7
      · exact sn_no
      refine sn_nn ?_
      refine sn_iald (pc := 32) dX2_setHay_32 (fun v6 => ?_)
      refine sn_iload_n (pc := 33) (j := 0) dX2_setHay_33 rfl rfl ?_
      refine sn_ior (pc := 34) dX2_setHay_34 ?_
      refine sn_iast (pc := 35) dX2_setHay_35 ?_
      refine sn_goto (pc := 36) (tgt := 54) dX2_setHay_36 (by decide) ?_
      exact sn_vret (pc := 54) dX2_setHay_54 rfl
  · exact sn_vret (pc := 11) dX2_setHay_11 rfl
theorem iX2_setHay : MI yX2_setHay cX2_setHay 4 none 2 := ⟨wt1_19, wt4_64, by decide +kernel, by decide⟩
-- NeedleHomes$Hand hoursIn(II)I
theorem dX2_hoursIn_0 : decode cX2_hoursIn 0 = .ok (.iconst 0, 1) := by decide +kernel
theorem dX2_hoursIn_1 : decode cX2_hoursIn 1 = .ok (.istore_n 3, 1) := by decide +kernel
theorem dX2_hoursIn_2 : decode cX2_hoursIn 2 = .ok (.iconst 0, 1) := by decide +kernel
theorem dX2_hoursIn_3 : decode cX2_hoursIn 3 = .ok (.istore 4, 2) := by decide +kernel
theorem dX2_hoursIn_5 : decode cX2_hoursIn 5 = .ok (.iload 4, 2) := by decide +kernel
theorem dX2_hoursIn_7 : decode cX2_hoursIn 7 = .ok (.iload_n 2, 1) := by decide +kernel
theorem dX2_hoursIn_8 : decode cX2_hoursIn 8 = .ok (.if_icmp .ge 39, 3) := by decide +kernel
theorem dX2_hoursIn_11 : decode cX2_hoursIn 11 = .ok (.iload_n 3, 1) := by decide +kernel
theorem dX2_hoursIn_12 : decode cX2_hoursIn 12 = .ok (.aload_n 0, 1) := by decide +kernel
theorem dX2_hoursIn_13 : decode cX2_hoursIn 13 = .ok (.iload_n 1, 1) := by decide +kernel
theorem dX2_hoursIn_14 : decode cX2_hoursIn 14 = .ok (.iload 4, 2) := by decide +kernel
theorem dX2_hoursIn_16 : decode cX2_hoursIn 16 = .ok (.iadd, 1) := by decide +kernel
theorem dX2_hoursIn_17 : decode cX2_hoursIn 17 = .ok (.invokestatic 50, 3) := by decide +kernel
theorem dX2_hoursIn_20 : decode cX2_hoursIn 20 = .ok (.invokevirtual 54, 3) := by decide +kernel
theorem dX2_hoursIn_23 : decode cX2_hoursIn 23 = .ok (.ifCond .eq 12, 3) := by decide +kernel
theorem dX2_hoursIn_26 : decode cX2_hoursIn 26 = .ok (.aload_n 0, 1) := by decide +kernel
theorem dX2_hoursIn_27 : decode cX2_hoursIn 27 = .ok (.getfield 22, 3) := by decide +kernel
theorem dX2_hoursIn_30 : decode cX2_hoursIn 30 = .ok (.iconst 2, 1) := by decide +kernel
theorem dX2_hoursIn_31 : decode cX2_hoursIn 31 = .ok (.idiv, 1) := by decide +kernel
theorem dX2_hoursIn_32 : decode cX2_hoursIn 32 = .ok (.goto 7, 3) := by decide +kernel
theorem dX2_hoursIn_35 : decode cX2_hoursIn 35 = .ok (.aload_n 0, 1) := by decide +kernel
theorem dX2_hoursIn_36 : decode cX2_hoursIn 36 = .ok (.getfield 22, 3) := by decide +kernel
theorem dX2_hoursIn_39 : decode cX2_hoursIn 39 = .ok (.iadd, 1) := by decide +kernel
theorem dX2_hoursIn_40 : decode cX2_hoursIn 40 = .ok (.istore_n 3, 1) := by decide +kernel
theorem dX2_hoursIn_41 : decode cX2_hoursIn 41 = .ok (.iinc 4 1, 3) := by decide +kernel
theorem dX2_hoursIn_44 : decode cX2_hoursIn 44 = .ok (.goto (-39), 3) := by decide +kernel
theorem dX2_hoursIn_47 : decode cX2_hoursIn 47 = .ok (.iload_n 3, 1) := by decide +kernel
theorem dX2_hoursIn_48 : decode cX2_hoursIn 48 = .ok (.ireturn, 1) := by decide +kernel
abbrev dpX2_hoursIn : Nat := 2
def fX2_hoursIn_39 (k5 : (Nat × Int32 × Int32 × Int32 × Int32) → St → Option (Int32 × St)) (a0 : Nat) (x1 : Int32) (x2 : Int32) (x4 : Int32) (y0 : Int32) (y1 : Int32) : St → Option (Int32 × St) :=
 k5 (a0, x1, x2, (y1 + y0), (x4 + 1))
set_option maxHeartbeats 4000000 in
set_option maxRecDepth 100000 in
theorem sfX2_hoursIn_39 {E : Ev} {l : Launch} (k5 : (Nat × Int32 × Int32 × Int32 × Int32) → St → Option (Int32 × St)) (hk5 : ∀ p : Nat × Int32 × Int32 × Int32 × Int32, Snd E l (dpX2_hoursIn, RX2, cX2_hoursIn, 5, (some .int), "hoursIn") rvI 5 [(0, .ref (E.1 + p.1)), (1, .int p.2.1), (2, .int p.2.2.1), (3, .int p.2.2.2.1), (4, .int p.2.2.2.2)] [] (k5 p)) (a0 : Nat) (x1 : Int32) (x2 : Int32) (x4 : Int32) (y0 : Int32) (y1 : Int32) : Snd E l (dpX2_hoursIn, RX2, cX2_hoursIn, 5, (some .int), "hoursIn") rvI 39 [(0, .ref (E.1 + a0)), (1, .int x1), (2, .int x2), (4, .int x4)] [.int y0, .int y1] (fX2_hoursIn_39 k5 a0 x1 x2 x4 y0 y1) := by
  unfold fX2_hoursIn_39
  refine sn_iadd (pc := 39) dX2_hoursIn_39 ?_
  refine sn_istore_n (pc := 40) (i := 3) (lv' := [(3, .int (y1 + y0)), (0, .ref (E.1 + a0)), (1, .int x1), (2, .int x2), (4, .int x4)]) dX2_hoursIn_40 rfl (by decide) rfl ?_
  refine sn_iinc (pc := 41) (v := x4 + 1) (lv' := [(4, .int (x4 + 1)), (3, .int (y1 + y0)), (0, .ref (E.1 + a0)), (1, .int x1), (2, .int x2)]) (j := 4) dX2_hoursIn_41 rfl rfl (by decide) rfl ?_
  refine sn_goto (pc := 44) (tgt := 5) dX2_hoursIn_44 (by decide) ?_
  exact sn_sub (lv' := [(0, .ref (E.1 + a0)), (1, .int x1), (2, .int x2), (3, .int (y1 + y0)), (4, .int (x4 + 1))]) [2, 3, 4, 1, 0] rfl (hk5 (a0, x1, x2, (y1 + y0), (x4 + 1)))
def fX2_hoursIn_5 (k5 : (Nat × Int32 × Int32 × Int32 × Int32) → St → Option (Int32 × St)) (a0 : Nat) (x1 : Int32) (x2 : Int32) (x3 : Int32) (x4 : Int32) : St → Option (Int32 × St) :=
 br (x2 ≤ x4) (rt x3)
 (cl (fX11_weekOf (x1 + x4)) fun v1001 =>
 ck 3 a0 <| cl (fX2_hasHay a0 v1001) fun v1002 =>
 br ((bi v1002) = 0) (gI 3 a0 1 fun v1003 =>
 fX2_hoursIn_39 k5 a0 x1 x2 x4 v1003 x3)
 (gI 3 a0 1 fun v1004 =>
 dv 2 <|
 fX2_hoursIn_39 k5 a0 x1 x2 x4 (v1004 / 2) x3))
set_option maxHeartbeats 4000000 in
set_option maxRecDepth 100000 in
theorem sfX2_hoursIn_5 {E : Ev} {l : Launch} (k5 : (Nat × Int32 × Int32 × Int32 × Int32) → St → Option (Int32 × St)) (hk5 : ∀ p : Nat × Int32 × Int32 × Int32 × Int32, Snd E l (dpX2_hoursIn, RX2, cX2_hoursIn, 5, (some .int), "hoursIn") rvI 5 [(0, .ref (E.1 + p.1)), (1, .int p.2.1), (2, .int p.2.2.1), (3, .int p.2.2.2.1), (4, .int p.2.2.2.2)] [] (k5 p)) (a0 : Nat) (x1 : Int32) (x2 : Int32) (x3 : Int32) (x4 : Int32) : Snd E l (dpX2_hoursIn, RX2, cX2_hoursIn, 5, (some .int), "hoursIn") rvI 5 [(0, .ref (E.1 + a0)), (1, .int x1), (2, .int x2), (3, .int x3), (4, .int x4)] [] (fX2_hoursIn_5 k5 a0 x1 x2 x3 x4) := by
  unfold fX2_hoursIn_5
  refine sn_iload (pc := 5) (j := 4) dX2_hoursIn_5 rfl ?_
  refine sn_iload_n (pc := 7) (j := 2) dX2_hoursIn_7 rfl rfl ?_
  refine sn_icmp_ge (pc := 8) (tgt := 47) dX2_hoursIn_8 (by decide) ?_ ?_
  · refine sn_iload_n (pc := 47) (j := 3) dX2_hoursIn_47 rfl rfl ?_
    exact sn_iret (pc := 48) dX2_hoursIn_48 rfl
  · refine sn_iload_n (pc := 11) (j := 3) dX2_hoursIn_11 rfl rfl ?_
    refine sn_aload_n (pc := 12) (j := 0) dX2_hoursIn_12 rfl rfl ?_
    refine sn_iload_n (pc := 13) (j := 1) dX2_hoursIn_13 rfl rfl ?_
    refine sn_iload (pc := 14) (j := 4) dX2_hoursIn_14 rfl ?_
    refine sn_iadd (pc := 16) dX2_hoursIn_16 ?_
    refine sn_callSN (pc := 17) dX2_hoursIn_17 iX11_weekOf wt4_92 (List.mem_of_getElem? (i := 18) rfl) (mX11_weekOf (x1 + x4)) (by decide) rfl rfl (Nat.le_of_ble_eq_true rfl) (fun v1001 => ?_)
    refine sn_callV (ci := 2) (pc := 20) dX2_hoursIn_20 iX2_hasHay wt4_99 wt4_100 wt5_54 ⟨_, rfl, rfl⟩ (by decide) (mX2_hasHay a0 v1001) (by decide) rfl rfl (Nat.le_of_ble_eq_true rfl) (fun v1002 => ?_)
    refine sn_if_eq (pc := 23) (tgt := 35) dX2_hoursIn_23 (by decide) ?_ ?_
    · refine sn_aload_n (pc := 35) (j := 0) dX2_hoursIn_35 rfl rfl ?_
      refine sn_gI (pc := 36) dX2_hoursIn_36 flX2_22 rfl (fun v1003 => ?_)
      exact sn_sub (lv' := [(0, .ref (E.1 + a0)), (1, .int x1), (2, .int x2), (4, .int x4)]) [0, 1, 2, 4] rfl (sfX2_hoursIn_39 k5 hk5 a0 x1 x2 x4 v1003 x3)
    · refine sn_aload_n (pc := 26) (j := 0) dX2_hoursIn_26 rfl rfl ?_
      refine sn_gI (pc := 27) dX2_hoursIn_27 flX2_22 rfl (fun v1004 => ?_)
      refine sn_iconst (pc := 30) (v := 2) dX2_hoursIn_30 (by decide) ?_
      refine sn_idiv (pc := 31) dX2_hoursIn_31 ?_
      refine sn_goto (pc := 32) (tgt := 39) dX2_hoursIn_32 (by decide) ?_
      exact sn_sub (lv' := [(0, .ref (E.1 + a0)), (1, .int x1), (2, .int x2), (4, .int x4)]) [0, 1, 2, 4] rfl (sfX2_hoursIn_39 k5 hk5 a0 x1 x2 x4 (v1004 / 2) x3)
def fX2_hoursIn (a0 : Nat) (x1 : Int32) (x2 : Int32) : St → Option (Int32 × St) :=
 itr (fun k (p : Nat × Int32 × Int32 × Int32 × Int32) => fX2_hoursIn_5  k p.1 p.2.1 p.2.2.1 p.2.2.2.1 p.2.2.2.2) FU (a0, x1, x2, 0, 0)
set_option maxHeartbeats 4000000 in
set_option maxRecDepth 100000 in
theorem mX2_hoursIn {E : Ev} {l : Launch} (a0 : Nat) (x1 : Int32) (x2 : Int32) : MF E l dpX2_hoursIn yX2_hoursIn cX2_hoursIn 5 (some .int) rvI [.ref (E.1 + a0), .int x1, .int x2] (fX2_hoursIn a0 x1 x2) := by
  refine MF.of (lv := [(0, .ref (E.1 + a0)), (1, .int x1), (2, .int x2)]) (by decide) (Nat.le_of_ble_eq_true rfl) rfl ?_
  unfold fX2_hoursIn
  refine sn_iconst (pc := 0) (v := 0) dX2_hoursIn_0 (by decide) ?_
  refine sn_istore_n (pc := 1) (i := 3) (lv' := [(3, .int 0), (0, .ref (E.1 + a0)), (1, .int x1), (2, .int x2)]) dX2_hoursIn_1 rfl (by decide) rfl ?_
  refine sn_iconst (pc := 2) (v := 0) dX2_hoursIn_2 (by decide) ?_
  refine sn_istore (pc := 3) (i := 4) (lv' := [(4, .int 0), (3, .int 0), (0, .ref (E.1 + a0)), (1, .int x1), (2, .int x2)]) dX2_hoursIn_3 (by decide) rfl ?_
  exact sn_sub (lv' := [(0, .ref (E.1 + a0)), (1, .int x1), (2, .int x2), (3, .int 0), (4, .int 0)]) [2, 3, 4, 1, 0] rfl (sn_itr (lvf := fun p => [(0, .ref (E.1 + p.1)), (1, .int p.2.1), (2, .int p.2.2.1), (3, .int p.2.2.2.1), (4, .int p.2.2.2.2)]) (stf := fun p => []) (fun k hk p => sfX2_hoursIn_5  k hk p.1 p.2.1 p.2.2.1 p.2.2.2.1 p.2.2.2.2) FU (a0, x1, x2, 0, 0))
theorem iX2_hoursIn : MI yX2_hoursIn cX2_hoursIn 5 (some .int) 2 := ⟨wt1_19, wt5_52, by decide +kernel, by decide⟩
-- NeedleHomes$Hand canDo(II)I
theorem dX2_canDo_0 : decode cX2_canDo 0 = .ok (.bipush 10, 2) := by decide +kernel
theorem dX2_canDo_2 : decode cX2_canDo 2 = .ok (.aload_n 0, 1) := by decide +kernel
theorem dX2_canDo_3 : decode cX2_canDo 3 = .ok (.getfield 18, 3) := by decide +kernel
theorem dX2_canDo_6 : decode cX2_canDo 6 = .ok (.imul, 1) := by decide +kernel
theorem dX2_canDo_7 : decode cX2_canDo 7 = .ok (.istore_n 3, 1) := by decide +kernel
theorem dX2_canDo_8 : decode cX2_canDo 8 = .ok (.iload_n 3, 1) := by decide +kernel
theorem dX2_canDo_9 : decode cX2_canDo 9 = .ok (.iconst 1, 1) := by decide +kernel
theorem dX2_canDo_10 : decode cX2_canDo 10 = .ok (.if_icmp .ge 5, 3) := by decide +kernel
theorem dX2_canDo_13 : decode cX2_canDo 13 = .ok (.iconst 0, 1) := by decide +kernel
theorem dX2_canDo_14 : decode cX2_canDo 14 = .ok (.ireturn, 1) := by decide +kernel
theorem dX2_canDo_15 : decode cX2_canDo 15 = .ok (.iconst 1, 1) := by decide +kernel
theorem dX2_canDo_16 : decode cX2_canDo 16 = .ok (.iload_n 1, 1) := by decide +kernel
theorem dX2_canDo_17 : decode cX2_canDo 17 = .ok (.iload_n 3, 1) := by decide +kernel
theorem dX2_canDo_18 : decode cX2_canDo 18 = .ok (.iadd, 1) := by decide +kernel
theorem dX2_canDo_19 : decode cX2_canDo 19 = .ok (.iconst 1, 1) := by decide +kernel
theorem dX2_canDo_20 : decode cX2_canDo 20 = .ok (.isub, 1) := by decide +kernel
theorem dX2_canDo_21 : decode cX2_canDo 21 = .ok (.iload_n 3, 1) := by decide +kernel
theorem dX2_canDo_22 : decode cX2_canDo 22 = .ok (.idiv, 1) := by decide +kernel
theorem dX2_canDo_23 : decode cX2_canDo 23 = .ok (.invokestatic 58, 3) := by decide +kernel
theorem dX2_canDo_26 : decode cX2_canDo 26 = .ok (.istore 4, 2) := by decide +kernel
theorem dX2_canDo_28 : decode cX2_canDo 28 = .ok (.iload_n 2, 1) := by decide +kernel
theorem dX2_canDo_29 : decode cX2_canDo 29 = .ok (.iload 4, 2) := by decide +kernel
theorem dX2_canDo_31 : decode cX2_canDo 31 = .ok (.idiv, 1) := by decide +kernel
theorem dX2_canDo_32 : decode cX2_canDo 32 = .ok (.ireturn, 1) := by decide +kernel
abbrev dpX2_canDo : Nat := 1
def fX2_canDo (a0 : Nat) (x1 : Int32) (x2 : Int32) : St → Option (Int32 × St) :=
 gI 3 a0 0 fun v1 =>
 br (1 ≤ (10 * v1)) (dv (10 * v1) <|
 dv (mxI 1 (((x1 + (10 * v1)) - 1) / (10 * v1))) <|
 rt (x2 / (mxI 1 (((x1 + (10 * v1)) - 1) / (10 * v1)))))
 (rt 0)
set_option maxHeartbeats 4000000 in
set_option maxRecDepth 100000 in
theorem mX2_canDo {E : Ev} {l : Launch} (a0 : Nat) (x1 : Int32) (x2 : Int32) : MF E l dpX2_canDo yX2_canDo cX2_canDo 5 (some .int) rvI [.ref (E.1 + a0), .int x1, .int x2] (fX2_canDo a0 x1 x2) := by
  refine MF.of (lv := [(0, .ref (E.1 + a0)), (1, .int x1), (2, .int x2)]) (by decide) (Nat.le_of_ble_eq_true rfl) rfl ?_
  unfold fX2_canDo
  refine sn_bipush (pc := 0) (v := 10) dX2_canDo_0 (by decide) ?_
  refine sn_aload_n (pc := 2) (j := 0) dX2_canDo_2 rfl rfl ?_
  refine sn_gI (pc := 3) dX2_canDo_3 flX2_18 rfl (fun v1 => ?_)
  refine sn_imul (pc := 6) dX2_canDo_6 ?_
  refine sn_istore_n (pc := 7) (i := 3) (lv' := [(3, .int (10 * v1)), (0, .ref (E.1 + a0)), (1, .int x1), (2, .int x2)]) dX2_canDo_7 rfl (by decide) rfl ?_
  refine sn_iload_n (pc := 8) (j := 0) dX2_canDo_8 rfl rfl ?_
  refine sn_iconst (pc := 9) (v := 1) dX2_canDo_9 (by decide) ?_
  refine sn_icmp_ge (pc := 10) (tgt := 15) dX2_canDo_10 (by decide) ?_ ?_
  · refine sn_iconst (pc := 15) (v := 1) dX2_canDo_15 (by decide) ?_
    refine sn_iload_n (pc := 16) (j := 2) dX2_canDo_16 rfl rfl ?_
    refine sn_iload_n (pc := 17) (j := 0) dX2_canDo_17 rfl rfl ?_
    refine sn_iadd (pc := 18) dX2_canDo_18 ?_
    refine sn_iconst (pc := 19) (v := 1) dX2_canDo_19 (by decide) ?_
    refine sn_isub (pc := 20) dX2_canDo_20 ?_
    refine sn_iload_n (pc := 21) (j := 0) dX2_canDo_21 rfl rfl ?_
    refine sn_idiv (pc := 22) dX2_canDo_22 ?_
    refine sn_mmax (pc := 23) dX2_canDo_23 wt5_59 wt2_119 wt1_11 wt2_120 (by decide) (Nat.le_of_ble_eq_true rfl) ?_
    refine sn_istore (pc := 26) (i := 4) (lv' := [(4, .int (mxI 1 (((x1 + (10 * v1)) - 1) / (10 * v1)))), (3, .int (10 * v1)), (0, .ref (E.1 + a0)), (1, .int x1), (2, .int x2)]) dX2_canDo_26 (by decide) rfl ?_
    refine sn_iload_n (pc := 28) (j := 4) dX2_canDo_28 rfl rfl ?_
    refine sn_iload (pc := 29) (j := 0) dX2_canDo_29 rfl ?_
    refine sn_idiv (pc := 31) dX2_canDo_31 ?_
    exact sn_iret (pc := 32) dX2_canDo_32 rfl
  · refine sn_iconst (pc := 13) (v := 0) dX2_canDo_13 (by decide) ?_
    exact sn_iret (pc := 14) dX2_canDo_14 rfl
theorem iX2_canDo : MI yX2_canDo cX2_canDo 5 (some .int) 2 := ⟨wt1_19, wt5_58, by decide +kernel, by decide⟩
-- NeedleHomes$Reader <init>()V
theorem dX8_init_0 : decode cX8_init 0 = .ok (.aload_n 0, 1) := by decide +kernel
theorem dX8_init_1 : decode cX8_init 1 = .ok (.invokespecial 3, 3) := by decide +kernel
theorem dX8_init_4 : decode cX8_init 4 = .ok (.return_, 1) := by decide +kernel
abbrev dpX8_init : Nat := 1
def fX8_init (a0 : Nat) : St → Option (Unit × St) :=
 rt ()
set_option maxHeartbeats 4000000 in
set_option maxRecDepth 100000 in
theorem mX8_init {E : Ev} {l : Launch} (a0 : Nat) : MF E l dpX8_init yX8_init cX8_init 1 none rvV [.ref (E.1 + a0)] (fX8_init a0) := by
  refine MF.of (lv := [(0, .ref (E.1 + a0))]) (by decide) (Nat.le_of_ble_eq_true rfl) rfl ?_
  unfold fX8_init
  refine sn_aload_n (pc := 0) (j := 0) dX8_init_0 rfl rfl ?_
  refine sn_objInit (pc := 1) dX8_init_1 wt1_122 w_oi w_oc (by decide) (Nat.le_of_ble_eq_true rfl) ?_
  exact sn_vret (pc := 4) dX8_init_4 rfl
theorem iX8_init : MI yX8_init cX8_init 1 none 0 := ⟨wt1_5, wt1_121, by decide +kernel, by decide⟩
-- NeedleHomes$ListReader <init>()V
theorem dX3_init_0 : decode cX3_init 0 = .ok (.aload_n 0, 1) := by decide +kernel
theorem dX3_init_1 : decode cX3_init 1 = .ok (.invokespecial 3, 3) := by decide +kernel
theorem dX3_init_4 : decode cX3_init 4 = .ok (.aload_n 0, 1) := by decide +kernel
theorem dX3_init_5 : decode cX3_init 5 = .ok (.new 9, 3) := by decide +kernel
theorem dX3_init_8 : decode cX3_init 8 = .ok (.dup, 1) := by decide +kernel
theorem dX3_init_9 : decode cX3_init 9 = .ok (.invokespecial 11, 3) := by decide +kernel
theorem dX3_init_12 : decode cX3_init 12 = .ok (.putfield 12, 3) := by decide +kernel
theorem dX3_init_15 : decode cX3_init 15 = .ok (.aload_n 0, 1) := by decide +kernel
theorem dX3_init_16 : decode cX3_init 16 = .ok (.bipush 16, 2) := by decide +kernel
theorem dX3_init_18 : decode cX3_init 18 = .ok (.newarray .int, 2) := by decide +kernel
theorem dX3_init_20 : decode cX3_init 20 = .ok (.putfield 18, 3) := by decide +kernel
theorem dX3_init_23 : decode cX3_init 23 = .ok (.aload_n 0, 1) := by decide +kernel
theorem dX3_init_24 : decode cX3_init 24 = .ok (.bipush 16, 2) := by decide +kernel
theorem dX3_init_26 : decode cX3_init 26 = .ok (.newarray .int, 2) := by decide +kernel
theorem dX3_init_28 : decode cX3_init 28 = .ok (.putfield 22, 3) := by decide +kernel
theorem dX3_init_31 : decode cX3_init 31 = .ok (.aload_n 0, 1) := by decide +kernel
theorem dX3_init_32 : decode cX3_init 32 = .ok (.bipush 16, 2) := by decide +kernel
theorem dX3_init_34 : decode cX3_init 34 = .ok (.newarray .int, 2) := by decide +kernel
theorem dX3_init_36 : decode cX3_init 36 = .ok (.putfield 25, 3) := by decide +kernel
theorem dX3_init_39 : decode cX3_init 39 = .ok (.aload_n 0, 1) := by decide +kernel
theorem dX3_init_40 : decode cX3_init 40 = .ok (.sipush 256, 3) := by decide +kernel
theorem dX3_init_43 : decode cX3_init 43 = .ok (.newarray .int, 2) := by decide +kernel
theorem dX3_init_45 : decode cX3_init 45 = .ok (.putfield 30, 3) := by decide +kernel
theorem dX3_init_48 : decode cX3_init 48 = .ok (.return_, 1) := by decide +kernel
abbrev dpX3_init : Nat := 2
def fX3_init (a0 : Nat) : St → Option (Unit × St) :=
 nO 9 8 fun a1 =>
 cl (fX8_init a1) fun v2 =>
 pR 4 a0 0 (some a1) <|
 nA 15 16 fun a3 =>
 pR 4 a0 2 (some a3) <|
 nA 15 16 fun a4 =>
 pR 4 a0 3 (some a4) <|
 nA 15 16 fun a5 =>
 pR 4 a0 4 (some a5) <|
 nA 15 256 fun a6 =>
 pR 4 a0 5 (some a6) <|
 rt ()
set_option maxHeartbeats 4000000 in
set_option maxRecDepth 100000 in
theorem mX3_init {E : Ev} {l : Launch} (a0 : Nat) : MF E l dpX3_init yX3_init cX3_init 1 none rvV [.ref (E.1 + a0)] (fX3_init a0) := by
  refine MF.of (lv := [(0, .ref (E.1 + a0))]) (by decide) (Nat.le_of_ble_eq_true rfl) rfl ?_
  unfold fX3_init
  refine sn_aload_n (pc := 0) (j := 0) dX3_init_0 rfl rfl ?_
  refine sn_objInit (pc := 1) dX3_init_1 wt1_179 w_oi w_oc (by decide) (Nat.le_of_ble_eq_true rfl) ?_
  refine sn_aload_n (pc := 4) (j := 0) dX3_init_4 rfl rfl ?_
  refine sn_new (pc := 5) dX3_init_5 ci_X8 wt1_180 (fun a1 => ?_)
  refine sn_dup (pc := 8) dX3_init_8 rfl ?_
  refine sn_callIN (pc := 9) dX3_init_9 iX8_init rfl rfl wt1_120 (List.mem_of_getElem? (i := 3) rfl) (mX8_init a1) (by decide) rfl rfl (Nat.le_of_ble_eq_true rfl) (fun v2 => ?_)
  refine sn_pR (pc := 12) (v := (some a1)) dX3_init_12 flX3_12 rfl (Or.inl ⟨_, rfl⟩) (Or.inr ⟨rfl, rfl, rfl⟩) ?_
  refine sn_aload_n (pc := 15) (j := 0) dX3_init_15 rfl rfl ?_
  refine sn_bipush (pc := 16) (v := 16) dX3_init_16 (by decide) ?_
  refine sn_newI (pc := 18) dX3_init_18 wt1_109 (fun a3 => ?_)
  refine sn_pR (pc := 20) (v := (some a3)) dX3_init_20 flX3_18 rfl (Or.inr ⟨_, rfl⟩) (Or.inr ⟨rfl, rfl, rfl⟩) ?_
  refine sn_aload_n (pc := 23) (j := 0) dX3_init_23 rfl rfl ?_
  refine sn_bipush (pc := 24) (v := 16) dX3_init_24 (by decide) ?_
  refine sn_newI (pc := 26) dX3_init_26 wt1_109 (fun a4 => ?_)
  refine sn_pR (pc := 28) (v := (some a4)) dX3_init_28 flX3_22 rfl (Or.inr ⟨_, rfl⟩) (Or.inr ⟨rfl, rfl, rfl⟩) ?_
  refine sn_aload_n (pc := 31) (j := 0) dX3_init_31 rfl rfl ?_
  refine sn_bipush (pc := 32) (v := 16) dX3_init_32 (by decide) ?_
  refine sn_newI (pc := 34) dX3_init_34 wt1_109 (fun a5 => ?_)
  refine sn_pR (pc := 36) (v := (some a5)) dX3_init_36 flX3_25 rfl (Or.inr ⟨_, rfl⟩) (Or.inr ⟨rfl, rfl, rfl⟩) ?_
  refine sn_aload_n (pc := 39) (j := 0) dX3_init_39 rfl rfl ?_
  refine sn_sipush (pc := 40) (v := 256) dX3_init_40 (by decide) ?_
  refine sn_newI (pc := 43) dX3_init_43 wt1_109 (fun a6 => ?_)
  refine sn_pR (pc := 45) (v := (some a6)) dX3_init_45 flX3_30 rfl (Or.inr ⟨_, rfl⟩) (Or.inr ⟨rfl, rfl, rfl⟩) ?_
  exact sn_vret (pc := 48) dX3_init_48 rfl
theorem iX3_init : MI yX3_init cX3_init 1 none 0 := ⟨wt1_6, wt1_178, by decide +kernel, by decide⟩
-- NeedleHomes$Reader failHere()Z
theorem dX8_failHere_0 : decode cX8_failHere 0 = .ok (.aload_n 0, 1) := by decide +kernel
theorem dX8_failHere_1 : decode cX8_failHere 1 = .ok (.iconst 1, 1) := by decide +kernel
theorem dX8_failHere_2 : decode cX8_failHere 2 = .ok (.putfield 31, 3) := by decide +kernel
theorem dX8_failHere_5 : decode cX8_failHere 5 = .ok (.aload_n 0, 1) := by decide +kernel
theorem dX8_failHere_6 : decode cX8_failHere 6 = .ok (.aload_n 0, 1) := by decide +kernel
theorem dX8_failHere_7 : decode cX8_failHere 7 = .ok (.getfield 44, 3) := by decide +kernel
theorem dX8_failHere_10 : decode cX8_failHere 10 = .ok (.putfield 34, 3) := by decide +kernel
theorem dX8_failHere_13 : decode cX8_failHere 13 = .ok (.iconst 0, 1) := by decide +kernel
theorem dX8_failHere_14 : decode cX8_failHere 14 = .ok (.ireturn, 1) := by decide +kernel
abbrev dpX8_failHere : Nat := 0
def fX8_failHere (a0 : Nat) : St → Option (Bool × St) :=
 pI 9 a0 3 1 <|
 gI 9 a0 2 fun v1 =>
 pI 9 a0 4 v1 <|
 rtZ 0
set_option maxHeartbeats 4000000 in
set_option maxRecDepth 100000 in
theorem mX8_failHere {E : Ev} {l : Launch} (a0 : Nat) : MF E l dpX8_failHere yX8_failHere cX8_failHere 1 (some .boolean) rvZ [.ref (E.1 + a0)] (fX8_failHere a0) := by
  refine MF.of (lv := [(0, .ref (E.1 + a0))]) (by decide) (Nat.le_of_ble_eq_true rfl) rfl ?_
  unfold fX8_failHere
  refine sn_aload_n (pc := 0) (j := 0) dX8_failHere_0 rfl rfl ?_
  refine sn_iconst (pc := 1) (v := 1) dX8_failHere_1 (by decide) ?_
  refine sn_pI (pc := 2) dX8_failHere_2 flX8_31 rfl rfl (Or.inl rfl) ?_
  refine sn_aload_n (pc := 5) (j := 0) dX8_failHere_5 rfl rfl ?_
  refine sn_aload_n (pc := 6) (j := 0) dX8_failHere_6 rfl rfl ?_
  refine sn_gI (pc := 7) dX8_failHere_7 flX8_44 rfl (fun v1 => ?_)
  refine sn_pI (pc := 10) dX8_failHere_10 flX8_34 rfl rfl (Or.inl rfl) ?_
  refine sn_iconst (pc := 13) (v := 0) dX8_failHere_13 (by decide) ?_
  exact sn_zret (pc := 14) dX8_failHere_14 rfl
theorem iX8_failHere : MI yX8_failHere cX8_failHere 1 (some .boolean) 0 := ⟨wt1_5, wt2_163, by decide +kernel, by decide⟩
-- NeedleHomes$Reader byteAt(I)I
theorem dX8_byteAt_0 : decode cX8_byteAt 0 = .ok (.aload_n 0, 1) := by decide +kernel
theorem dX8_byteAt_1 : decode cX8_byteAt 1 = .ok (.getfield 9, 3) := by decide +kernel
theorem dX8_byteAt_4 : decode cX8_byteAt 4 = .ok (.ifnull 33, 3) := by decide +kernel
theorem dX8_byteAt_7 : decode cX8_byteAt 7 = .ok (.iload_n 1, 1) := by decide +kernel
theorem dX8_byteAt_8 : decode cX8_byteAt 8 = .ok (.ifCond .lt 29, 3) := by decide +kernel
theorem dX8_byteAt_11 : decode cX8_byteAt 11 = .ok (.iload_n 1, 1) := by decide +kernel
theorem dX8_byteAt_12 : decode cX8_byteAt 12 = .ok (.aload_n 0, 1) := by decide +kernel
theorem dX8_byteAt_13 : decode cX8_byteAt 13 = .ok (.getfield 9, 3) := by decide +kernel
theorem dX8_byteAt_16 : decode cX8_byteAt 16 = .ok (.arraylength, 1) := by decide +kernel
theorem dX8_byteAt_17 : decode cX8_byteAt 17 = .ok (.if_icmp .ge 20, 3) := by decide +kernel
theorem dX8_byteAt_20 : decode cX8_byteAt 20 = .ok (.iload_n 1, 1) := by decide +kernel
theorem dX8_byteAt_21 : decode cX8_byteAt 21 = .ok (.aload_n 0, 1) := by decide +kernel
theorem dX8_byteAt_22 : decode cX8_byteAt 22 = .ok (.getfield 24, 3) := by decide +kernel
theorem dX8_byteAt_25 : decode cX8_byteAt 25 = .ok (.if_icmp .ge 12, 3) := by decide +kernel
theorem dX8_byteAt_28 : decode cX8_byteAt 28 = .ok (.aload_n 0, 1) := by decide +kernel
theorem dX8_byteAt_29 : decode cX8_byteAt 29 = .ok (.getfield 9, 3) := by decide +kernel
theorem dX8_byteAt_32 : decode cX8_byteAt 32 = .ok (.iload_n 1, 1) := by decide +kernel
theorem dX8_byteAt_33 : decode cX8_byteAt 33 = .ok (.baload, 1) := by decide +kernel
theorem dX8_byteAt_34 : decode cX8_byteAt 34 = .ok (.goto 4, 3) := by decide +kernel
theorem dX8_byteAt_37 : decode cX8_byteAt 37 = .ok (.iconst (-1), 1) := by decide +kernel
theorem dX8_byteAt_38 : decode cX8_byteAt 38 = .ok (.ireturn, 1) := by decide +kernel
abbrev dpX8_byteAt : Nat := 0
def fX8_byteAt (a0 : Nat) (x1 : Int32) : St → Option (Int32 × St) :=
 gR 9 a0 5 fun v1 =>
 on v1 (rt (-1))
 fun a2 => br (x1 < 0) (rt (-1))
 (gR 9 a0 5 fun v3 =>
 nn v3 fun a5 =>
 aL 14 a5 fun v4 =>
 br (v4 ≤ x1) (rt (-1))
 (gI 9 a0 6 fun v6 =>
 br (v6 ≤ x1) (rt (-1))
 (gR 9 a0 5 fun v7 =>
 nn v7 fun a9 =>
 aI 14 a9 x1 fun v8 =>
 rt v8)))
set_option maxHeartbeats 4000000 in
set_option maxRecDepth 100000 in
theorem mX8_byteAt {E : Ev} {l : Launch} (a0 : Nat) (x1 : Int32) : MF E l dpX8_byteAt yX8_byteAt cX8_byteAt 2 (some .int) rvI [.ref (E.1 + a0), .int x1] (fX8_byteAt a0 x1) := by
  refine MF.of (lv := [(0, .ref (E.1 + a0)), (1, .int x1)]) (by decide) (Nat.le_of_ble_eq_true rfl) rfl ?_
  unfold fX8_byteAt
  refine sn_aload_n (pc := 0) (j := 0) dX8_byteAt_0 rfl rfl ?_
  refine sn_gR (pc := 1) dX8_byteAt_1 flX8_9 rfl (fun v1 => ?_)
  rcases v1 with _ | a2
  · refine sn_onN ?_
    refine sn_ifnull_n (pc := 4) (tgt := 37) dX8_byteAt_4 (by decide) ?_
    refine sn_iconst (pc := 37) (v := (-1)) dX8_byteAt_37 (by decide) ?_
    exact sn_iret (pc := 38) dX8_byteAt_38 rfl
  · refine sn_onS ?_
    refine sn_ifnull_s (pc := 4) dX8_byteAt_4 ?_
    refine sn_iload_n (pc := 7) (j := 1) dX8_byteAt_7 rfl rfl ?_
    refine sn_if_lt (pc := 8) (tgt := 37) dX8_byteAt_8 (by decide) ?_ ?_
    · refine sn_iconst (pc := 37) (v := (-1)) dX8_byteAt_37 (by decide) ?_
      exact sn_iret (pc := 38) dX8_byteAt_38 rfl
    · refine sn_iload_n (pc := 11) (j := 1) dX8_byteAt_11 rfl rfl ?_
      refine sn_aload_n (pc := 12) (j := 0) dX8_byteAt_12 rfl rfl ?_
      refine sn_gR (pc := 13) dX8_byteAt_13 flX8_9 rfl (fun v3 => ?_)
      rcases v3 with _ | a5
      · exact sn_no
      refine sn_nn ?_
      refine sn_alen (t := 0) (pc := 16) dX8_byteAt_16 rfl (fun v4 => ?_)
      refine sn_icmp_ge (pc := 17) (tgt := 37) dX8_byteAt_17 (by decide) ?_ ?_
      · refine sn_iconst (pc := 37) (v := (-1)) dX8_byteAt_37 (by decide) ?_
        exact sn_iret (pc := 38) dX8_byteAt_38 rfl
      · refine sn_iload_n (pc := 20) (j := 1) dX8_byteAt_20 rfl rfl ?_
        refine sn_aload_n (pc := 21) (j := 0) dX8_byteAt_21 rfl rfl ?_
        refine sn_gI (pc := 22) dX8_byteAt_22 flX8_24 rfl (fun v6 => ?_)
        refine sn_icmp_ge (pc := 25) (tgt := 37) dX8_byteAt_25 (by decide) ?_ ?_
        · refine sn_iconst (pc := 37) (v := (-1)) dX8_byteAt_37 (by decide) ?_
          exact sn_iret (pc := 38) dX8_byteAt_38 rfl
        · refine sn_aload_n (pc := 28) (j := 0) dX8_byteAt_28 rfl rfl ?_
          refine sn_gR (pc := 29) dX8_byteAt_29 flX8_9 rfl (fun v7 => ?_)
          refine sn_iload_n (pc := 32) (j := 1) dX8_byteAt_32 rfl rfl ?_
          rcases v7 with _ | a9
          · exact sn_no
          refine sn_nn ?_
          refine sn_bald (pc := 33) dX8_byteAt_33 (fun v8 => ?_)
          refine sn_goto (pc := 34) (tgt := 38) dX8_byteAt_34 (by decide) ?_
          exact sn_iret (pc := 38) dX8_byteAt_38 rfl
theorem iX8_byteAt : MI yX8_byteAt cX8_byteAt 2 (some .int) 1 := ⟨wt1_5, wt2_128, by decide +kernel, by decide⟩
-- NeedleHomes$Reader isSign(C)Z
theorem dX8_isSign_0 : decode cX8_isSign 0 = .ok (.aload_n 0, 1) := by decide +kernel
theorem dX8_isSign_1 : decode cX8_isSign 1 = .ok (.getfield 50, 3) := by decide +kernel
theorem dX8_isSign_4 : decode cX8_isSign 4 = .ok (.iconst 3, 1) := by decide +kernel
theorem dX8_isSign_5 : decode cX8_isSign 5 = .ok (.if_icmp .ne 19, 3) := by decide +kernel
theorem dX8_isSign_8 : decode cX8_isSign 8 = .ok (.aload_n 0, 1) := by decide +kernel
theorem dX8_isSign_9 : decode cX8_isSign 9 = .ok (.aload_n 0, 1) := by decide +kernel
theorem dX8_isSign_10 : decode cX8_isSign 10 = .ok (.getfield 44, 3) := by decide +kernel
theorem dX8_isSign_13 : decode cX8_isSign 13 = .ok (.invokevirtual 40, 3) := by decide +kernel
theorem dX8_isSign_16 : decode cX8_isSign 16 = .ok (.iload_n 1, 1) := by decide +kernel
theorem dX8_isSign_17 : decode cX8_isSign 17 = .ok (.if_icmp .ne 7, 3) := by decide +kernel
theorem dX8_isSign_20 : decode cX8_isSign 20 = .ok (.iconst 1, 1) := by decide +kernel
theorem dX8_isSign_21 : decode cX8_isSign 21 = .ok (.goto 4, 3) := by decide +kernel
theorem dX8_isSign_24 : decode cX8_isSign 24 = .ok (.iconst 0, 1) := by decide +kernel
theorem dX8_isSign_25 : decode cX8_isSign 25 = .ok (.ireturn, 1) := by decide +kernel
abbrev dpX8_isSign : Nat := 1
def fX8_isSign (a0 : Nat) (x1 : Int32) : St → Option (Bool × St) :=
 gI 9 a0 0 fun v1 =>
 br (v1 = 3) (gI 9 a0 2 fun v2 =>
 ck 9 a0 <| cl (fX8_byteAt a0 v2) fun v3 =>
 br (v3 = x1) (rtZ 1)
 (rtZ 0))
 (rtZ 0)
set_option maxHeartbeats 4000000 in
set_option maxRecDepth 100000 in
theorem mX8_isSign {E : Ev} {l : Launch} (a0 : Nat) (x1 : Int32) : MF E l dpX8_isSign yX8_isSign cX8_isSign 2 (some .boolean) rvZ [.ref (E.1 + a0), .int x1] (fX8_isSign a0 x1) := by
  refine MF.of (lv := [(0, .ref (E.1 + a0)), (1, .int x1)]) (by decide) (Nat.le_of_ble_eq_true rfl) rfl ?_
  unfold fX8_isSign
  refine sn_aload_n (pc := 0) (j := 0) dX8_isSign_0 rfl rfl ?_
  refine sn_gI (pc := 1) dX8_isSign_1 flX8_50 rfl (fun v1 => ?_)
  refine sn_iconst (pc := 4) (v := 3) dX8_isSign_4 (by decide) ?_
  refine sn_icmp_ne (pc := 5) (tgt := 24) dX8_isSign_5 (by decide) ?_ ?_
  · refine sn_iconst (pc := 24) (v := 0) dX8_isSign_24 (by decide) ?_
    exact sn_zret (pc := 25) dX8_isSign_25 rfl
  · refine sn_aload_n (pc := 8) (j := 0) dX8_isSign_8 rfl rfl ?_
    refine sn_aload_n (pc := 9) (j := 0) dX8_isSign_9 rfl rfl ?_
    refine sn_gI (pc := 10) dX8_isSign_10 flX8_44 rfl (fun v2 => ?_)
    refine sn_callV (ci := 8) (pc := 13) dX8_isSign_13 iX8_byteAt wt2_127 ws_0 wt2_125 ⟨_, rfl, rfl⟩ (by decide) (mX8_byteAt a0 v2) (by decide) rfl rfl (Nat.le_of_ble_eq_true rfl) (fun v3 => ?_)
    refine sn_iload_n (pc := 16) (j := 1) dX8_isSign_16 rfl rfl ?_
    refine sn_icmp_ne (pc := 17) (tgt := 24) dX8_isSign_17 (by decide) ?_ ?_
    · refine sn_iconst (pc := 24) (v := 0) dX8_isSign_24 (by decide) ?_
      exact sn_zret (pc := 25) dX8_isSign_25 rfl
    · refine sn_iconst (pc := 20) (v := 1) dX8_isSign_20 (by decide) ?_
      refine sn_goto (pc := 21) (tgt := 25) dX8_isSign_21 (by decide) ?_
      exact sn_zret (pc := 25) dX8_isSign_25 rfl
theorem iX8_isSign : MI yX8_isSign cX8_isSign 2 (some .boolean) 1 := ⟨wt1_5, wt2_197, by decide +kernel, by decide⟩
-- NeedleHomes$Reader noteFault(II)V
theorem dX8_noteFault_0 : decode cX8_noteFault 0 = .ok (.aload_n 0, 1) := by decide +kernel
theorem dX8_noteFault_1 : decode cX8_noteFault 1 = .ok (.getfield 31, 3) := by decide +kernel
theorem dX8_noteFault_4 : decode cX8_noteFault 4 = .ok (.ifCond .ne 13, 3) := by decide +kernel
theorem dX8_noteFault_7 : decode cX8_noteFault 7 = .ok (.aload_n 0, 1) := by decide +kernel
theorem dX8_noteFault_8 : decode cX8_noteFault 8 = .ok (.iload_n 1, 1) := by decide +kernel
theorem dX8_noteFault_9 : decode cX8_noteFault 9 = .ok (.putfield 31, 3) := by decide +kernel
theorem dX8_noteFault_12 : decode cX8_noteFault 12 = .ok (.aload_n 0, 1) := by decide +kernel
theorem dX8_noteFault_13 : decode cX8_noteFault 13 = .ok (.iload_n 2, 1) := by decide +kernel
theorem dX8_noteFault_14 : decode cX8_noteFault 14 = .ok (.putfield 34, 3) := by decide +kernel
theorem dX8_noteFault_17 : decode cX8_noteFault 17 = .ok (.return_, 1) := by decide +kernel
abbrev dpX8_noteFault : Nat := 0
def fX8_noteFault (a0 : Nat) (x1 : Int32) (x2 : Int32) : St → Option (Unit × St) :=
 gI 9 a0 3 fun v1 =>
 br (v1 = 0) (pI 9 a0 3 x1 <|
 pI 9 a0 4 x2 <|
 rt ())
 (rt ())
set_option maxHeartbeats 4000000 in
set_option maxRecDepth 100000 in
theorem mX8_noteFault {E : Ev} {l : Launch} (a0 : Nat) (x1 : Int32) (x2 : Int32) : MF E l dpX8_noteFault yX8_noteFault cX8_noteFault 3 none rvV [.ref (E.1 + a0), .int x1, .int x2] (fX8_noteFault a0 x1 x2) := by
  refine MF.of (lv := [(0, .ref (E.1 + a0)), (1, .int x1), (2, .int x2)]) (by decide) (Nat.le_of_ble_eq_true rfl) rfl ?_
  unfold fX8_noteFault
  refine sn_aload_n (pc := 0) (j := 0) dX8_noteFault_0 rfl rfl ?_
  refine sn_gI (pc := 1) dX8_noteFault_1 flX8_31 rfl (fun v1 => ?_)
  refine sn_if_ne (pc := 4) (tgt := 17) dX8_noteFault_4 (by decide) ?_ ?_
  · exact sn_vret (pc := 17) dX8_noteFault_17 rfl
  · refine sn_aload_n (pc := 7) (j := 0) dX8_noteFault_7 rfl rfl ?_
    refine sn_iload_n (pc := 8) (j := 1) dX8_noteFault_8 rfl rfl ?_
    refine sn_pI (pc := 9) dX8_noteFault_9 flX8_31 rfl rfl (Or.inl rfl) ?_
    refine sn_aload_n (pc := 12) (j := 0) dX8_noteFault_12 rfl rfl ?_
    refine sn_iload_n (pc := 13) (j := 2) dX8_noteFault_13 rfl rfl ?_
    refine sn_pI (pc := 14) dX8_noteFault_14 flX8_34 rfl rfl (Or.inl rfl) ?_
    exact sn_vret (pc := 17) dX8_noteFault_17 rfl
theorem iX8_noteFault : MI yX8_noteFault cX8_noteFault 3 none 2 := ⟨wt1_5, wt2_170, by decide +kernel, by decide⟩
-- NeedleHomes$Reader isDigit(I)Z
theorem dX8_isDigit_0 : decode cX8_isDigit 0 = .ok (.iload_n 0, 1) := by decide +kernel
theorem dX8_isDigit_1 : decode cX8_isDigit 1 = .ok (.bipush 48, 2) := by decide +kernel
theorem dX8_isDigit_3 : decode cX8_isDigit 3 = .ok (.if_icmp .lt 13, 3) := by decide +kernel
theorem dX8_isDigit_6 : decode cX8_isDigit 6 = .ok (.iload_n 0, 1) := by decide +kernel
theorem dX8_isDigit_7 : decode cX8_isDigit 7 = .ok (.bipush 57, 2) := by decide +kernel
theorem dX8_isDigit_9 : decode cX8_isDigit 9 = .ok (.if_icmp .gt 7, 3) := by decide +kernel
theorem dX8_isDigit_12 : decode cX8_isDigit 12 = .ok (.iconst 1, 1) := by decide +kernel
theorem dX8_isDigit_13 : decode cX8_isDigit 13 = .ok (.goto 4, 3) := by decide +kernel
theorem dX8_isDigit_16 : decode cX8_isDigit 16 = .ok (.iconst 0, 1) := by decide +kernel
theorem dX8_isDigit_17 : decode cX8_isDigit 17 = .ok (.ireturn, 1) := by decide +kernel
abbrev dpX8_isDigit : Nat := 0
def fX8_isDigit (x0 : Int32) : St → Option (Bool × St) :=
 br (x0 < 48) (rtZ 0)
 (br (57 < x0) (rtZ 0)
 (rtZ 1))
set_option maxHeartbeats 4000000 in
set_option maxRecDepth 100000 in
theorem mX8_isDigit {E : Ev} {l : Launch} (x0 : Int32) : MF E l dpX8_isDigit yX8_isDigit cX8_isDigit 1 (some .boolean) rvZ [.int x0] (fX8_isDigit x0) := by
  refine MF.of (lv := [(0, .int x0)]) (by decide) (Nat.le_of_ble_eq_true rfl) rfl ?_
  unfold fX8_isDigit
  refine sn_iload_n (pc := 0) (j := 0) dX8_isDigit_0 rfl rfl ?_
  refine sn_bipush (pc := 1) (v := 48) dX8_isDigit_1 (by decide) ?_
  refine sn_icmp_lt (pc := 3) (tgt := 16) dX8_isDigit_3 (by decide) ?_ ?_
  · refine sn_iconst (pc := 16) (v := 0) dX8_isDigit_16 (by decide) ?_
    exact sn_zret (pc := 17) dX8_isDigit_17 rfl
  · refine sn_iload_n (pc := 6) (j := 0) dX8_isDigit_6 rfl rfl ?_
    refine sn_bipush (pc := 7) (v := 57) dX8_isDigit_7 (by decide) ?_
    refine sn_icmp_gt (pc := 9) (tgt := 16) dX8_isDigit_9 (by decide) ?_ ?_
    · refine sn_iconst (pc := 16) (v := 0) dX8_isDigit_16 (by decide) ?_
      exact sn_zret (pc := 17) dX8_isDigit_17 rfl
    · refine sn_iconst (pc := 12) (v := 1) dX8_isDigit_12 (by decide) ?_
      refine sn_goto (pc := 13) (tgt := 17) dX8_isDigit_13 (by decide) ?_
      exact sn_zret (pc := 17) dX8_isDigit_17 rfl
theorem iX8_isDigit : MI yX8_isDigit cX8_isDigit 1 (some .boolean) 1 := ⟨wt1_5, wt2_134, by decide +kernel, by decide⟩
-- NeedleHomes$Reader isLetter(I)Z
theorem dX8_isLetter_0 : decode cX8_isLetter 0 = .ok (.iload_n 0, 1) := by decide +kernel
theorem dX8_isLetter_1 : decode cX8_isLetter 1 = .ok (.bipush 97, 2) := by decide +kernel
theorem dX8_isLetter_3 : decode cX8_isLetter 3 = .ok (.if_icmp .lt 13, 3) := by decide +kernel
theorem dX8_isLetter_6 : decode cX8_isLetter 6 = .ok (.iload_n 0, 1) := by decide +kernel
theorem dX8_isLetter_7 : decode cX8_isLetter 7 = .ok (.bipush 122, 2) := by decide +kernel
theorem dX8_isLetter_9 : decode cX8_isLetter 9 = .ok (.if_icmp .gt 7, 3) := by decide +kernel
theorem dX8_isLetter_12 : decode cX8_isLetter 12 = .ok (.iconst 1, 1) := by decide +kernel
theorem dX8_isLetter_13 : decode cX8_isLetter 13 = .ok (.goto 4, 3) := by decide +kernel
theorem dX8_isLetter_16 : decode cX8_isLetter 16 = .ok (.iconst 0, 1) := by decide +kernel
theorem dX8_isLetter_17 : decode cX8_isLetter 17 = .ok (.ireturn, 1) := by decide +kernel
abbrev dpX8_isLetter : Nat := 0
def fX8_isLetter (x0 : Int32) : St → Option (Bool × St) :=
 br (x0 < 97) (rtZ 0)
 (br (122 < x0) (rtZ 0)
 (rtZ 1))
set_option maxHeartbeats 4000000 in
set_option maxRecDepth 100000 in
theorem mX8_isLetter {E : Ev} {l : Launch} (x0 : Int32) : MF E l dpX8_isLetter yX8_isLetter cX8_isLetter 1 (some .boolean) rvZ [.int x0] (fX8_isLetter x0) := by
  refine MF.of (lv := [(0, .int x0)]) (by decide) (Nat.le_of_ble_eq_true rfl) rfl ?_
  unfold fX8_isLetter
  refine sn_iload_n (pc := 0) (j := 0) dX8_isLetter_0 rfl rfl ?_
  refine sn_bipush (pc := 1) (v := 97) dX8_isLetter_1 (by decide) ?_
  refine sn_icmp_lt (pc := 3) (tgt := 16) dX8_isLetter_3 (by decide) ?_ ?_
  · refine sn_iconst (pc := 16) (v := 0) dX8_isLetter_16 (by decide) ?_
    exact sn_zret (pc := 17) dX8_isLetter_17 rfl
  · refine sn_iload_n (pc := 6) (j := 0) dX8_isLetter_6 rfl rfl ?_
    refine sn_bipush (pc := 7) (v := 122) dX8_isLetter_7 (by decide) ?_
    refine sn_icmp_gt (pc := 9) (tgt := 16) dX8_isLetter_9 (by decide) ?_ ?_
    · refine sn_iconst (pc := 16) (v := 0) dX8_isLetter_16 (by decide) ?_
      exact sn_zret (pc := 17) dX8_isLetter_17 rfl
    · refine sn_iconst (pc := 12) (v := 1) dX8_isLetter_12 (by decide) ?_
      refine sn_goto (pc := 13) (tgt := 17) dX8_isLetter_13 (by decide) ?_
      exact sn_zret (pc := 17) dX8_isLetter_17 rfl
theorem iX8_isLetter : MI yX8_isLetter cX8_isLetter 1 (some .boolean) 1 := ⟨wt1_5, wt2_131, by decide +kernel, by decide⟩
-- NeedleHomes$Reader isSignByte(I)Z
theorem dX8_isSignByte_0 : decode cX8_isSignByte 0 = .ok (.iload_n 0, 1) := by decide +kernel
theorem dX8_isSignByte_1 : decode cX8_isSignByte 1 = .ok (.bipush 91, 2) := by decide +kernel
theorem dX8_isSignByte_3 : decode cX8_isSignByte 3 = .ok (.if_icmp .eq 39, 3) := by decide +kernel
theorem dX8_isSignByte_6 : decode cX8_isSignByte 6 = .ok (.iload_n 0, 1) := by decide +kernel
theorem dX8_isSignByte_7 : decode cX8_isSignByte 7 = .ok (.bipush 93, 2) := by decide +kernel
theorem dX8_isSignByte_9 : decode cX8_isSignByte 9 = .ok (.if_icmp .eq 33, 3) := by decide +kernel
theorem dX8_isSignByte_12 : decode cX8_isSignByte 12 = .ok (.iload_n 0, 1) := by decide +kernel
theorem dX8_isSignByte_13 : decode cX8_isSignByte 13 = .ok (.bipush 58, 2) := by decide +kernel
theorem dX8_isSignByte_15 : decode cX8_isSignByte 15 = .ok (.if_icmp .eq 27, 3) := by decide +kernel
theorem dX8_isSignByte_18 : decode cX8_isSignByte 18 = .ok (.iload_n 0, 1) := by decide +kernel
theorem dX8_isSignByte_19 : decode cX8_isSignByte 19 = .ok (.bipush 59, 2) := by decide +kernel
theorem dX8_isSignByte_21 : decode cX8_isSignByte 21 = .ok (.if_icmp .eq 21, 3) := by decide +kernel
theorem dX8_isSignByte_24 : decode cX8_isSignByte 24 = .ok (.iload_n 0, 1) := by decide +kernel
theorem dX8_isSignByte_25 : decode cX8_isSignByte 25 = .ok (.bipush 60, 2) := by decide +kernel
theorem dX8_isSignByte_27 : decode cX8_isSignByte 27 = .ok (.if_icmp .eq 15, 3) := by decide +kernel
theorem dX8_isSignByte_30 : decode cX8_isSignByte 30 = .ok (.iload_n 0, 1) := by decide +kernel
theorem dX8_isSignByte_31 : decode cX8_isSignByte 31 = .ok (.bipush 62, 2) := by decide +kernel
theorem dX8_isSignByte_33 : decode cX8_isSignByte 33 = .ok (.if_icmp .eq 9, 3) := by decide +kernel
theorem dX8_isSignByte_36 : decode cX8_isSignByte 36 = .ok (.iload_n 0, 1) := by decide +kernel
theorem dX8_isSignByte_37 : decode cX8_isSignByte 37 = .ok (.bipush 61, 2) := by decide +kernel
theorem dX8_isSignByte_39 : decode cX8_isSignByte 39 = .ok (.if_icmp .ne 7, 3) := by decide +kernel
theorem dX8_isSignByte_42 : decode cX8_isSignByte 42 = .ok (.iconst 1, 1) := by decide +kernel
theorem dX8_isSignByte_43 : decode cX8_isSignByte 43 = .ok (.goto 4, 3) := by decide +kernel
theorem dX8_isSignByte_46 : decode cX8_isSignByte 46 = .ok (.iconst 0, 1) := by decide +kernel
theorem dX8_isSignByte_47 : decode cX8_isSignByte 47 = .ok (.ireturn, 1) := by decide +kernel
abbrev dpX8_isSignByte : Nat := 0
def fX8_isSignByte (x0 : Int32) : St → Option (Bool × St) :=
 br (x0 = 91) (rtZ 1)
 (br (x0 = 93) (rtZ 1)
 (br (x0 = 58) (rtZ 1)
 (br (x0 = 59) (rtZ 1)
 (br (x0 = 60) (rtZ 1)
 (br (x0 = 62) (rtZ 1)
 (br (x0 = 61) (rtZ 1)
 (rtZ 0)))))))
set_option maxHeartbeats 4000000 in
set_option maxRecDepth 100000 in
theorem mX8_isSignByte {E : Ev} {l : Launch} (x0 : Int32) : MF E l dpX8_isSignByte yX8_isSignByte cX8_isSignByte 1 (some .boolean) rvZ [.int x0] (fX8_isSignByte x0) := by
  refine MF.of (lv := [(0, .int x0)]) (by decide) (Nat.le_of_ble_eq_true rfl) rfl ?_
  unfold fX8_isSignByte
  refine sn_iload_n (pc := 0) (j := 0) dX8_isSignByte_0 rfl rfl ?_
  refine sn_bipush (pc := 1) (v := 91) dX8_isSignByte_1 (by decide) ?_
  refine sn_icmp_eq (pc := 3) (tgt := 42) dX8_isSignByte_3 (by decide) ?_ ?_
  · refine sn_iconst (pc := 42) (v := 1) dX8_isSignByte_42 (by decide) ?_
    refine sn_goto (pc := 43) (tgt := 47) dX8_isSignByte_43 (by decide) ?_
    exact sn_zret (pc := 47) dX8_isSignByte_47 rfl
  · refine sn_iload_n (pc := 6) (j := 0) dX8_isSignByte_6 rfl rfl ?_
    refine sn_bipush (pc := 7) (v := 93) dX8_isSignByte_7 (by decide) ?_
    refine sn_icmp_eq (pc := 9) (tgt := 42) dX8_isSignByte_9 (by decide) ?_ ?_
    · refine sn_iconst (pc := 42) (v := 1) dX8_isSignByte_42 (by decide) ?_
      refine sn_goto (pc := 43) (tgt := 47) dX8_isSignByte_43 (by decide) ?_
      exact sn_zret (pc := 47) dX8_isSignByte_47 rfl
    · refine sn_iload_n (pc := 12) (j := 0) dX8_isSignByte_12 rfl rfl ?_
      refine sn_bipush (pc := 13) (v := 58) dX8_isSignByte_13 (by decide) ?_
      refine sn_icmp_eq (pc := 15) (tgt := 42) dX8_isSignByte_15 (by decide) ?_ ?_
      · refine sn_iconst (pc := 42) (v := 1) dX8_isSignByte_42 (by decide) ?_
        refine sn_goto (pc := 43) (tgt := 47) dX8_isSignByte_43 (by decide) ?_
        exact sn_zret (pc := 47) dX8_isSignByte_47 rfl
      · refine sn_iload_n (pc := 18) (j := 0) dX8_isSignByte_18 rfl rfl ?_
        refine sn_bipush (pc := 19) (v := 59) dX8_isSignByte_19 (by decide) ?_
        refine sn_icmp_eq (pc := 21) (tgt := 42) dX8_isSignByte_21 (by decide) ?_ ?_
        · refine sn_iconst (pc := 42) (v := 1) dX8_isSignByte_42 (by decide) ?_
          refine sn_goto (pc := 43) (tgt := 47) dX8_isSignByte_43 (by decide) ?_
          exact sn_zret (pc := 47) dX8_isSignByte_47 rfl
        · refine sn_iload_n (pc := 24) (j := 0) dX8_isSignByte_24 rfl rfl ?_
          refine sn_bipush (pc := 25) (v := 60) dX8_isSignByte_25 (by decide) ?_
          refine sn_icmp_eq (pc := 27) (tgt := 42) dX8_isSignByte_27 (by decide) ?_ ?_
          · refine sn_iconst (pc := 42) (v := 1) dX8_isSignByte_42 (by decide) ?_
            refine sn_goto (pc := 43) (tgt := 47) dX8_isSignByte_43 (by decide) ?_
            exact sn_zret (pc := 47) dX8_isSignByte_47 rfl
          · refine sn_iload_n (pc := 30) (j := 0) dX8_isSignByte_30 rfl rfl ?_
            refine sn_bipush (pc := 31) (v := 62) dX8_isSignByte_31 (by decide) ?_
            refine sn_icmp_eq (pc := 33) (tgt := 42) dX8_isSignByte_33 (by decide) ?_ ?_
            · refine sn_iconst (pc := 42) (v := 1) dX8_isSignByte_42 (by decide) ?_
              refine sn_goto (pc := 43) (tgt := 47) dX8_isSignByte_43 (by decide) ?_
              exact sn_zret (pc := 47) dX8_isSignByte_47 rfl
            · refine sn_iload_n (pc := 36) (j := 0) dX8_isSignByte_36 rfl rfl ?_
              refine sn_bipush (pc := 37) (v := 61) dX8_isSignByte_37 (by decide) ?_
              refine sn_icmp_ne (pc := 39) (tgt := 46) dX8_isSignByte_39 (by decide) ?_ ?_
              · refine sn_iconst (pc := 46) (v := 0) dX8_isSignByte_46 (by decide) ?_
                exact sn_zret (pc := 47) dX8_isSignByte_47 rfl
              · refine sn_iconst (pc := 42) (v := 1) dX8_isSignByte_42 (by decide) ?_
                refine sn_goto (pc := 43) (tgt := 47) dX8_isSignByte_43 (by decide) ?_
                exact sn_zret (pc := 47) dX8_isSignByte_47 rfl
theorem iX8_isSignByte : MI yX8_isSignByte cX8_isSignByte 1 (some .boolean) 1 := ⟨wt1_5, wt2_141, by decide +kernel, by decide⟩
-- NeedleHomes$Reader stepOverDigits()V
theorem dX8_stepOverDigits_0 : decode cX8_stepOverDigits 0 = .ok (.aload_n 0, 1) := by decide +kernel
theorem dX8_stepOverDigits_1 : decode cX8_stepOverDigits 1 = .ok (.getfield 28, 3) := by decide +kernel
theorem dX8_stepOverDigits_4 : decode cX8_stepOverDigits 4 = .ok (.aload_n 0, 1) := by decide +kernel
theorem dX8_stepOverDigits_5 : decode cX8_stepOverDigits 5 = .ok (.getfield 24, 3) := by decide +kernel
theorem dX8_stepOverDigits_8 : decode cX8_stepOverDigits 8 = .ok (.if_icmp .ge 66, 3) := by decide +kernel
theorem dX8_stepOverDigits_11 : decode cX8_stepOverDigits 11 = .ok (.aload_n 0, 1) := by decide +kernel
theorem dX8_stepOverDigits_12 : decode cX8_stepOverDigits 12 = .ok (.aload_n 0, 1) := by decide +kernel
theorem dX8_stepOverDigits_13 : decode cX8_stepOverDigits 13 = .ok (.getfield 28, 3) := by decide +kernel
theorem dX8_stepOverDigits_16 : decode cX8_stepOverDigits 16 = .ok (.invokevirtual 40, 3) := by decide +kernel
theorem dX8_stepOverDigits_19 : decode cX8_stepOverDigits 19 = .ok (.invokestatic 57, 3) := by decide +kernel
theorem dX8_stepOverDigits_22 : decode cX8_stepOverDigits 22 = .ok (.ifCond .eq 52, 3) := by decide +kernel
theorem dX8_stepOverDigits_25 : decode cX8_stepOverDigits 25 = .ok (.aload_n 0, 1) := by decide +kernel
theorem dX8_stepOverDigits_26 : decode cX8_stepOverDigits 26 = .ok (.getfield 28, 3) := by decide +kernel
theorem dX8_stepOverDigits_29 : decode cX8_stepOverDigits 29 = .ok (.aload_n 0, 1) := by decide +kernel
theorem dX8_stepOverDigits_30 : decode cX8_stepOverDigits 30 = .ok (.getfield 44, 3) := by decide +kernel
theorem dX8_stepOverDigits_33 : decode cX8_stepOverDigits 33 = .ok (.isub, 1) := by decide +kernel
theorem dX8_stepOverDigits_34 : decode cX8_stepOverDigits 34 = .ok (.iconst 4, 1) := by decide +kernel
theorem dX8_stepOverDigits_35 : decode cX8_stepOverDigits 35 = .ok (.if_icmp .ge 26, 3) := by decide +kernel
theorem dX8_stepOverDigits_38 : decode cX8_stepOverDigits 38 = .ok (.aload_n 0, 1) := by decide +kernel
theorem dX8_stepOverDigits_39 : decode cX8_stepOverDigits 39 = .ok (.bipush 10, 2) := by decide +kernel
theorem dX8_stepOverDigits_41 : decode cX8_stepOverDigits 41 = .ok (.aload_n 0, 1) := by decide +kernel
theorem dX8_stepOverDigits_42 : decode cX8_stepOverDigits 42 = .ok (.getfield 47, 3) := by decide +kernel
theorem dX8_stepOverDigits_45 : decode cX8_stepOverDigits 45 = .ok (.imul, 1) := by decide +kernel
theorem dX8_stepOverDigits_46 : decode cX8_stepOverDigits 46 = .ok (.aload_n 0, 1) := by decide +kernel
theorem dX8_stepOverDigits_47 : decode cX8_stepOverDigits 47 = .ok (.aload_n 0, 1) := by decide +kernel
theorem dX8_stepOverDigits_48 : decode cX8_stepOverDigits 48 = .ok (.getfield 28, 3) := by decide +kernel
theorem dX8_stepOverDigits_51 : decode cX8_stepOverDigits 51 = .ok (.invokevirtual 40, 3) := by decide +kernel
theorem dX8_stepOverDigits_54 : decode cX8_stepOverDigits 54 = .ok (.iadd, 1) := by decide +kernel
theorem dX8_stepOverDigits_55 : decode cX8_stepOverDigits 55 = .ok (.bipush 48, 2) := by decide +kernel
theorem dX8_stepOverDigits_57 : decode cX8_stepOverDigits 57 = .ok (.isub, 1) := by decide +kernel
theorem dX8_stepOverDigits_58 : decode cX8_stepOverDigits 58 = .ok (.putfield 47, 3) := by decide +kernel
theorem dX8_stepOverDigits_61 : decode cX8_stepOverDigits 61 = .ok (.aload_n 0, 1) := by decide +kernel
theorem dX8_stepOverDigits_62 : decode cX8_stepOverDigits 62 = .ok (.dup, 1) := by decide +kernel
theorem dX8_stepOverDigits_63 : decode cX8_stepOverDigits 63 = .ok (.getfield 28, 3) := by decide +kernel
theorem dX8_stepOverDigits_66 : decode cX8_stepOverDigits 66 = .ok (.iconst 1, 1) := by decide +kernel
theorem dX8_stepOverDigits_67 : decode cX8_stepOverDigits 67 = .ok (.iadd, 1) := by decide +kernel
theorem dX8_stepOverDigits_68 : decode cX8_stepOverDigits 68 = .ok (.putfield 28, 3) := by decide +kernel
theorem dX8_stepOverDigits_71 : decode cX8_stepOverDigits 71 = .ok (.goto (-71), 3) := by decide +kernel
theorem dX8_stepOverDigits_74 : decode cX8_stepOverDigits 74 = .ok (.aload_n 0, 1) := by decide +kernel
theorem dX8_stepOverDigits_75 : decode cX8_stepOverDigits 75 = .ok (.aload_n 0, 1) := by decide +kernel
theorem dX8_stepOverDigits_76 : decode cX8_stepOverDigits 76 = .ok (.getfield 28, 3) := by decide +kernel
theorem dX8_stepOverDigits_79 : decode cX8_stepOverDigits 79 = .ok (.aload_n 0, 1) := by decide +kernel
theorem dX8_stepOverDigits_80 : decode cX8_stepOverDigits 80 = .ok (.getfield 44, 3) := by decide +kernel
theorem dX8_stepOverDigits_83 : decode cX8_stepOverDigits 83 = .ok (.isub, 1) := by decide +kernel
theorem dX8_stepOverDigits_84 : decode cX8_stepOverDigits 84 = .ok (.iconst 4, 1) := by decide +kernel
theorem dX8_stepOverDigits_85 : decode cX8_stepOverDigits 85 = .ok (.if_icmp .gt 7, 3) := by decide +kernel
theorem dX8_stepOverDigits_88 : decode cX8_stepOverDigits 88 = .ok (.iconst 2, 1) := by decide +kernel
theorem dX8_stepOverDigits_89 : decode cX8_stepOverDigits 89 = .ok (.goto 4, 3) := by decide +kernel
theorem dX8_stepOverDigits_92 : decode cX8_stepOverDigits 92 = .ok (.iconst 4, 1) := by decide +kernel
theorem dX8_stepOverDigits_93 : decode cX8_stepOverDigits 93 = .ok (.putfield 50, 3) := by decide +kernel
theorem dX8_stepOverDigits_96 : decode cX8_stepOverDigits 96 = .ok (.return_, 1) := by decide +kernel
abbrev dpX8_stepOverDigits : Nat := 1
def fX8_stepOverDigits_61 (k0 : Nat → St → Option (Unit × St)) (a0 : Nat) : St → Option (Unit × St) :=
 gI 9 a0 7 fun v2001 =>
 pI 9 a0 7 (v2001 + 1) <|
 k0 a0
set_option maxHeartbeats 4000000 in
set_option maxRecDepth 100000 in
theorem sfX8_stepOverDigits_61 {E : Ev} {l : Launch} (k0 : Nat → St → Option (Unit × St)) (hk0 : ∀ p : Nat, Snd E l (dpX8_stepOverDigits, RX8, cX8_stepOverDigits, 1, none, "stepOverDigits") rvV 0 [(0, .ref (E.1 + p))] [] (k0 p)) (a0 : Nat) : Snd E l (dpX8_stepOverDigits, RX8, cX8_stepOverDigits, 1, none, "stepOverDigits") rvV 61 [(0, .ref (E.1 + a0))] [] (fX8_stepOverDigits_61 k0 a0) := by
  unfold fX8_stepOverDigits_61
  refine sn_aload_n (pc := 61) (j := 0) dX8_stepOverDigits_61 rfl rfl ?_
  refine sn_dup (pc := 62) dX8_stepOverDigits_62 rfl ?_
  refine sn_gI (pc := 63) dX8_stepOverDigits_63 flX8_28 rfl (fun v2001 => ?_)
  refine sn_iconst (pc := 66) (v := 1) dX8_stepOverDigits_66 (by decide) ?_
  refine sn_iadd (pc := 67) dX8_stepOverDigits_67 ?_
  refine sn_pI (pc := 68) dX8_stepOverDigits_68 flX8_28 rfl rfl (Or.inl rfl) ?_
  refine sn_goto (pc := 71) (tgt := 0) dX8_stepOverDigits_71 (by decide) ?_
  exact sn_sub (lv' := [(0, .ref (E.1 + a0))]) [0] rfl (hk0 a0)
def fX8_stepOverDigits_74 (a0 : Nat) : St → Option (Unit × St) :=
 gI 9 a0 7 fun v3001 =>
 gI 9 a0 2 fun v3002 =>
 br (4 < (v3001 - v3002)) (pI 9 a0 0 4 <|
 rt ())
 (pI 9 a0 0 2 <|
 rt ())
set_option maxHeartbeats 4000000 in
set_option maxRecDepth 100000 in
theorem sfX8_stepOverDigits_74 {E : Ev} {l : Launch} (a0 : Nat) : Snd E l (dpX8_stepOverDigits, RX8, cX8_stepOverDigits, 1, none, "stepOverDigits") rvV 74 [(0, .ref (E.1 + a0))] [] (fX8_stepOverDigits_74 a0) := by
  unfold fX8_stepOverDigits_74
  refine sn_aload_n (pc := 74) (j := 0) dX8_stepOverDigits_74 rfl rfl ?_
  refine sn_aload_n (pc := 75) (j := 0) dX8_stepOverDigits_75 rfl rfl ?_
  refine sn_gI (pc := 76) dX8_stepOverDigits_76 flX8_28 rfl (fun v3001 => ?_)
  refine sn_aload_n (pc := 79) (j := 0) dX8_stepOverDigits_79 rfl rfl ?_
  refine sn_gI (pc := 80) dX8_stepOverDigits_80 flX8_44 rfl (fun v3002 => ?_)
  refine sn_isub (pc := 83) dX8_stepOverDigits_83 ?_
  refine sn_iconst (pc := 84) (v := 4) dX8_stepOverDigits_84 (by decide) ?_
  refine sn_icmp_gt (pc := 85) (tgt := 92) dX8_stepOverDigits_85 (by decide) ?_ ?_
  · refine sn_iconst (pc := 92) (v := 4) dX8_stepOverDigits_92 (by decide) ?_
    refine sn_pI (pc := 93) dX8_stepOverDigits_93 flX8_50 rfl rfl (Or.inl rfl) ?_
    exact sn_vret (pc := 96) dX8_stepOverDigits_96 rfl
  · refine sn_iconst (pc := 88) (v := 2) dX8_stepOverDigits_88 (by decide) ?_
    refine sn_goto (pc := 89) (tgt := 93) dX8_stepOverDigits_89 (by decide) ?_
    refine sn_pI (pc := 93) dX8_stepOverDigits_93 flX8_50 rfl rfl (Or.inl rfl) ?_
    exact sn_vret (pc := 96) dX8_stepOverDigits_96 rfl
def fX8_stepOverDigits_0 (k0 : Nat → St → Option (Unit × St)) (a0 : Nat) : St → Option (Unit × St) :=
 gI 9 a0 7 fun v1001 =>
 gI 9 a0 6 fun v1002 =>
 br (v1002 ≤ v1001) (fX8_stepOverDigits_74  a0)
 (gI 9 a0 7 fun v1003 =>
 ck 9 a0 <| cl (fX8_byteAt a0 v1003) fun v1004 =>
 cl (fX8_isDigit v1004) fun v1005 =>
 br ((bi v1005) = 0) (fX8_stepOverDigits_74  a0)
 (gI 9 a0 7 fun v1006 =>
 gI 9 a0 2 fun v1007 =>
 br (4 ≤ (v1006 - v1007)) (fX8_stepOverDigits_61 k0 a0)
 (gI 9 a0 1 fun v1008 =>
 gI 9 a0 7 fun v1009 =>
 ck 9 a0 <| cl (fX8_byteAt a0 v1009) fun v1010 =>
 pI 9 a0 1 (((10 * v1008) + v1010) - 48) <|
 fX8_stepOverDigits_61 k0 a0)))
set_option maxHeartbeats 4000000 in
set_option maxRecDepth 100000 in
theorem sfX8_stepOverDigits_0 {E : Ev} {l : Launch} (k0 : Nat → St → Option (Unit × St)) (hk0 : ∀ p : Nat, Snd E l (dpX8_stepOverDigits, RX8, cX8_stepOverDigits, 1, none, "stepOverDigits") rvV 0 [(0, .ref (E.1 + p))] [] (k0 p)) (a0 : Nat) : Snd E l (dpX8_stepOverDigits, RX8, cX8_stepOverDigits, 1, none, "stepOverDigits") rvV 0 [(0, .ref (E.1 + a0))] [] (fX8_stepOverDigits_0 k0 a0) := by
  unfold fX8_stepOverDigits_0
  refine sn_aload_n (pc := 0) (j := 0) dX8_stepOverDigits_0 rfl rfl ?_
  refine sn_gI (pc := 1) dX8_stepOverDigits_1 flX8_28 rfl (fun v1001 => ?_)
  refine sn_aload_n (pc := 4) (j := 0) dX8_stepOverDigits_4 rfl rfl ?_
  refine sn_gI (pc := 5) dX8_stepOverDigits_5 flX8_24 rfl (fun v1002 => ?_)
  refine sn_icmp_ge (pc := 8) (tgt := 74) dX8_stepOverDigits_8 (by decide) ?_ ?_
  · exact sn_sub (lv' := [(0, .ref (E.1 + a0))]) [0] rfl (sfX8_stepOverDigits_74  a0)
  · refine sn_aload_n (pc := 11) (j := 0) dX8_stepOverDigits_11 rfl rfl ?_
    refine sn_aload_n (pc := 12) (j := 0) dX8_stepOverDigits_12 rfl rfl ?_
    refine sn_gI (pc := 13) dX8_stepOverDigits_13 flX8_28 rfl (fun v1003 => ?_)
    refine sn_callV (ci := 8) (pc := 16) dX8_stepOverDigits_16 iX8_byteAt wt2_127 ws_0 wt2_125 ⟨_, rfl, rfl⟩ (by decide) (mX8_byteAt a0 v1003) (by decide) rfl rfl (Nat.le_of_ble_eq_true rfl) (fun v1004 => ?_)
    refine sn_callS (pc := 19) dX8_stepOverDigits_19 iX8_isDigit wt2_133 wt2_132 (mX8_isDigit v1004) (by decide) rfl rfl (Nat.le_of_ble_eq_true rfl) (fun v1005 => ?_)
    refine sn_if_eq (pc := 22) (tgt := 74) dX8_stepOverDigits_22 (by decide) ?_ ?_
    · exact sn_sub (lv' := [(0, .ref (E.1 + a0))]) [0] rfl (sfX8_stepOverDigits_74  a0)
    · refine sn_aload_n (pc := 25) (j := 0) dX8_stepOverDigits_25 rfl rfl ?_
      refine sn_gI (pc := 26) dX8_stepOverDigits_26 flX8_28 rfl (fun v1006 => ?_)
      refine sn_aload_n (pc := 29) (j := 0) dX8_stepOverDigits_29 rfl rfl ?_
      refine sn_gI (pc := 30) dX8_stepOverDigits_30 flX8_44 rfl (fun v1007 => ?_)
      refine sn_isub (pc := 33) dX8_stepOverDigits_33 ?_
      refine sn_iconst (pc := 34) (v := 4) dX8_stepOverDigits_34 (by decide) ?_
      refine sn_icmp_ge (pc := 35) (tgt := 61) dX8_stepOverDigits_35 (by decide) ?_ ?_
      · exact sn_sub (lv' := [(0, .ref (E.1 + a0))]) [0] rfl (sfX8_stepOverDigits_61 k0 hk0 a0)
      · refine sn_aload_n (pc := 38) (j := 0) dX8_stepOverDigits_38 rfl rfl ?_
        refine sn_bipush (pc := 39) (v := 10) dX8_stepOverDigits_39 (by decide) ?_
        refine sn_aload_n (pc := 41) (j := 0) dX8_stepOverDigits_41 rfl rfl ?_
        refine sn_gI (pc := 42) dX8_stepOverDigits_42 flX8_47 rfl (fun v1008 => ?_)
        refine sn_imul (pc := 45) dX8_stepOverDigits_45 ?_
        refine sn_aload_n (pc := 46) (j := 0) dX8_stepOverDigits_46 rfl rfl ?_
        refine sn_aload_n (pc := 47) (j := 0) dX8_stepOverDigits_47 rfl rfl ?_
        refine sn_gI (pc := 48) dX8_stepOverDigits_48 flX8_28 rfl (fun v1009 => ?_)
        refine sn_callV (ci := 8) (pc := 51) dX8_stepOverDigits_51 iX8_byteAt wt2_127 ws_0 wt2_125 ⟨_, rfl, rfl⟩ (by decide) (mX8_byteAt a0 v1009) (by decide) rfl rfl (Nat.le_of_ble_eq_true rfl) (fun v1010 => ?_)
        refine sn_iadd (pc := 54) dX8_stepOverDigits_54 ?_
        refine sn_bipush (pc := 55) (v := 48) dX8_stepOverDigits_55 (by decide) ?_
        refine sn_isub (pc := 57) dX8_stepOverDigits_57 ?_
        refine sn_pI (pc := 58) dX8_stepOverDigits_58 flX8_47 rfl rfl (Or.inl rfl) ?_
        exact sn_sub (lv' := [(0, .ref (E.1 + a0))]) [0] rfl (sfX8_stepOverDigits_61 k0 hk0 a0)
def fX8_stepOverDigits (a0 : Nat) : St → Option (Unit × St) :=
 itr (fun k (p : Nat) => fX8_stepOverDigits_0  k p) FU a0
set_option maxHeartbeats 4000000 in
set_option maxRecDepth 100000 in
theorem mX8_stepOverDigits {E : Ev} {l : Launch} (a0 : Nat) : MF E l dpX8_stepOverDigits yX8_stepOverDigits cX8_stepOverDigits 1 none rvV [.ref (E.1 + a0)] (fX8_stepOverDigits a0) := by
  refine MF.of (lv := [(0, .ref (E.1 + a0))]) (by decide) (Nat.le_of_ble_eq_true rfl) rfl ?_
  unfold fX8_stepOverDigits
  exact sn_sub (lv' := [(0, .ref (E.1 + a0))]) [0] rfl (sn_itr (lvf := fun p => [(0, .ref (E.1 + p))]) (stf := fun p => []) (fun k hk p => sfX8_stepOverDigits_0  k hk p) FU a0)
theorem iX8_stepOverDigits : MI yX8_stepOverDigits cX8_stepOverDigits 1 none 0 := ⟨wt1_5, wt2_138, by decide +kernel, by decide⟩
-- NeedleHomes$Reader step()V
theorem dX8_step_0 : decode cX8_step 0 = .ok (.aload_n 0, 1) := by decide +kernel
theorem dX8_step_1 : decode cX8_step 1 = .ok (.getfield 28, 3) := by decide +kernel
theorem dX8_step_4 : decode cX8_step 4 = .ok (.aload_n 0, 1) := by decide +kernel
theorem dX8_step_5 : decode cX8_step 5 = .ok (.getfield 24, 3) := by decide +kernel
theorem dX8_step_8 : decode cX8_step 8 = .ok (.if_icmp .ge 42, 3) := by decide +kernel
theorem dX8_step_11 : decode cX8_step 11 = .ok (.aload_n 0, 1) := by decide +kernel
theorem dX8_step_12 : decode cX8_step 12 = .ok (.aload_n 0, 1) := by decide +kernel
theorem dX8_step_13 : decode cX8_step 13 = .ok (.getfield 28, 3) := by decide +kernel
theorem dX8_step_16 : decode cX8_step 16 = .ok (.invokevirtual 40, 3) := by decide +kernel
theorem dX8_step_19 : decode cX8_step 19 = .ok (.bipush 32, 2) := by decide +kernel
theorem dX8_step_21 : decode cX8_step 21 = .ok (.if_icmp .eq 16, 3) := by decide +kernel
theorem dX8_step_24 : decode cX8_step 24 = .ok (.aload_n 0, 1) := by decide +kernel
theorem dX8_step_25 : decode cX8_step 25 = .ok (.aload_n 0, 1) := by decide +kernel
theorem dX8_step_26 : decode cX8_step 26 = .ok (.getfield 28, 3) := by decide +kernel
theorem dX8_step_29 : decode cX8_step 29 = .ok (.invokevirtual 40, 3) := by decide +kernel
theorem dX8_step_32 : decode cX8_step 32 = .ok (.bipush 10, 2) := by decide +kernel
theorem dX8_step_34 : decode cX8_step 34 = .ok (.if_icmp .ne 16, 3) := by decide +kernel
theorem dX8_step_37 : decode cX8_step 37 = .ok (.aload_n 0, 1) := by decide +kernel
theorem dX8_step_38 : decode cX8_step 38 = .ok (.dup, 1) := by decide +kernel
theorem dX8_step_39 : decode cX8_step 39 = .ok (.getfield 28, 3) := by decide +kernel
theorem dX8_step_42 : decode cX8_step 42 = .ok (.iconst 1, 1) := by decide +kernel
theorem dX8_step_43 : decode cX8_step 43 = .ok (.iadd, 1) := by decide +kernel
theorem dX8_step_44 : decode cX8_step 44 = .ok (.putfield 28, 3) := by decide +kernel
theorem dX8_step_47 : decode cX8_step 47 = .ok (.goto (-47), 3) := by decide +kernel
theorem dX8_step_50 : decode cX8_step 50 = .ok (.aload_n 0, 1) := by decide +kernel
theorem dX8_step_51 : decode cX8_step 51 = .ok (.aload_n 0, 1) := by decide +kernel
theorem dX8_step_52 : decode cX8_step 52 = .ok (.getfield 28, 3) := by decide +kernel
theorem dX8_step_55 : decode cX8_step 55 = .ok (.putfield 44, 3) := by decide +kernel
theorem dX8_step_58 : decode cX8_step 58 = .ok (.aload_n 0, 1) := by decide +kernel
theorem dX8_step_59 : decode cX8_step 59 = .ok (.iconst 0, 1) := by decide +kernel
theorem dX8_step_60 : decode cX8_step 60 = .ok (.putfield 47, 3) := by decide +kernel
theorem dX8_step_63 : decode cX8_step 63 = .ok (.aload_n 0, 1) := by decide +kernel
theorem dX8_step_64 : decode cX8_step 64 = .ok (.aload_n 0, 1) := by decide +kernel
theorem dX8_step_65 : decode cX8_step 65 = .ok (.getfield 28, 3) := by decide +kernel
theorem dX8_step_68 : decode cX8_step 68 = .ok (.invokevirtual 40, 3) := by decide +kernel
theorem dX8_step_71 : decode cX8_step 71 = .ok (.istore_n 1, 1) := by decide +kernel
theorem dX8_step_72 : decode cX8_step 72 = .ok (.aload_n 0, 1) := by decide +kernel
theorem dX8_step_73 : decode cX8_step 73 = .ok (.getfield 28, 3) := by decide +kernel
theorem dX8_step_76 : decode cX8_step 76 = .ok (.aload_n 0, 1) := by decide +kernel
theorem dX8_step_77 : decode cX8_step 77 = .ok (.getfield 24, 3) := by decide +kernel
theorem dX8_step_80 : decode cX8_step 80 = .ok (.if_icmp .lt 11, 3) := by decide +kernel
theorem dX8_step_83 : decode cX8_step 83 = .ok (.aload_n 0, 1) := by decide +kernel
theorem dX8_step_84 : decode cX8_step 84 = .ok (.iconst 0, 1) := by decide +kernel
theorem dX8_step_85 : decode cX8_step 85 = .ok (.putfield 50, 3) := by decide +kernel
theorem dX8_step_88 : decode cX8_step 88 = .ok (.goto 93, 3) := by decide +kernel
theorem dX8_step_91 : decode cX8_step 91 = .ok (.iload_n 1, 1) := by decide +kernel
theorem dX8_step_92 : decode cX8_step 92 = .ok (.invokestatic 53, 3) := by decide +kernel
theorem dX8_step_95 : decode cX8_step 95 = .ok (.ifCond .eq 46, 3) := by decide +kernel
theorem dX8_step_98 : decode cX8_step 98 = .ok (.aload_n 0, 1) := by decide +kernel
theorem dX8_step_99 : decode cX8_step 99 = .ok (.iconst 1, 1) := by decide +kernel
theorem dX8_step_100 : decode cX8_step 100 = .ok (.putfield 50, 3) := by decide +kernel
theorem dX8_step_103 : decode cX8_step 103 = .ok (.aload_n 0, 1) := by decide +kernel
theorem dX8_step_104 : decode cX8_step 104 = .ok (.getfield 28, 3) := by decide +kernel
theorem dX8_step_107 : decode cX8_step 107 = .ok (.aload_n 0, 1) := by decide +kernel
theorem dX8_step_108 : decode cX8_step 108 = .ok (.getfield 24, 3) := by decide +kernel
theorem dX8_step_111 : decode cX8_step 111 = .ok (.if_icmp .ge 70, 3) := by decide +kernel
theorem dX8_step_114 : decode cX8_step 114 = .ok (.aload_n 0, 1) := by decide +kernel
theorem dX8_step_115 : decode cX8_step 115 = .ok (.aload_n 0, 1) := by decide +kernel
theorem dX8_step_116 : decode cX8_step 116 = .ok (.getfield 28, 3) := by decide +kernel
theorem dX8_step_119 : decode cX8_step 119 = .ok (.invokevirtual 40, 3) := by decide +kernel
theorem dX8_step_122 : decode cX8_step 122 = .ok (.invokestatic 53, 3) := by decide +kernel
theorem dX8_step_125 : decode cX8_step 125 = .ok (.ifCond .eq 56, 3) := by decide +kernel
theorem dX8_step_128 : decode cX8_step 128 = .ok (.aload_n 0, 1) := by decide +kernel
theorem dX8_step_129 : decode cX8_step 129 = .ok (.dup, 1) := by decide +kernel
theorem dX8_step_130 : decode cX8_step 130 = .ok (.getfield 28, 3) := by decide +kernel
theorem dX8_step_133 : decode cX8_step 133 = .ok (.iconst 1, 1) := by decide +kernel
theorem dX8_step_134 : decode cX8_step 134 = .ok (.iadd, 1) := by decide +kernel
theorem dX8_step_135 : decode cX8_step 135 = .ok (.putfield 28, 3) := by decide +kernel
theorem dX8_step_138 : decode cX8_step 138 = .ok (.goto (-35), 3) := by decide +kernel
theorem dX8_step_141 : decode cX8_step 141 = .ok (.iload_n 1, 1) := by decide +kernel
theorem dX8_step_142 : decode cX8_step 142 = .ok (.invokestatic 57, 3) := by decide +kernel
theorem dX8_step_145 : decode cX8_step 145 = .ok (.ifCond .eq 10, 3) := by decide +kernel
theorem dX8_step_148 : decode cX8_step 148 = .ok (.aload_n 0, 1) := by decide +kernel
theorem dX8_step_149 : decode cX8_step 149 = .ok (.invokevirtual 60, 3) := by decide +kernel
theorem dX8_step_152 : decode cX8_step 152 = .ok (.goto 29, 3) := by decide +kernel
theorem dX8_step_155 : decode cX8_step 155 = .ok (.aload_n 0, 1) := by decide +kernel
theorem dX8_step_156 : decode cX8_step 156 = .ok (.iload_n 1, 1) := by decide +kernel
theorem dX8_step_157 : decode cX8_step 157 = .ok (.invokestatic 63, 3) := by decide +kernel
theorem dX8_step_160 : decode cX8_step 160 = .ok (.ifCond .eq 7, 3) := by decide +kernel
theorem dX8_step_163 : decode cX8_step 163 = .ok (.iconst 3, 1) := by decide +kernel
theorem dX8_step_164 : decode cX8_step 164 = .ok (.goto 4, 3) := by decide +kernel
theorem dX8_step_167 : decode cX8_step 167 = .ok (.iconst 4, 1) := by decide +kernel
theorem dX8_step_168 : decode cX8_step 168 = .ok (.putfield 50, 3) := by decide +kernel
theorem dX8_step_171 : decode cX8_step 171 = .ok (.aload_n 0, 1) := by decide +kernel
theorem dX8_step_172 : decode cX8_step 172 = .ok (.dup, 1) := by decide +kernel
theorem dX8_step_173 : decode cX8_step 173 = .ok (.getfield 28, 3) := by decide +kernel
theorem dX8_step_176 : decode cX8_step 176 = .ok (.iconst 1, 1) := by decide +kernel
theorem dX8_step_177 : decode cX8_step 177 = .ok (.iadd, 1) := by decide +kernel
theorem dX8_step_178 : decode cX8_step 178 = .ok (.putfield 28, 3) := by decide +kernel
theorem dX8_step_181 : decode cX8_step 181 = .ok (.return_, 1) := by decide +kernel
abbrev dpX8_step : Nat := 2
def fX8_step_37 (k0 : Nat → St → Option (Unit × St)) (a0 : Nat) : St → Option (Unit × St) :=
 gI 9 a0 7 fun v2001 =>
 pI 9 a0 7 (v2001 + 1) <|
 k0 a0
set_option maxHeartbeats 4000000 in
set_option maxRecDepth 100000 in
theorem sfX8_step_37 {E : Ev} {l : Launch} (k0 : Nat → St → Option (Unit × St)) (hk0 : ∀ p : Nat, Snd E l (dpX8_step, RX8, cX8_step, 2, none, "step") rvV 0 [(0, .ref (E.1 + p))] [] (k0 p)) (a0 : Nat) : Snd E l (dpX8_step, RX8, cX8_step, 2, none, "step") rvV 37 [(0, .ref (E.1 + a0))] [] (fX8_step_37 k0 a0) := by
  unfold fX8_step_37
  refine sn_aload_n (pc := 37) (j := 0) dX8_step_37 rfl rfl ?_
  refine sn_dup (pc := 38) dX8_step_38 rfl ?_
  refine sn_gI (pc := 39) dX8_step_39 flX8_28 rfl (fun v2001 => ?_)
  refine sn_iconst (pc := 42) (v := 1) dX8_step_42 (by decide) ?_
  refine sn_iadd (pc := 43) dX8_step_43 ?_
  refine sn_pI (pc := 44) dX8_step_44 flX8_28 rfl rfl (Or.inl rfl) ?_
  refine sn_goto (pc := 47) (tgt := 0) dX8_step_47 (by decide) ?_
  exact sn_sub (lv' := [(0, .ref (E.1 + a0))]) [0] rfl (hk0 a0)
def fX8_step_103 (k103 : Nat → St → Option (Unit × St)) (a0 : Nat) : St → Option (Unit × St) :=
 gI 9 a0 7 fun v4001 =>
 gI 9 a0 6 fun v4002 =>
 br (v4002 ≤ v4001) (rt ())
 (gI 9 a0 7 fun v4003 =>
 ck 9 a0 <| cl (fX8_byteAt a0 v4003) fun v4004 =>
 cl (fX8_isLetter v4004) fun v4005 =>
 br ((bi v4005) = 0) (rt ())
 (gI 9 a0 7 fun v4006 =>
 pI 9 a0 7 (v4006 + 1) <|
 k103 a0))
set_option maxHeartbeats 4000000 in
set_option maxRecDepth 100000 in
theorem sfX8_step_103 {E : Ev} {l : Launch} (k103 : Nat → St → Option (Unit × St)) (hk103 : ∀ p : Nat, Snd E l (dpX8_step, RX8, cX8_step, 2, none, "step") rvV 103 [(0, .ref (E.1 + p))] [] (k103 p)) (a0 : Nat) : Snd E l (dpX8_step, RX8, cX8_step, 2, none, "step") rvV 103 [(0, .ref (E.1 + a0))] [] (fX8_step_103 k103 a0) := by
  unfold fX8_step_103
  refine sn_aload_n (pc := 103) (j := 0) dX8_step_103 rfl rfl ?_
  refine sn_gI (pc := 104) dX8_step_104 flX8_28 rfl (fun v4001 => ?_)
  refine sn_aload_n (pc := 107) (j := 0) dX8_step_107 rfl rfl ?_
  refine sn_gI (pc := 108) dX8_step_108 flX8_24 rfl (fun v4002 => ?_)
  refine sn_icmp_ge (pc := 111) (tgt := 181) dX8_step_111 (by decide) ?_ ?_
  · exact sn_vret (pc := 181) dX8_step_181 rfl
  · refine sn_aload_n (pc := 114) (j := 0) dX8_step_114 rfl rfl ?_
    refine sn_aload_n (pc := 115) (j := 0) dX8_step_115 rfl rfl ?_
    refine sn_gI (pc := 116) dX8_step_116 flX8_28 rfl (fun v4003 => ?_)
    refine sn_callV (ci := 8) (pc := 119) dX8_step_119 iX8_byteAt wt2_127 ws_0 wt2_125 ⟨_, rfl, rfl⟩ (by decide) (mX8_byteAt a0 v4003) (by decide) rfl rfl (Nat.le_of_ble_eq_true rfl) (fun v4004 => ?_)
    refine sn_callS (pc := 122) dX8_step_122 iX8_isLetter wt2_130 wt2_129 (mX8_isLetter v4004) (by decide) rfl rfl (Nat.le_of_ble_eq_true rfl) (fun v4005 => ?_)
    refine sn_if_eq (pc := 125) (tgt := 181) dX8_step_125 (by decide) ?_ ?_
    · exact sn_vret (pc := 181) dX8_step_181 rfl
    · refine sn_aload_n (pc := 128) (j := 0) dX8_step_128 rfl rfl ?_
      refine sn_dup (pc := 129) dX8_step_129 rfl ?_
      refine sn_gI (pc := 130) dX8_step_130 flX8_28 rfl (fun v4006 => ?_)
      refine sn_iconst (pc := 133) (v := 1) dX8_step_133 (by decide) ?_
      refine sn_iadd (pc := 134) dX8_step_134 ?_
      refine sn_pI (pc := 135) dX8_step_135 flX8_28 rfl rfl (Or.inl rfl) ?_
      refine sn_goto (pc := 138) (tgt := 103) dX8_step_138 (by decide) ?_
      exact sn_sub (lv' := [(0, .ref (E.1 + a0))]) [0] rfl (hk103 a0)
def fX8_step_168 (a0 : Nat) (y0 : Int32) (y1 : Nat) : St → Option (Unit × St) :=
 pI 9 y1 0 y0 <|
 gI 9 a0 7 fun v5001 =>
 pI 9 a0 7 (v5001 + 1) <|
 rt ()
set_option maxHeartbeats 4000000 in
set_option maxRecDepth 100000 in
theorem sfX8_step_168 {E : Ev} {l : Launch} (a0 : Nat) (y0 : Int32) (y1 : Nat) : Snd E l (dpX8_step, RX8, cX8_step, 2, none, "step") rvV 168 [(0, .ref (E.1 + a0))] [.int y0, .ref (E.1 + y1)] (fX8_step_168 a0 y0 y1) := by
  unfold fX8_step_168
  refine sn_pI (pc := 168) dX8_step_168 flX8_50 rfl rfl (Or.inl rfl) ?_
  refine sn_aload_n (pc := 171) (j := 0) dX8_step_171 rfl rfl ?_
  refine sn_dup (pc := 172) dX8_step_172 rfl ?_
  refine sn_gI (pc := 173) dX8_step_173 flX8_28 rfl (fun v5001 => ?_)
  refine sn_iconst (pc := 176) (v := 1) dX8_step_176 (by decide) ?_
  refine sn_iadd (pc := 177) dX8_step_177 ?_
  refine sn_pI (pc := 178) dX8_step_178 flX8_28 rfl rfl (Or.inl rfl) ?_
  exact sn_vret (pc := 181) dX8_step_181 rfl
def fX8_step_50 (a0 : Nat) : St → Option (Unit × St) :=
 gI 9 a0 7 fun v3001 =>
 pI 9 a0 2 v3001 <|
 pI 9 a0 1 0 <|
 gI 9 a0 7 fun v3002 =>
 ck 9 a0 <| cl (fX8_byteAt a0 v3002) fun v3003 =>
 gI 9 a0 7 fun v3004 =>
 gI 9 a0 6 fun v3005 =>
 br (v3004 < v3005) (cl (fX8_isLetter v3003) fun v3006 =>
 br ((bi v3006) = 0) (cl (fX8_isDigit v3003) fun v3007 =>
 br ((bi v3007) = 0) (cl (fX8_isSignByte v3003) fun v3008 =>
 br ((bi v3008) = 0) (fX8_step_168  a0 4 a0)
 (fX8_step_168  a0 3 a0))
 (ck 9 a0 <| cl (fX8_stepOverDigits a0) fun v3009 =>
 rt ()))
 (pI 9 a0 0 1 <|
 itr (fun k (p : Nat) => fX8_step_103  k p) FU a0))
 (pI 9 a0 0 0 <|
 rt ())
set_option maxHeartbeats 4000000 in
set_option maxRecDepth 100000 in
theorem sfX8_step_50 {E : Ev} {l : Launch} (a0 : Nat) : Snd E l (dpX8_step, RX8, cX8_step, 2, none, "step") rvV 50 [(0, .ref (E.1 + a0))] [] (fX8_step_50 a0) := by
  unfold fX8_step_50
  refine sn_aload_n (pc := 50) (j := 0) dX8_step_50 rfl rfl ?_
  refine sn_aload_n (pc := 51) (j := 0) dX8_step_51 rfl rfl ?_
  refine sn_gI (pc := 52) dX8_step_52 flX8_28 rfl (fun v3001 => ?_)
  refine sn_pI (pc := 55) dX8_step_55 flX8_44 rfl rfl (Or.inl rfl) ?_
  refine sn_aload_n (pc := 58) (j := 0) dX8_step_58 rfl rfl ?_
  refine sn_iconst (pc := 59) (v := 0) dX8_step_59 (by decide) ?_
  refine sn_pI (pc := 60) dX8_step_60 flX8_47 rfl rfl (Or.inl rfl) ?_
  refine sn_aload_n (pc := 63) (j := 0) dX8_step_63 rfl rfl ?_
  refine sn_aload_n (pc := 64) (j := 0) dX8_step_64 rfl rfl ?_
  refine sn_gI (pc := 65) dX8_step_65 flX8_28 rfl (fun v3002 => ?_)
  refine sn_callV (ci := 8) (pc := 68) dX8_step_68 iX8_byteAt wt2_127 ws_0 wt2_125 ⟨_, rfl, rfl⟩ (by decide) (mX8_byteAt a0 v3002) (by decide) rfl rfl (Nat.le_of_ble_eq_true rfl) (fun v3003 => ?_)
  refine sn_istore_n (pc := 71) (i := 1) (lv' := [(1, .int v3003), (0, .ref (E.1 + a0))]) dX8_step_71 rfl (by decide) rfl ?_
  refine sn_aload_n (pc := 72) (j := 1) dX8_step_72 rfl rfl ?_
  refine sn_gI (pc := 73) dX8_step_73 flX8_28 rfl (fun v3004 => ?_)
  refine sn_aload_n (pc := 76) (j := 1) dX8_step_76 rfl rfl ?_
  refine sn_gI (pc := 77) dX8_step_77 flX8_24 rfl (fun v3005 => ?_)
  refine sn_icmp_lt (pc := 80) (tgt := 91) dX8_step_80 (by decide) ?_ ?_
  · refine sn_iload_n (pc := 91) (j := 0) dX8_step_91 rfl rfl ?_
    refine sn_callS (pc := 92) dX8_step_92 iX8_isLetter wt2_130 wt2_129 (mX8_isLetter v3003) (by decide) rfl rfl (Nat.le_of_ble_eq_true rfl) (fun v3006 => ?_)
    refine sn_if_eq (pc := 95) (tgt := 141) dX8_step_95 (by decide) ?_ ?_
    · refine sn_iload_n (pc := 141) (j := 0) dX8_step_141 rfl rfl ?_
      refine sn_callS (pc := 142) dX8_step_142 iX8_isDigit wt2_133 wt2_132 (mX8_isDigit v3003) (by decide) rfl rfl (Nat.le_of_ble_eq_true rfl) (fun v3007 => ?_)
      refine sn_if_eq (pc := 145) (tgt := 155) dX8_step_145 (by decide) ?_ ?_
      · refine sn_aload_n (pc := 155) (j := 1) dX8_step_155 rfl rfl ?_
        refine sn_iload_n (pc := 156) (j := 0) dX8_step_156 rfl rfl ?_
        refine sn_callS (pc := 157) dX8_step_157 iX8_isSignByte wt2_140 wt2_139 (mX8_isSignByte v3003) (by decide) rfl rfl (Nat.le_of_ble_eq_true rfl) (fun v3008 => ?_)
        refine sn_if_eq (pc := 160) (tgt := 167) dX8_step_160 (by decide) ?_ ?_
        · refine sn_iconst (pc := 167) (v := 4) dX8_step_167 (by decide) ?_
          exact sn_sub (lv' := [(0, .ref (E.1 + a0))]) [1] rfl (sfX8_step_168  a0 4 a0)
        · refine sn_iconst (pc := 163) (v := 3) dX8_step_163 (by decide) ?_
          refine sn_goto (pc := 164) (tgt := 168) dX8_step_164 (by decide) ?_
          exact sn_sub (lv' := [(0, .ref (E.1 + a0))]) [1] rfl (sfX8_step_168  a0 3 a0)
      · refine sn_aload_n (pc := 148) (j := 1) dX8_step_148 rfl rfl ?_
        refine sn_callV (ci := 8) (pc := 149) dX8_step_149 iX8_stepOverDigits wt2_137 ws_1 wt2_135 ⟨_, rfl, rfl⟩ (by decide) (mX8_stepOverDigits a0) (by decide) rfl rfl (Nat.le_of_ble_eq_true rfl) (fun v3009 => ?_)
        refine sn_goto (pc := 152) (tgt := 181) dX8_step_152 (by decide) ?_
        exact sn_vret (pc := 181) dX8_step_181 rfl
    · refine sn_aload_n (pc := 98) (j := 1) dX8_step_98 rfl rfl ?_
      refine sn_iconst (pc := 99) (v := 1) dX8_step_99 (by decide) ?_
      refine sn_pI (pc := 100) dX8_step_100 flX8_50 rfl rfl (Or.inl rfl) ?_
      exact sn_sub (lv' := [(0, .ref (E.1 + a0))]) [1] rfl (sn_itr (lvf := fun p => [(0, .ref (E.1 + p))]) (stf := fun p => []) (fun k hk p => sfX8_step_103  k hk p) FU a0)
  · refine sn_aload_n (pc := 83) (j := 1) dX8_step_83 rfl rfl ?_
    refine sn_iconst (pc := 84) (v := 0) dX8_step_84 (by decide) ?_
    refine sn_pI (pc := 85) dX8_step_85 flX8_50 rfl rfl (Or.inl rfl) ?_
    refine sn_goto (pc := 88) (tgt := 181) dX8_step_88 (by decide) ?_
    exact sn_vret (pc := 181) dX8_step_181 rfl
def fX8_step_0 (k0 : Nat → St → Option (Unit × St)) (a0 : Nat) : St → Option (Unit × St) :=
 gI 9 a0 7 fun v1001 =>
 gI 9 a0 6 fun v1002 =>
 br (v1002 ≤ v1001) (fX8_step_50  a0)
 (gI 9 a0 7 fun v1003 =>
 ck 9 a0 <| cl (fX8_byteAt a0 v1003) fun v1004 =>
 br (v1004 = 32) (fX8_step_37 k0 a0)
 (gI 9 a0 7 fun v1005 =>
 ck 9 a0 <| cl (fX8_byteAt a0 v1005) fun v1006 =>
 br (v1006 = 10) (fX8_step_37 k0 a0)
 (fX8_step_50  a0)))
set_option maxHeartbeats 4000000 in
set_option maxRecDepth 100000 in
theorem sfX8_step_0 {E : Ev} {l : Launch} (k0 : Nat → St → Option (Unit × St)) (hk0 : ∀ p : Nat, Snd E l (dpX8_step, RX8, cX8_step, 2, none, "step") rvV 0 [(0, .ref (E.1 + p))] [] (k0 p)) (a0 : Nat) : Snd E l (dpX8_step, RX8, cX8_step, 2, none, "step") rvV 0 [(0, .ref (E.1 + a0))] [] (fX8_step_0 k0 a0) := by
  unfold fX8_step_0
  refine sn_aload_n (pc := 0) (j := 0) dX8_step_0 rfl rfl ?_
  refine sn_gI (pc := 1) dX8_step_1 flX8_28 rfl (fun v1001 => ?_)
  refine sn_aload_n (pc := 4) (j := 0) dX8_step_4 rfl rfl ?_
  refine sn_gI (pc := 5) dX8_step_5 flX8_24 rfl (fun v1002 => ?_)
  refine sn_icmp_ge (pc := 8) (tgt := 50) dX8_step_8 (by decide) ?_ ?_
  · exact sn_sub (lv' := [(0, .ref (E.1 + a0))]) [0] rfl (sfX8_step_50  a0)
  · refine sn_aload_n (pc := 11) (j := 0) dX8_step_11 rfl rfl ?_
    refine sn_aload_n (pc := 12) (j := 0) dX8_step_12 rfl rfl ?_
    refine sn_gI (pc := 13) dX8_step_13 flX8_28 rfl (fun v1003 => ?_)
    refine sn_callV (ci := 8) (pc := 16) dX8_step_16 iX8_byteAt wt2_127 ws_0 wt2_125 ⟨_, rfl, rfl⟩ (by decide) (mX8_byteAt a0 v1003) (by decide) rfl rfl (Nat.le_of_ble_eq_true rfl) (fun v1004 => ?_)
    refine sn_bipush (pc := 19) (v := 32) dX8_step_19 (by decide) ?_
    refine sn_icmp_eq (pc := 21) (tgt := 37) dX8_step_21 (by decide) ?_ ?_
    · exact sn_sub (lv' := [(0, .ref (E.1 + a0))]) [0] rfl (sfX8_step_37 k0 hk0 a0)
    · refine sn_aload_n (pc := 24) (j := 0) dX8_step_24 rfl rfl ?_
      refine sn_aload_n (pc := 25) (j := 0) dX8_step_25 rfl rfl ?_
      refine sn_gI (pc := 26) dX8_step_26 flX8_28 rfl (fun v1005 => ?_)
      refine sn_callV (ci := 8) (pc := 29) dX8_step_29 iX8_byteAt wt2_127 ws_0 wt2_125 ⟨_, rfl, rfl⟩ (by decide) (mX8_byteAt a0 v1005) (by decide) rfl rfl (Nat.le_of_ble_eq_true rfl) (fun v1006 => ?_)
      refine sn_bipush (pc := 32) (v := 10) dX8_step_32 (by decide) ?_
      refine sn_icmp_ne (pc := 34) (tgt := 50) dX8_step_34 (by decide) ?_ ?_
      · exact sn_sub (lv' := [(0, .ref (E.1 + a0))]) [0] rfl (sfX8_step_50  a0)
      · exact sn_sub (lv' := [(0, .ref (E.1 + a0))]) [0] rfl (sfX8_step_37 k0 hk0 a0)
def fX8_step (a0 : Nat) : St → Option (Unit × St) :=
 itr (fun k (p : Nat) => fX8_step_0  k p) FU a0
set_option maxHeartbeats 4000000 in
set_option maxRecDepth 100000 in
theorem mX8_step {E : Ev} {l : Launch} (a0 : Nat) : MF E l dpX8_step yX8_step cX8_step 2 none rvV [.ref (E.1 + a0)] (fX8_step a0) := by
  refine MF.of (lv := [(0, .ref (E.1 + a0))]) (by decide) (Nat.le_of_ble_eq_true rfl) rfl ?_
  unfold fX8_step
  exact sn_sub (lv' := [(0, .ref (E.1 + a0))]) [0] rfl (sn_itr (lvf := fun p => [(0, .ref (E.1 + p))]) (stf := fun p => []) (fun k hk p => sfX8_step_0  k hk p) FU a0)
theorem iX8_step : MI yX8_step cX8_step 2 none 0 := ⟨wt1_5, wt2_124, by decide +kernel, by decide⟩
-- NeedleHomes$ListReader readNumber(II)Z
theorem dX3_readNumber_0 : decode cX3_readNumber 0 = .ok (.aload_n 0, 1) := by decide +kernel
theorem dX3_readNumber_1 : decode cX3_readNumber 1 = .ok (.getfield 12, 3) := by decide +kernel
theorem dX3_readNumber_4 : decode cX3_readNumber 4 = .ok (.bipush 58, 2) := by decide +kernel
theorem dX3_readNumber_6 : decode cX3_readNumber 6 = .ok (.invokevirtual 105, 3) := by decide +kernel
theorem dX3_readNumber_9 : decode cX3_readNumber 9 = .ok (.ifCond .ne 11, 3) := by decide +kernel
theorem dX3_readNumber_12 : decode cX3_readNumber 12 = .ok (.aload_n 0, 1) := by decide +kernel
theorem dX3_readNumber_13 : decode cX3_readNumber 13 = .ok (.getfield 12, 3) := by decide +kernel
theorem dX3_readNumber_16 : decode cX3_readNumber 16 = .ok (.invokevirtual 52, 3) := by decide +kernel
theorem dX3_readNumber_19 : decode cX3_readNumber 19 = .ok (.ireturn, 1) := by decide +kernel
theorem dX3_readNumber_20 : decode cX3_readNumber 20 = .ok (.aload_n 0, 1) := by decide +kernel
theorem dX3_readNumber_21 : decode cX3_readNumber 21 = .ok (.getfield 12, 3) := by decide +kernel
theorem dX3_readNumber_24 : decode cX3_readNumber 24 = .ok (.invokevirtual 67, 3) := by decide +kernel
theorem dX3_readNumber_27 : decode cX3_readNumber 27 = .ok (.aload_n 0, 1) := by decide +kernel
theorem dX3_readNumber_28 : decode cX3_readNumber 28 = .ok (.getfield 12, 3) := by decide +kernel
theorem dX3_readNumber_31 : decode cX3_readNumber 31 = .ok (.getfield 41, 3) := by decide +kernel
theorem dX3_readNumber_34 : decode cX3_readNumber 34 = .ok (.iconst 2, 1) := by decide +kernel
theorem dX3_readNumber_35 : decode cX3_readNumber 35 = .ok (.if_icmp .eq 11, 3) := by decide +kernel
theorem dX3_readNumber_38 : decode cX3_readNumber 38 = .ok (.aload_n 0, 1) := by decide +kernel
theorem dX3_readNumber_39 : decode cX3_readNumber 39 = .ok (.getfield 12, 3) := by decide +kernel
theorem dX3_readNumber_42 : decode cX3_readNumber 42 = .ok (.invokevirtual 52, 3) := by decide +kernel
theorem dX3_readNumber_45 : decode cX3_readNumber 45 = .ok (.ireturn, 1) := by decide +kernel
theorem dX3_readNumber_46 : decode cX3_readNumber 46 = .ok (.iload_n 2, 1) := by decide +kernel
theorem dX3_readNumber_47 : decode cX3_readNumber 47 = .ok (.iconst 5, 1) := by decide +kernel
theorem dX3_readNumber_48 : decode cX3_readNumber 48 = .ok (.if_icmp .ne 30, 3) := by decide +kernel
theorem dX3_readNumber_51 : decode cX3_readNumber 51 = .ok (.aload_n 0, 1) := by decide +kernel
theorem dX3_readNumber_52 : decode cX3_readNumber 52 = .ok (.getfield 12, 3) := by decide +kernel
theorem dX3_readNumber_55 : decode cX3_readNumber 55 = .ok (.getfield 102, 3) := by decide +kernel
theorem dX3_readNumber_58 : decode cX3_readNumber 58 = .ok (.bipush 100, 2) := by decide +kernel
theorem dX3_readNumber_60 : decode cX3_readNumber 60 = .ok (.if_icmp .le 18, 3) := by decide +kernel
theorem dX3_readNumber_63 : decode cX3_readNumber 63 = .ok (.aload_n 0, 1) := by decide +kernel
theorem dX3_readNumber_64 : decode cX3_readNumber 64 = .ok (.getfield 12, 3) := by decide +kernel
theorem dX3_readNumber_67 : decode cX3_readNumber 67 = .ok (.iconst 2, 1) := by decide +kernel
theorem dX3_readNumber_68 : decode cX3_readNumber 68 = .ok (.aload_n 0, 1) := by decide +kernel
theorem dX3_readNumber_69 : decode cX3_readNumber 69 = .ok (.getfield 12, 3) := by decide +kernel
theorem dX3_readNumber_72 : decode cX3_readNumber 72 = .ok (.getfield 56, 3) := by decide +kernel
theorem dX3_readNumber_75 : decode cX3_readNumber 75 = .ok (.invokevirtual 59, 3) := by decide +kernel
theorem dX3_readNumber_78 : decode cX3_readNumber 78 = .ok (.iload_n 1, 1) := by decide +kernel
theorem dX3_readNumber_79 : decode cX3_readNumber 79 = .ok (.iconst 0, 1) := by decide +kernel
theorem dX3_readNumber_80 : decode cX3_readNumber 80 = .ok (.bipush 15, 2) := by decide +kernel
theorem dX3_readNumber_82 : decode cX3_readNumber 82 = .ok (.invokestatic 63, 3) := by decide +kernel
theorem dX3_readNumber_85 : decode cX3_readNumber 85 = .ok (.ifCond .eq 16, 3) := by decide +kernel
theorem dX3_readNumber_88 : decode cX3_readNumber 88 = .ok (.aload_n 0, 1) := by decide +kernel
theorem dX3_readNumber_89 : decode cX3_readNumber 89 = .ok (.getfield 22, 3) := by decide +kernel
theorem dX3_readNumber_92 : decode cX3_readNumber 92 = .ok (.iload_n 1, 1) := by decide +kernel
theorem dX3_readNumber_93 : decode cX3_readNumber 93 = .ok (.aload_n 0, 1) := by decide +kernel
theorem dX3_readNumber_94 : decode cX3_readNumber 94 = .ok (.getfield 12, 3) := by decide +kernel
theorem dX3_readNumber_97 : decode cX3_readNumber 97 = .ok (.getfield 102, 3) := by decide +kernel
theorem dX3_readNumber_100 : decode cX3_readNumber 100 = .ok (.iastore, 1) := by decide +kernel
theorem dX3_readNumber_101 : decode cX3_readNumber 101 = .ok (.aload_n 0, 1) := by decide +kernel
theorem dX3_readNumber_102 : decode cX3_readNumber 102 = .ok (.getfield 12, 3) := by decide +kernel
theorem dX3_readNumber_105 : decode cX3_readNumber 105 = .ok (.invokevirtual 67, 3) := by decide +kernel
theorem dX3_readNumber_108 : decode cX3_readNumber 108 = .ok (.aload_n 0, 1) := by decide +kernel
theorem dX3_readNumber_109 : decode cX3_readNumber 109 = .ok (.getfield 12, 3) := by decide +kernel
theorem dX3_readNumber_112 : decode cX3_readNumber 112 = .ok (.bipush 59, 2) := by decide +kernel
theorem dX3_readNumber_114 : decode cX3_readNumber 114 = .ok (.invokevirtual 105, 3) := by decide +kernel
theorem dX3_readNumber_117 : decode cX3_readNumber 117 = .ok (.ifCond .ne 11, 3) := by decide +kernel
theorem dX3_readNumber_120 : decode cX3_readNumber 120 = .ok (.aload_n 0, 1) := by decide +kernel
theorem dX3_readNumber_121 : decode cX3_readNumber 121 = .ok (.getfield 12, 3) := by decide +kernel
theorem dX3_readNumber_124 : decode cX3_readNumber 124 = .ok (.invokevirtual 52, 3) := by decide +kernel
theorem dX3_readNumber_127 : decode cX3_readNumber 127 = .ok (.ireturn, 1) := by decide +kernel
theorem dX3_readNumber_128 : decode cX3_readNumber 128 = .ok (.aload_n 0, 1) := by decide +kernel
theorem dX3_readNumber_129 : decode cX3_readNumber 129 = .ok (.getfield 12, 3) := by decide +kernel
theorem dX3_readNumber_132 : decode cX3_readNumber 132 = .ok (.invokevirtual 67, 3) := by decide +kernel
theorem dX3_readNumber_135 : decode cX3_readNumber 135 = .ok (.iconst 1, 1) := by decide +kernel
theorem dX3_readNumber_136 : decode cX3_readNumber 136 = .ok (.ireturn, 1) := by decide +kernel
abbrev dpX3_readNumber : Nat := 3
def fX3_readNumber_101 (a0 : Nat) : St → Option (Bool × St) :=
 gR 4 a0 0 fun v2001 =>
 nn v2001 fun a2002 =>
 ck 9 a2002 <| cl (fX8_step a2002) fun v2003 =>
 gR 4 a0 0 fun v2004 =>
 nn v2004 fun a2005 =>
 ck 9 a2005 <| cl (fX8_isSign a2005 59) fun v2006 =>
 br ((bi v2006) = 0) (gR 4 a0 0 fun v2010 =>
 nn v2010 fun a2011 =>
 ck 9 a2011 <| cl (fX8_failHere a2011) fun v2012 =>
 rtZ (bi v2012))
 (gR 4 a0 0 fun v2007 =>
 nn v2007 fun a2008 =>
 ck 9 a2008 <| cl (fX8_step a2008) fun v2009 =>
 rtZ 1)
set_option maxHeartbeats 4000000 in
set_option maxRecDepth 100000 in
theorem sfX3_readNumber_101 {E : Ev} {l : Launch} (a0 : Nat) : Snd E l (dpX3_readNumber, RX3, cX3_readNumber, 3, (some .boolean), "readNumber") rvZ 101 [(0, .ref (E.1 + a0))] [] (fX3_readNumber_101 a0) := by
  unfold fX3_readNumber_101
  refine sn_aload_n (pc := 101) (j := 0) dX3_readNumber_101 rfl rfl ?_
  refine sn_gR (pc := 102) dX3_readNumber_102 flX3_12 rfl (fun v2001 => ?_)
  rcases v2001 with _ | a2002
  · exact sn_no
  refine sn_nn ?_
  refine sn_callV (ci := 8) (pc := 105) dX3_readNumber_105 iX8_step wt2_122 wt2_123 wt3_93 ⟨_, rfl, rfl⟩ (by decide) (mX8_step a2002) (by decide) rfl rfl (Nat.le_of_ble_eq_true rfl) (fun v2003 => ?_)
  refine sn_aload_n (pc := 108) (j := 0) dX3_readNumber_108 rfl rfl ?_
  refine sn_gR (pc := 109) dX3_readNumber_109 flX3_12 rfl (fun v2004 => ?_)
  refine sn_bipush (pc := 112) (v := 59) dX3_readNumber_112 (by decide) ?_
  rcases v2004 with _ | a2005
  · exact sn_no
  refine sn_nn ?_
  refine sn_callV (ci := 8) (pc := 114) dX3_readNumber_114 iX8_isSign wt2_195 wt2_196 wt3_124 ⟨_, rfl, rfl⟩ (by decide) (mX8_isSign a2005 59) (by decide) rfl rfl (Nat.le_of_ble_eq_true rfl) (fun v2006 => ?_)
  refine sn_if_ne (pc := 117) (tgt := 128) dX3_readNumber_117 (by decide) ?_ ?_
  · refine sn_aload_n (pc := 128) (j := 0) dX3_readNumber_128 rfl rfl ?_
    refine sn_gR (pc := 129) dX3_readNumber_129 flX3_12 rfl (fun v2007 => ?_)
    rcases v2007 with _ | a2008
    · exact sn_no
    refine sn_nn ?_
    refine sn_callV (ci := 8) (pc := 132) dX3_readNumber_132 iX8_step wt2_122 wt2_123 wt3_93 ⟨_, rfl, rfl⟩ (by decide) (mX8_step a2008) (by decide) rfl rfl (Nat.le_of_ble_eq_true rfl) (fun v2009 => ?_)
    refine sn_iconst (pc := 135) (v := 1) dX3_readNumber_135 (by decide) ?_
    exact sn_zret (pc := 136) dX3_readNumber_136 rfl
  · refine sn_aload_n (pc := 120) (j := 0) dX3_readNumber_120 rfl rfl ?_
    refine sn_gR (pc := 121) dX3_readNumber_121 flX3_12 rfl (fun v2010 => ?_)
    rcases v2010 with _ | a2011
    · exact sn_no
    refine sn_nn ?_
    refine sn_callV (ci := 8) (pc := 124) dX3_readNumber_124 iX8_failHere wt2_161 wt2_162 wt3_90 ⟨_, rfl, rfl⟩ (by decide) (mX8_failHere a2011) (by decide) rfl rfl (Nat.le_of_ble_eq_true rfl) (fun v2012 => ?_)
    exact sn_zret (pc := 127) dX3_readNumber_127 rfl
def fX3_readNumber_78 (a0 : Nat) (x1 : Int32) : St → Option (Bool × St) :=
 cl (fX11_within x1 0 15) fun v1001 =>
 br ((bi v1001) = 0) (fX3_readNumber_101  a0)
 (gR 4 a0 3 fun v1002 =>
 gR 4 a0 0 fun v1003 =>
 nn v1003 fun a1005 =>
 gI 9 a1005 1 fun v1004 =>
 nn v1002 fun a1006 =>
 wI a1006 x1 v1004 <|
 fX3_readNumber_101  a0)
set_option maxHeartbeats 4000000 in
set_option maxRecDepth 100000 in
theorem sfX3_readNumber_78 {E : Ev} {l : Launch} (a0 : Nat) (x1 : Int32) : Snd E l (dpX3_readNumber, RX3, cX3_readNumber, 3, (some .boolean), "readNumber") rvZ 78 [(0, .ref (E.1 + a0)), (1, .int x1)] [] (fX3_readNumber_78 a0 x1) := by
  unfold fX3_readNumber_78
  refine sn_iload_n (pc := 78) (j := 1) dX3_readNumber_78 rfl rfl ?_
  refine sn_iconst (pc := 79) (v := 0) dX3_readNumber_79 (by decide) ?_
  refine sn_bipush (pc := 80) (v := 15) dX3_readNumber_80 (by decide) ?_
  refine sn_callSN (pc := 82) dX3_readNumber_82 iX11_within wt2_96 (List.mem_of_getElem? (i := 10) rfl) (mX11_within x1 0 15) (by decide) rfl rfl (Nat.le_of_ble_eq_true rfl) (fun v1001 => ?_)
  refine sn_if_eq (pc := 85) (tgt := 101) dX3_readNumber_85 (by decide) ?_ ?_
  · exact sn_sub (lv' := [(0, .ref (E.1 + a0))]) [0] rfl (sfX3_readNumber_101  a0)
  · refine sn_aload_n (pc := 88) (j := 0) dX3_readNumber_88 rfl rfl ?_
    refine sn_gR (pc := 89) dX3_readNumber_89 flX3_22 rfl (fun v1002 => ?_)
    refine sn_iload_n (pc := 92) (j := 1) dX3_readNumber_92 rfl rfl ?_
    refine sn_aload_n (pc := 93) (j := 0) dX3_readNumber_93 rfl rfl ?_
    refine sn_gR (pc := 94) dX3_readNumber_94 flX3_12 rfl (fun v1003 => ?_)
    rcases v1003 with _ | a1005
    · exact sn_no
    refine sn_nn ?_
    refine sn_gI (pc := 97) dX3_readNumber_97 flX3_102 rfl (fun v1004 => ?_)
    rcases v1002 with _ | a1006
    · exact sn_no
    refine sn_nn ?_
    refine sn_iast (pc := 100) dX3_readNumber_100 ?_
    exact sn_sub (lv' := [(0, .ref (E.1 + a0))]) [0] rfl (sfX3_readNumber_101  a0)
def fX3_readNumber (a0 : Nat) (x1 : Int32) (x2 : Int32) : St → Option (Bool × St) :=
 gR 4 a0 0 fun v1 =>
 nn v1 fun a2 =>
 ck 9 a2 <| cl (fX8_isSign a2 58) fun v3 =>
 br ((bi v3) = 0) (gR 4 a0 0 fun v22 =>
 nn v22 fun a23 =>
 ck 9 a23 <| cl (fX8_failHere a23) fun v24 =>
 rtZ (bi v24))
 (gR 4 a0 0 fun v4 =>
 nn v4 fun a5 =>
 ck 9 a5 <| cl (fX8_step a5) fun v6 =>
 gR 4 a0 0 fun v7 =>
 nn v7 fun a9 =>
 gI 9 a9 0 fun v8 =>
 br (v8 = 2) (br (x2 = 5) (gR 4 a0 0 fun v10 =>
 nn v10 fun a12 =>
 gI 9 a12 1 fun v11 =>
 br (v11 ≤ 100) (fX3_readNumber_78  a0 x1)
 (gR 4 a0 0 fun v13 =>
 gR 4 a0 0 fun v14 =>
 nn v14 fun a16 =>
 gI 9 a16 2 fun v15 =>
 nn v13 fun a17 =>
 ck 9 a17 <| cl (fX8_noteFault a17 2 v15) fun v18 =>
 fX3_readNumber_78  a0 x1))
 (fX3_readNumber_78  a0 x1))
 (gR 4 a0 0 fun v19 =>
 nn v19 fun a20 =>
 ck 9 a20 <| cl (fX8_failHere a20) fun v21 =>
 rtZ (bi v21)))
set_option maxHeartbeats 4000000 in
set_option maxRecDepth 100000 in
theorem mX3_readNumber {E : Ev} {l : Launch} (a0 : Nat) (x1 : Int32) (x2 : Int32) : MF E l dpX3_readNumber yX3_readNumber cX3_readNumber 3 (some .boolean) rvZ [.ref (E.1 + a0), .int x1, .int x2] (fX3_readNumber a0 x1 x2) := by
  refine MF.of (lv := [(0, .ref (E.1 + a0)), (1, .int x1), (2, .int x2)]) (by decide) (Nat.le_of_ble_eq_true rfl) rfl ?_
  unfold fX3_readNumber
  refine sn_aload_n (pc := 0) (j := 0) dX3_readNumber_0 rfl rfl ?_
  refine sn_gR (pc := 1) dX3_readNumber_1 flX3_12 rfl (fun v1 => ?_)
  refine sn_bipush (pc := 4) (v := 58) dX3_readNumber_4 (by decide) ?_
  rcases v1 with _ | a2
  · exact sn_no
  refine sn_nn ?_
  refine sn_callV (ci := 8) (pc := 6) dX3_readNumber_6 iX8_isSign wt2_195 wt2_196 wt3_124 ⟨_, rfl, rfl⟩ (by decide) (mX8_isSign a2 58) (by decide) rfl rfl (Nat.le_of_ble_eq_true rfl) (fun v3 => ?_)
  refine sn_if_ne (pc := 9) (tgt := 20) dX3_readNumber_9 (by decide) ?_ ?_
  · refine sn_aload_n (pc := 20) (j := 0) dX3_readNumber_20 rfl rfl ?_
    refine sn_gR (pc := 21) dX3_readNumber_21 flX3_12 rfl (fun v4 => ?_)
    rcases v4 with _ | a5
    · exact sn_no
    refine sn_nn ?_
    refine sn_callV (ci := 8) (pc := 24) dX3_readNumber_24 iX8_step wt2_122 wt2_123 wt3_93 ⟨_, rfl, rfl⟩ (by decide) (mX8_step a5) (by decide) rfl rfl (Nat.le_of_ble_eq_true rfl) (fun v6 => ?_)
    refine sn_aload_n (pc := 27) (j := 0) dX3_readNumber_27 rfl rfl ?_
    refine sn_gR (pc := 28) dX3_readNumber_28 flX3_12 rfl (fun v7 => ?_)
    rcases v7 with _ | a9
    · exact sn_no
    refine sn_nn ?_
    refine sn_gI (pc := 31) dX3_readNumber_31 flX3_41 rfl (fun v8 => ?_)
    refine sn_iconst (pc := 34) (v := 2) dX3_readNumber_34 (by decide) ?_
    refine sn_icmp_eq (pc := 35) (tgt := 46) dX3_readNumber_35 (by decide) ?_ ?_
    · refine sn_iload_n (pc := 46) (j := 2) dX3_readNumber_46 rfl rfl ?_
      refine sn_iconst (pc := 47) (v := 5) dX3_readNumber_47 (by decide) ?_
      refine sn_icmp_ne (pc := 48) (tgt := 78) dX3_readNumber_48 (by decide) ?_ ?_
      · exact sn_sub (lv' := [(0, .ref (E.1 + a0)), (1, .int x1)]) [0, 1] rfl (sfX3_readNumber_78  a0 x1)
      · refine sn_aload_n (pc := 51) (j := 0) dX3_readNumber_51 rfl rfl ?_
        refine sn_gR (pc := 52) dX3_readNumber_52 flX3_12 rfl (fun v10 => ?_)
        rcases v10 with _ | a12
        · exact sn_no
        refine sn_nn ?_
        refine sn_gI (pc := 55) dX3_readNumber_55 flX3_102 rfl (fun v11 => ?_)
        refine sn_bipush (pc := 58) (v := 100) dX3_readNumber_58 (by decide) ?_
        refine sn_icmp_le (pc := 60) (tgt := 78) dX3_readNumber_60 (by decide) ?_ ?_
        · exact sn_sub (lv' := [(0, .ref (E.1 + a0)), (1, .int x1)]) [0, 1] rfl (sfX3_readNumber_78  a0 x1)
        · refine sn_aload_n (pc := 63) (j := 0) dX3_readNumber_63 rfl rfl ?_
          refine sn_gR (pc := 64) dX3_readNumber_64 flX3_12 rfl (fun v13 => ?_)
          refine sn_iconst (pc := 67) (v := 2) dX3_readNumber_67 (by decide) ?_
          refine sn_aload_n (pc := 68) (j := 0) dX3_readNumber_68 rfl rfl ?_
          refine sn_gR (pc := 69) dX3_readNumber_69 flX3_12 rfl (fun v14 => ?_)
          rcases v14 with _ | a16
          · exact sn_no
          refine sn_nn ?_
          refine sn_gI (pc := 72) dX3_readNumber_72 flX3_56 rfl (fun v15 => ?_)
          rcases v13 with _ | a17
          · exact sn_no
          refine sn_nn ?_
          refine sn_callV (ci := 8) (pc := 75) dX3_readNumber_75 iX8_noteFault wt2_168 wt2_169 wt3_91 ⟨_, rfl, rfl⟩ (by decide) (mX8_noteFault a17 2 v15) (by decide) rfl rfl (Nat.le_of_ble_eq_true rfl) (fun v18 => ?_)
          exact sn_sub (lv' := [(0, .ref (E.1 + a0)), (1, .int x1)]) [0, 1] rfl (sfX3_readNumber_78  a0 x1)
    · refine sn_aload_n (pc := 38) (j := 0) dX3_readNumber_38 rfl rfl ?_
      refine sn_gR (pc := 39) dX3_readNumber_39 flX3_12 rfl (fun v19 => ?_)
      rcases v19 with _ | a20
      · exact sn_no
      refine sn_nn ?_
      refine sn_callV (ci := 8) (pc := 42) dX3_readNumber_42 iX8_failHere wt2_161 wt2_162 wt3_90 ⟨_, rfl, rfl⟩ (by decide) (mX8_failHere a20) (by decide) rfl rfl (Nat.le_of_ble_eq_true rfl) (fun v21 => ?_)
      exact sn_zret (pc := 45) dX3_readNumber_45 rfl
  · refine sn_aload_n (pc := 12) (j := 0) dX3_readNumber_12 rfl rfl ?_
    refine sn_gR (pc := 13) dX3_readNumber_13 flX3_12 rfl (fun v22 => ?_)
    rcases v22 with _ | a23
    · exact sn_no
    refine sn_nn ?_
    refine sn_callV (ci := 8) (pc := 16) dX3_readNumber_16 iX8_failHere wt2_161 wt2_162 wt3_90 ⟨_, rfl, rfl⟩ (by decide) (mX8_failHere a23) (by decide) rfl rfl (Nat.le_of_ble_eq_true rfl) (fun v24 => ?_)
    exact sn_zret (pc := 19) dX3_readNumber_19 rfl
theorem iX3_readNumber : MI yX3_readNumber cX3_readNumber 3 (some .boolean) 2 := ⟨wt1_6, wt3_129, by decide +kernel, by decide⟩
