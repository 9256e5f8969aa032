-- NeedleHomes askFor([ILNeedleHomes$Pattern;LNeedleHomes$Hand;II)V
theorem dX11_askFor_0 : decode cX11_askFor 0 = .ok (.aload_n 0, 1) := by decide +kernel
theorem dX11_askFor_1 : decode cX11_askFor 1 = .ok (.arraylength, 1) := by decide +kernel
theorem dX11_askFor_2 : decode cX11_askFor 2 = .ok (.bipush 8, 2) := by decide +kernel
theorem dX11_askFor_4 : decode cX11_askFor 4 = .ok (.if_icmp .ge 4, 3) := by decide +kernel
theorem dX11_askFor_7 : decode cX11_askFor 7 = .ok (.return_, 1) := by decide +kernel
theorem dX11_askFor_8 : decode cX11_askFor 8 = .ok (.aload_n 0, 1) := by decide +kernel
theorem dX11_askFor_9 : decode cX11_askFor 9 = .ok (.iconst 0, 1) := by decide +kernel
theorem dX11_askFor_10 : decode cX11_askFor 10 = .ok (.bipush 9, 2) := by decide +kernel
theorem dX11_askFor_12 : decode cX11_askFor 12 = .ok (.iastore, 1) := by decide +kernel
theorem dX11_askFor_13 : decode cX11_askFor 13 = .ok (.aload_n 0, 1) := by decide +kernel
theorem dX11_askFor_14 : decode cX11_askFor 14 = .ok (.iconst 1, 1) := by decide +kernel
theorem dX11_askFor_15 : decode cX11_askFor 15 = .ok (.bipush 9, 2) := by decide +kernel
theorem dX11_askFor_17 : decode cX11_askFor 17 = .ok (.iastore, 1) := by decide +kernel
theorem dX11_askFor_18 : decode cX11_askFor 18 = .ok (.aload_n 0, 1) := by decide +kernel
theorem dX11_askFor_19 : decode cX11_askFor 19 = .ok (.iconst 2, 1) := by decide +kernel
theorem dX11_askFor_20 : decode cX11_askFor 20 = .ok (.aload_n 1, 1) := by decide +kernel
theorem dX11_askFor_21 : decode cX11_askFor 21 = .ok (.getfield 145, 3) := by decide +kernel
theorem dX11_askFor_24 : decode cX11_askFor 24 = .ok (.iastore, 1) := by decide +kernel
theorem dX11_askFor_25 : decode cX11_askFor 25 = .ok (.aload_n 0, 1) := by decide +kernel
theorem dX11_askFor_26 : decode cX11_askFor 26 = .ok (.iconst 3, 1) := by decide +kernel
theorem dX11_askFor_27 : decode cX11_askFor 27 = .ok (.aload_n 1, 1) := by decide +kernel
theorem dX11_askFor_28 : decode cX11_askFor 28 = .ok (.getfield 151, 3) := by decide +kernel
theorem dX11_askFor_31 : decode cX11_askFor 31 = .ok (.bipush 100, 2) := by decide +kernel
theorem dX11_askFor_33 : decode cX11_askFor 33 = .ok (.idiv, 1) := by decide +kernel
theorem dX11_askFor_34 : decode cX11_askFor 34 = .ok (.sipush 9999, 3) := by decide +kernel
theorem dX11_askFor_37 : decode cX11_askFor 37 = .ok (.invokestatic 377, 3) := by decide +kernel
theorem dX11_askFor_40 : decode cX11_askFor 40 = .ok (.iastore, 1) := by decide +kernel
theorem dX11_askFor_41 : decode cX11_askFor 41 = .ok (.aload_n 0, 1) := by decide +kernel
theorem dX11_askFor_42 : decode cX11_askFor 42 = .ok (.iconst 4, 1) := by decide +kernel
theorem dX11_askFor_43 : decode cX11_askFor 43 = .ok (.aload_n 2, 1) := by decide +kernel
theorem dX11_askFor_44 : decode cX11_askFor 44 = .ok (.getfield 194, 3) := by decide +kernel
theorem dX11_askFor_47 : decode cX11_askFor 47 = .ok (.iastore, 1) := by decide +kernel
theorem dX11_askFor_48 : decode cX11_askFor 48 = .ok (.aload_n 0, 1) := by decide +kernel
theorem dX11_askFor_49 : decode cX11_askFor 49 = .ok (.iconst 5, 1) := by decide +kernel
theorem dX11_askFor_50 : decode cX11_askFor 50 = .ok (.iload 4, 2) := by decide +kernel
theorem dX11_askFor_52 : decode cX11_askFor 52 = .ok (.iastore, 1) := by decide +kernel
theorem dX11_askFor_53 : decode cX11_askFor 53 = .ok (.aload_n 0, 1) := by decide +kernel
theorem dX11_askFor_54 : decode cX11_askFor 54 = .ok (.bipush 6, 2) := by decide +kernel
theorem dX11_askFor_56 : decode cX11_askFor 56 = .ok (.iload_n 3, 1) := by decide +kernel
theorem dX11_askFor_57 : decode cX11_askFor 57 = .ok (.iastore, 1) := by decide +kernel
theorem dX11_askFor_58 : decode cX11_askFor 58 = .ok (.aload_n 0, 1) := by decide +kernel
theorem dX11_askFor_59 : decode cX11_askFor 59 = .ok (.bipush 7, 2) := by decide +kernel
theorem dX11_askFor_61 : decode cX11_askFor 61 = .ok (.aload_n 2, 1) := by decide +kernel
theorem dX11_askFor_62 : decode cX11_askFor 62 = .ok (.iload_n 3, 1) := by decide +kernel
theorem dX11_askFor_63 : decode cX11_askFor 63 = .ok (.invokevirtual 382, 3) := by decide +kernel
theorem dX11_askFor_66 : decode cX11_askFor 66 = .ok (.ifCond .eq 7, 3) := by decide +kernel
theorem dX11_askFor_69 : decode cX11_askFor 69 = .ok (.iconst 1, 1) := by decide +kernel
theorem dX11_askFor_70 : decode cX11_askFor 70 = .ok (.goto 4, 3) := by decide +kernel
theorem dX11_askFor_73 : decode cX11_askFor 73 = .ok (.iconst 0, 1) := by decide +kernel
theorem dX11_askFor_74 : decode cX11_askFor 74 = .ok (.iastore, 1) := by decide +kernel
theorem dX11_askFor_75 : decode cX11_askFor 75 = .ok (.return_, 1) := by decide +kernel
abbrev dpX11_askFor : Nat := 2
def fX11_askFor (x0 : Option Nat) (x1 : Option Nat) (x2 : Option Nat) (x3 : Int32) (x4 : Int32) : St → Option (Unit × St) :=
 nn x0 fun a2 =>
 aL 15 a2 fun v1 =>
 br (8 ≤ v1) (wI a2 0 9 <|
 wI a2 1 9 <|
 nn x1 fun a4 =>
 gI 6 a4 0 fun v3 =>
 wI a2 2 v3 <|
 gI 6 a4 2 fun v5 =>
 dv 100 <|
 wI a2 3 (mnI (v5 / 100) 9999) <|
 nn x2 fun a7 =>
 gI 3 a7 0 fun v6 =>
 wI a2 4 v6 <|
 wI a2 5 x4 <|
 wI a2 6 x3 <|
 ck 3 a7 <| cl (fX2_hasHay a7 x3) fun v8 =>
 br ((bi v8) = 0) (wI a2 7 0 <|
 rt ())
 (wI a2 7 1 <|
 rt ()))
 (rt ())
set_option maxHeartbeats 4000000 in
set_option maxRecDepth 100000 in
theorem mX11_askFor {E : Ev} {l : Launch} (x0 : Option Nat) (x1 : Option Nat) (x2 : Option Nat) (x3 : Int32) (x4 : Int32) : MF E l dpX11_askFor yX11_askFor cX11_askFor 5 none rvV [rf E.1 x0, rf E.1 x1, rf E.1 x2, .int x3, .int x4] (fX11_askFor x0 x1 x2 x3 x4) := by
  refine MF.of (lv := [(0, rf E.1 x0), (1, rf E.1 x1), (2, rf E.1 x2), (3, .int x3), (4, .int x4)]) (by decide) (by simp [lg_sl, rf_cat, cat_int, cat_long, cat_ref]) (by simp [lv_args, rf_cat, cat_int, cat_long, cat_ref]) ?_
  unfold fX11_askFor
  refine sn_aloadR_n (pc := 0) (r := x0) (j := 0) dX11_askFor_0 rfl rfl ?_
  rcases x0 with _ | a2
  · exact sn_no
  refine sn_nn ?_
  refine sn_alen (t := 1) (pc := 1) dX11_askFor_1 rfl (fun v1 => ?_)
  refine sn_bipush (pc := 2) (v := 8) dX11_askFor_2 (by decide) ?_
  refine sn_icmp_ge (pc := 4) (tgt := 8) dX11_askFor_4 (by decide) ?_ ?_
  · refine sn_aload_n (pc := 8) (j := 0) dX11_askFor_8 rfl rfl ?_
    refine sn_iconst (pc := 9) (v := 0) dX11_askFor_9 (by decide) ?_
    refine sn_bipush (pc := 10) (v := 9) dX11_askFor_10 (by decide) ?_
    refine sn_iast (pc := 12) dX11_askFor_12 ?_
    refine sn_aload_n (pc := 13) (j := 0) dX11_askFor_13 rfl rfl ?_
    refine sn_iconst (pc := 14) (v := 1) dX11_askFor_14 (by decide) ?_
    refine sn_bipush (pc := 15) (v := 9) dX11_askFor_15 (by decide) ?_
    refine sn_iast (pc := 17) dX11_askFor_17 ?_
    refine sn_aload_n (pc := 18) (j := 0) dX11_askFor_18 rfl rfl ?_
    refine sn_iconst (pc := 19) (v := 2) dX11_askFor_19 (by decide) ?_
    refine sn_aloadR_n (pc := 20) (r := x1) (j := 1) dX11_askFor_20 rfl rfl ?_
    rcases x1 with _ | a4
    · exact sn_no
    refine sn_nn ?_
    refine sn_gI (pc := 21) dX11_askFor_21 flX11_145 rfl (fun v3 => ?_)
    refine sn_iast (pc := 24) dX11_askFor_24 ?_
    refine sn_aload_n (pc := 25) (j := 0) dX11_askFor_25 rfl rfl ?_
    refine sn_iconst (pc := 26) (v := 3) dX11_askFor_26 (by decide) ?_
    refine sn_aload_n (pc := 27) (j := 1) dX11_askFor_27 rfl rfl ?_
    refine sn_gI (pc := 28) dX11_askFor_28 flX11_151 rfl (fun v5 => ?_)
    refine sn_bipush (pc := 31) (v := 100) dX11_askFor_31 (by decide) ?_
    refine sn_idiv (pc := 33) dX11_askFor_33 ?_
    refine sn_sipush (pc := 34) (v := 9999) dX11_askFor_34 (by decide) ?_
    refine sn_mmin (pc := 37) dX11_askFor_37 wt4_97 wt2_116 wt1_11 wt2_117 (by decide) (Nat.le_of_ble_eq_true rfl) ?_
    refine sn_iast (pc := 40) dX11_askFor_40 ?_
    refine sn_aload_n (pc := 41) (j := 0) dX11_askFor_41 rfl rfl ?_
    refine sn_iconst (pc := 42) (v := 4) dX11_askFor_42 (by decide) ?_
    refine sn_aloadR_n (pc := 43) (r := x2) (j := 2) dX11_askFor_43 rfl rfl ?_
    rcases x2 with _ | a7
    · exact sn_no
    refine sn_nn ?_
    refine sn_gI (pc := 44) dX11_askFor_44 flX11_194 rfl (fun v6 => ?_)
    refine sn_iast (pc := 47) dX11_askFor_47 ?_
    refine sn_aload_n (pc := 48) (j := 0) dX11_askFor_48 rfl rfl ?_
    refine sn_iconst (pc := 49) (v := 5) dX11_askFor_49 (by decide) ?_
    refine sn_iload (pc := 50) (j := 4) dX11_askFor_50 rfl ?_
    refine sn_iast (pc := 52) dX11_askFor_52 ?_
    refine sn_aload_n (pc := 53) (j := 0) dX11_askFor_53 rfl rfl ?_
    refine sn_bipush (pc := 54) (v := 6) dX11_askFor_54 (by decide) ?_
    refine sn_iload_n (pc := 56) (j := 3) dX11_askFor_56 rfl rfl ?_
    refine sn_iast (pc := 57) dX11_askFor_57 ?_
    refine sn_aload_n (pc := 58) (j := 0) dX11_askFor_58 rfl rfl ?_
    refine sn_bipush (pc := 59) (v := 7) dX11_askFor_59 (by decide) ?_
    refine sn_aload_n (pc := 61) (j := 2) dX11_askFor_61 rfl rfl ?_
    refine sn_iload_n (pc := 62) (j := 3) dX11_askFor_62 rfl rfl ?_
    refine sn_callV (ci := 2) (pc := 63) dX11_askFor_63 iX2_hasHay wt4_99 wt4_100 wt4_98 ⟨_, rfl, rfl⟩ (by decide) (mX2_hasHay a7 x3) (by decide) rfl rfl (Nat.le_of_ble_eq_true rfl) (fun v8 => ?_)
    refine sn_if_eq (pc := 66) (tgt := 73) dX11_askFor_66 (by decide) ?_ ?_
    · refine sn_iconst (pc := 73) (v := 0) dX11_askFor_73 (by decide) ?_
      refine sn_iast (pc := 74) dX11_askFor_74 ?_
      exact sn_vret (pc := 75) dX11_askFor_75 rfl
    · refine sn_iconst (pc := 69) (v := 1) dX11_askFor_69 (by decide) ?_
      refine sn_goto (pc := 70) (tgt := 74) dX11_askFor_70 (by decide) ?_
      refine sn_iast (pc := 74) dX11_askFor_74 ?_
      exact sn_vret (pc := 75) dX11_askFor_75 rfl
  · exact sn_vret (pc := 7) dX11_askFor_7 rfl
theorem iX11_askFor : MI yX11_askFor cX11_askFor 5 none 5 := ⟨wt1_1, wt4_96, by decide +kernel, by decide⟩
-- NeedleHomes weekOf(I)I
theorem dX11_weekOf_0 : decode cX11_weekOf 0 = .ok (.iload_n 0, 1) := by decide +kernel
theorem dX11_weekOf_1 : decode cX11_weekOf 1 = .ok (.bipush 7, 2) := by decide +kernel
theorem dX11_weekOf_3 : decode cX11_weekOf 3 = .ok (.idiv, 1) := by decide +kernel
theorem dX11_weekOf_4 : decode cX11_weekOf 4 = .ok (.ireturn, 1) := by decide +kernel
abbrev dpX11_weekOf : Nat := 0
def fX11_weekOf (x0 : Int32) : St → Option (Int32 × St) :=
 dv 7 <|
 rt (x0 / 7)
set_option maxHeartbeats 4000000 in
set_option maxRecDepth 100000 in
theorem mX11_weekOf {E : Ev} {l : Launch} (x0 : Int32) : MF E l dpX11_weekOf yX11_weekOf cX11_weekOf 1 (some .int) rvI [.int x0] (fX11_weekOf x0) := by
  refine MF.of (lv := [(0, .int x0)]) (by decide) (Nat.le_of_ble_eq_true rfl) rfl ?_
  unfold fX11_weekOf
  refine sn_iload_n (pc := 0) (j := 0) dX11_weekOf_0 rfl rfl ?_
  refine sn_bipush (pc := 1) (v := 7) dX11_weekOf_1 (by decide) ?_
  refine sn_idiv (pc := 3) dX11_weekOf_3 ?_
  exact sn_iret (pc := 4) dX11_weekOf_4 rfl
theorem iX11_weekOf : MI yX11_weekOf cX11_weekOf 1 (some .int) 1 := ⟨wt1_1, wt4_93, by decide +kernel, by decide⟩
-- NeedleHomes$Piece isIn()Z
theorem dX7_isIn_0 : decode cX7_isIn 0 = .ok (.aload_n 0, 1) := by decide +kernel
theorem dX7_isIn_1 : decode cX7_isIn 1 = .ok (.getfield 9, 3) := by decide +kernel
theorem dX7_isIn_4 : decode cX7_isIn 4 = .ok (.iconst (-1), 1) := by decide +kernel
theorem dX7_isIn_5 : decode cX7_isIn 5 = .ok (.if_icmp .eq 7, 3) := by decide +kernel
theorem dX7_isIn_8 : decode cX7_isIn 8 = .ok (.iconst 1, 1) := by decide +kernel
theorem dX7_isIn_9 : decode cX7_isIn 9 = .ok (.goto 4, 3) := by decide +kernel
theorem dX7_isIn_12 : decode cX7_isIn 12 = .ok (.iconst 0, 1) := by decide +kernel
theorem dX7_isIn_13 : decode cX7_isIn 13 = .ok (.ireturn, 1) := by decide +kernel
abbrev dpX7_isIn : Nat := 0
def fX7_isIn (a0 : Nat) : St → Option (Bool × St) :=
 gI 8 a0 4 fun v1 =>
 br (v1 = (-1)) (rtZ 0)
 (rtZ 1)
set_option maxHeartbeats 4000000 in
set_option maxRecDepth 100000 in
theorem mX7_isIn {E : Ev} {l : Launch} (a0 : Nat) : MF E l dpX7_isIn yX7_isIn cX7_isIn 1 (some .boolean) rvZ [.ref (E.1 + a0)] (fX7_isIn a0) := by
  refine MF.of (lv := [(0, .ref (E.1 + a0))]) (by decide) (Nat.le_of_ble_eq_true rfl) rfl ?_
  unfold fX7_isIn
  refine sn_aload_n (pc := 0) (j := 0) dX7_isIn_0 rfl rfl ?_
  refine sn_gI (pc := 1) dX7_isIn_1 flX7_9 rfl (fun v1 => ?_)
  refine sn_iconst (pc := 4) (v := (-1)) dX7_isIn_4 (by decide) ?_
  refine sn_icmp_eq (pc := 5) (tgt := 12) dX7_isIn_5 (by decide) ?_ ?_
  · refine sn_iconst (pc := 12) (v := 0) dX7_isIn_12 (by decide) ?_
    exact sn_zret (pc := 13) dX7_isIn_13 rfl
  · refine sn_iconst (pc := 8) (v := 1) dX7_isIn_8 (by decide) ?_
    refine sn_goto (pc := 9) (tgt := 13) dX7_isIn_9 (by decide) ?_
    exact sn_zret (pc := 13) dX7_isIn_13 rfl
theorem iX7_isIn : MI yX7_isIn cX7_isIn 1 (some .boolean) 0 := ⟨wt1_20, wt4_86, by decide +kernel, by decide⟩
-- NeedleHomes$Bill reckon(LNeedleHomes$World;LNeedleHomes$Piece;I)V
theorem dX0_reckon_0 : decode cX0_reckon 0 = .ok (.aload_n 0, 1) := by decide +kernel
theorem dX0_reckon_1 : decode cX0_reckon 1 = .ok (.iconst 0, 1) := by decide +kernel
theorem dX0_reckon_2 : decode cX0_reckon 2 = .ok (.putfield 15, 3) := by decide +kernel
theorem dX0_reckon_5 : decode cX0_reckon 5 = .ok (.aload_n 0, 1) := by decide +kernel
theorem dX0_reckon_6 : decode cX0_reckon 6 = .ok (.iconst 0, 1) := by decide +kernel
theorem dX0_reckon_7 : decode cX0_reckon 7 = .ok (.putfield 19, 3) := by decide +kernel
theorem dX0_reckon_10 : decode cX0_reckon 10 = .ok (.aload_n 0, 1) := by decide +kernel
theorem dX0_reckon_11 : decode cX0_reckon 11 = .ok (.aload_n 2, 1) := by decide +kernel
theorem dX0_reckon_12 : decode cX0_reckon 12 = .ok (.getfield 22, 3) := by decide +kernel
theorem dX0_reckon_15 : decode cX0_reckon 15 = .ok (.putfield 27, 3) := by decide +kernel
theorem dX0_reckon_18 : decode cX0_reckon 18 = .ok (.aload_n 0, 1) := by decide +kernel
theorem dX0_reckon_19 : decode cX0_reckon 19 = .ok (.iconst 0, 1) := by decide +kernel
theorem dX0_reckon_20 : decode cX0_reckon 20 = .ok (.putfield 30, 3) := by decide +kernel
theorem dX0_reckon_23 : decode cX0_reckon 23 = .ok (.aload_n 0, 1) := by decide +kernel
theorem dX0_reckon_24 : decode cX0_reckon 24 = .ok (.iconst 0, 1) := by decide +kernel
theorem dX0_reckon_25 : decode cX0_reckon 25 = .ok (.putfield 33, 3) := by decide +kernel
theorem dX0_reckon_28 : decode cX0_reckon 28 = .ok (.aload_n 1, 1) := by decide +kernel
theorem dX0_reckon_29 : decode cX0_reckon 29 = .ok (.aload_n 2, 1) := by decide +kernel
theorem dX0_reckon_30 : decode cX0_reckon 30 = .ok (.getfield 36, 3) := by decide +kernel
theorem dX0_reckon_33 : decode cX0_reckon 33 = .ok (.invokevirtual 39, 3) := by decide +kernel
theorem dX0_reckon_36 : decode cX0_reckon 36 = .ok (.astore 4, 2) := by decide +kernel
theorem dX0_reckon_38 : decode cX0_reckon 38 = .ok (.aload_n 1, 1) := by decide +kernel
theorem dX0_reckon_39 : decode cX0_reckon 39 = .ok (.aload_n 2, 1) := by decide +kernel
theorem dX0_reckon_40 : decode cX0_reckon 40 = .ok (.getfield 45, 3) := by decide +kernel
theorem dX0_reckon_43 : decode cX0_reckon 43 = .ok (.invokevirtual 48, 3) := by decide +kernel
theorem dX0_reckon_46 : decode cX0_reckon 46 = .ok (.astore 5, 2) := by decide +kernel
theorem dX0_reckon_48 : decode cX0_reckon 48 = .ok (.aload 4, 2) := by decide +kernel
theorem dX0_reckon_50 : decode cX0_reckon 50 = .ok (.ifnull 8, 3) := by decide +kernel
theorem dX0_reckon_53 : decode cX0_reckon 53 = .ok (.aload 5, 2) := by decide +kernel
theorem dX0_reckon_55 : decode cX0_reckon 55 = .ok (.ifnonnull 4, 3) := by decide +kernel
theorem dX0_reckon_58 : decode cX0_reckon 58 = .ok (.return_, 1) := by decide +kernel
theorem dX0_reckon_59 : decode cX0_reckon 59 = .ok (.aload_n 2, 1) := by decide +kernel
theorem dX0_reckon_60 : decode cX0_reckon 60 = .ok (.getfield 22, 3) := by decide +kernel
theorem dX0_reckon_63 : decode cX0_reckon 63 = .ok (.invokestatic 52, 3) := by decide +kernel
theorem dX0_reckon_66 : decode cX0_reckon 66 = .ok (.istore 6, 2) := by decide +kernel
theorem dX0_reckon_68 : decode cX0_reckon 68 = .ok (.aload_n 0, 1) := by decide +kernel
theorem dX0_reckon_69 : decode cX0_reckon 69 = .ok (.aload_n 1, 1) := by decide +kernel
theorem dX0_reckon_70 : decode cX0_reckon 70 = .ok (.aload_n 1, 1) := by decide +kernel
theorem dX0_reckon_71 : decode cX0_reckon 71 = .ok (.aload_n 2, 1) := by decide +kernel
theorem dX0_reckon_72 : decode cX0_reckon 72 = .ok (.getfield 56, 3) := by decide +kernel
theorem dX0_reckon_75 : decode cX0_reckon 75 = .ok (.iload 6, 2) := by decide +kernel
theorem dX0_reckon_77 : decode cX0_reckon 77 = .ok (.iload_n 3, 1) := by decide +kernel
theorem dX0_reckon_78 : decode cX0_reckon 78 = .ok (.invokevirtual 59, 3) := by decide +kernel
theorem dX0_reckon_81 : decode cX0_reckon 81 = .ok (.invokevirtual 63, 3) := by decide +kernel
theorem dX0_reckon_84 : decode cX0_reckon 84 = .ok (.putfield 67, 3) := by decide +kernel
theorem dX0_reckon_87 : decode cX0_reckon 87 = .ok (.aload_n 0, 1) := by decide +kernel
theorem dX0_reckon_88 : decode cX0_reckon 88 = .ok (.getfield 9, 3) := by decide +kernel
theorem dX0_reckon_91 : decode cX0_reckon 91 = .ok (.aload 4, 2) := by decide +kernel
theorem dX0_reckon_93 : decode cX0_reckon 93 = .ok (.aload 5, 2) := by decide +kernel
theorem dX0_reckon_95 : decode cX0_reckon 95 = .ok (.iload 6, 2) := by decide +kernel
theorem dX0_reckon_97 : decode cX0_reckon 97 = .ok (.aload_n 2, 1) := by decide +kernel
theorem dX0_reckon_98 : decode cX0_reckon 98 = .ok (.getfield 71, 3) := by decide +kernel
theorem dX0_reckon_101 : decode cX0_reckon 101 = .ok (.invokestatic 74, 3) := by decide +kernel
theorem dX0_reckon_104 : decode cX0_reckon 104 = .ok (.aload_n 0, 1) := by decide +kernel
theorem dX0_reckon_105 : decode cX0_reckon 105 = .ok (.aload 4, 2) := by decide +kernel
theorem dX0_reckon_107 : decode cX0_reckon 107 = .ok (.invokevirtual 78, 3) := by decide +kernel
theorem dX0_reckon_110 : decode cX0_reckon 110 = .ok (.aload_n 0, 1) := by decide +kernel
theorem dX0_reckon_111 : decode cX0_reckon 111 = .ok (.getfield 9, 3) := by decide +kernel
theorem dX0_reckon_114 : decode cX0_reckon 114 = .ok (.aload 4, 2) := by decide +kernel
theorem dX0_reckon_116 : decode cX0_reckon 116 = .ok (.aload 5, 2) := by decide +kernel
theorem dX0_reckon_118 : decode cX0_reckon 118 = .ok (.iload 6, 2) := by decide +kernel
theorem dX0_reckon_120 : decode cX0_reckon 120 = .ok (.aload_n 2, 1) := by decide +kernel
theorem dX0_reckon_121 : decode cX0_reckon 121 = .ok (.getfield 71, 3) := by decide +kernel
theorem dX0_reckon_124 : decode cX0_reckon 124 = .ok (.invokestatic 74, 3) := by decide +kernel
theorem dX0_reckon_127 : decode cX0_reckon 127 = .ok (.aload_n 0, 1) := by decide +kernel
theorem dX0_reckon_128 : decode cX0_reckon 128 = .ok (.aload_n 2, 1) := by decide +kernel
theorem dX0_reckon_129 : decode cX0_reckon 129 = .ok (.getfield 22, 3) := by decide +kernel
theorem dX0_reckon_132 : decode cX0_reckon 132 = .ok (.aload_n 0, 1) := by decide +kernel
theorem dX0_reckon_133 : decode cX0_reckon 133 = .ok (.getfield 67, 3) := by decide +kernel
theorem dX0_reckon_136 : decode cX0_reckon 136 = .ok (.iconst 4, 1) := by decide +kernel
theorem dX0_reckon_137 : decode cX0_reckon 137 = .ok (.aload_n 0, 1) := by decide +kernel
theorem dX0_reckon_138 : decode cX0_reckon 138 = .ok (.getfield 9, 3) := by decide +kernel
theorem dX0_reckon_141 : decode cX0_reckon 141 = .ok (.invokestatic 82, 3) := by decide +kernel
theorem dX0_reckon_144 : decode cX0_reckon 144 = .ok (.iadd, 1) := by decide +kernel
theorem dX0_reckon_145 : decode cX0_reckon 145 = .ok (.putfield 27, 3) := by decide +kernel
theorem dX0_reckon_148 : decode cX0_reckon 148 = .ok (.aload_n 2, 1) := by decide +kernel
theorem dX0_reckon_149 : decode cX0_reckon 149 = .ok (.invokevirtual 86, 3) := by decide +kernel
theorem dX0_reckon_152 : decode cX0_reckon 152 = .ok (.ifCond .eq 8, 3) := by decide +kernel
theorem dX0_reckon_155 : decode cX0_reckon 155 = .ok (.aload_n 0, 1) := by decide +kernel
theorem dX0_reckon_156 : decode cX0_reckon 156 = .ok (.aload_n 2, 1) := by decide +kernel
theorem dX0_reckon_157 : decode cX0_reckon 157 = .ok (.invokevirtual 90, 3) := by decide +kernel
theorem dX0_reckon_160 : decode cX0_reckon 160 = .ok (.return_, 1) := by decide +kernel
abbrev dpX0_reckon : Nat := 5
def fX0_reckon (a0 : Nat) (x1 : Option Nat) (x2 : Option Nat) (x3 : Int32) : St → Option (Unit × St) :=
 pI 1 a0 0 0 <|
 pI 1 a0 1 0 <|
 nn x2 fun a2 =>
 gI 8 a2 3 fun v1 =>
 pI 1 a0 2 v1 <|
 pI 1 a0 3 0 <|
 pI 1 a0 4 0 <|
 gI 8 a2 1 fun v3 =>
 nn x1 fun a4 =>
 ck 11 a4 <| cl (fX10_patternAt a4 v3) fun v5 =>
 gI 8 a2 2 fun v6 =>
 ck 11 a4 <| cl (fX10_handAt a4 v6) fun v7 =>
 on v5 (rt ())
 fun a8 => on v7 (rt ())
 fun a9 => gI 8 a2 3 fun v10 =>
 cl (fX11_weekOf v10) fun v11 =>
 gI 8 a2 0 fun v12 =>
 ck 11 a4 <| cl (fX10_listKnown a4 v12 v11 x3) fun v13 =>
 ck 11 a4 <| cl (fX10_listAt a4 v13) fun v14 =>
 pR 1 a0 5 v14 <|
 gR 1 a0 6 fun v15 =>
 gI 8 a2 5 fun v16 =>
 cl (fX11_askFor v15 (some a8) (some a9) v11 v16) fun v17 =>
 ck 1 a0 <| cl (fX0_reckonStitches a0 (some a8)) fun v18 =>
 gR 1 a0 6 fun v19 =>
 gI 8 a2 5 fun v20 =>
 cl (fX11_askFor v19 (some a8) (some a9) v11 v20) fun v21 =>
 gI 8 a2 3 fun v22 =>
 gR 1 a0 5 fun v23 =>
 gR 1 a0 6 fun v24 =>
 cl (fX11_termOf v23 4 v24) fun v25 =>
 pI 1 a0 2 (v22 + v25) <|
 ck 8 a2 <| cl (fX7_isIn a2) fun v26 =>
 br ((bi v26) = 0) (rt ())
 (ck 1 a0 <| cl (fX0_reckonLosses a0 (some a2)) fun v27 =>
 rt ())
set_option maxHeartbeats 4000000 in
set_option maxRecDepth 100000 in
theorem mX0_reckon {E : Ev} {l : Launch} (a0 : Nat) (x1 : Option Nat) (x2 : Option Nat) (x3 : Int32) : MF E l dpX0_reckon yX0_reckon cX0_reckon 7 none rvV [.ref (E.1 + a0), rf E.1 x1, rf E.1 x2, .int x3] (fX0_reckon a0 x1 x2 x3) := by
  refine MF.of (lv := [(0, .ref (E.1 + a0)), (1, rf E.1 x1), (2, rf E.1 x2), (3, .int x3)]) (by decide) (by simp [lg_sl, rf_cat, cat_int, cat_long, cat_ref]) (by simp [lv_args, rf_cat, cat_int, cat_long, cat_ref]) ?_
  unfold fX0_reckon
  refine sn_aload_n (pc := 0) (j := 0) dX0_reckon_0 rfl rfl ?_
  refine sn_iconst (pc := 1) (v := 0) dX0_reckon_1 (by decide) ?_
  refine sn_pI (pc := 2) dX0_reckon_2 flX0_15 rfl rfl (Or.inl rfl) ?_
  refine sn_aload_n (pc := 5) (j := 0) dX0_reckon_5 rfl rfl ?_
  refine sn_iconst (pc := 6) (v := 0) dX0_reckon_6 (by decide) ?_
  refine sn_pI (pc := 7) dX0_reckon_7 flX0_19 rfl rfl (Or.inl rfl) ?_
  refine sn_aload_n (pc := 10) (j := 0) dX0_reckon_10 rfl rfl ?_
  refine sn_aloadR_n (pc := 11) (r := x2) (j := 2) dX0_reckon_11 rfl rfl ?_
  rcases x2 with _ | a2
  · exact sn_no
  refine sn_nn ?_
  refine sn_gI (pc := 12) dX0_reckon_12 flX0_22 rfl (fun v1 => ?_)
  refine sn_pI (pc := 15) dX0_reckon_15 flX0_27 rfl rfl (Or.inl rfl) ?_
  refine sn_aload_n (pc := 18) (j := 0) dX0_reckon_18 rfl rfl ?_
  refine sn_iconst (pc := 19) (v := 0) dX0_reckon_19 (by decide) ?_
  refine sn_pI (pc := 20) dX0_reckon_20 flX0_30 rfl rfl (Or.inl rfl) ?_
  refine sn_aload_n (pc := 23) (j := 0) dX0_reckon_23 rfl rfl ?_
  refine sn_iconst (pc := 24) (v := 0) dX0_reckon_24 (by decide) ?_
  refine sn_pI (pc := 25) dX0_reckon_25 flX0_33 rfl rfl (Or.inl rfl) ?_
  refine sn_aloadR_n (pc := 28) (r := x1) (j := 1) dX0_reckon_28 rfl rfl ?_
  refine sn_aload_n (pc := 29) (j := 2) dX0_reckon_29 rfl rfl ?_
  refine sn_gI (pc := 30) dX0_reckon_30 flX0_36 rfl (fun v3 => ?_)
  rcases x1 with _ | a4
  · exact sn_no
  refine sn_nn ?_
  refine sn_callV (ci := 10) (pc := 33) dX0_reckon_33 iX10_patternAt wt3_193 wt3_194 wt4_210 ⟨_, rfl, rfl⟩ (by decide) (mX10_patternAt a4 v3) (by decide) rfl rfl (Nat.le_of_ble_eq_true rfl) (fun v5 => ?_)
  refine sn_astoreR (pc := 36) (r := v5) (i := 4) (lv' := [(4, rf E.1 v5), (0, .ref (E.1 + a0)), (1, .ref (E.1 + a4)), (2, .ref (E.1 + a2)), (3, .int x3)]) dX0_reckon_36 (by decide) rfl ?_
  refine sn_aload_n (pc := 38) (j := 2) dX0_reckon_38 rfl rfl ?_
  refine sn_aload_n (pc := 39) (j := 3) dX0_reckon_39 rfl rfl ?_
  refine sn_gI (pc := 40) dX0_reckon_40 flX0_45 rfl (fun v6 => ?_)
  refine sn_callV (ci := 10) (pc := 43) dX0_reckon_43 iX10_handAt wt4_54 wt4_55 wt4_211 ⟨_, rfl, rfl⟩ (by decide) (mX10_handAt a4 v6) (by decide) rfl rfl (Nat.le_of_ble_eq_true rfl) (fun v7 => ?_)
  refine sn_astoreR (pc := 46) (r := v7) (i := 5) (lv' := [(5, rf E.1 v7), (4, rf E.1 v5), (0, .ref (E.1 + a0)), (1, .ref (E.1 + a4)), (2, .ref (E.1 + a2)), (3, .int x3)]) dX0_reckon_46 (by decide) (by simp [rf_some, rf_cat, cat_int, cat_long, cat_ref]) ?_
  refine sn_aloadR (pc := 48) (r := v5) (j := 1) dX0_reckon_48 rfl ?_
  rcases v5 with _ | a8
  · refine sn_onN ?_
    refine sn_ifnull_n (pc := 50) (tgt := 58) dX0_reckon_50 (by decide) ?_
    exact sn_vret (pc := 58) dX0_reckon_58 rfl
  · refine sn_onS ?_
    refine sn_ifnull_s (pc := 50) dX0_reckon_50 ?_
    refine sn_aloadR (pc := 53) (r := v7) (j := 0) dX0_reckon_53 rfl ?_
    rcases v7 with _ | a9
    · refine sn_onN ?_
      refine sn_ifnonnull_n (pc := 55) dX0_reckon_55 ?_
      exact sn_vret (pc := 58) dX0_reckon_58 rfl
    · refine sn_onS ?_
      refine sn_ifnonnull_s (pc := 55) (tgt := 59) dX0_reckon_55 (by decide) ?_
      refine sn_aload_n (pc := 59) (j := 4) dX0_reckon_59 rfl rfl ?_
      refine sn_gI (pc := 60) dX0_reckon_60 flX0_22 rfl (fun v10 => ?_)
      refine sn_callSN (pc := 63) dX0_reckon_63 iX11_weekOf wt4_92 (List.mem_of_getElem? (i := 15) rfl) (mX11_weekOf v10) (by decide) rfl rfl (Nat.le_of_ble_eq_true rfl) (fun v11 => ?_)
      refine sn_istore (pc := 66) (i := 6) (lv' := [(6, .int v11), (5, .ref (E.1 + a9)), (4, .ref (E.1 + a8)), (0, .ref (E.1 + a0)), (1, .ref (E.1 + a4)), (2, .ref (E.1 + a2)), (3, .int x3)]) dX0_reckon_66 (by decide) rfl ?_
      refine sn_aload_n (pc := 68) (j := 3) dX0_reckon_68 rfl rfl ?_
      refine sn_aload_n (pc := 69) (j := 4) dX0_reckon_69 rfl rfl ?_
      refine sn_aload_n (pc := 70) (j := 4) dX0_reckon_70 rfl rfl ?_
      refine sn_aload_n (pc := 71) (j := 5) dX0_reckon_71 rfl rfl ?_
      refine sn_gI (pc := 72) dX0_reckon_72 flX0_56 rfl (fun v12 => ?_)
      refine sn_iload (pc := 75) (j := 0) dX0_reckon_75 rfl ?_
      refine sn_iload_n (pc := 77) (j := 6) dX0_reckon_77 rfl rfl ?_
      refine sn_callV (ci := 10) (pc := 78) dX0_reckon_78 iX10_listKnown wt3_232 wt3_233 wt4_213 ⟨_, rfl, rfl⟩ (by decide) (mX10_listKnown a4 v12 v11 x3) (by decide) rfl rfl (Nat.le_of_ble_eq_true rfl) (fun v13 => ?_)
      refine sn_callV (ci := 10) (pc := 81) dX0_reckon_81 iX10_listAt wt3_236 wt3_237 wt4_214 ⟨_, rfl, rfl⟩ (by decide) (mX10_listAt a4 v13) (by decide) rfl rfl (Nat.le_of_ble_eq_true rfl) (fun v14 => ?_)
      refine sn_pR (pc := 84) (v := v14) dX0_reckon_84 flX0_67 rfl (Or.inl ⟨_, rfl⟩) (Or.inl rfl) ?_
      refine sn_aload_n (pc := 87) (j := 3) dX0_reckon_87 rfl rfl ?_
      refine sn_gR (pc := 88) dX0_reckon_88 flX0_9 rfl (fun v15 => ?_)
      refine sn_aload (pc := 91) (j := 2) dX0_reckon_91 rfl ?_
      refine sn_aload (pc := 93) (j := 1) dX0_reckon_93 rfl ?_
      refine sn_iload (pc := 95) (j := 0) dX0_reckon_95 rfl ?_
      refine sn_aload_n (pc := 97) (j := 5) dX0_reckon_97 rfl rfl ?_
      refine sn_gI (pc := 98) dX0_reckon_98 flX0_71 rfl (fun v16 => ?_)
      refine sn_callSN (pc := 101) dX0_reckon_101 iX11_askFor wt4_95 (List.mem_of_getElem? (i := 16) rfl) (mX11_askFor v15 (some a8) (some a9) v11 v16) (by decide) rfl rfl (Nat.le_of_ble_eq_true rfl) (fun v17 => ?_)
      refine sn_aload_n (pc := 104) (j := 3) dX0_reckon_104 rfl rfl ?_
      refine sn_aload (pc := 105) (j := 2) dX0_reckon_105 rfl ?_
      refine sn_callV (ci := 0) (pc := 107) dX0_reckon_107 iX0_reckonStitches wt4_218 ws_24 wt4_216 ⟨_, rfl, rfl⟩ (by decide) (mX0_reckonStitches a0 (some a8)) (by decide) rfl rfl (Nat.le_of_ble_eq_true rfl) (fun v18 => ?_)
      refine sn_aload_n (pc := 110) (j := 3) dX0_reckon_110 rfl rfl ?_
      refine sn_gR (pc := 111) dX0_reckon_111 flX0_9 rfl (fun v19 => ?_)
      refine sn_aload (pc := 114) (j := 2) dX0_reckon_114 rfl ?_
      refine sn_aload (pc := 116) (j := 1) dX0_reckon_116 rfl ?_
      refine sn_iload (pc := 118) (j := 0) dX0_reckon_118 rfl ?_
      refine sn_aload_n (pc := 120) (j := 5) dX0_reckon_120 rfl rfl ?_
      refine sn_gI (pc := 121) dX0_reckon_121 flX0_71 rfl (fun v20 => ?_)
      refine sn_callSN (pc := 124) dX0_reckon_124 iX11_askFor wt4_95 (List.mem_of_getElem? (i := 16) rfl) (mX11_askFor v19 (some a8) (some a9) v11 v20) (by decide) rfl rfl (Nat.le_of_ble_eq_true rfl) (fun v21 => ?_)
      refine sn_aload_n (pc := 127) (j := 3) dX0_reckon_127 rfl rfl ?_
      refine sn_aload_n (pc := 128) (j := 5) dX0_reckon_128 rfl rfl ?_
      refine sn_gI (pc := 129) dX0_reckon_129 flX0_22 rfl (fun v22 => ?_)
      refine sn_aload_n (pc := 132) (j := 3) dX0_reckon_132 rfl rfl ?_
      refine sn_gR (pc := 133) dX0_reckon_133 flX0_67 rfl (fun v23 => ?_)
      refine sn_iconst (pc := 136) (v := 4) dX0_reckon_136 (by decide) ?_
      refine sn_aload_n (pc := 137) (j := 3) dX0_reckon_137 rfl rfl ?_
      refine sn_gR (pc := 138) dX0_reckon_138 flX0_9 rfl (fun v24 => ?_)
      refine sn_callSN (pc := 141) dX0_reckon_141 iX11_termOf wt4_104 (List.mem_of_getElem? (i := 17) rfl) (mX11_termOf v23 4 v24) (by decide) rfl rfl (Nat.le_of_ble_eq_true rfl) (fun v25 => ?_)
      refine sn_iadd (pc := 144) dX0_reckon_144 ?_
      refine sn_pI (pc := 145) dX0_reckon_145 flX0_27 rfl rfl (Or.inl rfl) ?_
      refine sn_aload_n (pc := 148) (j := 5) dX0_reckon_148 rfl rfl ?_
      refine sn_callV (ci := 7) (pc := 149) dX0_reckon_149 iX7_isIn wt4_84 wt4_85 wt4_223 ⟨_, rfl, rfl⟩ (by decide) (mX7_isIn a2) (by decide) rfl rfl (Nat.le_of_ble_eq_true rfl) (fun v26 => ?_)
      refine sn_if_eq (pc := 152) (tgt := 160) dX0_reckon_152 (by decide) ?_ ?_
      · exact sn_vret (pc := 160) dX0_reckon_160 rfl
      · refine sn_aload_n (pc := 155) (j := 3) dX0_reckon_155 rfl rfl ?_
        refine sn_aload_n (pc := 156) (j := 5) dX0_reckon_156 rfl rfl ?_
        refine sn_callV (ci := 0) (pc := 157) dX0_reckon_157 iX0_reckonLosses wt4_226 ws_25 wt4_224 ⟨_, rfl, rfl⟩ (by decide) (mX0_reckonLosses a0 (some a2)) (by decide) rfl rfl (Nat.le_of_ble_eq_true rfl) (fun v27 => ?_)
        exact sn_vret (pc := 160) dX0_reckon_160 rfl
theorem iX0_reckon : MI yX0_reckon cX0_reckon 7 none 3 := ⟨wt1_7, wt4_209, by decide +kernel, by decide⟩
-- NeedleHomes$Bill paid()I
theorem dX0_paid_0 : decode cX0_paid 0 = .ok (.aload_n 0, 1) := by decide +kernel
theorem dX0_paid_1 : decode cX0_paid 1 = .ok (.getfield 19, 3) := by decide +kernel
theorem dX0_paid_4 : decode cX0_paid 4 = .ok (.aload_n 0, 1) := by decide +kernel
theorem dX0_paid_5 : decode cX0_paid 5 = .ok (.getfield 30, 3) := by decide +kernel
theorem dX0_paid_8 : decode cX0_paid 8 = .ok (.isub, 1) := by decide +kernel
theorem dX0_paid_9 : decode cX0_paid 9 = .ok (.aload_n 0, 1) := by decide +kernel
theorem dX0_paid_10 : decode cX0_paid 10 = .ok (.getfield 33, 3) := by decide +kernel
theorem dX0_paid_13 : decode cX0_paid 13 = .ok (.isub, 1) := by decide +kernel
theorem dX0_paid_14 : decode cX0_paid 14 = .ok (.ireturn, 1) := by decide +kernel
abbrev dpX0_paid : Nat := 0
def fX0_paid (a0 : Nat) : St → Option (Int32 × St) :=
 gI 1 a0 1 fun v1 =>
 gI 1 a0 3 fun v2 =>
 gI 1 a0 4 fun v3 =>
 rt ((v1 - v2) - v3)
set_option maxHeartbeats 4000000 in
set_option maxRecDepth 100000 in
theorem mX0_paid {E : Ev} {l : Launch} (a0 : Nat) : MF E l dpX0_paid yX0_paid cX0_paid 1 (some .int) rvI [.ref (E.1 + a0)] (fX0_paid a0) := by
  refine MF.of (lv := [(0, .ref (E.1 + a0))]) (by decide) (Nat.le_of_ble_eq_true rfl) rfl ?_
  unfold fX0_paid
  refine sn_aload_n (pc := 0) (j := 0) dX0_paid_0 rfl rfl ?_
  refine sn_gI (pc := 1) dX0_paid_1 flX0_19 rfl (fun v1 => ?_)
  refine sn_aload_n (pc := 4) (j := 0) dX0_paid_4 rfl rfl ?_
  refine sn_gI (pc := 5) dX0_paid_5 flX0_30 rfl (fun v2 => ?_)
  refine sn_isub (pc := 8) dX0_paid_8 ?_
  refine sn_aload_n (pc := 9) (j := 0) dX0_paid_9 rfl rfl ?_
  refine sn_gI (pc := 10) dX0_paid_10 flX0_33 rfl (fun v3 => ?_)
  refine sn_isub (pc := 13) dX0_paid_13 ?_
  exact sn_iret (pc := 14) dX0_paid_14 rfl
theorem iX0_paid : MI yX0_paid cX0_paid 1 (some .int) 0 := ⟨wt1_7, wt5_1, by decide +kernel, by decide⟩
-- NeedleHomes$EvenPay <init>()V
theorem dX1_init_0 : decode cX1_init 0 = .ok (.aload_n 0, 1) := by decide +kernel
theorem dX1_init_1 : decode cX1_init 1 = .ok (.invokespecial 3, 3) := by decide +kernel
theorem dX1_init_4 : decode cX1_init 4 = .ok (.aload_n 0, 1) := by decide +kernel
theorem dX1_init_5 : decode cX1_init 5 = .ok (.bipush 6, 2) := by decide +kernel
theorem dX1_init_7 : decode cX1_init 7 = .ok (.newarray .int, 2) := by decide +kernel
theorem dX1_init_9 : decode cX1_init 9 = .ok (.putfield 9, 3) := by decide +kernel
theorem dX1_init_12 : decode cX1_init 12 = .ok (.aload_n 0, 1) := by decide +kernel
theorem dX1_init_13 : decode cX1_init 13 = .ok (.bipush 6, 2) := by decide +kernel
theorem dX1_init_15 : decode cX1_init 15 = .ok (.newarray .int, 2) := by decide +kernel
theorem dX1_init_17 : decode cX1_init 17 = .ok (.putfield 15, 3) := by decide +kernel
theorem dX1_init_20 : decode cX1_init 20 = .ok (.aload_n 0, 1) := by decide +kernel
theorem dX1_init_21 : decode cX1_init 21 = .ok (.bipush 8, 2) := by decide +kernel
theorem dX1_init_23 : decode cX1_init 23 = .ok (.newarray .int, 2) := by decide +kernel
theorem dX1_init_25 : decode cX1_init 25 = .ok (.putfield 18, 3) := by decide +kernel
theorem dX1_init_28 : decode cX1_init 28 = .ok (.return_, 1) := by decide +kernel
abbrev dpX1_init : Nat := 1
def fX1_init (a0 : Nat) : St → Option (Unit × St) :=
 nA 15 6 fun a1 =>
 pR 2 a0 3 (some a1) <|
 nA 15 6 fun a2 =>
 pR 2 a0 4 (some a2) <|
 nA 15 8 fun a3 =>
 pR 2 a0 5 (some a3) <|
 rt ()
set_option maxHeartbeats 4000000 in
set_option maxRecDepth 100000 in
theorem mX1_init {E : Ev} {l : Launch} (a0 : Nat) : MF E l dpX1_init yX1_init cX1_init 1 none rvV [.ref (E.1 + a0)] (fX1_init a0) := by
  refine MF.of (lv := [(0, .ref (E.1 + a0))]) (by decide) (Nat.le_of_ble_eq_true rfl) rfl ?_
  unfold fX1_init
  refine sn_aload_n (pc := 0) (j := 0) dX1_init_0 rfl rfl ?_
  refine sn_objInit (pc := 1) dX1_init_1 wt2_36 w_oi w_oc (by decide) (Nat.le_of_ble_eq_true rfl) ?_
  refine sn_aload_n (pc := 4) (j := 0) dX1_init_4 rfl rfl ?_
  refine sn_bipush (pc := 5) (v := 6) dX1_init_5 (by decide) ?_
  refine sn_newI (pc := 7) dX1_init_7 wt1_109 (fun a1 => ?_)
  refine sn_pR (pc := 9) (v := (some a1)) dX1_init_9 flX1_9 rfl (Or.inr ⟨_, rfl⟩) (Or.inr ⟨rfl, rfl, rfl⟩) ?_
  refine sn_aload_n (pc := 12) (j := 0) dX1_init_12 rfl rfl ?_
  refine sn_bipush (pc := 13) (v := 6) dX1_init_13 (by decide) ?_
  refine sn_newI (pc := 15) dX1_init_15 wt1_109 (fun a2 => ?_)
  refine sn_pR (pc := 17) (v := (some a2)) dX1_init_17 flX1_15 rfl (Or.inr ⟨_, rfl⟩) (Or.inr ⟨rfl, rfl, rfl⟩) ?_
  refine sn_aload_n (pc := 20) (j := 0) dX1_init_20 rfl rfl ?_
  refine sn_bipush (pc := 21) (v := 8) dX1_init_21 (by decide) ?_
  refine sn_newI (pc := 23) dX1_init_23 wt1_109 (fun a3 => ?_)
  refine sn_pR (pc := 25) (v := (some a3)) dX1_init_25 flX1_18 rfl (Or.inr ⟨_, rfl⟩) (Or.inr ⟨rfl, rfl, rfl⟩) ?_
  exact sn_vret (pc := 28) dX1_init_28 rfl
theorem iX1_init : MI yX1_init cX1_init 1 none 0 := ⟨wt1_9, wt2_35, by decide +kernel, by decide⟩
-- NeedleHomes$EvenPay leastRateFor(II)I
theorem dX1_leastRateFor_0 : decode cX1_leastRateFor 0 = .ok (.iload_n 0, 1) := by decide +kernel
theorem dX1_leastRateFor_1 : decode cX1_leastRateFor 1 = .ok (.iload_n 1, 1) := by decide +kernel
theorem dX1_leastRateFor_2 : decode cX1_leastRateFor 2 = .ok (.imul, 1) := by decide +kernel
theorem dX1_leastRateFor_3 : decode cX1_leastRateFor 3 = .ok (.sipush 3600, 3) := by decide +kernel
theorem dX1_leastRateFor_6 : decode cX1_leastRateFor 6 = .ok (.iadd, 1) := by decide +kernel
theorem dX1_leastRateFor_7 : decode cX1_leastRateFor 7 = .ok (.iconst 1, 1) := by decide +kernel
theorem dX1_leastRateFor_8 : decode cX1_leastRateFor 8 = .ok (.isub, 1) := by decide +kernel
theorem dX1_leastRateFor_9 : decode cX1_leastRateFor 9 = .ok (.sipush 3600, 3) := by decide +kernel
theorem dX1_leastRateFor_12 : decode cX1_leastRateFor 12 = .ok (.idiv, 1) := by decide +kernel
theorem dX1_leastRateFor_13 : decode cX1_leastRateFor 13 = .ok (.ireturn, 1) := by decide +kernel
abbrev dpX1_leastRateFor : Nat := 0
def fX1_leastRateFor (x0 : Int32) (x1 : Int32) : St → Option (Int32 × St) :=
 dv 3600 <|
 rt ((((x0 * x1) + 3600) - 1) / 3600)
set_option maxHeartbeats 4000000 in
set_option maxRecDepth 100000 in
theorem mX1_leastRateFor {E : Ev} {l : Launch} (x0 : Int32) (x1 : Int32) : MF E l dpX1_leastRateFor yX1_leastRateFor cX1_leastRateFor 2 (some .int) rvI [.int x0, .int x1] (fX1_leastRateFor x0 x1) := by
  refine MF.of (lv := [(0, .int x0), (1, .int x1)]) (by decide) (Nat.le_of_ble_eq_true rfl) rfl ?_
  unfold fX1_leastRateFor
  refine sn_iload_n (pc := 0) (j := 0) dX1_leastRateFor_0 rfl rfl ?_
  refine sn_iload_n (pc := 1) (j := 1) dX1_leastRateFor_1 rfl rfl ?_
  refine sn_imul (pc := 2) dX1_leastRateFor_2 ?_
  refine sn_sipush (pc := 3) (v := 3600) dX1_leastRateFor_3 (by decide) ?_
  refine sn_iadd (pc := 6) dX1_leastRateFor_6 ?_
  refine sn_iconst (pc := 7) (v := 1) dX1_leastRateFor_7 (by decide) ?_
  refine sn_isub (pc := 8) dX1_leastRateFor_8 ?_
  refine sn_sipush (pc := 9) (v := 3600) dX1_leastRateFor_9 (by decide) ?_
  refine sn_idiv (pc := 12) dX1_leastRateFor_12 ?_
  exact sn_iret (pc := 13) dX1_leastRateFor_13 rfl
theorem iX1_leastRateFor : MI yX1_leastRateFor cX1_leastRateFor 2 (some .int) 2 := ⟨wt1_9, wt5_176, by decide +kernel, by decide⟩
-- NeedleHomes$EvenPay nearestRate(III)I
theorem dX1_nearestRate_0 : decode cX1_nearestRate 0 = .ok (.iload_n 1, 1) := by decide +kernel
theorem dX1_nearestRate_1 : decode cX1_nearestRate 1 = .ok (.iload_n 2, 1) := by decide +kernel
theorem dX1_nearestRate_2 : decode cX1_nearestRate 2 = .ok (.invokestatic 86, 3) := by decide +kernel
theorem dX1_nearestRate_5 : decode cX1_nearestRate 5 = .ok (.istore 4, 2) := by decide +kernel
theorem dX1_nearestRate_7 : decode cX1_nearestRate 7 = .ok (.sipush 9999, 3) := by decide +kernel
theorem dX1_nearestRate_10 : decode cX1_nearestRate 10 = .ok (.iload_n 1, 1) := by decide +kernel
theorem dX1_nearestRate_11 : decode cX1_nearestRate 11 = .ok (.aload_n 0, 1) := by decide +kernel
theorem dX1_nearestRate_12 : decode cX1_nearestRate 12 = .ok (.getfield 21, 3) := by decide +kernel
theorem dX1_nearestRate_15 : decode cX1_nearestRate 15 = .ok (.iadd, 1) := by decide +kernel
theorem dX1_nearestRate_16 : decode cX1_nearestRate 16 = .ok (.iconst 1, 1) := by decide +kernel
theorem dX1_nearestRate_17 : decode cX1_nearestRate 17 = .ok (.iadd, 1) := by decide +kernel
theorem dX1_nearestRate_18 : decode cX1_nearestRate 18 = .ok (.iload_n 2, 1) := by decide +kernel
theorem dX1_nearestRate_19 : decode cX1_nearestRate 19 = .ok (.invokestatic 86, 3) := by decide +kernel
theorem dX1_nearestRate_22 : decode cX1_nearestRate 22 = .ok (.iconst 1, 1) := by decide +kernel
theorem dX1_nearestRate_23 : decode cX1_nearestRate 23 = .ok (.isub, 1) := by decide +kernel
theorem dX1_nearestRate_24 : decode cX1_nearestRate 24 = .ok (.invokestatic 89, 3) := by decide +kernel
theorem dX1_nearestRate_27 : decode cX1_nearestRate 27 = .ok (.istore 5, 2) := by decide +kernel
theorem dX1_nearestRate_29 : decode cX1_nearestRate 29 = .ok (.iload 4, 2) := by decide +kernel
theorem dX1_nearestRate_31 : decode cX1_nearestRate 31 = .ok (.iload 5, 2) := by decide +kernel
theorem dX1_nearestRate_33 : decode cX1_nearestRate 33 = .ok (.if_icmp .le 7, 3) := by decide +kernel
theorem dX1_nearestRate_36 : decode cX1_nearestRate 36 = .ok (.iconst (-1), 1) := by decide +kernel
theorem dX1_nearestRate_37 : decode cX1_nearestRate 37 = .ok (.goto 14, 3) := by decide +kernel
theorem dX1_nearestRate_40 : decode cX1_nearestRate 40 = .ok (.iload 4, 2) := by decide +kernel
theorem dX1_nearestRate_42 : decode cX1_nearestRate 42 = .ok (.iload 5, 2) := by decide +kernel
theorem dX1_nearestRate_44 : decode cX1_nearestRate 44 = .ok (.iload_n 3, 1) := by decide +kernel
theorem dX1_nearestRate_45 : decode cX1_nearestRate 45 = .ok (.invokestatic 89, 3) := by decide +kernel
theorem dX1_nearestRate_48 : decode cX1_nearestRate 48 = .ok (.invokestatic 43, 3) := by decide +kernel
theorem dX1_nearestRate_51 : decode cX1_nearestRate 51 = .ok (.ireturn, 1) := by decide +kernel
abbrev dpX1_nearestRate : Nat := 1
def fX1_nearestRate (a0 : Nat) (x1 : Int32) (x2 : Int32) (x3 : Int32) : St → Option (Int32 × St) :=
 cl (fX1_leastRateFor x1 x2) fun v1 =>
 gI 2 a0 2 fun v2 =>
 cl (fX1_leastRateFor ((x1 + v2) + 1) x2) fun v3 =>
 br (v1 ≤ (mnI 9999 (v3 - 1))) (rt (mxI v1 (mnI (mnI 9999 (v3 - 1)) x3)))
 (rt (-1))
set_option maxHeartbeats 4000000 in
set_option maxRecDepth 100000 in
theorem mX1_nearestRate {E : Ev} {l : Launch} (a0 : Nat) (x1 : Int32) (x2 : Int32) (x3 : Int32) : MF E l dpX1_nearestRate yX1_nearestRate cX1_nearestRate 6 (some .int) rvI [.ref (E.1 + a0), .int x1, .int x2, .int x3] (fX1_nearestRate a0 x1 x2 x3) := by
  refine MF.of (lv := [(0, .ref (E.1 + a0)), (1, .int x1), (2, .int x2), (3, .int x3)]) (by decide) (Nat.le_of_ble_eq_true rfl) rfl ?_
  unfold fX1_nearestRate
  refine sn_iload_n (pc := 0) (j := 1) dX1_nearestRate_0 rfl rfl ?_
  refine sn_iload_n (pc := 1) (j := 2) dX1_nearestRate_1 rfl rfl ?_
  refine sn_callS (pc := 2) dX1_nearestRate_2 iX1_leastRateFor wt5_175 wt5_174 (mX1_leastRateFor x1 x2) (by decide) rfl rfl (Nat.le_of_ble_eq_true rfl) (fun v1 => ?_)
  refine sn_istore (pc := 5) (i := 4) (lv' := [(4, .int v1), (0, .ref (E.1 + a0)), (1, .int x1), (2, .int x2), (3, .int x3)]) dX1_nearestRate_5 (by decide) rfl ?_
  refine sn_sipush (pc := 7) (v := 9999) dX1_nearestRate_7 (by decide) ?_
  refine sn_iload_n (pc := 10) (j := 2) dX1_nearestRate_10 rfl rfl ?_
  refine sn_aload_n (pc := 11) (j := 1) dX1_nearestRate_11 rfl rfl ?_
  refine sn_gI (pc := 12) dX1_nearestRate_12 flX1_21 rfl (fun v2 => ?_)
  refine sn_iadd (pc := 15) dX1_nearestRate_15 ?_
  refine sn_iconst (pc := 16) (v := 1) dX1_nearestRate_16 (by decide) ?_
  refine sn_iadd (pc := 17) dX1_nearestRate_17 ?_
  refine sn_iload_n (pc := 18) (j := 3) dX1_nearestRate_18 rfl rfl ?_
  refine sn_callS (pc := 19) dX1_nearestRate_19 iX1_leastRateFor wt5_175 wt5_174 (mX1_leastRateFor ((x1 + v2) + 1) x2) (by decide) rfl rfl (Nat.le_of_ble_eq_true rfl) (fun v3 => ?_)
  refine sn_iconst (pc := 22) (v := 1) dX1_nearestRate_22 (by decide) ?_
  refine sn_isub (pc := 23) dX1_nearestRate_23 ?_
  refine sn_mmin (pc := 24) dX1_nearestRate_24 wt5_177 wt2_116 wt1_11 wt2_117 (by decide) (Nat.le_of_ble_eq_true rfl) ?_
  refine sn_istore (pc := 27) (i := 5) (lv' := [(5, .int (mnI 9999 (v3 - 1))), (4, .int v1), (0, .ref (E.1 + a0)), (1, .int x1), (2, .int x2), (3, .int x3)]) dX1_nearestRate_27 (by decide) rfl ?_
  refine sn_iload (pc := 29) (j := 1) dX1_nearestRate_29 rfl ?_
  refine sn_iload (pc := 31) (j := 0) dX1_nearestRate_31 rfl ?_
  refine sn_icmp_le (pc := 33) (tgt := 40) dX1_nearestRate_33 (by decide) ?_ ?_
  · refine sn_iload (pc := 40) (j := 1) dX1_nearestRate_40 rfl ?_
    refine sn_iload (pc := 42) (j := 0) dX1_nearestRate_42 rfl ?_
    refine sn_iload_n (pc := 44) (j := 5) dX1_nearestRate_44 rfl rfl ?_
    refine sn_mmin (pc := 45) dX1_nearestRate_45 wt5_177 wt2_116 wt1_11 wt2_117 (by decide) (Nat.le_of_ble_eq_true rfl) ?_
    refine sn_mmax (pc := 48) dX1_nearestRate_48 wt5_165 wt2_119 wt1_11 wt2_120 (by decide) (Nat.le_of_ble_eq_true rfl) ?_
    exact sn_iret (pc := 51) dX1_nearestRate_51 rfl
  · refine sn_iconst (pc := 36) (v := (-1)) dX1_nearestRate_36 (by decide) ?_
    refine sn_goto (pc := 37) (tgt := 51) dX1_nearestRate_37 (by decide) ?_
    exact sn_iret (pc := 51) dX1_nearestRate_51 rfl
theorem iX1_nearestRate : MI yX1_nearestRate cX1_nearestRate 6 (some .int) 3 := ⟨wt1_9, wt5_173, by decide +kernel, by decide⟩
-- NeedleHomes$EvenPay changeFor(I)I
theorem dX1_changeFor_0 : decode cX1_changeFor 0 = .ok (.iconst 0, 1) := by decide +kernel
theorem dX1_changeFor_1 : decode cX1_changeFor 1 = .ok (.istore_n 2, 1) := by decide +kernel
theorem dX1_changeFor_2 : decode cX1_changeFor 2 = .ok (.iconst 0, 1) := by decide +kernel
theorem dX1_changeFor_3 : decode cX1_changeFor 3 = .ok (.istore_n 3, 1) := by decide +kernel
theorem dX1_changeFor_4 : decode cX1_changeFor 4 = .ok (.iload_n 3, 1) := by decide +kernel
theorem dX1_changeFor_5 : decode cX1_changeFor 5 = .ok (.bipush 6, 2) := by decide +kernel
theorem dX1_changeFor_7 : decode cX1_changeFor 7 = .ok (.if_icmp .ge 51, 3) := by decide +kernel
theorem dX1_changeFor_10 : decode cX1_changeFor 10 = .ok (.aload_n 0, 1) := by decide +kernel
theorem dX1_changeFor_11 : decode cX1_changeFor 11 = .ok (.iload_n 1, 1) := by decide +kernel
theorem dX1_changeFor_12 : decode cX1_changeFor 12 = .ok (.aload_n 0, 1) := by decide +kernel
theorem dX1_changeFor_13 : decode cX1_changeFor 13 = .ok (.getfield 15, 3) := by decide +kernel
theorem dX1_changeFor_16 : decode cX1_changeFor 16 = .ok (.iload_n 3, 1) := by decide +kernel
theorem dX1_changeFor_17 : decode cX1_changeFor 17 = .ok (.iaload, 1) := by decide +kernel
theorem dX1_changeFor_18 : decode cX1_changeFor 18 = .ok (.aload_n 0, 1) := by decide +kernel
theorem dX1_changeFor_19 : decode cX1_changeFor 19 = .ok (.getfield 9, 3) := by decide +kernel
theorem dX1_changeFor_22 : decode cX1_changeFor 22 = .ok (.iload_n 3, 1) := by decide +kernel
theorem dX1_changeFor_23 : decode cX1_changeFor 23 = .ok (.iaload, 1) := by decide +kernel
theorem dX1_changeFor_24 : decode cX1_changeFor 24 = .ok (.invokevirtual 76, 3) := by decide +kernel
theorem dX1_changeFor_27 : decode cX1_changeFor 27 = .ok (.istore 4, 2) := by decide +kernel
theorem dX1_changeFor_29 : decode cX1_changeFor 29 = .ok (.iload 4, 2) := by decide +kernel
theorem dX1_changeFor_31 : decode cX1_changeFor 31 = .ok (.iconst (-1), 1) := by decide +kernel
theorem dX1_changeFor_32 : decode cX1_changeFor 32 = .ok (.if_icmp .ne 5, 3) := by decide +kernel
theorem dX1_changeFor_35 : decode cX1_changeFor 35 = .ok (.iconst (-1), 1) := by decide +kernel
theorem dX1_changeFor_36 : decode cX1_changeFor 36 = .ok (.ireturn, 1) := by decide +kernel
theorem dX1_changeFor_37 : decode cX1_changeFor 37 = .ok (.iload_n 2, 1) := by decide +kernel
theorem dX1_changeFor_38 : decode cX1_changeFor 38 = .ok (.iload 4, 2) := by decide +kernel
theorem dX1_changeFor_40 : decode cX1_changeFor 40 = .ok (.aload_n 0, 1) := by decide +kernel
theorem dX1_changeFor_41 : decode cX1_changeFor 41 = .ok (.getfield 9, 3) := by decide +kernel
theorem dX1_changeFor_44 : decode cX1_changeFor 44 = .ok (.iload_n 3, 1) := by decide +kernel
theorem dX1_changeFor_45 : decode cX1_changeFor 45 = .ok (.iaload, 1) := by decide +kernel
theorem dX1_changeFor_46 : decode cX1_changeFor 46 = .ok (.isub, 1) := by decide +kernel
theorem dX1_changeFor_47 : decode cX1_changeFor 47 = .ok (.invokestatic 79, 3) := by decide +kernel
theorem dX1_changeFor_50 : decode cX1_changeFor 50 = .ok (.iadd, 1) := by decide +kernel
theorem dX1_changeFor_51 : decode cX1_changeFor 51 = .ok (.istore_n 2, 1) := by decide +kernel
theorem dX1_changeFor_52 : decode cX1_changeFor 52 = .ok (.iinc 3 1, 3) := by decide +kernel
theorem dX1_changeFor_55 : decode cX1_changeFor 55 = .ok (.goto (-51), 3) := by decide +kernel
theorem dX1_changeFor_58 : decode cX1_changeFor 58 = .ok (.iload_n 2, 1) := by decide +kernel
theorem dX1_changeFor_59 : decode cX1_changeFor 59 = .ok (.ireturn, 1) := by decide +kernel
abbrev dpX1_changeFor : Nat := 2
def fX1_changeFor_4 (k4 : (Nat × Int32 × Int32 × Int32) → St → Option (Int32 × St)) (a0 : Nat) (x1 : Int32) (x2 : Int32) (x3 : Int32) : St → Option (Int32 × St) :=
 br (6 ≤ x3) (rt x2)
 (gR 2 a0 4 fun v1001 =>
 nn v1001 fun a1003 =>
 aI 15 a1003 x3 fun v1002 =>
 gR 2 a0 3 fun v1004 =>
 nn v1004 fun a1006 =>
 aI 15 a1006 x3 fun v1005 =>
 ck 2 a0 <| cl (fX1_nearestRate a0 x1 v1002 v1005) fun v1007 =>
 br (v1007 = (-1)) (rt (-1))
 (gR 2 a0 3 fun v1008 =>
 nn v1008 fun a1010 =>
 aI 15 a1010 x3 fun v1009 =>
 k4 (a0, x1, (x2 + (abI (v1007 - v1009))), (x3 + 1))))
set_option maxHeartbeats 4000000 in
set_option maxRecDepth 100000 in
theorem sfX1_changeFor_4 {E : Ev} {l : Launch} (k4 : (Nat × Int32 × Int32 × Int32) → St → Option (Int32 × St)) (hk4 : ∀ p : Nat × Int32 × Int32 × Int32, Snd E l (dpX1_changeFor, RX1, cX1_changeFor, 5, (some .int), "changeFor") rvI 4 [(0, .ref (E.1 + p.1)), (1, .int p.2.1), (2, .int p.2.2.1), (3, .int p.2.2.2)] [] (k4 p)) (a0 : Nat) (x1 : Int32) (x2 : Int32) (x3 : Int32) : Snd E l (dpX1_changeFor, RX1, cX1_changeFor, 5, (some .int), "changeFor") rvI 4 [(0, .ref (E.1 + a0)), (1, .int x1), (2, .int x2), (3, .int x3)] [] (fX1_changeFor_4 k4 a0 x1 x2 x3) := by
  unfold fX1_changeFor_4
  refine sn_iload_n (pc := 4) (j := 3) dX1_changeFor_4 rfl rfl ?_
  refine sn_bipush (pc := 5) (v := 6) dX1_changeFor_5 (by decide) ?_
  refine sn_icmp_ge (pc := 7) (tgt := 58) dX1_changeFor_7 (by decide) ?_ ?_
  · refine sn_iload_n (pc := 58) (j := 2) dX1_changeFor_58 rfl rfl ?_
    exact sn_iret (pc := 59) dX1_changeFor_59 rfl
  · refine sn_aload_n (pc := 10) (j := 0) dX1_changeFor_10 rfl rfl ?_
    refine sn_iload_n (pc := 11) (j := 1) dX1_changeFor_11 rfl rfl ?_
    refine sn_aload_n (pc := 12) (j := 0) dX1_changeFor_12 rfl rfl ?_
    refine sn_gR (pc := 13) dX1_changeFor_13 flX1_15 rfl (fun v1001 => ?_)
    refine sn_iload_n (pc := 16) (j := 3) dX1_changeFor_16 rfl rfl ?_
    rcases v1001 with _ | a1003
    · exact sn_no
    refine sn_nn ?_
    refine sn_iald (pc := 17) dX1_changeFor_17 (fun v1002 => ?_)
    refine sn_aload_n (pc := 18) (j := 0) dX1_changeFor_18 rfl rfl ?_
    refine sn_gR (pc := 19) dX1_changeFor_19 flX1_9 rfl (fun v1004 => ?_)
    refine sn_iload_n (pc := 22) (j := 3) dX1_changeFor_22 rfl rfl ?_
    rcases v1004 with _ | a1006
    · exact sn_no
    refine sn_nn ?_
    refine sn_iald (pc := 23) dX1_changeFor_23 (fun v1005 => ?_)
    refine sn_callV (ci := 1) (pc := 24) dX1_changeFor_24 iX1_nearestRate wt5_172 ws_36 wt5_170 ⟨_, rfl, rfl⟩ (by decide) (mX1_nearestRate a0 x1 v1002 v1005) (by decide) rfl rfl (Nat.le_of_ble_eq_true rfl) (fun v1007 => ?_)
    refine sn_istore (pc := 27) (i := 4) (lv' := [(4, .int v1007), (0, .ref (E.1 + a0)), (1, .int x1), (2, .int x2), (3, .int x3)]) dX1_changeFor_27 (by decide) rfl ?_
    refine sn_iload (pc := 29) (j := 0) dX1_changeFor_29 rfl ?_
    refine sn_iconst (pc := 31) (v := (-1)) dX1_changeFor_31 (by decide) ?_
    refine sn_icmp_ne (pc := 32) (tgt := 37) dX1_changeFor_32 (by decide) ?_ ?_
    · refine sn_iload_n (pc := 37) (j := 3) dX1_changeFor_37 rfl rfl ?_
      refine sn_iload (pc := 38) (j := 0) dX1_changeFor_38 rfl ?_
      refine sn_aload_n (pc := 40) (j := 1) dX1_changeFor_40 rfl rfl ?_
      refine sn_gR (pc := 41) dX1_changeFor_41 flX1_9 rfl (fun v1008 => ?_)
      refine sn_iload_n (pc := 44) (j := 4) dX1_changeFor_44 rfl rfl ?_
      rcases v1008 with _ | a1010
      · exact sn_no
      refine sn_nn ?_
      refine sn_iald (pc := 45) dX1_changeFor_45 (fun v1009 => ?_)
      refine sn_isub (pc := 46) dX1_changeFor_46 ?_
      refine sn_mabs (pc := 47) dX1_changeFor_47 wt5_178 wt5_112 wt1_11 wt5_113 (by decide) (Nat.le_of_ble_eq_true rfl) ?_
      refine sn_iadd (pc := 50) dX1_changeFor_50 ?_
      refine sn_istore_n (pc := 51) (i := 2) (lv' := [(2, .int (x2 + (abI (v1007 - v1009)))), (4, .int v1007), (0, .ref (E.1 + a0)), (1, .int x1), (3, .int x3)]) dX1_changeFor_51 rfl (by decide) rfl ?_
      refine sn_iinc (pc := 52) (v := x3 + 1) (lv' := [(3, .int (x3 + 1)), (2, .int (x2 + (abI (v1007 - v1009)))), (4, .int v1007), (0, .ref (E.1 + a0)), (1, .int x1)]) (j := 4) dX1_changeFor_52 rfl rfl (by decide) rfl ?_
      refine sn_goto (pc := 55) (tgt := 4) dX1_changeFor_55 (by decide) ?_
      exact sn_sub (lv' := [(0, .ref (E.1 + a0)), (1, .int x1), (2, .int (x2 + (abI (v1007 - v1009)))), (3, .int (x3 + 1))]) [3, 4, 1, 0] rfl (hk4 (a0, x1, (x2 + (abI (v1007 - v1009))), (x3 + 1)))
    · refine sn_iconst (pc := 35) (v := (-1)) dX1_changeFor_35 (by decide) ?_
      exact sn_iret (pc := 36) dX1_changeFor_36 rfl
def fX1_changeFor (a0 : Nat) (x1 : Int32) : St → Option (Int32 × St) :=
 itr (fun k (p : Nat × Int32 × Int32 × Int32) => fX1_changeFor_4  k p.1 p.2.1 p.2.2.1 p.2.2.2) FU (a0, x1, 0, 0)
set_option maxHeartbeats 4000000 in
set_option maxRecDepth 100000 in
theorem mX1_changeFor {E : Ev} {l : Launch} (a0 : Nat) (x1 : Int32) : MF E l dpX1_changeFor yX1_changeFor cX1_changeFor 5 (some .int) rvI [.ref (E.1 + a0), .int x1] (fX1_changeFor a0 x1) := by
  refine MF.of (lv := [(0, .ref (E.1 + a0)), (1, .int x1)]) (by decide) (Nat.le_of_ble_eq_true rfl) rfl ?_
  unfold fX1_changeFor
  refine sn_iconst (pc := 0) (v := 0) dX1_changeFor_0 (by decide) ?_
  refine sn_istore_n (pc := 1) (i := 2) (lv' := [(2, .int 0), (0, .ref (E.1 + a0)), (1, .int x1)]) dX1_changeFor_1 rfl (by decide) rfl ?_
  refine sn_iconst (pc := 2) (v := 0) dX1_changeFor_2 (by decide) ?_
  refine sn_istore_n (pc := 3) (i := 3) (lv' := [(3, .int 0), (2, .int 0), (0, .ref (E.1 + a0)), (1, .int x1)]) dX1_changeFor_3 rfl (by decide) rfl ?_
  exact sn_sub (lv' := [(0, .ref (E.1 + a0)), (1, .int x1), (2, .int 0), (3, .int 0)]) [2, 3, 1, 0] rfl (sn_itr (lvf := fun p => [(0, .ref (E.1 + p.1)), (1, .int p.2.1), (2, .int p.2.2.1), (3, .int p.2.2.2)]) (stf := fun p => []) (fun k hk p => sfX1_changeFor_4  k hk p.1 p.2.1 p.2.2.1 p.2.2.2) FU (a0, x1, 0, 0))
theorem iX1_changeFor : MI yX1_changeFor cX1_changeFor 5 (some .int) 1 := ⟨wt1_9, wt5_169, by decide +kernel, by decide⟩
-- NeedleHomes$EvenPay highestPay()I
theorem dX1_highestPay_0 : decode cX1_highestPay 0 = .ok (.iconst 0, 1) := by decide +kernel
theorem dX1_highestPay_1 : decode cX1_highestPay 1 = .ok (.istore_n 1, 1) := by decide +kernel
theorem dX1_highestPay_2 : decode cX1_highestPay 2 = .ok (.iconst 0, 1) := by decide +kernel
theorem dX1_highestPay_3 : decode cX1_highestPay 3 = .ok (.istore_n 2, 1) := by decide +kernel
theorem dX1_highestPay_4 : decode cX1_highestPay 4 = .ok (.iload_n 2, 1) := by decide +kernel
theorem dX1_highestPay_5 : decode cX1_highestPay 5 = .ok (.bipush 6, 2) := by decide +kernel
theorem dX1_highestPay_7 : decode cX1_highestPay 7 = .ok (.if_icmp .ge 40, 3) := by decide +kernel
theorem dX1_highestPay_10 : decode cX1_highestPay 10 = .ok (.aload_n 0, 1) := by decide +kernel
theorem dX1_highestPay_11 : decode cX1_highestPay 11 = .ok (.getfield 15, 3) := by decide +kernel
theorem dX1_highestPay_14 : decode cX1_highestPay 14 = .ok (.iload_n 2, 1) := by decide +kernel
theorem dX1_highestPay_15 : decode cX1_highestPay 15 = .ok (.iaload, 1) := by decide +kernel
theorem dX1_highestPay_16 : decode cX1_highestPay 16 = .ok (.ifCond .le 25, 3) := by decide +kernel
theorem dX1_highestPay_19 : decode cX1_highestPay 19 = .ok (.iload_n 1, 1) := by decide +kernel
theorem dX1_highestPay_20 : decode cX1_highestPay 20 = .ok (.aload_n 0, 1) := by decide +kernel
theorem dX1_highestPay_21 : decode cX1_highestPay 21 = .ok (.getfield 9, 3) := by decide +kernel
theorem dX1_highestPay_24 : decode cX1_highestPay 24 = .ok (.iload_n 2, 1) := by decide +kernel
theorem dX1_highestPay_25 : decode cX1_highestPay 25 = .ok (.iaload, 1) := by decide +kernel
theorem dX1_highestPay_26 : decode cX1_highestPay 26 = .ok (.sipush 3600, 3) := by decide +kernel
theorem dX1_highestPay_29 : decode cX1_highestPay 29 = .ok (.imul, 1) := by decide +kernel
theorem dX1_highestPay_30 : decode cX1_highestPay 30 = .ok (.aload_n 0, 1) := by decide +kernel
theorem dX1_highestPay_31 : decode cX1_highestPay 31 = .ok (.getfield 15, 3) := by decide +kernel
theorem dX1_highestPay_34 : decode cX1_highestPay 34 = .ok (.iload_n 2, 1) := by decide +kernel
theorem dX1_highestPay_35 : decode cX1_highestPay 35 = .ok (.iaload, 1) := by decide +kernel
theorem dX1_highestPay_36 : decode cX1_highestPay 36 = .ok (.idiv, 1) := by decide +kernel
theorem dX1_highestPay_37 : decode cX1_highestPay 37 = .ok (.invokestatic 43, 3) := by decide +kernel
theorem dX1_highestPay_40 : decode cX1_highestPay 40 = .ok (.istore_n 1, 1) := by decide +kernel
theorem dX1_highestPay_41 : decode cX1_highestPay 41 = .ok (.iinc 2 1, 3) := by decide +kernel
theorem dX1_highestPay_44 : decode cX1_highestPay 44 = .ok (.goto (-40), 3) := by decide +kernel
theorem dX1_highestPay_47 : decode cX1_highestPay 47 = .ok (.iload_n 1, 1) := by decide +kernel
theorem dX1_highestPay_48 : decode cX1_highestPay 48 = .ok (.ireturn, 1) := by decide +kernel
abbrev dpX1_highestPay : Nat := 1
def fX1_highestPay_41 (k4 : (Nat × Int32 × Int32) → St → Option (Int32 × St)) (a0 : Nat) (x1 : Int32) (x2 : Int32) : St → Option (Int32 × St) :=
 k4 (a0, x1, (x2 + 1))
set_option maxHeartbeats 4000000 in
set_option maxRecDepth 100000 in
theorem sfX1_highestPay_41 {E : Ev} {l : Launch} (k4 : (Nat × Int32 × Int32) → St → Option (Int32 × St)) (hk4 : ∀ p : Nat × Int32 × Int32, Snd E l (dpX1_highestPay, RX1, cX1_highestPay, 3, (some .int), "highestPay") rvI 4 [(0, .ref (E.1 + p.1)), (1, .int p.2.1), (2, .int p.2.2)] [] (k4 p)) (a0 : Nat) (x1 : Int32) (x2 : Int32) : Snd E l (dpX1_highestPay, RX1, cX1_highestPay, 3, (some .int), "highestPay") rvI 41 [(0, .ref (E.1 + a0)), (1, .int x1), (2, .int x2)] [] (fX1_highestPay_41 k4 a0 x1 x2) := by
  unfold fX1_highestPay_41
  refine sn_iinc (pc := 41) (v := x2 + 1) (lv' := [(2, .int (x2 + 1)), (0, .ref (E.1 + a0)), (1, .int x1)]) (j := 2) dX1_highestPay_41 rfl rfl (by decide) rfl ?_
  refine sn_goto (pc := 44) (tgt := 4) dX1_highestPay_44 (by decide) ?_
  exact sn_sub (lv' := [(0, .ref (E.1 + a0)), (1, .int x1), (2, .int (x2 + 1))]) [1, 2, 0] rfl (hk4 (a0, x1, (x2 + 1)))
def fX1_highestPay_4 (k4 : (Nat × Int32 × Int32) → St → Option (Int32 × St)) (a0 : Nat) (x1 : Int32) (x2 : Int32) : St → Option (Int32 × St) :=
 br (6 ≤ x2) (rt x1)
 (gR 2 a0 4 fun v1001 =>
 nn v1001 fun a1003 =>
 aI 15 a1003 x2 fun v1002 =>
 br (v1002 ≤ 0) (fX1_highestPay_41 k4 a0 x1 x2)
 (gR 2 a0 3 fun v1004 =>
 nn v1004 fun a1006 =>
 aI 15 a1006 x2 fun v1005 =>
 gR 2 a0 4 fun v1007 =>
 nn v1007 fun a1009 =>
 aI 15 a1009 x2 fun v1008 =>
 dv v1008 <|
 fX1_highestPay_41 k4 a0 (mxI x1 ((v1005 * 3600) / v1008)) x2))
set_option maxHeartbeats 4000000 in
set_option maxRecDepth 100000 in
theorem sfX1_highestPay_4 {E : Ev} {l : Launch} (k4 : (Nat × Int32 × Int32) → St → Option (Int32 × St)) (hk4 : ∀ p : Nat × Int32 × Int32, Snd E l (dpX1_highestPay, RX1, cX1_highestPay, 3, (some .int), "highestPay") rvI 4 [(0, .ref (E.1 + p.1)), (1, .int p.2.1), (2, .int p.2.2)] [] (k4 p)) (a0 : Nat) (x1 : Int32) (x2 : Int32) : Snd E l (dpX1_highestPay, RX1, cX1_highestPay, 3, (some .int), "highestPay") rvI 4 [(0, .ref (E.1 + a0)), (1, .int x1), (2, .int x2)] [] (fX1_highestPay_4 k4 a0 x1 x2) := by
  unfold fX1_highestPay_4
  refine sn_iload_n (pc := 4) (j := 2) dX1_highestPay_4 rfl rfl ?_
  refine sn_bipush (pc := 5) (v := 6) dX1_highestPay_5 (by decide) ?_
  refine sn_icmp_ge (pc := 7) (tgt := 47) dX1_highestPay_7 (by decide) ?_ ?_
  · refine sn_iload_n (pc := 47) (j := 1) dX1_highestPay_47 rfl rfl ?_
    exact sn_iret (pc := 48) dX1_highestPay_48 rfl
  · refine sn_aload_n (pc := 10) (j := 0) dX1_highestPay_10 rfl rfl ?_
    refine sn_gR (pc := 11) dX1_highestPay_11 flX1_15 rfl (fun v1001 => ?_)
    refine sn_iload_n (pc := 14) (j := 2) dX1_highestPay_14 rfl rfl ?_
    rcases v1001 with _ | a1003
    · exact sn_no
    refine sn_nn ?_
    refine sn_iald (pc := 15) dX1_highestPay_15 (fun v1002 => ?_)
    refine sn_if_le (pc := 16) (tgt := 41) dX1_highestPay_16 (by decide) ?_ ?_
    · exact sn_sub (lv' := [(0, .ref (E.1 + a0)), (1, .int x1), (2, .int x2)]) [0, 1, 2] rfl (sfX1_highestPay_41 k4 hk4 a0 x1 x2)
    · refine sn_iload_n (pc := 19) (j := 1) dX1_highestPay_19 rfl rfl ?_
      refine sn_aload_n (pc := 20) (j := 0) dX1_highestPay_20 rfl rfl ?_
      refine sn_gR (pc := 21) dX1_highestPay_21 flX1_9 rfl (fun v1004 => ?_)
      refine sn_iload_n (pc := 24) (j := 2) dX1_highestPay_24 rfl rfl ?_
      rcases v1004 with _ | a1006
      · exact sn_no
      refine sn_nn ?_
      refine sn_iald (pc := 25) dX1_highestPay_25 (fun v1005 => ?_)
      refine sn_sipush (pc := 26) (v := 3600) dX1_highestPay_26 (by decide) ?_
      refine sn_imul (pc := 29) dX1_highestPay_29 ?_
      refine sn_aload_n (pc := 30) (j := 0) dX1_highestPay_30 rfl rfl ?_
      refine sn_gR (pc := 31) dX1_highestPay_31 flX1_15 rfl (fun v1007 => ?_)
      refine sn_iload_n (pc := 34) (j := 2) dX1_highestPay_34 rfl rfl ?_
      rcases v1007 with _ | a1009
      · exact sn_no
      refine sn_nn ?_
      refine sn_iald (pc := 35) dX1_highestPay_35 (fun v1008 => ?_)
      refine sn_idiv (pc := 36) dX1_highestPay_36 ?_
      refine sn_mmax (pc := 37) dX1_highestPay_37 wt5_165 wt2_119 wt1_11 wt2_120 (by decide) (Nat.le_of_ble_eq_true rfl) ?_
      refine sn_istore_n (pc := 40) (i := 1) (lv' := [(1, .int (mxI x1 ((v1005 * 3600) / v1008))), (0, .ref (E.1 + a0)), (2, .int x2)]) dX1_highestPay_40 rfl (by decide) rfl ?_
      exact sn_sub (lv' := [(0, .ref (E.1 + a0)), (1, .int (mxI x1 ((v1005 * 3600) / v1008))), (2, .int x2)]) [1, 0, 2] rfl (sfX1_highestPay_41 k4 hk4 a0 (mxI x1 ((v1005 * 3600) / v1008)) x2)
def fX1_highestPay (a0 : Nat) : St → Option (Int32 × St) :=
 itr (fun k (p : Nat × Int32 × Int32) => fX1_highestPay_4  k p.1 p.2.1 p.2.2) FU (a0, 0, 0)
set_option maxHeartbeats 4000000 in
set_option maxRecDepth 100000 in
theorem mX1_highestPay {E : Ev} {l : Launch} (a0 : Nat) : MF E l dpX1_highestPay yX1_highestPay cX1_highestPay 3 (some .int) rvI [.ref (E.1 + a0)] (fX1_highestPay a0) := by
  refine MF.of (lv := [(0, .ref (E.1 + a0))]) (by decide) (Nat.le_of_ble_eq_true rfl) rfl ?_
  unfold fX1_highestPay
  refine sn_iconst (pc := 0) (v := 0) dX1_highestPay_0 (by decide) ?_
  refine sn_istore_n (pc := 1) (i := 1) (lv' := [(1, .int 0), (0, .ref (E.1 + a0))]) dX1_highestPay_1 rfl (by decide) rfl ?_
  refine sn_iconst (pc := 2) (v := 0) dX1_highestPay_2 (by decide) ?_
  refine sn_istore_n (pc := 3) (i := 2) (lv' := [(2, .int 0), (1, .int 0), (0, .ref (E.1 + a0))]) dX1_highestPay_3 rfl (by decide) rfl ?_
  exact sn_sub (lv' := [(0, .ref (E.1 + a0)), (1, .int 0), (2, .int 0)]) [2, 1, 0] rfl (sn_itr (lvf := fun p => [(0, .ref (E.1 + p.1)), (1, .int p.2.1), (2, .int p.2.2)]) (stf := fun p => []) (fun k hk p => sfX1_highestPay_4  k hk p.1 p.2.1 p.2.2) FU (a0, 0, 0))
theorem iX1_highestPay : MI yX1_highestPay cX1_highestPay 3 (some .int) 0 := ⟨wt1_9, wt5_164, by decide +kernel, by decide⟩
-- java/util/Arrays fill([II)V
theorem dJ7_fill_53178_0 : decode cJ7_fill_53178 0 = .ok (.iconst 0, 1) := by decide +kernel
theorem dJ7_fill_53178_1 : decode cJ7_fill_53178 1 = .ok (.istore_n 2, 1) := by decide +kernel
theorem dJ7_fill_53178_2 : decode cJ7_fill_53178 2 = .ok (.aload_n 0, 1) := by decide +kernel
theorem dJ7_fill_53178_3 : decode cJ7_fill_53178 3 = .ok (.arraylength, 1) := by decide +kernel
theorem dJ7_fill_53178_4 : decode cJ7_fill_53178 4 = .ok (.istore_n 3, 1) := by decide +kernel
theorem dJ7_fill_53178_5 : decode cJ7_fill_53178 5 = .ok (.iload_n 2, 1) := by decide +kernel
theorem dJ7_fill_53178_6 : decode cJ7_fill_53178 6 = .ok (.iload_n 3, 1) := by decide +kernel
theorem dJ7_fill_53178_7 : decode cJ7_fill_53178 7 = .ok (.if_icmp .ge 13, 3) := by decide +kernel
theorem dJ7_fill_53178_10 : decode cJ7_fill_53178 10 = .ok (.aload_n 0, 1) := by decide +kernel
theorem dJ7_fill_53178_11 : decode cJ7_fill_53178 11 = .ok (.iload_n 2, 1) := by decide +kernel
theorem dJ7_fill_53178_12 : decode cJ7_fill_53178 12 = .ok (.iload_n 1, 1) := by decide +kernel
theorem dJ7_fill_53178_13 : decode cJ7_fill_53178 13 = .ok (.iastore, 1) := by decide +kernel
theorem dJ7_fill_53178_14 : decode cJ7_fill_53178 14 = .ok (.iinc 2 1, 3) := by decide +kernel
theorem dJ7_fill_53178_17 : decode cJ7_fill_53178 17 = .ok (.goto (-12), 3) := by decide +kernel
theorem dJ7_fill_53178_20 : decode cJ7_fill_53178 20 = .ok (.return_, 1) := by decide +kernel
abbrev dpJ7_fill_53178 : Nat := 0
def fJ7_fill_53178_5 (k5 : (Option Nat × Int32 × Int32 × Int32) → St → Option (Unit × St)) (x0 : Option Nat) (x1 : Int32) (x2 : Int32) (x3 : Int32) : St → Option (Unit × St) :=
 br (x3 ≤ x2) (rt ())
 (nn x0 fun a1001 =>
 wI a1001 x2 x1 <|
 k5 ((some a1001), x1, (x2 + 1), x3))
set_option maxHeartbeats 4000000 in
set_option maxRecDepth 100000 in
theorem sfJ7_fill_53178_5 {E : Ev} {l : Launch} (k5 : (Option Nat × Int32 × Int32 × Int32) → St → Option (Unit × St)) (hk5 : ∀ p : Option Nat × Int32 × Int32 × Int32, Snd E l (dpJ7_fill_53178, RJ7, cJ7_fill_53178, 4, none, "fill") rvV 5 [(0, rf E.1 p.1), (1, .int p.2.1), (2, .int p.2.2.1), (3, .int p.2.2.2)] [] (k5 p)) (x0 : Option Nat) (x1 : Int32) (x2 : Int32) (x3 : Int32) : Snd E l (dpJ7_fill_53178, RJ7, cJ7_fill_53178, 4, none, "fill") rvV 5 [(0, rf E.1 x0), (1, .int x1), (2, .int x2), (3, .int x3)] [] (fJ7_fill_53178_5 k5 x0 x1 x2 x3) := by
  unfold fJ7_fill_53178_5
  refine sn_iload_n (pc := 5) (j := 2) dJ7_fill_53178_5 rfl rfl ?_
  refine sn_iload_n (pc := 6) (j := 3) dJ7_fill_53178_6 rfl rfl ?_
  refine sn_icmp_ge (pc := 7) (tgt := 20) dJ7_fill_53178_7 (by decide) ?_ ?_
  · exact sn_vret (pc := 20) dJ7_fill_53178_20 rfl
  · refine sn_aloadR_n (pc := 10) (r := x0) (j := 0) dJ7_fill_53178_10 rfl rfl ?_
    refine sn_iload_n (pc := 11) (j := 2) dJ7_fill_53178_11 rfl rfl ?_
    refine sn_iload_n (pc := 12) (j := 1) dJ7_fill_53178_12 rfl rfl ?_
    rcases x0 with _ | a1001
    · exact sn_no
    refine sn_nn ?_
    refine sn_iast (pc := 13) dJ7_fill_53178_13 ?_
    refine sn_iinc (pc := 14) (v := x2 + 1) (lv' := [(2, .int (x2 + 1)), (0, .ref (E.1 + a1001)), (1, .int x1), (3, .int x3)]) (j := 2) dJ7_fill_53178_14 rfl rfl (by decide) rfl ?_
    refine sn_goto (pc := 17) (tgt := 5) dJ7_fill_53178_17 (by decide) ?_
    exact sn_sub (lv' := [(0, .ref (E.1 + a1001)), (1, .int x1), (2, .int (x2 + 1)), (3, .int x3)]) [1, 2, 0, 3] rfl (hk5 ((some a1001), x1, (x2 + 1), x3))
def fJ7_fill_53178 (x0 : Option Nat) (x1 : Int32) : St → Option (Unit × St) :=
 nn x0 fun a2 =>
 aL 15 a2 fun v1 =>
 itr (fun k (p : Option Nat × Int32 × Int32 × Int32) => fJ7_fill_53178_5  k p.1 p.2.1 p.2.2.1 p.2.2.2) FU ((some a2), x1, 0, v1)
set_option maxHeartbeats 4000000 in
set_option maxRecDepth 100000 in
theorem mJ7_fill_53178 {E : Ev} {l : Launch} (x0 : Option Nat) (x1 : Int32) : MF E l dpJ7_fill_53178 yJ7_fill_53178 cJ7_fill_53178 4 none rvV [rf E.1 x0, .int x1] (fJ7_fill_53178 x0 x1) := by
  refine MF.of (lv := [(0, rf E.1 x0), (1, .int x1)]) (by decide) (by simp [lg_sl, rf_cat, cat_int, cat_long, cat_ref]) (by simp [lv_args, rf_cat, cat_int, cat_long, cat_ref]) ?_
  unfold fJ7_fill_53178
  refine sn_iconst (pc := 0) (v := 0) dJ7_fill_53178_0 (by decide) ?_
  refine sn_istore_n (pc := 1) (i := 2) (lv' := [(2, .int 0), (0, rf E.1 x0), (1, .int x1)]) dJ7_fill_53178_1 rfl (by decide) rfl ?_
  refine sn_aloadR_n (pc := 2) (r := x0) (j := 1) dJ7_fill_53178_2 rfl rfl ?_
  rcases x0 with _ | a2
  · exact sn_no
  refine sn_nn ?_
  refine sn_alen (t := 1) (pc := 3) dJ7_fill_53178_3 rfl (fun v1 => ?_)
  refine sn_istore_n (pc := 4) (i := 3) (lv' := [(3, .int v1), (2, .int 0), (0, .ref (E.1 + a2)), (1, .int x1)]) dJ7_fill_53178_4 rfl (by decide) rfl ?_
  exact sn_sub (lv' := [(0, .ref (E.1 + a2)), (1, .int x1), (2, .int 0), (3, .int v1)]) [2, 3, 1, 0] rfl (sn_itr (lvf := fun p => [(0, rf E.1 p.1), (1, .int p.2.1), (2, .int p.2.2.1), (3, .int p.2.2.2)]) (stf := fun p => []) (fun k hk p => sfJ7_fill_53178_5  k hk p.1 p.2.1 p.2.2.1 p.2.2.2) FU ((some a2), x1, 0, v1))
theorem iJ7_fill_53178 : MI yJ7_fill_53178 cJ7_fill_53178 4 none 2 := ⟨wt1_3, wt1_46, by decide +kernel, by decide⟩
-- NeedleHomes$EvenPay takeRates(LNeedleHomes$World;I)V
theorem dX1_takeRates_0 : decode cX1_takeRates 0 = .ok (.aload_n 1, 1) := by decide +kernel
theorem dX1_takeRates_1 : decode cX1_takeRates 1 = .ok (.getfield 49, 3) := by decide +kernel
theorem dX1_takeRates_4 : decode cX1_takeRates 4 = .ok (.invokestatic 54, 3) := by decide +kernel
theorem dX1_takeRates_7 : decode cX1_takeRates 7 = .ok (.istore_n 3, 1) := by decide +kernel
theorem dX1_takeRates_8 : decode cX1_takeRates 8 = .ok (.aload_n 1, 1) := by decide +kernel
theorem dX1_takeRates_9 : decode cX1_takeRates 9 = .ok (.aload_n 1, 1) := by decide +kernel
theorem dX1_takeRates_10 : decode cX1_takeRates 10 = .ok (.iload_n 2, 1) := by decide +kernel
theorem dX1_takeRates_11 : decode cX1_takeRates 11 = .ok (.iload_n 3, 1) := by decide +kernel
theorem dX1_takeRates_12 : decode cX1_takeRates 12 = .ok (.aload_n 1, 1) := by decide +kernel
theorem dX1_takeRates_13 : decode cX1_takeRates 13 = .ok (.getfield 49, 3) := by decide +kernel
theorem dX1_takeRates_16 : decode cX1_takeRates 16 = .ok (.invokevirtual 57, 3) := by decide +kernel
theorem dX1_takeRates_19 : decode cX1_takeRates 19 = .ok (.invokevirtual 61, 3) := by decide +kernel
theorem dX1_takeRates_22 : decode cX1_takeRates 22 = .ok (.astore 4, 2) := by decide +kernel
theorem dX1_takeRates_24 : decode cX1_takeRates 24 = .ok (.aload_n 0, 1) := by decide +kernel
theorem dX1_takeRates_25 : decode cX1_takeRates 25 = .ok (.getfield 18, 3) := by decide +kernel
theorem dX1_takeRates_28 : decode cX1_takeRates 28 = .ok (.iconst 0, 1) := by decide +kernel
theorem dX1_takeRates_29 : decode cX1_takeRates 29 = .ok (.invokestatic 65, 3) := by decide +kernel
theorem dX1_takeRates_32 : decode cX1_takeRates 32 = .ok (.aload_n 0, 1) := by decide +kernel
theorem dX1_takeRates_33 : decode cX1_takeRates 33 = .ok (.getfield 18, 3) := by decide +kernel
theorem dX1_takeRates_36 : decode cX1_takeRates 36 = .ok (.iconst 4, 1) := by decide +kernel
theorem dX1_takeRates_37 : decode cX1_takeRates 37 = .ok (.bipush 100, 2) := by decide +kernel
theorem dX1_takeRates_39 : decode cX1_takeRates 39 = .ok (.iastore, 1) := by decide +kernel
theorem dX1_takeRates_40 : decode cX1_takeRates 40 = .ok (.aload_n 0, 1) := by decide +kernel
theorem dX1_takeRates_41 : decode cX1_takeRates 41 = .ok (.getfield 18, 3) := by decide +kernel
theorem dX1_takeRates_44 : decode cX1_takeRates 44 = .ok (.bipush 6, 2) := by decide +kernel
theorem dX1_takeRates_46 : decode cX1_takeRates 46 = .ok (.iload_n 3, 1) := by decide +kernel
theorem dX1_takeRates_47 : decode cX1_takeRates 47 = .ok (.iastore, 1) := by decide +kernel
theorem dX1_takeRates_48 : decode cX1_takeRates 48 = .ok (.iconst 0, 1) := by decide +kernel
theorem dX1_takeRates_49 : decode cX1_takeRates 49 = .ok (.istore 5, 2) := by decide +kernel
theorem dX1_takeRates_51 : decode cX1_takeRates 51 = .ok (.iload 5, 2) := by decide +kernel
theorem dX1_takeRates_53 : decode cX1_takeRates 53 = .ok (.bipush 6, 2) := by decide +kernel
theorem dX1_takeRates_55 : decode cX1_takeRates 55 = .ok (.if_icmp .ge 48, 3) := by decide +kernel
theorem dX1_takeRates_58 : decode cX1_takeRates 58 = .ok (.aload_n 0, 1) := by decide +kernel
theorem dX1_takeRates_59 : decode cX1_takeRates 59 = .ok (.getfield 18, 3) := by decide +kernel
theorem dX1_takeRates_62 : decode cX1_takeRates 62 = .ok (.iconst 0, 1) := by decide +kernel
theorem dX1_takeRates_63 : decode cX1_takeRates 63 = .ok (.iload 5, 2) := by decide +kernel
theorem dX1_takeRates_65 : decode cX1_takeRates 65 = .ok (.iastore, 1) := by decide +kernel
theorem dX1_takeRates_66 : decode cX1_takeRates 66 = .ok (.aload_n 0, 1) := by decide +kernel
theorem dX1_takeRates_67 : decode cX1_takeRates 67 = .ok (.getfield 9, 3) := by decide +kernel
theorem dX1_takeRates_70 : decode cX1_takeRates 70 = .ok (.iload 5, 2) := by decide +kernel
theorem dX1_takeRates_72 : decode cX1_takeRates 72 = .ok (.aload 4, 2) := by decide +kernel
theorem dX1_takeRates_74 : decode cX1_takeRates 74 = .ok (.iconst 0, 1) := by decide +kernel
theorem dX1_takeRates_75 : decode cX1_takeRates 75 = .ok (.aload_n 0, 1) := by decide +kernel
theorem dX1_takeRates_76 : decode cX1_takeRates 76 = .ok (.getfield 18, 3) := by decide +kernel
theorem dX1_takeRates_79 : decode cX1_takeRates 79 = .ok (.invokestatic 71, 3) := by decide +kernel
theorem dX1_takeRates_82 : decode cX1_takeRates 82 = .ok (.iastore, 1) := by decide +kernel
theorem dX1_takeRates_83 : decode cX1_takeRates 83 = .ok (.aload_n 0, 1) := by decide +kernel
theorem dX1_takeRates_84 : decode cX1_takeRates 84 = .ok (.getfield 15, 3) := by decide +kernel
theorem dX1_takeRates_87 : decode cX1_takeRates 87 = .ok (.iload 5, 2) := by decide +kernel
theorem dX1_takeRates_89 : decode cX1_takeRates 89 = .ok (.aload_n 1, 1) := by decide +kernel
theorem dX1_takeRates_90 : decode cX1_takeRates 90 = .ok (.getfield 75, 3) := by decide +kernel
theorem dX1_takeRates_93 : decode cX1_takeRates 93 = .ok (.iload 5, 2) := by decide +kernel
theorem dX1_takeRates_95 : decode cX1_takeRates 95 = .ok (.iaload, 1) := by decide +kernel
theorem dX1_takeRates_96 : decode cX1_takeRates 96 = .ok (.iastore, 1) := by decide +kernel
theorem dX1_takeRates_97 : decode cX1_takeRates 97 = .ok (.iinc 5 1, 3) := by decide +kernel
theorem dX1_takeRates_100 : decode cX1_takeRates 100 = .ok (.goto (-49), 3) := by decide +kernel
theorem dX1_takeRates_103 : decode cX1_takeRates 103 = .ok (.return_, 1) := by decide +kernel
abbrev dpX1_takeRates : Nat := 4
def fX1_takeRates_51 (k51 : (Nat × Option Nat × Option Nat × Int32) → St → Option (Unit × St)) (a0 : Nat) (x1 : Option Nat) (x4 : Option Nat) (x5 : Int32) : St → Option (Unit × St) :=
 br (6 ≤ x5) (rt ())
 (gR 2 a0 5 fun v1001 =>
 nn v1001 fun a1002 =>
 wI a1002 0 x5 <|
 gR 2 a0 3 fun v1003 =>
 gR 2 a0 5 fun v1004 =>
 cl (fX11_termOf x4 0 v1004) fun v1005 =>
 nn v1003 fun a1006 =>
 wI a1006 x5 v1005 <|
 gR 2 a0 4 fun v1007 =>
 nn x1 fun a1009 =>
 gR 11 a1009 13 fun v1008 =>
 nn v1008 fun a1011 =>
 aI 15 a1011 x5 fun v1010 =>
 nn v1007 fun a1012 =>
 wI a1012 x5 v1010 <|
 k51 (a0, (some a1009), x4, (x5 + 1)))
set_option maxHeartbeats 4000000 in
set_option maxRecDepth 100000 in
theorem sfX1_takeRates_51 {E : Ev} {l : Launch} (k51 : (Nat × Option Nat × Option Nat × Int32) → St → Option (Unit × St)) (hk51 : ∀ p : Nat × Option Nat × Option Nat × Int32, Snd E l (dpX1_takeRates, RX1, cX1_takeRates, 6, none, "takeRates") rvV 51 [(0, .ref (E.1 + p.1)), (1, rf E.1 p.2.1), (4, rf E.1 p.2.2.1), (5, .int p.2.2.2)] [] (k51 p)) (a0 : Nat) (x1 : Option Nat) (x4 : Option Nat) (x5 : Int32) : Snd E l (dpX1_takeRates, RX1, cX1_takeRates, 6, none, "takeRates") rvV 51 [(0, .ref (E.1 + a0)), (1, rf E.1 x1), (4, rf E.1 x4), (5, .int x5)] [] (fX1_takeRates_51 k51 a0 x1 x4 x5) := by
  unfold fX1_takeRates_51
  refine sn_iload (pc := 51) (j := 3) dX1_takeRates_51 rfl ?_
  refine sn_bipush (pc := 53) (v := 6) dX1_takeRates_53 (by decide) ?_
  refine sn_icmp_ge (pc := 55) (tgt := 103) dX1_takeRates_55 (by decide) ?_ ?_
  · exact sn_vret (pc := 103) dX1_takeRates_103 rfl
  · refine sn_aload_n (pc := 58) (j := 0) dX1_takeRates_58 rfl rfl ?_
    refine sn_gR (pc := 59) dX1_takeRates_59 flX1_18 rfl (fun v1001 => ?_)
    refine sn_iconst (pc := 62) (v := 0) dX1_takeRates_62 (by decide) ?_
    refine sn_iload (pc := 63) (j := 3) dX1_takeRates_63 rfl ?_
    rcases v1001 with _ | a1002
    · exact sn_no
    refine sn_nn ?_
    refine sn_iast (pc := 65) dX1_takeRates_65 ?_
    refine sn_aload_n (pc := 66) (j := 0) dX1_takeRates_66 rfl rfl ?_
    refine sn_gR (pc := 67) dX1_takeRates_67 flX1_9 rfl (fun v1003 => ?_)
    refine sn_iload (pc := 70) (j := 3) dX1_takeRates_70 rfl ?_
    refine sn_aloadR (pc := 72) (r := x4) (j := 2) dX1_takeRates_72 rfl ?_
    refine sn_iconst (pc := 74) (v := 0) dX1_takeRates_74 (by decide) ?_
    refine sn_aload_n (pc := 75) (j := 0) dX1_takeRates_75 rfl rfl ?_
    refine sn_gR (pc := 76) dX1_takeRates_76 flX1_18 rfl (fun v1004 => ?_)
    refine sn_callSN (pc := 79) dX1_takeRates_79 iX11_termOf wt4_104 (List.mem_of_getElem? (i := 21) rfl) (mX11_termOf x4 0 v1004) (by decide) rfl rfl (by simp [rf_some, rf_cat, cat_int, cat_long, cat_ref, rvV, rvI, rvZ, rvR, rvJ]) (fun v1005 => ?_)
    rcases v1003 with _ | a1006
    · exact sn_no
    refine sn_nn ?_
    refine sn_iast (pc := 82) dX1_takeRates_82 ?_
    refine sn_aload_n (pc := 83) (j := 0) dX1_takeRates_83 rfl rfl ?_
    refine sn_gR (pc := 84) dX1_takeRates_84 flX1_15 rfl (fun v1007 => ?_)
    refine sn_iload (pc := 87) (j := 3) dX1_takeRates_87 rfl ?_
    refine sn_aloadR_n (pc := 89) (r := x1) (j := 1) dX1_takeRates_89 rfl rfl ?_
    rcases x1 with _ | a1009
    · exact sn_no
    refine sn_nn ?_
    refine sn_gR (pc := 90) dX1_takeRates_90 flX1_75 rfl (fun v1008 => ?_)
    refine sn_iload (pc := 93) (j := 3) dX1_takeRates_93 rfl ?_
    rcases v1008 with _ | a1011
    · exact sn_no
    refine sn_nn ?_
    refine sn_iald (pc := 95) dX1_takeRates_95 (fun v1010 => ?_)
    rcases v1007 with _ | a1012
    · exact sn_no
    refine sn_nn ?_
    refine sn_iast (pc := 96) dX1_takeRates_96 ?_
    refine sn_iinc (pc := 97) (v := x5 + 1) (lv' := [(5, .int (x5 + 1)), (0, .ref (E.1 + a0)), (1, .ref (E.1 + a1009)), (4, rf E.1 x4)]) (j := 3) dX1_takeRates_97 rfl rfl (by decide) (by simp [rf_some, rf_cat, cat_int, cat_long, cat_ref]) ?_
    refine sn_goto (pc := 100) (tgt := 51) dX1_takeRates_100 (by decide) ?_
    exact sn_sub (lv' := [(0, .ref (E.1 + a0)), (1, .ref (E.1 + a1009)), (4, rf E.1 x4), (5, .int (x5 + 1))]) [1, 2, 3, 0] rfl (hk51 (a0, (some a1009), x4, (x5 + 1)))
def fX1_takeRates (a0 : Nat) (x1 : Option Nat) (x2 : Int32) : St → Option (Unit × St) :=
 nn x1 fun a2 =>
 gI 11 a2 4 fun v1 =>
 cl (fX11_weekOf v1) fun v3 =>
 gI 11 a2 4 fun v4 =>
 ck 11 a2 <| cl (fX10_listKnown a2 x2 v3 v4) fun v5 =>
 ck 11 a2 <| cl (fX10_listAt a2 v5) fun v6 =>
 gR 2 a0 5 fun v7 =>
 cl (fJ7_fill_53178 v7 0) fun v8 =>
 gR 2 a0 5 fun v9 =>
 nn v9 fun a10 =>
 wI a10 4 100 <|
 gR 2 a0 5 fun v11 =>
 nn v11 fun a12 =>
 wI a12 6 v3 <|
 itr (fun k (p : Nat × Option Nat × Option Nat × Int32) => fX1_takeRates_51  k p.1 p.2.1 p.2.2.1 p.2.2.2) FU (a0, (some a2), v6, 0)
set_option maxHeartbeats 4000000 in
set_option maxRecDepth 100000 in
theorem mX1_takeRates {E : Ev} {l : Launch} (a0 : Nat) (x1 : Option Nat) (x2 : Int32) : MF E l dpX1_takeRates yX1_takeRates cX1_takeRates 6 none rvV [.ref (E.1 + a0), rf E.1 x1, .int x2] (fX1_takeRates a0 x1 x2) := by
  refine MF.of (lv := [(0, .ref (E.1 + a0)), (1, rf E.1 x1), (2, .int x2)]) (by decide) (by simp [lg_sl, rf_cat, cat_int, cat_long, cat_ref]) (by simp [lv_args, rf_cat, cat_int, cat_long, cat_ref]) ?_
  unfold fX1_takeRates
  refine sn_aloadR_n (pc := 0) (r := x1) (j := 1) dX1_takeRates_0 rfl rfl ?_
  rcases x1 with _ | a2
  · exact sn_no
  refine sn_nn ?_
  refine sn_gI (pc := 1) dX1_takeRates_1 flX1_49 rfl (fun v1 => ?_)
  refine sn_callSN (pc := 4) dX1_takeRates_4 iX11_weekOf wt4_92 (List.mem_of_getElem? (i := 20) rfl) (mX11_weekOf v1) (by decide) rfl rfl (Nat.le_of_ble_eq_true rfl) (fun v3 => ?_)
  refine sn_istore_n (pc := 7) (i := 3) (lv' := [(3, .int v3), (0, .ref (E.1 + a0)), (1, .ref (E.1 + a2)), (2, .int x2)]) dX1_takeRates_7 rfl (by decide) rfl ?_
  refine sn_aload_n (pc := 8) (j := 2) dX1_takeRates_8 rfl rfl ?_
  refine sn_aload_n (pc := 9) (j := 2) dX1_takeRates_9 rfl rfl ?_
  refine sn_iload_n (pc := 10) (j := 3) dX1_takeRates_10 rfl rfl ?_
  refine sn_iload_n (pc := 11) (j := 0) dX1_takeRates_11 rfl rfl ?_
  refine sn_aload_n (pc := 12) (j := 2) dX1_takeRates_12 rfl rfl ?_
  refine sn_gI (pc := 13) dX1_takeRates_13 flX1_49 rfl (fun v4 => ?_)
  refine sn_callV (ci := 10) (pc := 16) dX1_takeRates_16 iX10_listKnown wt3_232 wt3_233 wt5_157 ⟨_, rfl, rfl⟩ (by decide) (mX10_listKnown a2 x2 v3 v4) (by decide) rfl rfl (Nat.le_of_ble_eq_true rfl) (fun v5 => ?_)
  refine sn_callV (ci := 10) (pc := 19) dX1_takeRates_19 iX10_listAt wt3_236 wt3_237 wt5_158 ⟨_, rfl, rfl⟩ (by decide) (mX10_listAt a2 v5) (by decide) rfl rfl (Nat.le_of_ble_eq_true rfl) (fun v6 => ?_)
  refine sn_astoreR (pc := 22) (r := v6) (i := 4) (lv' := [(4, rf E.1 v6), (3, .int v3), (0, .ref (E.1 + a0)), (1, .ref (E.1 + a2)), (2, .int x2)]) dX1_takeRates_22 (by decide) rfl ?_
  refine sn_aload_n (pc := 24) (j := 2) dX1_takeRates_24 rfl rfl ?_
  refine sn_gR (pc := 25) dX1_takeRates_25 flX1_18 rfl (fun v7 => ?_)
  refine sn_iconst (pc := 28) (v := 0) dX1_takeRates_28 (by decide) ?_
  refine sn_callS (pc := 29) dX1_takeRates_29 iJ7_fill_53178 wt1_45 wt5_159 (mJ7_fill_53178 v7 0) (by decide) rfl rfl (Nat.le_of_ble_eq_true rfl) (fun v8 => ?_)
  refine sn_aload_n (pc := 32) (j := 2) dX1_takeRates_32 rfl rfl ?_
  refine sn_gR (pc := 33) dX1_takeRates_33 flX1_18 rfl (fun v9 => ?_)
  refine sn_iconst (pc := 36) (v := 4) dX1_takeRates_36 (by decide) ?_
  refine sn_bipush (pc := 37) (v := 100) dX1_takeRates_37 (by decide) ?_
  rcases v9 with _ | a10
  · exact sn_no
  refine sn_nn ?_
  refine sn_iast (pc := 39) dX1_takeRates_39 ?_
  refine sn_aload_n (pc := 40) (j := 2) dX1_takeRates_40 rfl rfl ?_
  refine sn_gR (pc := 41) dX1_takeRates_41 flX1_18 rfl (fun v11 => ?_)
  refine sn_bipush (pc := 44) (v := 6) dX1_takeRates_44 (by decide) ?_
  refine sn_iload_n (pc := 46) (j := 1) dX1_takeRates_46 rfl rfl ?_
  rcases v11 with _ | a12
  · exact sn_no
  refine sn_nn ?_
  refine sn_iast (pc := 47) dX1_takeRates_47 ?_
  refine sn_iconst (pc := 48) (v := 0) dX1_takeRates_48 (by decide) ?_
  refine sn_istore (pc := 49) (i := 5) (lv' := [(5, .int 0), (4, rf E.1 v6), (3, .int v3), (0, .ref (E.1 + a0)), (1, .ref (E.1 + a2)), (2, .int x2)]) dX1_takeRates_49 (by decide) (by simp [rf_some, rf_cat, cat_int, cat_long, cat_ref]) ?_
  exact sn_sub (lv' := [(0, .ref (E.1 + a0)), (1, .ref (E.1 + a2)), (4, rf E.1 v6), (5, .int 0)]) [3, 4, 1, 0] rfl (sn_itr (lvf := fun p => [(0, .ref (E.1 + p.1)), (1, rf E.1 p.2.1), (4, rf E.1 p.2.2.1), (5, .int p.2.2.2)]) (stf := fun p => []) (fun k hk p => sfX1_takeRates_51  k hk p.1 p.2.1 p.2.2.1 p.2.2.2) FU (a0, (some a2), v6, 0))
theorem iX1_takeRates : MI yX1_takeRates cX1_takeRates 6 none 2 := ⟨wt1_9, wt5_155, by decide +kernel, by decide⟩
-- NeedleHomes$EvenPay find(LNeedleHomes$World;II)Z
theorem dX1_find_0 : decode cX1_find 0 = .ok (.aload_n 0, 1) := by decide +kernel
theorem dX1_find_1 : decode cX1_find 1 = .ok (.iload_n 3, 1) := by decide +kernel
theorem dX1_find_2 : decode cX1_find 2 = .ok (.putfield 21, 3) := by decide +kernel
theorem dX1_find_5 : decode cX1_find 5 = .ok (.aload_n 0, 1) := by decide +kernel
theorem dX1_find_6 : decode cX1_find 6 = .ok (.aload_n 1, 1) := by decide +kernel
theorem dX1_find_7 : decode cX1_find 7 = .ok (.iload_n 2, 1) := by decide +kernel
theorem dX1_find_8 : decode cX1_find 8 = .ok (.invokevirtual 25, 3) := by decide +kernel
theorem dX1_find_11 : decode cX1_find 11 = .ok (.aload_n 0, 1) := by decide +kernel
theorem dX1_find_12 : decode cX1_find 12 = .ok (.iconst (-1), 1) := by decide +kernel
theorem dX1_find_13 : decode cX1_find 13 = .ok (.putfield 29, 3) := by decide +kernel
theorem dX1_find_16 : decode cX1_find 16 = .ok (.aload_n 0, 1) := by decide +kernel
theorem dX1_find_17 : decode cX1_find 17 = .ok (.iconst 0, 1) := by decide +kernel
theorem dX1_find_18 : decode cX1_find 18 = .ok (.putfield 32, 3) := by decide +kernel
theorem dX1_find_21 : decode cX1_find 21 = .ok (.aload_n 0, 1) := by decide +kernel
theorem dX1_find_22 : decode cX1_find 22 = .ok (.invokevirtual 35, 3) := by decide +kernel
theorem dX1_find_25 : decode cX1_find 25 = .ok (.istore 4, 2) := by decide +kernel
theorem dX1_find_27 : decode cX1_find 27 = .ok (.iconst 1, 1) := by decide +kernel
theorem dX1_find_28 : decode cX1_find 28 = .ok (.istore 5, 2) := by decide +kernel
theorem dX1_find_30 : decode cX1_find 30 = .ok (.iconst 1, 1) := by decide +kernel
theorem dX1_find_31 : decode cX1_find 31 = .ok (.istore 6, 2) := by decide +kernel
theorem dX1_find_33 : decode cX1_find 33 = .ok (.iload 6, 2) := by decide +kernel
theorem dX1_find_35 : decode cX1_find 35 = .ok (.sipush 2000, 3) := by decide +kernel
theorem dX1_find_38 : decode cX1_find 38 = .ok (.if_icmp .gt 77, 3) := by decide +kernel
theorem dX1_find_41 : decode cX1_find 41 = .ok (.iload 5, 2) := by decide +kernel
theorem dX1_find_43 : decode cX1_find 43 = .ok (.ifCond .eq 72, 3) := by decide +kernel
theorem dX1_find_46 : decode cX1_find 46 = .ok (.aload_n 0, 1) := by decide +kernel
theorem dX1_find_47 : decode cX1_find 47 = .ok (.iload 6, 2) := by decide +kernel
theorem dX1_find_49 : decode cX1_find 49 = .ok (.invokevirtual 39, 3) := by decide +kernel
theorem dX1_find_52 : decode cX1_find 52 = .ok (.istore 7, 2) := by decide +kernel
theorem dX1_find_54 : decode cX1_find 54 = .ok (.iload 7, 2) := by decide +kernel
theorem dX1_find_56 : decode cX1_find 56 = .ok (.iconst (-1), 1) := by decide +kernel
theorem dX1_find_57 : decode cX1_find 57 = .ok (.if_icmp .eq 32, 3) := by decide +kernel
theorem dX1_find_60 : decode cX1_find 60 = .ok (.aload_n 0, 1) := by decide +kernel
theorem dX1_find_61 : decode cX1_find 61 = .ok (.getfield 29, 3) := by decide +kernel
theorem dX1_find_64 : decode cX1_find 64 = .ok (.iconst (-1), 1) := by decide +kernel
theorem dX1_find_65 : decode cX1_find 65 = .ok (.if_icmp .eq 12, 3) := by decide +kernel
theorem dX1_find_68 : decode cX1_find 68 = .ok (.iload 7, 2) := by decide +kernel
theorem dX1_find_70 : decode cX1_find 70 = .ok (.aload_n 0, 1) := by decide +kernel
theorem dX1_find_71 : decode cX1_find 71 = .ok (.getfield 32, 3) := by decide +kernel
theorem dX1_find_74 : decode cX1_find 74 = .ok (.if_icmp .ge 15, 3) := by decide +kernel
theorem dX1_find_77 : decode cX1_find 77 = .ok (.aload_n 0, 1) := by decide +kernel
theorem dX1_find_78 : decode cX1_find 78 = .ok (.iload 6, 2) := by decide +kernel
theorem dX1_find_80 : decode cX1_find 80 = .ok (.putfield 29, 3) := by decide +kernel
theorem dX1_find_83 : decode cX1_find 83 = .ok (.aload_n 0, 1) := by decide +kernel
theorem dX1_find_84 : decode cX1_find 84 = .ok (.iload 7, 2) := by decide +kernel
theorem dX1_find_86 : decode cX1_find 86 = .ok (.putfield 32, 3) := by decide +kernel
theorem dX1_find_89 : decode cX1_find 89 = .ok (.iload 7, 2) := by decide +kernel
theorem dX1_find_91 : decode cX1_find 91 = .ok (.iconst (-1), 1) := by decide +kernel
theorem dX1_find_92 : decode cX1_find 92 = .ok (.if_icmp .eq 10, 3) := by decide +kernel
theorem dX1_find_95 : decode cX1_find 95 = .ok (.iload 6, 2) := by decide +kernel
theorem dX1_find_97 : decode cX1_find 97 = .ok (.iload 4, 2) := by decide +kernel
theorem dX1_find_99 : decode cX1_find 99 = .ok (.if_icmp .gt 7, 3) := by decide +kernel
theorem dX1_find_102 : decode cX1_find 102 = .ok (.iconst 1, 1) := by decide +kernel
theorem dX1_find_103 : decode cX1_find 103 = .ok (.goto 4, 3) := by decide +kernel
theorem dX1_find_106 : decode cX1_find 106 = .ok (.iconst 0, 1) := by decide +kernel
theorem dX1_find_107 : decode cX1_find 107 = .ok (.istore 5, 2) := by decide +kernel
theorem dX1_find_109 : decode cX1_find 109 = .ok (.iinc 6 1, 3) := by decide +kernel
theorem dX1_find_112 : decode cX1_find 112 = .ok (.goto (-79), 3) := by decide +kernel
theorem dX1_find_115 : decode cX1_find 115 = .ok (.aload_n 0, 1) := by decide +kernel
theorem dX1_find_116 : decode cX1_find 116 = .ok (.getfield 29, 3) := by decide +kernel
theorem dX1_find_119 : decode cX1_find 119 = .ok (.iconst (-1), 1) := by decide +kernel
theorem dX1_find_120 : decode cX1_find 120 = .ok (.if_icmp .eq 7, 3) := by decide +kernel
theorem dX1_find_123 : decode cX1_find 123 = .ok (.iconst 1, 1) := by decide +kernel
theorem dX1_find_124 : decode cX1_find 124 = .ok (.goto 4, 3) := by decide +kernel
theorem dX1_find_127 : decode cX1_find 127 = .ok (.iconst 0, 1) := by decide +kernel
theorem dX1_find_128 : decode cX1_find 128 = .ok (.ireturn, 1) := by decide +kernel
abbrev dpX1_find : Nat := 5
def fX1_find_107 (k33 : (Nat × Int32 × Int32 × Int32) → St → Option (Bool × St)) (a0 : Nat) (x4 : Int32) (x6 : Int32) (y0 : Int32) : St → Option (Bool × St) :=
 k33 (a0, x4, y0, (x6 + 1))
set_option maxHeartbeats 4000000 in
set_option maxRecDepth 100000 in
theorem sfX1_find_107 {E : Ev} {l : Launch} (k33 : (Nat × Int32 × Int32 × Int32) → St → Option (Bool × St)) (hk33 : ∀ p : Nat × Int32 × Int32 × Int32, Snd E l (dpX1_find, RX1, cX1_find, 8, (some .boolean), "find") rvZ 33 [(0, .ref (E.1 + p.1)), (4, .int p.2.1), (5, .int p.2.2.1), (6, .int p.2.2.2)] [] (k33 p)) (a0 : Nat) (x4 : Int32) (x6 : Int32) (y0 : Int32) : Snd E l (dpX1_find, RX1, cX1_find, 8, (some .boolean), "find") rvZ 107 [(0, .ref (E.1 + a0)), (4, .int x4), (6, .int x6)] [.int y0] (fX1_find_107 k33 a0 x4 x6 y0) := by
  unfold fX1_find_107
  refine sn_istore (pc := 107) (i := 5) (lv' := [(5, .int y0), (0, .ref (E.1 + a0)), (4, .int x4), (6, .int x6)]) dX1_find_107 (by decide) rfl ?_
  refine sn_iinc (pc := 109) (v := x6 + 1) (lv' := [(6, .int (x6 + 1)), (5, .int y0), (0, .ref (E.1 + a0)), (4, .int x4)]) (j := 3) dX1_find_109 rfl rfl (by decide) rfl ?_
  refine sn_goto (pc := 112) (tgt := 33) dX1_find_112 (by decide) ?_
  exact sn_sub (lv' := [(0, .ref (E.1 + a0)), (4, .int x4), (5, .int y0), (6, .int (x6 + 1))]) [2, 3, 1, 0] rfl (hk33 (a0, x4, y0, (x6 + 1)))
def fX1_find_102 (k33 : (Nat × Int32 × Int32 × Int32) → St → Option (Bool × St)) (a0 : Nat) (x4 : Int32) (x6 : Int32) : St → Option (Bool × St) :=
 fX1_find_107 k33 a0 x4 x6 1
set_option maxHeartbeats 4000000 in
set_option maxRecDepth 100000 in
theorem sfX1_find_102 {E : Ev} {l : Launch} (k33 : (Nat × Int32 × Int32 × Int32) → St → Option (Bool × St)) (hk33 : ∀ p : Nat × Int32 × Int32 × Int32, Snd E l (dpX1_find, RX1, cX1_find, 8, (some .boolean), "find") rvZ 33 [(0, .ref (E.1 + p.1)), (4, .int p.2.1), (5, .int p.2.2.1), (6, .int p.2.2.2)] [] (k33 p)) (a0 : Nat) (x4 : Int32) (x6 : Int32) : Snd E l (dpX1_find, RX1, cX1_find, 8, (some .boolean), "find") rvZ 102 [(0, .ref (E.1 + a0)), (4, .int x4), (6, .int x6)] [] (fX1_find_102 k33 a0 x4 x6) := by
  unfold fX1_find_102
  refine sn_iconst (pc := 102) (v := 1) dX1_find_102 (by decide) ?_
  refine sn_goto (pc := 103) (tgt := 107) dX1_find_103 (by decide) ?_
  exact sn_sub (lv' := [(0, .ref (E.1 + a0)), (4, .int x4), (6, .int x6)]) [0, 1, 2] rfl (sfX1_find_107 k33 hk33 a0 x4 x6 1)
def fX1_find_89 (k33 : (Nat × Int32 × Int32 × Int32) → St → Option (Bool × St)) (a0 : Nat) (x4 : Int32) (x6 : Int32) (x7 : Int32) : St → Option (Bool × St) :=
 br (x7 = (-1)) (fX1_find_102 k33 a0 x4 x6)
 (br (x4 < x6) (fX1_find_107 k33 a0 x4 x6 0)
 (fX1_find_102 k33 a0 x4 x6))
set_option maxHeartbeats 4000000 in
set_option maxRecDepth 100000 in
theorem sfX1_find_89 {E : Ev} {l : Launch} (k33 : (Nat × Int32 × Int32 × Int32) → St → Option (Bool × St)) (hk33 : ∀ p : Nat × Int32 × Int32 × Int32, Snd E l (dpX1_find, RX1, cX1_find, 8, (some .boolean), "find") rvZ 33 [(0, .ref (E.1 + p.1)), (4, .int p.2.1), (5, .int p.2.2.1), (6, .int p.2.2.2)] [] (k33 p)) (a0 : Nat) (x4 : Int32) (x6 : Int32) (x7 : Int32) : Snd E l (dpX1_find, RX1, cX1_find, 8, (some .boolean), "find") rvZ 89 [(0, .ref (E.1 + a0)), (4, .int x4), (6, .int x6), (7, .int x7)] [] (fX1_find_89 k33 a0 x4 x6 x7) := by
  unfold fX1_find_89
  refine sn_iload (pc := 89) (j := 3) dX1_find_89 rfl ?_
  refine sn_iconst (pc := 91) (v := (-1)) dX1_find_91 (by decide) ?_
  refine sn_icmp_eq (pc := 92) (tgt := 102) dX1_find_92 (by decide) ?_ ?_
  · exact sn_sub (lv' := [(0, .ref (E.1 + a0)), (4, .int x4), (6, .int x6)]) [0, 1, 2] rfl (sfX1_find_102 k33 hk33 a0 x4 x6)
  · refine sn_iload (pc := 95) (j := 2) dX1_find_95 rfl ?_
    refine sn_iload (pc := 97) (j := 1) dX1_find_97 rfl ?_
    refine sn_icmp_gt (pc := 99) (tgt := 106) dX1_find_99 (by decide) ?_ ?_
    · refine sn_iconst (pc := 106) (v := 0) dX1_find_106 (by decide) ?_
      exact sn_sub (lv' := [(0, .ref (E.1 + a0)), (4, .int x4), (6, .int x6)]) [0, 1, 2] rfl (sfX1_find_107 k33 hk33 a0 x4 x6 0)
    · exact sn_sub (lv' := [(0, .ref (E.1 + a0)), (4, .int x4), (6, .int x6)]) [0, 1, 2] rfl (sfX1_find_102 k33 hk33 a0 x4 x6)
def fX1_find_77 (k33 : (Nat × Int32 × Int32 × Int32) → St → Option (Bool × St)) (a0 : Nat) (x4 : Int32) (x6 : Int32) (x7 : Int32) : St → Option (Bool × St) :=
 pI 2 a0 0 x6 <|
 pI 2 a0 1 x7 <|
 fX1_find_89 k33 a0 x4 x6 x7
set_option maxHeartbeats 4000000 in
set_option maxRecDepth 100000 in
theorem sfX1_find_77 {E : Ev} {l : Launch} (k33 : (Nat × Int32 × Int32 × Int32) → St → Option (Bool × St)) (hk33 : ∀ p : Nat × Int32 × Int32 × Int32, Snd E l (dpX1_find, RX1, cX1_find, 8, (some .boolean), "find") rvZ 33 [(0, .ref (E.1 + p.1)), (4, .int p.2.1), (5, .int p.2.2.1), (6, .int p.2.2.2)] [] (k33 p)) (a0 : Nat) (x4 : Int32) (x6 : Int32) (x7 : Int32) : Snd E l (dpX1_find, RX1, cX1_find, 8, (some .boolean), "find") rvZ 77 [(0, .ref (E.1 + a0)), (4, .int x4), (6, .int x6), (7, .int x7)] [] (fX1_find_77 k33 a0 x4 x6 x7) := by
  unfold fX1_find_77
  refine sn_aload_n (pc := 77) (j := 0) dX1_find_77 rfl rfl ?_
  refine sn_iload (pc := 78) (j := 2) dX1_find_78 rfl ?_
  refine sn_pI (pc := 80) dX1_find_80 flX1_29 rfl rfl (Or.inl rfl) ?_
  refine sn_aload_n (pc := 83) (j := 0) dX1_find_83 rfl rfl ?_
  refine sn_iload (pc := 84) (j := 3) dX1_find_84 rfl ?_
  refine sn_pI (pc := 86) dX1_find_86 flX1_32 rfl rfl (Or.inl rfl) ?_
  exact sn_sub (lv' := [(0, .ref (E.1 + a0)), (4, .int x4), (6, .int x6), (7, .int x7)]) [0, 1, 2, 3] rfl (sfX1_find_89 k33 hk33 a0 x4 x6 x7)
def fX1_find_115 (a0 : Nat) : St → Option (Bool × St) :=
 gI 2 a0 0 fun v6001 =>
 br (v6001 = (-1)) (rtZ 0)
 (rtZ 1)
set_option maxHeartbeats 4000000 in
set_option maxRecDepth 100000 in
theorem sfX1_find_115 {E : Ev} {l : Launch} (a0 : Nat) : Snd E l (dpX1_find, RX1, cX1_find, 8, (some .boolean), "find") rvZ 115 [(0, .ref (E.1 + a0))] [] (fX1_find_115 a0) := by
  unfold fX1_find_115
  refine sn_aload_n (pc := 115) (j := 0) dX1_find_115 rfl rfl ?_
  refine sn_gI (pc := 116) dX1_find_116 flX1_29 rfl (fun v6001 => ?_)
  refine sn_iconst (pc := 119) (v := (-1)) dX1_find_119 (by decide) ?_
  refine sn_icmp_eq (pc := 120) (tgt := 127) dX1_find_120 (by decide) ?_ ?_
  · refine sn_iconst (pc := 127) (v := 0) dX1_find_127 (by decide) ?_
    exact sn_zret (pc := 128) dX1_find_128 rfl
  · refine sn_iconst (pc := 123) (v := 1) dX1_find_123 (by decide) ?_
    refine sn_goto (pc := 124) (tgt := 128) dX1_find_124 (by decide) ?_
    exact sn_zret (pc := 128) dX1_find_128 rfl
def fX1_find_33 (k33 : (Nat × Int32 × Int32 × Int32) → St → Option (Bool × St)) (a0 : Nat) (x4 : Int32) (x5 : Int32) (x6 : Int32) : St → Option (Bool × St) :=
 br (2000 < x6) (fX1_find_115  a0)
 (br (x5 = 0) (fX1_find_115  a0)
 (ck 2 a0 <| cl (fX1_changeFor a0 x6) fun v1001 =>
 br (v1001 = (-1)) (fX1_find_89 k33 a0 x4 x6 v1001)
 (gI 2 a0 0 fun v1002 =>
 br (v1002 = (-1)) (fX1_find_77 k33 a0 x4 x6 v1001)
 (gI 2 a0 1 fun v1003 =>
 br (v1003 ≤ v1001) (fX1_find_89 k33 a0 x4 x6 v1001)
 (fX1_find_77 k33 a0 x4 x6 v1001)))))
set_option maxHeartbeats 4000000 in
set_option maxRecDepth 100000 in
theorem sfX1_find_33 {E : Ev} {l : Launch} (k33 : (Nat × Int32 × Int32 × Int32) → St → Option (Bool × St)) (hk33 : ∀ p : Nat × Int32 × Int32 × Int32, Snd E l (dpX1_find, RX1, cX1_find, 8, (some .boolean), "find") rvZ 33 [(0, .ref (E.1 + p.1)), (4, .int p.2.1), (5, .int p.2.2.1), (6, .int p.2.2.2)] [] (k33 p)) (a0 : Nat) (x4 : Int32) (x5 : Int32) (x6 : Int32) : Snd E l (dpX1_find, RX1, cX1_find, 8, (some .boolean), "find") rvZ 33 [(0, .ref (E.1 + a0)), (4, .int x4), (5, .int x5), (6, .int x6)] [] (fX1_find_33 k33 a0 x4 x5 x6) := by
  unfold fX1_find_33
  refine sn_iload (pc := 33) (j := 3) dX1_find_33 rfl ?_
  refine sn_sipush (pc := 35) (v := 2000) dX1_find_35 (by decide) ?_
  refine sn_icmp_gt (pc := 38) (tgt := 115) dX1_find_38 (by decide) ?_ ?_
  · exact sn_sub (lv' := [(0, .ref (E.1 + a0))]) [0] rfl (sfX1_find_115  a0)
  · refine sn_iload (pc := 41) (j := 2) dX1_find_41 rfl ?_
    refine sn_if_eq (pc := 43) (tgt := 115) dX1_find_43 (by decide) ?_ ?_
    · exact sn_sub (lv' := [(0, .ref (E.1 + a0))]) [0] rfl (sfX1_find_115  a0)
    · refine sn_aload_n (pc := 46) (j := 0) dX1_find_46 rfl rfl ?_
      refine sn_iload (pc := 47) (j := 3) dX1_find_47 rfl ?_
      refine sn_callV (ci := 1) (pc := 49) dX1_find_49 iX1_changeFor wt5_168 ws_35 wt5_166 ⟨_, rfl, rfl⟩ (by decide) (mX1_changeFor a0 x6) (by decide) rfl rfl (Nat.le_of_ble_eq_true rfl) (fun v1001 => ?_)
      refine sn_istore (pc := 52) (i := 7) (lv' := [(7, .int v1001), (0, .ref (E.1 + a0)), (4, .int x4), (5, .int x5), (6, .int x6)]) dX1_find_52 (by decide) rfl ?_
      refine sn_iload (pc := 54) (j := 0) dX1_find_54 rfl ?_
      refine sn_iconst (pc := 56) (v := (-1)) dX1_find_56 (by decide) ?_
      refine sn_icmp_eq (pc := 57) (tgt := 89) dX1_find_57 (by decide) ?_ ?_
      · exact sn_sub (lv' := [(0, .ref (E.1 + a0)), (4, .int x4), (6, .int x6), (7, .int v1001)]) [1, 2, 4, 0] rfl (sfX1_find_89 k33 hk33 a0 x4 x6 v1001)
      · refine sn_aload_n (pc := 60) (j := 1) dX1_find_60 rfl rfl ?_
        refine sn_gI (pc := 61) dX1_find_61 flX1_29 rfl (fun v1002 => ?_)
        refine sn_iconst (pc := 64) (v := (-1)) dX1_find_64 (by decide) ?_
        refine sn_icmp_eq (pc := 65) (tgt := 77) dX1_find_65 (by decide) ?_ ?_
        · exact sn_sub (lv' := [(0, .ref (E.1 + a0)), (4, .int x4), (6, .int x6), (7, .int v1001)]) [1, 2, 4, 0] rfl (sfX1_find_77 k33 hk33 a0 x4 x6 v1001)
        · refine sn_iload (pc := 68) (j := 0) dX1_find_68 rfl ?_
          refine sn_aload_n (pc := 70) (j := 1) dX1_find_70 rfl rfl ?_
          refine sn_gI (pc := 71) dX1_find_71 flX1_32 rfl (fun v1003 => ?_)
          refine sn_icmp_ge (pc := 74) (tgt := 89) dX1_find_74 (by decide) ?_ ?_
          · exact sn_sub (lv' := [(0, .ref (E.1 + a0)), (4, .int x4), (6, .int x6), (7, .int v1001)]) [1, 2, 4, 0] rfl (sfX1_find_89 k33 hk33 a0 x4 x6 v1001)
          · exact sn_sub (lv' := [(0, .ref (E.1 + a0)), (4, .int x4), (6, .int x6), (7, .int v1001)]) [1, 2, 4, 0] rfl (sfX1_find_77 k33 hk33 a0 x4 x6 v1001)
def fX1_find (a0 : Nat) (x1 : Option Nat) (x2 : Int32) (x3 : Int32) : St → Option (Bool × St) :=
 pI 2 a0 2 x3 <|
 ck 2 a0 <| cl (fX1_takeRates a0 x1 x2) fun v1 =>
 pI 2 a0 0 (-1) <|
 pI 2 a0 1 0 <|
 ck 2 a0 <| cl (fX1_highestPay a0) fun v2 =>
 itr (fun k (p : Nat × Int32 × Int32 × Int32) => fX1_find_33  k p.1 p.2.1 p.2.2.1 p.2.2.2) FU (a0, v2, 1, 1)
set_option maxHeartbeats 4000000 in
set_option maxRecDepth 100000 in
theorem mX1_find {E : Ev} {l : Launch} (a0 : Nat) (x1 : Option Nat) (x2 : Int32) (x3 : Int32) : MF E l dpX1_find yX1_find cX1_find 8 (some .boolean) rvZ [.ref (E.1 + a0), rf E.1 x1, .int x2, .int x3] (fX1_find a0 x1 x2 x3) := by
  refine MF.of (lv := [(0, .ref (E.1 + a0)), (1, rf E.1 x1), (2, .int x2), (3, .int x3)]) (by decide) (by simp [lg_sl, rf_cat, cat_int, cat_long, cat_ref]) (by simp [lv_args, rf_cat, cat_int, cat_long, cat_ref]) ?_
  unfold fX1_find
  refine sn_aload_n (pc := 0) (j := 0) dX1_find_0 rfl rfl ?_
  refine sn_iload_n (pc := 1) (j := 3) dX1_find_1 rfl rfl ?_
  refine sn_pI (pc := 2) dX1_find_2 flX1_21 rfl rfl (Or.inl rfl) ?_
  refine sn_aload_n (pc := 5) (j := 0) dX1_find_5 rfl rfl ?_
  refine sn_aloadR_n (pc := 6) (r := x1) (j := 1) dX1_find_6 rfl rfl ?_
  refine sn_iload_n (pc := 7) (j := 2) dX1_find_7 rfl rfl ?_
  refine sn_callV (ci := 1) (pc := 8) dX1_find_8 iX1_takeRates wt5_154 ws_33 wt5_152 ⟨_, rfl, rfl⟩ (by decide) (mX1_takeRates a0 x1 x2) (by decide) rfl rfl (Nat.le_of_ble_eq_true rfl) (fun v1 => ?_)
  refine sn_aload_n (pc := 11) (j := 0) dX1_find_11 rfl rfl ?_
  refine sn_iconst (pc := 12) (v := (-1)) dX1_find_12 (by decide) ?_
  refine sn_pI (pc := 13) dX1_find_13 flX1_29 rfl rfl (Or.inl rfl) ?_
  refine sn_aload_n (pc := 16) (j := 0) dX1_find_16 rfl rfl ?_
  refine sn_iconst (pc := 17) (v := 0) dX1_find_17 (by decide) ?_
  refine sn_pI (pc := 18) dX1_find_18 flX1_32 rfl rfl (Or.inl rfl) ?_
  refine sn_aload_n (pc := 21) (j := 0) dX1_find_21 rfl rfl ?_
  refine sn_callV (ci := 1) (pc := 22) dX1_find_22 iX1_highestPay wt5_163 ws_34 wt5_161 ⟨_, rfl, rfl⟩ (by decide) (mX1_highestPay a0) (by decide) rfl rfl (Nat.le_of_ble_eq_true rfl) (fun v2 => ?_)
  refine sn_istore (pc := 25) (i := 4) (lv' := [(4, .int v2), (0, .ref (E.1 + a0)), (1, rf E.1 x1), (2, .int x2), (3, .int x3)]) dX1_find_25 (by decide) rfl ?_
  refine sn_iconst (pc := 27) (v := 1) dX1_find_27 (by decide) ?_
  refine sn_istore (pc := 28) (i := 5) (lv' := [(5, .int 1), (4, .int v2), (0, .ref (E.1 + a0)), (1, rf E.1 x1), (2, .int x2), (3, .int x3)]) dX1_find_28 (by decide) rfl ?_
  refine sn_iconst (pc := 30) (v := 1) dX1_find_30 (by decide) ?_
  refine sn_istore (pc := 31) (i := 6) (lv' := [(6, .int 1), (5, .int 1), (4, .int v2), (0, .ref (E.1 + a0)), (1, rf E.1 x1), (2, .int x2), (3, .int x3)]) dX1_find_31 (by decide) rfl ?_
  exact sn_sub (lv' := [(0, .ref (E.1 + a0)), (4, .int v2), (5, .int 1), (6, .int 1)]) [3, 2, 1, 0] rfl (sn_itr (lvf := fun p => [(0, .ref (E.1 + p.1)), (4, .int p.2.1), (5, .int p.2.2.1), (6, .int p.2.2.2)]) (stf := fun p => []) (fun k hk p => sfX1_find_33  k hk p.1 p.2.1 p.2.2.1 p.2.2.2) FU (a0, v2, 1, 1))
theorem iX1_find : MI yX1_find cX1_find 8 (some .boolean) 3 := ⟨wt1_9, wt5_151, by decide +kernel, by decide⟩
-- NeedleHomes$EvenPay newRate(II)I
theorem dX1_newRate_0 : decode cX1_newRate 0 = .ok (.iload_n 1, 1) := by decide +kernel
theorem dX1_newRate_1 : decode cX1_newRate 1 = .ok (.invokestatic 82, 3) := by decide +kernel
theorem dX1_newRate_4 : decode cX1_newRate 4 = .ok (.ifCond .eq 23, 3) := by decide +kernel
theorem dX1_newRate_7 : decode cX1_newRate 7 = .ok (.aload_n 0, 1) := by decide +kernel
theorem dX1_newRate_8 : decode cX1_newRate 8 = .ok (.iload_n 2, 1) := by decide +kernel
theorem dX1_newRate_9 : decode cX1_newRate 9 = .ok (.aload_n 0, 1) := by decide +kernel
theorem dX1_newRate_10 : decode cX1_newRate 10 = .ok (.getfield 15, 3) := by decide +kernel
theorem dX1_newRate_13 : decode cX1_newRate 13 = .ok (.iload_n 1, 1) := by decide +kernel
theorem dX1_newRate_14 : decode cX1_newRate 14 = .ok (.iaload, 1) := by decide +kernel
theorem dX1_newRate_15 : decode cX1_newRate 15 = .ok (.aload_n 0, 1) := by decide +kernel
theorem dX1_newRate_16 : decode cX1_newRate 16 = .ok (.getfield 9, 3) := by decide +kernel
theorem dX1_newRate_19 : decode cX1_newRate 19 = .ok (.iload_n 1, 1) := by decide +kernel
theorem dX1_newRate_20 : decode cX1_newRate 20 = .ok (.iaload, 1) := by decide +kernel
theorem dX1_newRate_21 : decode cX1_newRate 21 = .ok (.invokevirtual 76, 3) := by decide +kernel
theorem dX1_newRate_24 : decode cX1_newRate 24 = .ok (.goto 4, 3) := by decide +kernel
theorem dX1_newRate_27 : decode cX1_newRate 27 = .ok (.iconst (-1), 1) := by decide +kernel
theorem dX1_newRate_28 : decode cX1_newRate 28 = .ok (.ireturn, 1) := by decide +kernel
abbrev dpX1_newRate : Nat := 2
def fX1_newRate (a0 : Nat) (x1 : Int32) (x2 : Int32) : St → Option (Int32 × St) :=
 cl (fX11_isStitch x1) fun v1 =>
 br ((bi v1) = 0) (rt (-1))
 (gR 2 a0 4 fun v2 =>
 nn v2 fun a4 =>
 aI 15 a4 x1 fun v3 =>
 gR 2 a0 3 fun v5 =>
 nn v5 fun a7 =>
 aI 15 a7 x1 fun v6 =>
 ck 2 a0 <| cl (fX1_nearestRate a0 x2 v3 v6) fun v8 =>
 rt v8)
set_option maxHeartbeats 4000000 in
set_option maxRecDepth 100000 in
theorem mX1_newRate {E : Ev} {l : Launch} (a0 : Nat) (x1 : Int32) (x2 : Int32) : MF E l dpX1_newRate yX1_newRate cX1_newRate 3 (some .int) rvI [.ref (E.1 + a0), .int x1, .int x2] (fX1_newRate a0 x1 x2) := by
  refine MF.of (lv := [(0, .ref (E.1 + a0)), (1, .int x1), (2, .int x2)]) (by decide) (Nat.le_of_ble_eq_true rfl) rfl ?_
  unfold fX1_newRate
  refine sn_iload_n (pc := 0) (j := 1) dX1_newRate_0 rfl rfl ?_
  refine sn_callSN (pc := 1) dX1_newRate_1 iX11_isStitch wt3_197 (List.mem_of_getElem? (i := 22) rfl) (mX11_isStitch x1) (by decide) rfl rfl (Nat.le_of_ble_eq_true rfl) (fun v1 => ?_)
  refine sn_if_eq (pc := 4) (tgt := 27) dX1_newRate_4 (by decide) ?_ ?_
  · refine sn_iconst (pc := 27) (v := (-1)) dX1_newRate_27 (by decide) ?_
    exact sn_iret (pc := 28) dX1_newRate_28 rfl
  · refine sn_aload_n (pc := 7) (j := 0) dX1_newRate_7 rfl rfl ?_
    refine sn_iload_n (pc := 8) (j := 2) dX1_newRate_8 rfl rfl ?_
    refine sn_aload_n (pc := 9) (j := 0) dX1_newRate_9 rfl rfl ?_
    refine sn_gR (pc := 10) dX1_newRate_10 flX1_15 rfl (fun v2 => ?_)
    refine sn_iload_n (pc := 13) (j := 1) dX1_newRate_13 rfl rfl ?_
    rcases v2 with _ | a4
    · exact sn_no
    refine sn_nn ?_
    refine sn_iald (pc := 14) dX1_newRate_14 (fun v3 => ?_)
    refine sn_aload_n (pc := 15) (j := 0) dX1_newRate_15 rfl rfl ?_
    refine sn_gR (pc := 16) dX1_newRate_16 flX1_9 rfl (fun v5 => ?_)
    refine sn_iload_n (pc := 19) (j := 1) dX1_newRate_19 rfl rfl ?_
    rcases v5 with _ | a7
    · exact sn_no
    refine sn_nn ?_
    refine sn_iald (pc := 20) dX1_newRate_20 (fun v6 => ?_)
    refine sn_callV (ci := 1) (pc := 21) dX1_newRate_21 iX1_nearestRate wt5_172 ws_36 wt5_170 ⟨_, rfl, rfl⟩ (by decide) (mX1_nearestRate a0 x2 v3 v6) (by decide) rfl rfl (Nat.le_of_ble_eq_true rfl) (fun v8 => ?_)
    refine sn_goto (pc := 24) (tgt := 28) dX1_newRate_24 (by decide) ?_
    exact sn_iret (pc := 28) dX1_newRate_28 rfl
theorem iX1_newRate : MI yX1_newRate cX1_newRate 3 (some .int) 2 := ⟨wt1_9, wt5_182, by decide +kernel, by decide⟩
-- NeedleHomes$Hand <init>(III)V
theorem dX2_init_0 : decode cX2_init 0 = .ok (.aload_n 0, 1) := by decide +kernel
theorem dX2_init_1 : decode cX2_init 1 = .ok (.invokespecial 3, 3) := by decide +kernel
theorem dX2_init_4 : decode cX2_init 4 = .ok (.aload_n 0, 1) := by decide +kernel
theorem dX2_init_5 : decode cX2_init 5 = .ok (.bipush 6, 2) := by decide +kernel
theorem dX2_init_7 : decode cX2_init 7 = .ok (.newarray .int, 2) := by decide +kernel
theorem dX2_init_9 : decode cX2_init 9 = .ok (.putfield 9, 3) := by decide +kernel
theorem dX2_init_12 : decode cX2_init 12 = .ok (.aload_n 0, 1) := by decide +kernel
theorem dX2_init_13 : decode cX2_init 13 = .ok (.iconst 5, 1) := by decide +kernel
theorem dX2_init_14 : decode cX2_init 14 = .ok (.newarray .int, 2) := by decide +kernel
theorem dX2_init_16 : decode cX2_init 16 = .ok (.putfield 15, 3) := by decide +kernel
theorem dX2_init_19 : decode cX2_init 19 = .ok (.aload_n 0, 1) := by decide +kernel
theorem dX2_init_20 : decode cX2_init 20 = .ok (.iload_n 1, 1) := by decide +kernel
theorem dX2_init_21 : decode cX2_init 21 = .ok (.putfield 18, 3) := by decide +kernel
theorem dX2_init_24 : decode cX2_init 24 = .ok (.aload_n 0, 1) := by decide +kernel
theorem dX2_init_25 : decode cX2_init 25 = .ok (.iload_n 2, 1) := by decide +kernel
theorem dX2_init_26 : decode cX2_init 26 = .ok (.putfield 22, 3) := by decide +kernel
theorem dX2_init_29 : decode cX2_init 29 = .ok (.aload_n 0, 1) := by decide +kernel
theorem dX2_init_30 : decode cX2_init 30 = .ok (.iload_n 3, 1) := by decide +kernel
theorem dX2_init_31 : decode cX2_init 31 = .ok (.putfield 25, 3) := by decide +kernel
theorem dX2_init_34 : decode cX2_init 34 = .ok (.aload_n 0, 1) := by decide +kernel
theorem dX2_init_35 : decode cX2_init 35 = .ok (.getfield 9, 3) := by decide +kernel
theorem dX2_init_38 : decode cX2_init 38 = .ok (.bipush 50, 2) := by decide +kernel
theorem dX2_init_40 : decode cX2_init 40 = .ok (.invokestatic 28, 3) := by decide +kernel
theorem dX2_init_43 : decode cX2_init 43 = .ok (.return_, 1) := by decide +kernel
abbrev dpX2_init : Nat := 1
def fX2_init (a0 : Nat) (x1 : Int32) (x2 : Int32) (x3 : Int32) : St → Option (Unit × St) :=
 nA 15 6 fun a1 =>
 pR 3 a0 5 (some a1) <|
 nA 15 5 fun a2 =>
 pR 3 a0 6 (some a2) <|
 pI 3 a0 0 x1 <|
 pI 3 a0 1 x2 <|
 pI 3 a0 2 x3 <|
 gR 3 a0 5 fun v3 =>
 cl (fJ7_fill_53178 v3 50) fun v4 =>
 rt ()
set_option maxHeartbeats 4000000 in
set_option maxRecDepth 100000 in
theorem mX2_init {E : Ev} {l : Launch} (a0 : Nat) (x1 : Int32) (x2 : Int32) (x3 : Int32) : MF E l dpX2_init yX2_init cX2_init 4 none rvV [.ref (E.1 + a0), .int x1, .int x2, .int x3] (fX2_init a0 x1 x2 x3) := by
  refine MF.of (lv := [(0, .ref (E.1 + a0)), (1, .int x1), (2, .int x2), (3, .int x3)]) (by decide) (Nat.le_of_ble_eq_true rfl) rfl ?_
  unfold fX2_init
  refine sn_aload_n (pc := 0) (j := 0) dX2_init_0 rfl rfl ?_
  refine sn_objInit (pc := 1) dX2_init_1 wt4_8 w_oi w_oc (by decide) (Nat.le_of_ble_eq_true rfl) ?_
  refine sn_aload_n (pc := 4) (j := 0) dX2_init_4 rfl rfl ?_
  refine sn_bipush (pc := 5) (v := 6) dX2_init_5 (by decide) ?_
  refine sn_newI (pc := 7) dX2_init_7 wt1_109 (fun a1 => ?_)
  refine sn_pR (pc := 9) (v := (some a1)) dX2_init_9 flX2_9 rfl (Or.inr ⟨_, rfl⟩) (Or.inr ⟨rfl, rfl, rfl⟩) ?_
  refine sn_aload_n (pc := 12) (j := 0) dX2_init_12 rfl rfl ?_
  refine sn_iconst (pc := 13) (v := 5) dX2_init_13 (by decide) ?_
  refine sn_newI (pc := 14) dX2_init_14 wt1_109 (fun a2 => ?_)
  refine sn_pR (pc := 16) (v := (some a2)) dX2_init_16 flX2_15 rfl (Or.inr ⟨_, rfl⟩) (Or.inr ⟨rfl, rfl, rfl⟩) ?_
  refine sn_aload_n (pc := 19) (j := 0) dX2_init_19 rfl rfl ?_
  refine sn_iload_n (pc := 20) (j := 1) dX2_init_20 rfl rfl ?_
  refine sn_pI (pc := 21) dX2_init_21 flX2_18 rfl rfl (Or.inl rfl) ?_
  refine sn_aload_n (pc := 24) (j := 0) dX2_init_24 rfl rfl ?_
  refine sn_iload_n (pc := 25) (j := 2) dX2_init_25 rfl rfl ?_
  refine sn_pI (pc := 26) dX2_init_26 flX2_22 rfl rfl (Or.inl rfl) ?_
  refine sn_aload_n (pc := 29) (j := 0) dX2_init_29 rfl rfl ?_
  refine sn_iload_n (pc := 30) (j := 3) dX2_init_30 rfl rfl ?_
  refine sn_pI (pc := 31) dX2_init_31 flX2_25 rfl rfl (Or.inl rfl) ?_
  refine sn_aload_n (pc := 34) (j := 0) dX2_init_34 rfl rfl ?_
  refine sn_gR (pc := 35) dX2_init_35 flX2_9 rfl (fun v3 => ?_)
  refine sn_bipush (pc := 38) (v := 50) dX2_init_38 (by decide) ?_
  refine sn_callS (pc := 40) dX2_init_40 iJ7_fill_53178 wt1_45 wt4_9 (mJ7_fill_53178 v3 50) (by decide) rfl rfl (Nat.le_of_ble_eq_true rfl) (fun v4 => ?_)
  exact sn_vret (pc := 43) dX2_init_43 rfl
theorem iX2_init : MI yX2_init cX2_init 4 none 3 := ⟨wt1_19, wt4_7, by decide +kernel, by decide⟩
