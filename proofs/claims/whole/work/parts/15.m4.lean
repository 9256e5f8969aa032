-- java/lang/Integer bitCount(I)I
theorem dJ6_bitCount_0f7a4_0 : decode cJ6_bitCount_0f7a4 0 = .ok (.iload_n 0, 1) := by decide +kernel
theorem dJ6_bitCount_0f7a4_1 : decode cJ6_bitCount_0f7a4 1 = .ok (.iload_n 0, 1) := by decide +kernel
theorem dJ6_bitCount_0f7a4_2 : decode cJ6_bitCount_0f7a4 2 = .ok (.iconst 1, 1) := by decide +kernel
theorem dJ6_bitCount_0f7a4_3 : decode cJ6_bitCount_0f7a4 3 = .ok (.iushr, 1) := by decide +kernel
theorem dJ6_bitCount_0f7a4_4 : decode cJ6_bitCount_0f7a4 4 = .ok (.ldc_w 265, 3) := by decide +kernel
theorem dJ6_bitCount_0f7a4_7 : decode cJ6_bitCount_0f7a4 7 = .ok (.iand, 1) := by decide +kernel
theorem dJ6_bitCount_0f7a4_8 : decode cJ6_bitCount_0f7a4 8 = .ok (.isub, 1) := by decide +kernel
theorem dJ6_bitCount_0f7a4_9 : decode cJ6_bitCount_0f7a4 9 = .ok (.istore_n 0, 1) := by decide +kernel
theorem dJ6_bitCount_0f7a4_10 : decode cJ6_bitCount_0f7a4 10 = .ok (.iload_n 0, 1) := by decide +kernel
theorem dJ6_bitCount_0f7a4_11 : decode cJ6_bitCount_0f7a4 11 = .ok (.ldc_w 266, 3) := by decide +kernel
theorem dJ6_bitCount_0f7a4_14 : decode cJ6_bitCount_0f7a4 14 = .ok (.iand, 1) := by decide +kernel
theorem dJ6_bitCount_0f7a4_15 : decode cJ6_bitCount_0f7a4 15 = .ok (.iload_n 0, 1) := by decide +kernel
theorem dJ6_bitCount_0f7a4_16 : decode cJ6_bitCount_0f7a4 16 = .ok (.iconst 2, 1) := by decide +kernel
theorem dJ6_bitCount_0f7a4_17 : decode cJ6_bitCount_0f7a4 17 = .ok (.iushr, 1) := by decide +kernel
theorem dJ6_bitCount_0f7a4_18 : decode cJ6_bitCount_0f7a4 18 = .ok (.ldc_w 266, 3) := by decide +kernel
theorem dJ6_bitCount_0f7a4_21 : decode cJ6_bitCount_0f7a4 21 = .ok (.iand, 1) := by decide +kernel
theorem dJ6_bitCount_0f7a4_22 : decode cJ6_bitCount_0f7a4 22 = .ok (.iadd, 1) := by decide +kernel
theorem dJ6_bitCount_0f7a4_23 : decode cJ6_bitCount_0f7a4 23 = .ok (.istore_n 0, 1) := by decide +kernel
theorem dJ6_bitCount_0f7a4_24 : decode cJ6_bitCount_0f7a4 24 = .ok (.iload_n 0, 1) := by decide +kernel
theorem dJ6_bitCount_0f7a4_25 : decode cJ6_bitCount_0f7a4 25 = .ok (.iload_n 0, 1) := by decide +kernel
theorem dJ6_bitCount_0f7a4_26 : decode cJ6_bitCount_0f7a4 26 = .ok (.iconst 4, 1) := by decide +kernel
theorem dJ6_bitCount_0f7a4_27 : decode cJ6_bitCount_0f7a4 27 = .ok (.iushr, 1) := by decide +kernel
theorem dJ6_bitCount_0f7a4_28 : decode cJ6_bitCount_0f7a4 28 = .ok (.iadd, 1) := by decide +kernel
theorem dJ6_bitCount_0f7a4_29 : decode cJ6_bitCount_0f7a4 29 = .ok (.ldc_w 267, 3) := by decide +kernel
theorem dJ6_bitCount_0f7a4_32 : decode cJ6_bitCount_0f7a4 32 = .ok (.iand, 1) := by decide +kernel
theorem dJ6_bitCount_0f7a4_33 : decode cJ6_bitCount_0f7a4 33 = .ok (.istore_n 0, 1) := by decide +kernel
theorem dJ6_bitCount_0f7a4_34 : decode cJ6_bitCount_0f7a4 34 = .ok (.iload_n 0, 1) := by decide +kernel
theorem dJ6_bitCount_0f7a4_35 : decode cJ6_bitCount_0f7a4 35 = .ok (.iload_n 0, 1) := by decide +kernel
theorem dJ6_bitCount_0f7a4_36 : decode cJ6_bitCount_0f7a4 36 = .ok (.bipush 8, 2) := by decide +kernel
theorem dJ6_bitCount_0f7a4_38 : decode cJ6_bitCount_0f7a4 38 = .ok (.iushr, 1) := by decide +kernel
theorem dJ6_bitCount_0f7a4_39 : decode cJ6_bitCount_0f7a4 39 = .ok (.iadd, 1) := by decide +kernel
theorem dJ6_bitCount_0f7a4_40 : decode cJ6_bitCount_0f7a4 40 = .ok (.istore_n 0, 1) := by decide +kernel
theorem dJ6_bitCount_0f7a4_41 : decode cJ6_bitCount_0f7a4 41 = .ok (.iload_n 0, 1) := by decide +kernel
theorem dJ6_bitCount_0f7a4_42 : decode cJ6_bitCount_0f7a4 42 = .ok (.iload_n 0, 1) := by decide +kernel
theorem dJ6_bitCount_0f7a4_43 : decode cJ6_bitCount_0f7a4 43 = .ok (.bipush 16, 2) := by decide +kernel
theorem dJ6_bitCount_0f7a4_45 : decode cJ6_bitCount_0f7a4 45 = .ok (.iushr, 1) := by decide +kernel
theorem dJ6_bitCount_0f7a4_46 : decode cJ6_bitCount_0f7a4 46 = .ok (.iadd, 1) := by decide +kernel
theorem dJ6_bitCount_0f7a4_47 : decode cJ6_bitCount_0f7a4 47 = .ok (.istore_n 0, 1) := by decide +kernel
theorem dJ6_bitCount_0f7a4_48 : decode cJ6_bitCount_0f7a4 48 = .ok (.iload_n 0, 1) := by decide +kernel
theorem dJ6_bitCount_0f7a4_49 : decode cJ6_bitCount_0f7a4 49 = .ok (.bipush 63, 2) := by decide +kernel
theorem dJ6_bitCount_0f7a4_51 : decode cJ6_bitCount_0f7a4 51 = .ok (.iand, 1) := by decide +kernel
theorem dJ6_bitCount_0f7a4_52 : decode cJ6_bitCount_0f7a4 52 = .ok (.ireturn, 1) := by decide +kernel
abbrev dpJ6_bitCount_0f7a4 : Nat := 0
def fJ6_bitCount_0f7a4 (x0 : Int32) : St → Option (Int32 × St) :=
 rt ((((((((x0 - ((iush x0 1) &&& 1431655765)) &&& 858993459) + ((iush (x0 - ((iush x0 1) &&& 1431655765)) 2) &&& 858993459)) + (iush (((x0 - ((iush x0 1) &&& 1431655765)) &&& 858993459) + ((iush (x0 - ((iush x0 1) &&& 1431655765)) 2) &&& 858993459)) 4)) &&& 252645135) + (iush (((((x0 - ((iush x0 1) &&& 1431655765)) &&& 858993459) + ((iush (x0 - ((iush x0 1) &&& 1431655765)) 2) &&& 858993459)) + (iush (((x0 - ((iush x0 1) &&& 1431655765)) &&& 858993459) + ((iush (x0 - ((iush x0 1) &&& 1431655765)) 2) &&& 858993459)) 4)) &&& 252645135) 8)) + (iush ((((((x0 - ((iush x0 1) &&& 1431655765)) &&& 858993459) + ((iush (x0 - ((iush x0 1) &&& 1431655765)) 2) &&& 858993459)) + (iush (((x0 - ((iush x0 1) &&& 1431655765)) &&& 858993459) + ((iush (x0 - ((iush x0 1) &&& 1431655765)) 2) &&& 858993459)) 4)) &&& 252645135) + (iush (((((x0 - ((iush x0 1) &&& 1431655765)) &&& 858993459) + ((iush (x0 - ((iush x0 1) &&& 1431655765)) 2) &&& 858993459)) + (iush (((x0 - ((iush x0 1) &&& 1431655765)) &&& 858993459) + ((iush (x0 - ((iush x0 1) &&& 1431655765)) 2) &&& 858993459)) 4)) &&& 252645135) 8)) 16)) &&& 63)
set_option maxHeartbeats 4000000 in
set_option maxRecDepth 100000 in
theorem mJ6_bitCount_0f7a4 {E : Ev} {l : Launch} (x0 : Int32) : MF E l dpJ6_bitCount_0f7a4 yJ6_bitCount_0f7a4 cJ6_bitCount_0f7a4 1 (some .int) rvI [.int x0] (fJ6_bitCount_0f7a4 x0) := by
  refine MF.of (lv := [(0, .int x0)]) (by decide) (Nat.le_of_ble_eq_true rfl) rfl ?_
  unfold fJ6_bitCount_0f7a4
  refine sn_iload_n (pc := 0) (j := 0) dJ6_bitCount_0f7a4_0 rfl rfl ?_
  refine sn_iload_n (pc := 1) (j := 0) dJ6_bitCount_0f7a4_1 rfl rfl ?_
  refine sn_iconst (pc := 2) (v := 1) dJ6_bitCount_0f7a4_2 (by decide) ?_
  refine sn_iushr (pc := 3) dJ6_bitCount_0f7a4_3 ?_
  refine sn_ldcw (pc := 4) (v := 1431655765) dJ6_bitCount_0f7a4_4 wt5_74 ?_
  refine sn_iand (pc := 7) dJ6_bitCount_0f7a4_7 ?_
  refine sn_isub (pc := 8) dJ6_bitCount_0f7a4_8 ?_
  refine sn_istore_n (pc := 9) (i := 0) (lv' := [(0, .int (x0 - ((iush x0 1) &&& 1431655765)))]) dJ6_bitCount_0f7a4_9 rfl (by decide) rfl ?_
  refine sn_iload_n (pc := 10) (j := 0) dJ6_bitCount_0f7a4_10 rfl rfl ?_
  refine sn_ldcw (pc := 11) (v := 858993459) dJ6_bitCount_0f7a4_11 wt5_75 ?_
  refine sn_iand (pc := 14) dJ6_bitCount_0f7a4_14 ?_
  refine sn_iload_n (pc := 15) (j := 0) dJ6_bitCount_0f7a4_15 rfl rfl ?_
  refine sn_iconst (pc := 16) (v := 2) dJ6_bitCount_0f7a4_16 (by decide) ?_
  refine sn_iushr (pc := 17) dJ6_bitCount_0f7a4_17 ?_
  refine sn_ldcw (pc := 18) (v := 858993459) dJ6_bitCount_0f7a4_18 wt5_75 ?_
  refine sn_iand (pc := 21) dJ6_bitCount_0f7a4_21 ?_
  refine sn_iadd (pc := 22) dJ6_bitCount_0f7a4_22 ?_
  refine sn_istore_n (pc := 23) (i := 0) (lv' := [(0, .int (((x0 - ((iush x0 1) &&& 1431655765)) &&& 858993459) + ((iush (x0 - ((iush x0 1) &&& 1431655765)) 2) &&& 858993459)))]) dJ6_bitCount_0f7a4_23 rfl (by decide) rfl ?_
  refine sn_iload_n (pc := 24) (j := 0) dJ6_bitCount_0f7a4_24 rfl rfl ?_
  refine sn_iload_n (pc := 25) (j := 0) dJ6_bitCount_0f7a4_25 rfl rfl ?_
  refine sn_iconst (pc := 26) (v := 4) dJ6_bitCount_0f7a4_26 (by decide) ?_
  refine sn_iushr (pc := 27) dJ6_bitCount_0f7a4_27 ?_
  refine sn_iadd (pc := 28) dJ6_bitCount_0f7a4_28 ?_
  refine sn_ldcw (pc := 29) (v := 252645135) dJ6_bitCount_0f7a4_29 wt5_76 ?_
  refine sn_iand (pc := 32) dJ6_bitCount_0f7a4_32 ?_
  refine sn_istore_n (pc := 33) (i := 0) (lv' := [(0, .int (((((x0 - ((iush x0 1) &&& 1431655765)) &&& 858993459) + ((iush (x0 - ((iush x0 1) &&& 1431655765)) 2) &&& 858993459)) + (iush (((x0 - ((iush x0 1) &&& 1431655765)) &&& 858993459) + ((iush (x0 - ((iush x0 1) &&& 1431655765)) 2) &&& 858993459)) 4)) &&& 252645135))]) dJ6_bitCount_0f7a4_33 rfl (by decide) rfl ?_
  refine sn_iload_n (pc := 34) (j := 0) dJ6_bitCount_0f7a4_34 rfl rfl ?_
  refine sn_iload_n (pc := 35) (j := 0) dJ6_bitCount_0f7a4_35 rfl rfl ?_
  refine sn_bipush (pc := 36) (v := 8) dJ6_bitCount_0f7a4_36 (by decide) ?_
  refine sn_iushr (pc := 38) dJ6_bitCount_0f7a4_38 ?_
  refine sn_iadd (pc := 39) dJ6_bitCount_0f7a4_39 ?_
  refine sn_istore_n (pc := 40) (i := 0) (lv' := [(0, .int ((((((x0 - ((iush x0 1) &&& 1431655765)) &&& 858993459) + ((iush (x0 - ((iush x0 1) &&& 1431655765)) 2) &&& 858993459)) + (iush (((x0 - ((iush x0 1) &&& 1431655765)) &&& 858993459) + ((iush (x0 - ((iush x0 1) &&& 1431655765)) 2) &&& 858993459)) 4)) &&& 252645135) + (iush (((((x0 - ((iush x0 1) &&& 1431655765)) &&& 858993459) + ((iush (x0 - ((iush x0 1) &&& 1431655765)) 2) &&& 858993459)) + (iush (((x0 - ((iush x0 1) &&& 1431655765)) &&& 858993459) + ((iush (x0 - ((iush x0 1) &&& 1431655765)) 2) &&& 858993459)) 4)) &&& 252645135) 8)))]) dJ6_bitCount_0f7a4_40 rfl (by decide) rfl ?_
  refine sn_iload_n (pc := 41) (j := 0) dJ6_bitCount_0f7a4_41 rfl rfl ?_
  refine sn_iload_n (pc := 42) (j := 0) dJ6_bitCount_0f7a4_42 rfl rfl ?_
  refine sn_bipush (pc := 43) (v := 16) dJ6_bitCount_0f7a4_43 (by decide) ?_
  refine sn_iushr (pc := 45) dJ6_bitCount_0f7a4_45 ?_
  refine sn_iadd (pc := 46) dJ6_bitCount_0f7a4_46 ?_
  refine sn_istore_n (pc := 47) (i := 0) (lv' := [(0, .int (((((((x0 - ((iush x0 1) &&& 1431655765)) &&& 858993459) + ((iush (x0 - ((iush x0 1) &&& 1431655765)) 2) &&& 858993459)) + (iush (((x0 - ((iush x0 1) &&& 1431655765)) &&& 858993459) + ((iush (x0 - ((iush x0 1) &&& 1431655765)) 2) &&& 858993459)) 4)) &&& 252645135) + (iush (((((x0 - ((iush x0 1) &&& 1431655765)) &&& 858993459) + ((iush (x0 - ((iush x0 1) &&& 1431655765)) 2) &&& 858993459)) + (iush (((x0 - ((iush x0 1) &&& 1431655765)) &&& 858993459) + ((iush (x0 - ((iush x0 1) &&& 1431655765)) 2) &&& 858993459)) 4)) &&& 252645135) 8)) + (iush ((((((x0 - ((iush x0 1) &&& 1431655765)) &&& 858993459) + ((iush (x0 - ((iush x0 1) &&& 1431655765)) 2) &&& 858993459)) + (iush (((x0 - ((iush x0 1) &&& 1431655765)) &&& 858993459) + ((iush (x0 - ((iush x0 1) &&& 1431655765)) 2) &&& 858993459)) 4)) &&& 252645135) + (iush (((((x0 - ((iush x0 1) &&& 1431655765)) &&& 858993459) + ((iush (x0 - ((iush x0 1) &&& 1431655765)) 2) &&& 858993459)) + (iush (((x0 - ((iush x0 1) &&& 1431655765)) &&& 858993459) + ((iush (x0 - ((iush x0 1) &&& 1431655765)) 2) &&& 858993459)) 4)) &&& 252645135) 8)) 16)))]) dJ6_bitCount_0f7a4_47 rfl (by decide) rfl ?_
  refine sn_iload_n (pc := 48) (j := 0) dJ6_bitCount_0f7a4_48 rfl rfl ?_
  refine sn_bipush (pc := 49) (v := 63) dJ6_bitCount_0f7a4_49 (by decide) ?_
  refine sn_iand (pc := 51) dJ6_bitCount_0f7a4_51 ?_
  exact sn_iret (pc := 52) dJ6_bitCount_0f7a4_52 rfl
theorem iJ6_bitCount_0f7a4 : MI yJ6_bitCount_0f7a4 cJ6_bitCount_0f7a4 1 (some .int) 1 := ⟨wt1_21, wt5_73, by decide +kernel, by decide⟩
-- NeedleHomes$Parting isInSet(II)Z
theorem dX4_isInSet_0 : decode cX4_isInSet 0 = .ok (.iload_n 0, 1) := by decide +kernel
theorem dX4_isInSet_1 : decode cX4_isInSet 1 = .ok (.iload_n 1, 1) := by decide +kernel
theorem dX4_isInSet_2 : decode cX4_isInSet 2 = .ok (.ishr, 1) := by decide +kernel
theorem dX4_isInSet_3 : decode cX4_isInSet 3 = .ok (.iconst 1, 1) := by decide +kernel
theorem dX4_isInSet_4 : decode cX4_isInSet 4 = .ok (.iand, 1) := by decide +kernel
theorem dX4_isInSet_5 : decode cX4_isInSet 5 = .ok (.iconst 1, 1) := by decide +kernel
theorem dX4_isInSet_6 : decode cX4_isInSet 6 = .ok (.if_icmp .ne 7, 3) := by decide +kernel
theorem dX4_isInSet_9 : decode cX4_isInSet 9 = .ok (.iconst 1, 1) := by decide +kernel
theorem dX4_isInSet_10 : decode cX4_isInSet 10 = .ok (.goto 4, 3) := by decide +kernel
theorem dX4_isInSet_13 : decode cX4_isInSet 13 = .ok (.iconst 0, 1) := by decide +kernel
theorem dX4_isInSet_14 : decode cX4_isInSet 14 = .ok (.ireturn, 1) := by decide +kernel
abbrev dpX4_isInSet : Nat := 0
def fX4_isInSet (x0 : Int32) (x1 : Int32) : St → Option (Bool × St) :=
 br (((x0 >>> (x1 &&& 31)) &&& 1) = 1) (rtZ 1)
 (rtZ 0)
set_option maxHeartbeats 4000000 in
set_option maxRecDepth 100000 in
theorem mX4_isInSet {E : Ev} {l : Launch} (x0 : Int32) (x1 : Int32) : MF E l dpX4_isInSet yX4_isInSet cX4_isInSet 2 (some .boolean) rvZ [.int x0, .int x1] (fX4_isInSet x0 x1) := by
  refine MF.of (lv := [(0, .int x0), (1, .int x1)]) (by decide) (Nat.le_of_ble_eq_true rfl) rfl ?_
  unfold fX4_isInSet
  refine sn_iload_n (pc := 0) (j := 0) dX4_isInSet_0 rfl rfl ?_
  refine sn_iload_n (pc := 1) (j := 1) dX4_isInSet_1 rfl rfl ?_
  refine sn_ishr (pc := 2) dX4_isInSet_2 ?_
  refine sn_iconst (pc := 3) (v := 1) dX4_isInSet_3 (by decide) ?_
  refine sn_iand (pc := 4) dX4_isInSet_4 ?_
  refine sn_iconst (pc := 5) (v := 1) dX4_isInSet_5 (by decide) ?_
  refine sn_icmp_ne (pc := 6) (tgt := 13) dX4_isInSet_6 (by decide) ?_ ?_
  · refine sn_iconst (pc := 13) (v := 0) dX4_isInSet_13 (by decide) ?_
    exact sn_zret (pc := 14) dX4_isInSet_14 rfl
  · refine sn_iconst (pc := 9) (v := 1) dX4_isInSet_9 (by decide) ?_
    refine sn_goto (pc := 10) (tgt := 14) dX4_isInSet_10 (by decide) ?_
    exact sn_zret (pc := 14) dX4_isInSet_14 rfl
theorem iX4_isInSet : MI yX4_isInSet cX4_isInSet 2 (some .boolean) 2 := ⟨wt1_8, wt5_66, by decide +kernel, by decide⟩
-- NeedleHomes$Parting allows(II)Z
theorem dX4_allows_0 : decode cX4_allows 0 = .ok (.iconst 0, 1) := by decide +kernel
theorem dX4_allows_1 : decode cX4_allows 1 = .ok (.istore_n 3, 1) := by decide +kernel
theorem dX4_allows_2 : decode cX4_allows 2 = .ok (.iconst 0, 1) := by decide +kernel
theorem dX4_allows_3 : decode cX4_allows 3 = .ok (.istore 4, 2) := by decide +kernel
theorem dX4_allows_5 : decode cX4_allows 5 = .ok (.iload 4, 2) := by decide +kernel
theorem dX4_allows_7 : decode cX4_allows 7 = .ok (.aload_n 0, 1) := by decide +kernel
theorem dX4_allows_8 : decode cX4_allows 8 = .ok (.getfield 33, 3) := by decide +kernel
theorem dX4_allows_11 : decode cX4_allows 11 = .ok (.if_icmp .ge 41, 3) := by decide +kernel
theorem dX4_allows_14 : decode cX4_allows 14 = .ok (.iload_n 1, 1) := by decide +kernel
theorem dX4_allows_15 : decode cX4_allows 15 = .ok (.iload 4, 2) := by decide +kernel
theorem dX4_allows_17 : decode cX4_allows 17 = .ok (.invokestatic 74, 3) := by decide +kernel
theorem dX4_allows_20 : decode cX4_allows 20 = .ok (.ifCond .eq 26, 3) := by decide +kernel
theorem dX4_allows_23 : decode cX4_allows 23 = .ok (.aload_n 0, 1) := by decide +kernel
theorem dX4_allows_24 : decode cX4_allows 24 = .ok (.getfield 9, 3) := by decide +kernel
theorem dX4_allows_27 : decode cX4_allows 27 = .ok (.iload 4, 2) := by decide +kernel
theorem dX4_allows_29 : decode cX4_allows 29 = .ok (.iaload, 1) := by decide +kernel
theorem dX4_allows_30 : decode cX4_allows 30 = .ok (.iconst 1, 1) := by decide +kernel
theorem dX4_allows_31 : decode cX4_allows 31 = .ok (.if_icmp .ge 5, 3) := by decide +kernel
theorem dX4_allows_34 : decode cX4_allows 34 = .ok (.iconst 0, 1) := by decide +kernel
theorem dX4_allows_35 : decode cX4_allows 35 = .ok (.ireturn, 1) := by decide +kernel
theorem dX4_allows_36 : decode cX4_allows 36 = .ok (.iload_n 3, 1) := by decide +kernel
theorem dX4_allows_37 : decode cX4_allows 37 = .ok (.aload_n 0, 1) := by decide +kernel
theorem dX4_allows_38 : decode cX4_allows 38 = .ok (.getfield 9, 3) := by decide +kernel
theorem dX4_allows_41 : decode cX4_allows 41 = .ok (.iload 4, 2) := by decide +kernel
theorem dX4_allows_43 : decode cX4_allows 43 = .ok (.iaload, 1) := by decide +kernel
theorem dX4_allows_44 : decode cX4_allows 44 = .ok (.iadd, 1) := by decide +kernel
theorem dX4_allows_45 : decode cX4_allows 45 = .ok (.istore_n 3, 1) := by decide +kernel
theorem dX4_allows_46 : decode cX4_allows 46 = .ok (.iinc 4 1, 3) := by decide +kernel
theorem dX4_allows_49 : decode cX4_allows 49 = .ok (.goto (-44), 3) := by decide +kernel
theorem dX4_allows_52 : decode cX4_allows 52 = .ok (.iload_n 3, 1) := by decide +kernel
theorem dX4_allows_53 : decode cX4_allows 53 = .ok (.iload_n 2, 1) := by decide +kernel
theorem dX4_allows_54 : decode cX4_allows 54 = .ok (.if_icmp .lt 7, 3) := by decide +kernel
theorem dX4_allows_57 : decode cX4_allows 57 = .ok (.iconst 1, 1) := by decide +kernel
theorem dX4_allows_58 : decode cX4_allows 58 = .ok (.goto 4, 3) := by decide +kernel
theorem dX4_allows_61 : decode cX4_allows 61 = .ok (.iconst 0, 1) := by decide +kernel
theorem dX4_allows_62 : decode cX4_allows 62 = .ok (.ireturn, 1) := by decide +kernel
abbrev dpX4_allows : Nat := 1
def fX4_allows_46 (k5 : (Nat × Int32 × Int32 × Int32 × Int32) → St → Option (Bool × St)) (a0 : Nat) (x1 : Int32) (x2 : Int32) (x3 : Int32) (x4 : Int32) : St → Option (Bool × St) :=
 k5 (a0, x1, x2, x3, (x4 + 1))
set_option maxHeartbeats 4000000 in
set_option maxRecDepth 100000 in
theorem sfX4_allows_46 {E : Ev} {l : Launch} (k5 : (Nat × Int32 × Int32 × Int32 × Int32) → St → Option (Bool × St)) (hk5 : ∀ p : Nat × Int32 × Int32 × Int32 × Int32, Snd E l (dpX4_allows, RX4, cX4_allows, 5, (some .boolean), "allows") rvZ 5 [(0, .ref (E.1 + p.1)), (1, .int p.2.1), (2, .int p.2.2.1), (3, .int p.2.2.2.1), (4, .int p.2.2.2.2)] [] (k5 p)) (a0 : Nat) (x1 : Int32) (x2 : Int32) (x3 : Int32) (x4 : Int32) : Snd E l (dpX4_allows, RX4, cX4_allows, 5, (some .boolean), "allows") rvZ 46 [(0, .ref (E.1 + a0)), (1, .int x1), (2, .int x2), (3, .int x3), (4, .int x4)] [] (fX4_allows_46 k5 a0 x1 x2 x3 x4) := by
  unfold fX4_allows_46
  refine sn_iinc (pc := 46) (v := x4 + 1) (lv' := [(4, .int (x4 + 1)), (0, .ref (E.1 + a0)), (1, .int x1), (2, .int x2), (3, .int x3)]) (j := 4) dX4_allows_46 rfl rfl (by decide) rfl ?_
  refine sn_goto (pc := 49) (tgt := 5) dX4_allows_49 (by decide) ?_
  exact sn_sub (lv' := [(0, .ref (E.1 + a0)), (1, .int x1), (2, .int x2), (3, .int x3), (4, .int (x4 + 1))]) [1, 2, 3, 4, 0] rfl (hk5 (a0, x1, x2, x3, (x4 + 1)))
def fX4_allows_5 (k5 : (Nat × Int32 × Int32 × Int32 × Int32) → St → Option (Bool × St)) (a0 : Nat) (x1 : Int32) (x2 : Int32) (x3 : Int32) (x4 : Int32) : St → Option (Bool × St) :=
 gI 5 a0 3 fun v1001 =>
 br (v1001 ≤ x4) (br (x3 < x2) (rtZ 0)
 (rtZ 1))
 (cl (fX4_isInSet x1 x4) fun v1002 =>
 br ((bi v1002) = 0) (fX4_allows_46 k5 a0 x1 x2 x3 x4)
 (gR 5 a0 4 fun v1003 =>
 nn v1003 fun a1005 =>
 aI 15 a1005 x4 fun v1004 =>
 br (1 ≤ v1004) (gR 5 a0 4 fun v1006 =>
 nn v1006 fun a1008 =>
 aI 15 a1008 x4 fun v1007 =>
 fX4_allows_46 k5 a0 x1 x2 (x3 + v1007) x4)
 (rtZ 0)))
set_option maxHeartbeats 4000000 in
set_option maxRecDepth 100000 in
theorem sfX4_allows_5 {E : Ev} {l : Launch} (k5 : (Nat × Int32 × Int32 × Int32 × Int32) → St → Option (Bool × St)) (hk5 : ∀ p : Nat × Int32 × Int32 × Int32 × Int32, Snd E l (dpX4_allows, RX4, cX4_allows, 5, (some .boolean), "allows") rvZ 5 [(0, .ref (E.1 + p.1)), (1, .int p.2.1), (2, .int p.2.2.1), (3, .int p.2.2.2.1), (4, .int p.2.2.2.2)] [] (k5 p)) (a0 : Nat) (x1 : Int32) (x2 : Int32) (x3 : Int32) (x4 : Int32) : Snd E l (dpX4_allows, RX4, cX4_allows, 5, (some .boolean), "allows") rvZ 5 [(0, .ref (E.1 + a0)), (1, .int x1), (2, .int x2), (3, .int x3), (4, .int x4)] [] (fX4_allows_5 k5 a0 x1 x2 x3 x4) := by
  unfold fX4_allows_5
  refine sn_iload (pc := 5) (j := 4) dX4_allows_5 rfl ?_
  refine sn_aload_n (pc := 7) (j := 0) dX4_allows_7 rfl rfl ?_
  refine sn_gI (pc := 8) dX4_allows_8 flX4_33 rfl (fun v1001 => ?_)
  refine sn_icmp_ge (pc := 11) (tgt := 52) dX4_allows_11 (by decide) ?_ ?_
  · refine sn_iload_n (pc := 52) (j := 3) dX4_allows_52 rfl rfl ?_
    refine sn_iload_n (pc := 53) (j := 2) dX4_allows_53 rfl rfl ?_
    refine sn_icmp_lt (pc := 54) (tgt := 61) dX4_allows_54 (by decide) ?_ ?_
    · refine sn_iconst (pc := 61) (v := 0) dX4_allows_61 (by decide) ?_
      exact sn_zret (pc := 62) dX4_allows_62 rfl
    · refine sn_iconst (pc := 57) (v := 1) dX4_allows_57 (by decide) ?_
      refine sn_goto (pc := 58) (tgt := 62) dX4_allows_58 (by decide) ?_
      exact sn_zret (pc := 62) dX4_allows_62 rfl
  · refine sn_iload_n (pc := 14) (j := 1) dX4_allows_14 rfl rfl ?_
    refine sn_iload (pc := 15) (j := 4) dX4_allows_15 rfl ?_
    refine sn_callS (pc := 17) dX4_allows_17 iX4_isInSet wt5_65 wt5_64 (mX4_isInSet x1 x4) (by decide) rfl rfl (Nat.le_of_ble_eq_true rfl) (fun v1002 => ?_)
    refine sn_if_eq (pc := 20) (tgt := 46) dX4_allows_20 (by decide) ?_ ?_
    · exact sn_sub (lv' := [(0, .ref (E.1 + a0)), (1, .int x1), (2, .int x2), (3, .int x3), (4, .int x4)]) [0, 1, 2, 3, 4] rfl (sfX4_allows_46 k5 hk5 a0 x1 x2 x3 x4)
    · refine sn_aload_n (pc := 23) (j := 0) dX4_allows_23 rfl rfl ?_
      refine sn_gR (pc := 24) dX4_allows_24 flX4_9 rfl (fun v1003 => ?_)
      refine sn_iload (pc := 27) (j := 4) dX4_allows_27 rfl ?_
      rcases v1003 with _ | a1005
      · exact sn_no
      refine sn_nn ?_
      refine sn_iald (pc := 29) dX4_allows_29 (fun v1004 => ?_)
      refine sn_iconst (pc := 30) (v := 1) dX4_allows_30 (by decide) ?_
      refine sn_icmp_ge (pc := 31) (tgt := 36) dX4_allows_31 (by decide) ?_ ?_
      · refine sn_iload_n (pc := 36) (j := 3) dX4_allows_36 rfl rfl ?_
        refine sn_aload_n (pc := 37) (j := 0) dX4_allows_37 rfl rfl ?_
        refine sn_gR (pc := 38) dX4_allows_38 flX4_9 rfl (fun v1006 => ?_)
        refine sn_iload (pc := 41) (j := 4) dX4_allows_41 rfl ?_
        rcases v1006 with _ | a1008
        · exact sn_no
        refine sn_nn ?_
        refine sn_iald (pc := 43) dX4_allows_43 (fun v1007 => ?_)
        refine sn_iadd (pc := 44) dX4_allows_44 ?_
        refine sn_istore_n (pc := 45) (i := 3) (lv' := [(3, .int (x3 + v1007)), (0, .ref (E.1 + a0)), (1, .int x1), (2, .int x2), (4, .int x4)]) dX4_allows_45 rfl (by decide) rfl ?_
        exact sn_sub (lv' := [(0, .ref (E.1 + a0)), (1, .int x1), (2, .int x2), (3, .int (x3 + v1007)), (4, .int x4)]) [1, 2, 3, 0, 4] rfl (sfX4_allows_46 k5 hk5 a0 x1 x2 (x3 + v1007) x4)
      · refine sn_iconst (pc := 34) (v := 0) dX4_allows_34 (by decide) ?_
        exact sn_zret (pc := 35) dX4_allows_35 rfl
def fX4_allows (a0 : Nat) (x1 : Int32) (x2 : Int32) : St → Option (Bool × St) :=
 itr (fun k (p : Nat × Int32 × Int32 × Int32 × Int32) => fX4_allows_5  k p.1 p.2.1 p.2.2.1 p.2.2.2.1 p.2.2.2.2) FU (a0, x1, x2, 0, 0)
set_option maxHeartbeats 4000000 in
set_option maxRecDepth 100000 in
theorem mX4_allows {E : Ev} {l : Launch} (a0 : Nat) (x1 : Int32) (x2 : Int32) : MF E l dpX4_allows yX4_allows cX4_allows 5 (some .boolean) rvZ [.ref (E.1 + a0), .int x1, .int x2] (fX4_allows a0 x1 x2) := by
  refine MF.of (lv := [(0, .ref (E.1 + a0)), (1, .int x1), (2, .int x2)]) (by decide) (Nat.le_of_ble_eq_true rfl) rfl ?_
  unfold fX4_allows
  refine sn_iconst (pc := 0) (v := 0) dX4_allows_0 (by decide) ?_
  refine sn_istore_n (pc := 1) (i := 3) (lv' := [(3, .int 0), (0, .ref (E.1 + a0)), (1, .int x1), (2, .int x2)]) dX4_allows_1 rfl (by decide) rfl ?_
  refine sn_iconst (pc := 2) (v := 0) dX4_allows_2 (by decide) ?_
  refine sn_istore (pc := 3) (i := 4) (lv' := [(4, .int 0), (3, .int 0), (0, .ref (E.1 + a0)), (1, .int x1), (2, .int x2)]) dX4_allows_3 (by decide) rfl ?_
  exact sn_sub (lv' := [(0, .ref (E.1 + a0)), (1, .int x1), (2, .int x2), (3, .int 0), (4, .int 0)]) [2, 3, 4, 1, 0] rfl (sn_itr (lvf := fun p => [(0, .ref (E.1 + p.1)), (1, .int p.2.1), (2, .int p.2.2.1), (3, .int p.2.2.2.1), (4, .int p.2.2.2.2)]) (stf := fun p => []) (fun k hk p => sfX4_allows_5  k hk p.1 p.2.1 p.2.2.1 p.2.2.2.1 p.2.2.2.2) FU (a0, x1, x2, 0, 0))
theorem iX4_allows : MI yX4_allows cX4_allows 5 (some .boolean) 2 := ⟨wt1_8, wt5_80, by decide +kernel, by decide⟩
-- NeedleHomes$Parting spreadOf(I)I
theorem dX4_spreadOf_0 : decode cX4_spreadOf 0 = .ok (.sipush 200, 3) := by decide +kernel
theorem dX4_spreadOf_3 : decode cX4_spreadOf 3 = .ok (.istore_n 2, 1) := by decide +kernel
theorem dX4_spreadOf_4 : decode cX4_spreadOf 4 = .ok (.iconst 0, 1) := by decide +kernel
theorem dX4_spreadOf_5 : decode cX4_spreadOf 5 = .ok (.istore_n 3, 1) := by decide +kernel
theorem dX4_spreadOf_6 : decode cX4_spreadOf 6 = .ok (.iconst 0, 1) := by decide +kernel
theorem dX4_spreadOf_7 : decode cX4_spreadOf 7 = .ok (.istore 4, 2) := by decide +kernel
theorem dX4_spreadOf_9 : decode cX4_spreadOf 9 = .ok (.iload 4, 2) := by decide +kernel
theorem dX4_spreadOf_11 : decode cX4_spreadOf 11 = .ok (.aload_n 0, 1) := by decide +kernel
theorem dX4_spreadOf_12 : decode cX4_spreadOf 12 = .ok (.getfield 33, 3) := by decide +kernel
theorem dX4_spreadOf_15 : decode cX4_spreadOf 15 = .ok (.if_icmp .ge 42, 3) := by decide +kernel
theorem dX4_spreadOf_18 : decode cX4_spreadOf 18 = .ok (.iload_n 1, 1) := by decide +kernel
theorem dX4_spreadOf_19 : decode cX4_spreadOf 19 = .ok (.iload 4, 2) := by decide +kernel
theorem dX4_spreadOf_21 : decode cX4_spreadOf 21 = .ok (.invokestatic 74, 3) := by decide +kernel
theorem dX4_spreadOf_24 : decode cX4_spreadOf 24 = .ok (.ifCond .eq 27, 3) := by decide +kernel
theorem dX4_spreadOf_27 : decode cX4_spreadOf 27 = .ok (.iload_n 2, 1) := by decide +kernel
theorem dX4_spreadOf_28 : decode cX4_spreadOf 28 = .ok (.aload_n 0, 1) := by decide +kernel
theorem dX4_spreadOf_29 : decode cX4_spreadOf 29 = .ok (.getfield 15, 3) := by decide +kernel
theorem dX4_spreadOf_32 : decode cX4_spreadOf 32 = .ok (.iload 4, 2) := by decide +kernel
theorem dX4_spreadOf_34 : decode cX4_spreadOf 34 = .ok (.iaload, 1) := by decide +kernel
theorem dX4_spreadOf_35 : decode cX4_spreadOf 35 = .ok (.invokestatic 27, 3) := by decide +kernel
theorem dX4_spreadOf_38 : decode cX4_spreadOf 38 = .ok (.istore_n 2, 1) := by decide +kernel
theorem dX4_spreadOf_39 : decode cX4_spreadOf 39 = .ok (.iload_n 3, 1) := by decide +kernel
theorem dX4_spreadOf_40 : decode cX4_spreadOf 40 = .ok (.aload_n 0, 1) := by decide +kernel
theorem dX4_spreadOf_41 : decode cX4_spreadOf 41 = .ok (.getfield 15, 3) := by decide +kernel
theorem dX4_spreadOf_44 : decode cX4_spreadOf 44 = .ok (.iload 4, 2) := by decide +kernel
theorem dX4_spreadOf_46 : decode cX4_spreadOf 46 = .ok (.iaload, 1) := by decide +kernel
theorem dX4_spreadOf_47 : decode cX4_spreadOf 47 = .ok (.invokestatic 95, 3) := by decide +kernel
theorem dX4_spreadOf_50 : decode cX4_spreadOf 50 = .ok (.istore_n 3, 1) := by decide +kernel
theorem dX4_spreadOf_51 : decode cX4_spreadOf 51 = .ok (.iinc 4 1, 3) := by decide +kernel
theorem dX4_spreadOf_54 : decode cX4_spreadOf 54 = .ok (.goto (-45), 3) := by decide +kernel
theorem dX4_spreadOf_57 : decode cX4_spreadOf 57 = .ok (.iload_n 3, 1) := by decide +kernel
theorem dX4_spreadOf_58 : decode cX4_spreadOf 58 = .ok (.iload_n 2, 1) := by decide +kernel
theorem dX4_spreadOf_59 : decode cX4_spreadOf 59 = .ok (.isub, 1) := by decide +kernel
theorem dX4_spreadOf_60 : decode cX4_spreadOf 60 = .ok (.ireturn, 1) := by decide +kernel
abbrev dpX4_spreadOf : Nat := 1
def fX4_spreadOf_51 (k9 : (Nat × Int32 × Int32 × Int32 × Int32) → St → Option (Int32 × St)) (a0 : Nat) (x1 : Int32) (x2 : Int32) (x3 : Int32) (x4 : Int32) : St → Option (Int32 × St) :=
 k9 (a0, x1, x2, x3, (x4 + 1))
set_option maxHeartbeats 4000000 in
set_option maxRecDepth 100000 in
theorem sfX4_spreadOf_51 {E : Ev} {l : Launch} (k9 : (Nat × Int32 × Int32 × Int32 × Int32) → St → Option (Int32 × St)) (hk9 : ∀ p : Nat × Int32 × Int32 × Int32 × Int32, Snd E l (dpX4_spreadOf, RX4, cX4_spreadOf, 5, (some .int), "spreadOf") rvI 9 [(0, .ref (E.1 + p.1)), (1, .int p.2.1), (2, .int p.2.2.1), (3, .int p.2.2.2.1), (4, .int p.2.2.2.2)] [] (k9 p)) (a0 : Nat) (x1 : Int32) (x2 : Int32) (x3 : Int32) (x4 : Int32) : Snd E l (dpX4_spreadOf, RX4, cX4_spreadOf, 5, (some .int), "spreadOf") rvI 51 [(0, .ref (E.1 + a0)), (1, .int x1), (2, .int x2), (3, .int x3), (4, .int x4)] [] (fX4_spreadOf_51 k9 a0 x1 x2 x3 x4) := by
  unfold fX4_spreadOf_51
  refine sn_iinc (pc := 51) (v := x4 + 1) (lv' := [(4, .int (x4 + 1)), (0, .ref (E.1 + a0)), (1, .int x1), (2, .int x2), (3, .int x3)]) (j := 4) dX4_spreadOf_51 rfl rfl (by decide) rfl ?_
  refine sn_goto (pc := 54) (tgt := 9) dX4_spreadOf_54 (by decide) ?_
  exact sn_sub (lv' := [(0, .ref (E.1 + a0)), (1, .int x1), (2, .int x2), (3, .int x3), (4, .int (x4 + 1))]) [1, 2, 3, 4, 0] rfl (hk9 (a0, x1, x2, x3, (x4 + 1)))
def fX4_spreadOf_9 (k9 : (Nat × Int32 × Int32 × Int32 × Int32) → St → Option (Int32 × St)) (a0 : Nat) (x1 : Int32) (x2 : Int32) (x3 : Int32) (x4 : Int32) : St → Option (Int32 × St) :=
 gI 5 a0 3 fun v1001 =>
 br (v1001 ≤ x4) (rt (x3 - x2))
 (cl (fX4_isInSet x1 x4) fun v1002 =>
 br ((bi v1002) = 0) (fX4_spreadOf_51 k9 a0 x1 x2 x3 x4)
 (gR 5 a0 5 fun v1003 =>
 nn v1003 fun a1005 =>
 aI 15 a1005 x4 fun v1004 =>
 gR 5 a0 5 fun v1006 =>
 nn v1006 fun a1008 =>
 aI 15 a1008 x4 fun v1007 =>
 fX4_spreadOf_51 k9 a0 x1 (mnI x2 v1004) (mxI x3 v1007) x4))
set_option maxHeartbeats 4000000 in
set_option maxRecDepth 100000 in
theorem sfX4_spreadOf_9 {E : Ev} {l : Launch} (k9 : (Nat × Int32 × Int32 × Int32 × Int32) → St → Option (Int32 × St)) (hk9 : ∀ p : Nat × Int32 × Int32 × Int32 × Int32, Snd E l (dpX4_spreadOf, RX4, cX4_spreadOf, 5, (some .int), "spreadOf") rvI 9 [(0, .ref (E.1 + p.1)), (1, .int p.2.1), (2, .int p.2.2.1), (3, .int p.2.2.2.1), (4, .int p.2.2.2.2)] [] (k9 p)) (a0 : Nat) (x1 : Int32) (x2 : Int32) (x3 : Int32) (x4 : Int32) : Snd E l (dpX4_spreadOf, RX4, cX4_spreadOf, 5, (some .int), "spreadOf") rvI 9 [(0, .ref (E.1 + a0)), (1, .int x1), (2, .int x2), (3, .int x3), (4, .int x4)] [] (fX4_spreadOf_9 k9 a0 x1 x2 x3 x4) := by
  unfold fX4_spreadOf_9
  refine sn_iload (pc := 9) (j := 4) dX4_spreadOf_9 rfl ?_
  refine sn_aload_n (pc := 11) (j := 0) dX4_spreadOf_11 rfl rfl ?_
  refine sn_gI (pc := 12) dX4_spreadOf_12 flX4_33 rfl (fun v1001 => ?_)
  refine sn_icmp_ge (pc := 15) (tgt := 57) dX4_spreadOf_15 (by decide) ?_ ?_
  · refine sn_iload_n (pc := 57) (j := 3) dX4_spreadOf_57 rfl rfl ?_
    refine sn_iload_n (pc := 58) (j := 2) dX4_spreadOf_58 rfl rfl ?_
    refine sn_isub (pc := 59) dX4_spreadOf_59 ?_
    exact sn_iret (pc := 60) dX4_spreadOf_60 rfl
  · refine sn_iload_n (pc := 18) (j := 1) dX4_spreadOf_18 rfl rfl ?_
    refine sn_iload (pc := 19) (j := 4) dX4_spreadOf_19 rfl ?_
    refine sn_callS (pc := 21) dX4_spreadOf_21 iX4_isInSet wt5_65 wt5_64 (mX4_isInSet x1 x4) (by decide) rfl rfl (Nat.le_of_ble_eq_true rfl) (fun v1002 => ?_)
    refine sn_if_eq (pc := 24) (tgt := 51) dX4_spreadOf_24 (by decide) ?_ ?_
    · exact sn_sub (lv' := [(0, .ref (E.1 + a0)), (1, .int x1), (2, .int x2), (3, .int x3), (4, .int x4)]) [0, 1, 2, 3, 4] rfl (sfX4_spreadOf_51 k9 hk9 a0 x1 x2 x3 x4)
    · refine sn_iload_n (pc := 27) (j := 2) dX4_spreadOf_27 rfl rfl ?_
      refine sn_aload_n (pc := 28) (j := 0) dX4_spreadOf_28 rfl rfl ?_
      refine sn_gR (pc := 29) dX4_spreadOf_29 flX4_15 rfl (fun v1003 => ?_)
      refine sn_iload (pc := 32) (j := 4) dX4_spreadOf_32 rfl ?_
      rcases v1003 with _ | a1005
      · exact sn_no
      refine sn_nn ?_
      refine sn_iald (pc := 34) dX4_spreadOf_34 (fun v1004 => ?_)
      refine sn_mmin (pc := 35) dX4_spreadOf_35 wt5_47 wt2_116 wt1_11 wt2_117 (by decide) (Nat.le_of_ble_eq_true rfl) ?_
      refine sn_istore_n (pc := 38) (i := 2) (lv' := [(2, .int (mnI x2 v1004)), (0, .ref (E.1 + a0)), (1, .int x1), (3, .int x3), (4, .int x4)]) dX4_spreadOf_38 rfl (by decide) rfl ?_
      refine sn_iload_n (pc := 39) (j := 3) dX4_spreadOf_39 rfl rfl ?_
      refine sn_aload_n (pc := 40) (j := 1) dX4_spreadOf_40 rfl rfl ?_
      refine sn_gR (pc := 41) dX4_spreadOf_41 flX4_15 rfl (fun v1006 => ?_)
      refine sn_iload (pc := 44) (j := 4) dX4_spreadOf_44 rfl ?_
      rcases v1006 with _ | a1008
      · exact sn_no
      refine sn_nn ?_
      refine sn_iald (pc := 46) dX4_spreadOf_46 (fun v1007 => ?_)
      refine sn_mmax (pc := 47) dX4_spreadOf_47 wt5_85 wt2_119 wt1_11 wt2_120 (by decide) (Nat.le_of_ble_eq_true rfl) ?_
      refine sn_istore_n (pc := 50) (i := 3) (lv' := [(3, .int (mxI x3 v1007)), (2, .int (mnI x2 v1004)), (0, .ref (E.1 + a0)), (1, .int x1), (4, .int x4)]) dX4_spreadOf_50 rfl (by decide) rfl ?_
      exact sn_sub (lv' := [(0, .ref (E.1 + a0)), (1, .int x1), (2, .int (mnI x2 v1004)), (3, .int (mxI x3 v1007)), (4, .int x4)]) [2, 3, 1, 0, 4] rfl (sfX4_spreadOf_51 k9 hk9 a0 x1 (mnI x2 v1004) (mxI x3 v1007) x4)
def fX4_spreadOf (a0 : Nat) (x1 : Int32) : St → Option (Int32 × St) :=
 itr (fun k (p : Nat × Int32 × Int32 × Int32 × Int32) => fX4_spreadOf_9  k p.1 p.2.1 p.2.2.1 p.2.2.2.1 p.2.2.2.2) FU (a0, x1, 200, 0, 0)
set_option maxHeartbeats 4000000 in
set_option maxRecDepth 100000 in
theorem mX4_spreadOf {E : Ev} {l : Launch} (a0 : Nat) (x1 : Int32) : MF E l dpX4_spreadOf yX4_spreadOf cX4_spreadOf 5 (some .int) rvI [.ref (E.1 + a0), .int x1] (fX4_spreadOf a0 x1) := by
  refine MF.of (lv := [(0, .ref (E.1 + a0)), (1, .int x1)]) (by decide) (Nat.le_of_ble_eq_true rfl) rfl ?_
  unfold fX4_spreadOf
  refine sn_sipush (pc := 0) (v := 200) dX4_spreadOf_0 (by decide) ?_
  refine sn_istore_n (pc := 3) (i := 2) (lv' := [(2, .int 200), (0, .ref (E.1 + a0)), (1, .int x1)]) dX4_spreadOf_3 rfl (by decide) rfl ?_
  refine sn_iconst (pc := 4) (v := 0) dX4_spreadOf_4 (by decide) ?_
  refine sn_istore_n (pc := 5) (i := 3) (lv' := [(3, .int 0), (2, .int 200), (0, .ref (E.1 + a0)), (1, .int x1)]) dX4_spreadOf_5 rfl (by decide) rfl ?_
  refine sn_iconst (pc := 6) (v := 0) dX4_spreadOf_6 (by decide) ?_
  refine sn_istore (pc := 7) (i := 4) (lv' := [(4, .int 0), (3, .int 0), (2, .int 200), (0, .ref (E.1 + a0)), (1, .int x1)]) dX4_spreadOf_7 (by decide) rfl ?_
  exact sn_sub (lv' := [(0, .ref (E.1 + a0)), (1, .int x1), (2, .int 200), (3, .int 0), (4, .int 0)]) [3, 4, 2, 1, 0] rfl (sn_itr (lvf := fun p => [(0, .ref (E.1 + p.1)), (1, .int p.2.1), (2, .int p.2.2.1), (3, .int p.2.2.2.1), (4, .int p.2.2.2.2)]) (stf := fun p => []) (fun k hk p => sfX4_spreadOf_9  k hk p.1 p.2.1 p.2.2.1 p.2.2.2.1 p.2.2.2.2) FU (a0, x1, 200, 0, 0))
theorem iX4_spreadOf : MI yX4_spreadOf cX4_spreadOf 5 (some .int) 1 := ⟨wt1_8, wt5_84, by decide +kernel, by decide⟩
-- NeedleHomes$Parting chooseSet(I)V
theorem dX4_chooseSet_0 : decode cX4_chooseSet 0 = .ok (.aload_n 0, 1) := by decide +kernel
theorem dX4_chooseSet_1 : decode cX4_chooseSet 1 = .ok (.iconst 0, 1) := by decide +kernel
theorem dX4_chooseSet_2 : decode cX4_chooseSet 2 = .ok (.putfield 78, 3) := by decide +kernel
theorem dX4_chooseSet_5 : decode cX4_chooseSet 5 = .ok (.aload_n 0, 1) := by decide +kernel
theorem dX4_chooseSet_6 : decode cX4_chooseSet 6 = .ok (.iconst 0, 1) := by decide +kernel
theorem dX4_chooseSet_7 : decode cX4_chooseSet 7 = .ok (.putfield 81, 3) := by decide +kernel
theorem dX4_chooseSet_10 : decode cX4_chooseSet 10 = .ok (.iconst 1, 1) := by decide +kernel
theorem dX4_chooseSet_11 : decode cX4_chooseSet 11 = .ok (.istore_n 2, 1) := by decide +kernel
theorem dX4_chooseSet_12 : decode cX4_chooseSet 12 = .ok (.iload_n 2, 1) := by decide +kernel
theorem dX4_chooseSet_13 : decode cX4_chooseSet 13 = .ok (.iconst 1, 1) := by decide +kernel
theorem dX4_chooseSet_14 : decode cX4_chooseSet 14 = .ok (.aload_n 0, 1) := by decide +kernel
theorem dX4_chooseSet_15 : decode cX4_chooseSet 15 = .ok (.getfield 33, 3) := by decide +kernel
theorem dX4_chooseSet_18 : decode cX4_chooseSet 18 = .ok (.ishl, 1) := by decide +kernel
theorem dX4_chooseSet_19 : decode cX4_chooseSet 19 = .ok (.if_icmp .ge 60, 3) := by decide +kernel
theorem dX4_chooseSet_22 : decode cX4_chooseSet 22 = .ok (.iload_n 2, 1) := by decide +kernel
theorem dX4_chooseSet_23 : decode cX4_chooseSet 23 = .ok (.invokestatic 84, 3) := by decide +kernel
theorem dX4_chooseSet_26 : decode cX4_chooseSet 26 = .ok (.aload_n 0, 1) := by decide +kernel
theorem dX4_chooseSet_27 : decode cX4_chooseSet 27 = .ok (.getfield 60, 3) := by decide +kernel
theorem dX4_chooseSet_30 : decode cX4_chooseSet 30 = .ok (.if_icmp .ne 43, 3) := by decide +kernel
theorem dX4_chooseSet_33 : decode cX4_chooseSet 33 = .ok (.aload_n 0, 1) := by decide +kernel
theorem dX4_chooseSet_34 : decode cX4_chooseSet 34 = .ok (.iload_n 2, 1) := by decide +kernel
theorem dX4_chooseSet_35 : decode cX4_chooseSet 35 = .ok (.iload_n 1, 1) := by decide +kernel
theorem dX4_chooseSet_36 : decode cX4_chooseSet 36 = .ok (.invokevirtual 89, 3) := by decide +kernel
theorem dX4_chooseSet_39 : decode cX4_chooseSet 39 = .ok (.ifCond .eq 34, 3) := by decide +kernel
theorem dX4_chooseSet_42 : decode cX4_chooseSet 42 = .ok (.aload_n 0, 1) := by decide +kernel
theorem dX4_chooseSet_43 : decode cX4_chooseSet 43 = .ok (.iload_n 2, 1) := by decide +kernel
theorem dX4_chooseSet_44 : decode cX4_chooseSet 44 = .ok (.invokevirtual 92, 3) := by decide +kernel
theorem dX4_chooseSet_47 : decode cX4_chooseSet 47 = .ok (.istore_n 3, 1) := by decide +kernel
theorem dX4_chooseSet_48 : decode cX4_chooseSet 48 = .ok (.aload_n 0, 1) := by decide +kernel
theorem dX4_chooseSet_49 : decode cX4_chooseSet 49 = .ok (.getfield 78, 3) := by decide +kernel
theorem dX4_chooseSet_52 : decode cX4_chooseSet 52 = .ok (.ifCond .eq 11, 3) := by decide +kernel
theorem dX4_chooseSet_55 : decode cX4_chooseSet 55 = .ok (.iload_n 3, 1) := by decide +kernel
theorem dX4_chooseSet_56 : decode cX4_chooseSet 56 = .ok (.aload_n 0, 1) := by decide +kernel
theorem dX4_chooseSet_57 : decode cX4_chooseSet 57 = .ok (.getfield 81, 3) := by decide +kernel
theorem dX4_chooseSet_60 : decode cX4_chooseSet 60 = .ok (.if_icmp .ge 13, 3) := by decide +kernel
theorem dX4_chooseSet_63 : decode cX4_chooseSet 63 = .ok (.aload_n 0, 1) := by decide +kernel
theorem dX4_chooseSet_64 : decode cX4_chooseSet 64 = .ok (.iload_n 2, 1) := by decide +kernel
theorem dX4_chooseSet_65 : decode cX4_chooseSet 65 = .ok (.putfield 78, 3) := by decide +kernel
theorem dX4_chooseSet_68 : decode cX4_chooseSet 68 = .ok (.aload_n 0, 1) := by decide +kernel
theorem dX4_chooseSet_69 : decode cX4_chooseSet 69 = .ok (.iload_n 3, 1) := by decide +kernel
theorem dX4_chooseSet_70 : decode cX4_chooseSet 70 = .ok (.putfield 81, 3) := by decide +kernel
theorem dX4_chooseSet_73 : decode cX4_chooseSet 73 = .ok (.iinc 2 1, 3) := by decide +kernel
theorem dX4_chooseSet_76 : decode cX4_chooseSet 76 = .ok (.goto (-64), 3) := by decide +kernel
theorem dX4_chooseSet_79 : decode cX4_chooseSet 79 = .ok (.return_, 1) := by decide +kernel
abbrev dpX4_chooseSet : Nat := 2
def fX4_chooseSet_73 (k12 : (Nat × Int32 × Int32) → St → Option (Unit × St)) (a0 : Nat) (x1 : Int32) (x2 : Int32) : St → Option (Unit × St) :=
 k12 (a0, x1, (x2 + 1))
set_option maxHeartbeats 4000000 in
set_option maxRecDepth 100000 in
theorem sfX4_chooseSet_73 {E : Ev} {l : Launch} (k12 : (Nat × Int32 × Int32) → St → Option (Unit × St)) (hk12 : ∀ p : Nat × Int32 × Int32, Snd E l (dpX4_chooseSet, RX4, cX4_chooseSet, 4, none, "chooseSet") rvV 12 [(0, .ref (E.1 + p.1)), (1, .int p.2.1), (2, .int p.2.2)] [] (k12 p)) (a0 : Nat) (x1 : Int32) (x2 : Int32) : Snd E l (dpX4_chooseSet, RX4, cX4_chooseSet, 4, none, "chooseSet") rvV 73 [(0, .ref (E.1 + a0)), (1, .int x1), (2, .int x2)] [] (fX4_chooseSet_73 k12 a0 x1 x2) := by
  unfold fX4_chooseSet_73
  refine sn_iinc (pc := 73) (v := x2 + 1) (lv' := [(2, .int (x2 + 1)), (0, .ref (E.1 + a0)), (1, .int x1)]) (j := 2) dX4_chooseSet_73 rfl rfl (by decide) rfl ?_
  refine sn_goto (pc := 76) (tgt := 12) dX4_chooseSet_76 (by decide) ?_
  exact sn_sub (lv' := [(0, .ref (E.1 + a0)), (1, .int x1), (2, .int (x2 + 1))]) [1, 2, 0] rfl (hk12 (a0, x1, (x2 + 1)))
def fX4_chooseSet_63 (k12 : (Nat × Int32 × Int32) → St → Option (Unit × St)) (a0 : Nat) (x1 : Int32) (x2 : Int32) (x3 : Int32) : St → Option (Unit × St) :=
 pI 5 a0 2 x2 <|
 pI 5 a0 1 x3 <|
 fX4_chooseSet_73 k12 a0 x1 x2
set_option maxHeartbeats 4000000 in
set_option maxRecDepth 100000 in
theorem sfX4_chooseSet_63 {E : Ev} {l : Launch} (k12 : (Nat × Int32 × Int32) → St → Option (Unit × St)) (hk12 : ∀ p : Nat × Int32 × Int32, Snd E l (dpX4_chooseSet, RX4, cX4_chooseSet, 4, none, "chooseSet") rvV 12 [(0, .ref (E.1 + p.1)), (1, .int p.2.1), (2, .int p.2.2)] [] (k12 p)) (a0 : Nat) (x1 : Int32) (x2 : Int32) (x3 : Int32) : Snd E l (dpX4_chooseSet, RX4, cX4_chooseSet, 4, none, "chooseSet") rvV 63 [(0, .ref (E.1 + a0)), (1, .int x1), (2, .int x2), (3, .int x3)] [] (fX4_chooseSet_63 k12 a0 x1 x2 x3) := by
  unfold fX4_chooseSet_63
  refine sn_aload_n (pc := 63) (j := 0) dX4_chooseSet_63 rfl rfl ?_
  refine sn_iload_n (pc := 64) (j := 2) dX4_chooseSet_64 rfl rfl ?_
  refine sn_pI (pc := 65) dX4_chooseSet_65 flX4_78 rfl rfl (Or.inl rfl) ?_
  refine sn_aload_n (pc := 68) (j := 0) dX4_chooseSet_68 rfl rfl ?_
  refine sn_iload_n (pc := 69) (j := 3) dX4_chooseSet_69 rfl rfl ?_
  refine sn_pI (pc := 70) dX4_chooseSet_70 flX4_81 rfl rfl (Or.inl rfl) ?_
  exact sn_sub (lv' := [(0, .ref (E.1 + a0)), (1, .int x1), (2, .int x2)]) [0, 1, 2] rfl (sfX4_chooseSet_73 k12 hk12 a0 x1 x2)
def fX4_chooseSet_12 (k12 : (Nat × Int32 × Int32) → St → Option (Unit × St)) (a0 : Nat) (x1 : Int32) (x2 : Int32) : St → Option (Unit × St) :=
 gI 5 a0 3 fun v1001 =>
 br ((1 <<< (v1001 &&& 31)) ≤ x2) (rt ())
 (cl (fJ6_bitCount_0f7a4 x2) fun v1002 =>
 gI 5 a0 0 fun v1003 =>
 br (v1002 = v1003) (ck 5 a0 <| cl (fX4_allows a0 x2 x1) fun v1004 =>
 br ((bi v1004) = 0) (fX4_chooseSet_73 k12 a0 x1 x2)
 (ck 5 a0 <| cl (fX4_spreadOf a0 x2) fun v1005 =>
 gI 5 a0 2 fun v1006 =>
 br (v1006 = 0) (fX4_chooseSet_63 k12 a0 x1 x2 v1005)
 (gI 5 a0 1 fun v1007 =>
 br (v1007 ≤ v1005) (fX4_chooseSet_73 k12 a0 x1 x2)
 (fX4_chooseSet_63 k12 a0 x1 x2 v1005))))
 (fX4_chooseSet_73 k12 a0 x1 x2))
set_option maxHeartbeats 4000000 in
set_option maxRecDepth 100000 in
theorem sfX4_chooseSet_12 {E : Ev} {l : Launch} (k12 : (Nat × Int32 × Int32) → St → Option (Unit × St)) (hk12 : ∀ p : Nat × Int32 × Int32, Snd E l (dpX4_chooseSet, RX4, cX4_chooseSet, 4, none, "chooseSet") rvV 12 [(0, .ref (E.1 + p.1)), (1, .int p.2.1), (2, .int p.2.2)] [] (k12 p)) (a0 : Nat) (x1 : Int32) (x2 : Int32) : Snd E l (dpX4_chooseSet, RX4, cX4_chooseSet, 4, none, "chooseSet") rvV 12 [(0, .ref (E.1 + a0)), (1, .int x1), (2, .int x2)] [] (fX4_chooseSet_12 k12 a0 x1 x2) := by
  unfold fX4_chooseSet_12
  refine sn_iload_n (pc := 12) (j := 2) dX4_chooseSet_12 rfl rfl ?_
  refine sn_iconst (pc := 13) (v := 1) dX4_chooseSet_13 (by decide) ?_
  refine sn_aload_n (pc := 14) (j := 0) dX4_chooseSet_14 rfl rfl ?_
  refine sn_gI (pc := 15) dX4_chooseSet_15 flX4_33 rfl (fun v1001 => ?_)
  refine sn_ishl (pc := 18) dX4_chooseSet_18 ?_
  refine sn_icmp_ge (pc := 19) (tgt := 79) dX4_chooseSet_19 (by decide) ?_ ?_
  · exact sn_vret (pc := 79) dX4_chooseSet_79 rfl
  · refine sn_iload_n (pc := 22) (j := 2) dX4_chooseSet_22 rfl rfl ?_
    refine sn_callS (pc := 23) dX4_chooseSet_23 iJ6_bitCount_0f7a4 wt5_72 wt5_71 (mJ6_bitCount_0f7a4 x2) (by decide) rfl rfl (Nat.le_of_ble_eq_true rfl) (fun v1002 => ?_)
    refine sn_aload_n (pc := 26) (j := 0) dX4_chooseSet_26 rfl rfl ?_
    refine sn_gI (pc := 27) dX4_chooseSet_27 flX4_60 rfl (fun v1003 => ?_)
    refine sn_icmp_ne (pc := 30) (tgt := 73) dX4_chooseSet_30 (by decide) ?_ ?_
    · exact sn_sub (lv' := [(0, .ref (E.1 + a0)), (1, .int x1), (2, .int x2)]) [0, 1, 2] rfl (sfX4_chooseSet_73 k12 hk12 a0 x1 x2)
    · refine sn_aload_n (pc := 33) (j := 0) dX4_chooseSet_33 rfl rfl ?_
      refine sn_iload_n (pc := 34) (j := 2) dX4_chooseSet_34 rfl rfl ?_
      refine sn_iload_n (pc := 35) (j := 1) dX4_chooseSet_35 rfl rfl ?_
      refine sn_callV (ci := 4) (pc := 36) dX4_chooseSet_36 iX4_allows wt5_79 ws_30 wt5_77 ⟨_, rfl, rfl⟩ (by decide) (mX4_allows a0 x2 x1) (by decide) rfl rfl (Nat.le_of_ble_eq_true rfl) (fun v1004 => ?_)
      refine sn_if_eq (pc := 39) (tgt := 73) dX4_chooseSet_39 (by decide) ?_ ?_
      · exact sn_sub (lv' := [(0, .ref (E.1 + a0)), (1, .int x1), (2, .int x2)]) [0, 1, 2] rfl (sfX4_chooseSet_73 k12 hk12 a0 x1 x2)
      · refine sn_aload_n (pc := 42) (j := 0) dX4_chooseSet_42 rfl rfl ?_
        refine sn_iload_n (pc := 43) (j := 2) dX4_chooseSet_43 rfl rfl ?_
        refine sn_callV (ci := 4) (pc := 44) dX4_chooseSet_44 iX4_spreadOf wt5_83 ws_31 wt5_81 ⟨_, rfl, rfl⟩ (by decide) (mX4_spreadOf a0 x2) (by decide) rfl rfl (Nat.le_of_ble_eq_true rfl) (fun v1005 => ?_)
        refine sn_istore_n (pc := 47) (i := 3) (lv' := [(3, .int v1005), (0, .ref (E.1 + a0)), (1, .int x1), (2, .int x2)]) dX4_chooseSet_47 rfl (by decide) rfl ?_
        refine sn_aload_n (pc := 48) (j := 1) dX4_chooseSet_48 rfl rfl ?_
        refine sn_gI (pc := 49) dX4_chooseSet_49 flX4_78 rfl (fun v1006 => ?_)
        refine sn_if_eq (pc := 52) (tgt := 63) dX4_chooseSet_52 (by decide) ?_ ?_
        · exact sn_sub (lv' := [(0, .ref (E.1 + a0)), (1, .int x1), (2, .int x2), (3, .int v1005)]) [1, 2, 3, 0] rfl (sfX4_chooseSet_63 k12 hk12 a0 x1 x2 v1005)
        · refine sn_iload_n (pc := 55) (j := 0) dX4_chooseSet_55 rfl rfl ?_
          refine sn_aload_n (pc := 56) (j := 1) dX4_chooseSet_56 rfl rfl ?_
          refine sn_gI (pc := 57) dX4_chooseSet_57 flX4_81 rfl (fun v1007 => ?_)
          refine sn_icmp_ge (pc := 60) (tgt := 73) dX4_chooseSet_60 (by decide) ?_ ?_
          · exact sn_sub (lv' := [(0, .ref (E.1 + a0)), (1, .int x1), (2, .int x2)]) [1, 2, 3] rfl (sfX4_chooseSet_73 k12 hk12 a0 x1 x2)
          · exact sn_sub (lv' := [(0, .ref (E.1 + a0)), (1, .int x1), (2, .int x2), (3, .int v1005)]) [1, 2, 3, 0] rfl (sfX4_chooseSet_63 k12 hk12 a0 x1 x2 v1005)
def fX4_chooseSet (a0 : Nat) (x1 : Int32) : St → Option (Unit × St) :=
 pI 5 a0 2 0 <|
 pI 5 a0 1 0 <|
 itr (fun k (p : Nat × Int32 × Int32) => fX4_chooseSet_12  k p.1 p.2.1 p.2.2) FU (a0, x1, 1)
set_option maxHeartbeats 4000000 in
set_option maxRecDepth 100000 in
theorem mX4_chooseSet {E : Ev} {l : Launch} (a0 : Nat) (x1 : Int32) : MF E l dpX4_chooseSet yX4_chooseSet cX4_chooseSet 4 none rvV [.ref (E.1 + a0), .int x1] (fX4_chooseSet a0 x1) := by
  refine MF.of (lv := [(0, .ref (E.1 + a0)), (1, .int x1)]) (by decide) (Nat.le_of_ble_eq_true rfl) rfl ?_
  unfold fX4_chooseSet
  refine sn_aload_n (pc := 0) (j := 0) dX4_chooseSet_0 rfl rfl ?_
  refine sn_iconst (pc := 1) (v := 0) dX4_chooseSet_1 (by decide) ?_
  refine sn_pI (pc := 2) dX4_chooseSet_2 flX4_78 rfl rfl (Or.inl rfl) ?_
  refine sn_aload_n (pc := 5) (j := 0) dX4_chooseSet_5 rfl rfl ?_
  refine sn_iconst (pc := 6) (v := 0) dX4_chooseSet_6 (by decide) ?_
  refine sn_pI (pc := 7) dX4_chooseSet_7 flX4_81 rfl rfl (Or.inl rfl) ?_
  refine sn_iconst (pc := 10) (v := 1) dX4_chooseSet_10 (by decide) ?_
  refine sn_istore_n (pc := 11) (i := 2) (lv' := [(2, .int 1), (0, .ref (E.1 + a0)), (1, .int x1)]) dX4_chooseSet_11 rfl (by decide) rfl ?_
  exact sn_sub (lv' := [(0, .ref (E.1 + a0)), (1, .int x1), (2, .int 1)]) [1, 2, 0] rfl (sn_itr (lvf := fun p => [(0, .ref (E.1 + p.1)), (1, .int p.2.1), (2, .int p.2.2)]) (stf := fun p => []) (fun k hk p => sfX4_chooseSet_12  k hk p.1 p.2.1 p.2.2) FU (a0, x1, 1))
theorem iX4_chooseSet : MI yX4_chooseSet cX4_chooseSet 4 none 1 := ⟨wt1_8, wt5_70, by decide +kernel, by decide⟩
-- NeedleHomes$Parting fewestFor(I)I
theorem dX4_fewestFor_0 : decode cX4_fewestFor 0 = .ok (.iconst 0, 1) := by decide +kernel
theorem dX4_fewestFor_1 : decode cX4_fewestFor 1 = .ok (.istore_n 2, 1) := by decide +kernel
theorem dX4_fewestFor_2 : decode cX4_fewestFor 2 = .ok (.iconst 0, 1) := by decide +kernel
theorem dX4_fewestFor_3 : decode cX4_fewestFor 3 = .ok (.istore_n 3, 1) := by decide +kernel
theorem dX4_fewestFor_4 : decode cX4_fewestFor 4 = .ok (.iconst 1, 1) := by decide +kernel
theorem dX4_fewestFor_5 : decode cX4_fewestFor 5 = .ok (.istore 4, 2) := by decide +kernel
theorem dX4_fewestFor_7 : decode cX4_fewestFor 7 = .ok (.iload 4, 2) := by decide +kernel
theorem dX4_fewestFor_9 : decode cX4_fewestFor 9 = .ok (.aload_n 0, 1) := by decide +kernel
theorem dX4_fewestFor_10 : decode cX4_fewestFor 10 = .ok (.getfield 33, 3) := by decide +kernel
theorem dX4_fewestFor_13 : decode cX4_fewestFor 13 = .ok (.if_icmp .gt 99, 3) := by decide +kernel
theorem dX4_fewestFor_16 : decode cX4_fewestFor 16 = .ok (.iconst (-1), 1) := by decide +kernel
theorem dX4_fewestFor_17 : decode cX4_fewestFor 17 = .ok (.istore 5, 2) := by decide +kernel
theorem dX4_fewestFor_19 : decode cX4_fewestFor 19 = .ok (.iconst 0, 1) := by decide +kernel
theorem dX4_fewestFor_20 : decode cX4_fewestFor 20 = .ok (.istore 6, 2) := by decide +kernel
theorem dX4_fewestFor_22 : decode cX4_fewestFor 22 = .ok (.iload 6, 2) := by decide +kernel
theorem dX4_fewestFor_24 : decode cX4_fewestFor 24 = .ok (.aload_n 0, 1) := by decide +kernel
theorem dX4_fewestFor_25 : decode cX4_fewestFor 25 = .ok (.getfield 33, 3) := by decide +kernel
theorem dX4_fewestFor_28 : decode cX4_fewestFor 28 = .ok (.if_icmp .ge 45, 3) := by decide +kernel
theorem dX4_fewestFor_31 : decode cX4_fewestFor 31 = .ok (.iload_n 2, 1) := by decide +kernel
theorem dX4_fewestFor_32 : decode cX4_fewestFor 32 = .ok (.iload 6, 2) := by decide +kernel
theorem dX4_fewestFor_34 : decode cX4_fewestFor 34 = .ok (.invokestatic 74, 3) := by decide +kernel
theorem dX4_fewestFor_37 : decode cX4_fewestFor 37 = .ok (.ifCond .ne 30, 3) := by decide +kernel
theorem dX4_fewestFor_40 : decode cX4_fewestFor 40 = .ok (.iload 5, 2) := by decide +kernel
theorem dX4_fewestFor_42 : decode cX4_fewestFor 42 = .ok (.iconst (-1), 1) := by decide +kernel
theorem dX4_fewestFor_43 : decode cX4_fewestFor 43 = .ok (.if_icmp .eq 20, 3) := by decide +kernel
theorem dX4_fewestFor_46 : decode cX4_fewestFor 46 = .ok (.aload_n 0, 1) := by decide +kernel
theorem dX4_fewestFor_47 : decode cX4_fewestFor 47 = .ok (.getfield 9, 3) := by decide +kernel
theorem dX4_fewestFor_50 : decode cX4_fewestFor 50 = .ok (.iload 6, 2) := by decide +kernel
theorem dX4_fewestFor_52 : decode cX4_fewestFor 52 = .ok (.iaload, 1) := by decide +kernel
theorem dX4_fewestFor_53 : decode cX4_fewestFor 53 = .ok (.aload_n 0, 1) := by decide +kernel
theorem dX4_fewestFor_54 : decode cX4_fewestFor 54 = .ok (.getfield 9, 3) := by decide +kernel
theorem dX4_fewestFor_57 : decode cX4_fewestFor 57 = .ok (.iload 5, 2) := by decide +kernel
theorem dX4_fewestFor_59 : decode cX4_fewestFor 59 = .ok (.iaload, 1) := by decide +kernel
theorem dX4_fewestFor_60 : decode cX4_fewestFor 60 = .ok (.if_icmp .le 7, 3) := by decide +kernel
theorem dX4_fewestFor_63 : decode cX4_fewestFor 63 = .ok (.iload 6, 2) := by decide +kernel
theorem dX4_fewestFor_65 : decode cX4_fewestFor 65 = .ok (.istore 5, 2) := by decide +kernel
theorem dX4_fewestFor_67 : decode cX4_fewestFor 67 = .ok (.iinc 6 1, 3) := by decide +kernel
theorem dX4_fewestFor_70 : decode cX4_fewestFor 70 = .ok (.goto (-48), 3) := by decide +kernel
theorem dX4_fewestFor_73 : decode cX4_fewestFor 73 = .ok (.iload 5, 2) := by decide +kernel
theorem dX4_fewestFor_75 : decode cX4_fewestFor 75 = .ok (.iconst (-1), 1) := by decide +kernel
theorem dX4_fewestFor_76 : decode cX4_fewestFor 76 = .ok (.if_icmp .ne 5, 3) := by decide +kernel
theorem dX4_fewestFor_79 : decode cX4_fewestFor 79 = .ok (.iconst (-1), 1) := by decide +kernel
theorem dX4_fewestFor_80 : decode cX4_fewestFor 80 = .ok (.ireturn, 1) := by decide +kernel
theorem dX4_fewestFor_81 : decode cX4_fewestFor 81 = .ok (.iload_n 2, 1) := by decide +kernel
theorem dX4_fewestFor_82 : decode cX4_fewestFor 82 = .ok (.iconst 1, 1) := by decide +kernel
theorem dX4_fewestFor_83 : decode cX4_fewestFor 83 = .ok (.iload 5, 2) := by decide +kernel
theorem dX4_fewestFor_85 : decode cX4_fewestFor 85 = .ok (.ishl, 1) := by decide +kernel
theorem dX4_fewestFor_86 : decode cX4_fewestFor 86 = .ok (.ior, 1) := by decide +kernel
theorem dX4_fewestFor_87 : decode cX4_fewestFor 87 = .ok (.istore_n 2, 1) := by decide +kernel
theorem dX4_fewestFor_88 : decode cX4_fewestFor 88 = .ok (.iload_n 3, 1) := by decide +kernel
theorem dX4_fewestFor_89 : decode cX4_fewestFor 89 = .ok (.aload_n 0, 1) := by decide +kernel
theorem dX4_fewestFor_90 : decode cX4_fewestFor 90 = .ok (.getfield 9, 3) := by decide +kernel
theorem dX4_fewestFor_93 : decode cX4_fewestFor 93 = .ok (.iload 5, 2) := by decide +kernel
theorem dX4_fewestFor_95 : decode cX4_fewestFor 95 = .ok (.iaload, 1) := by decide +kernel
theorem dX4_fewestFor_96 : decode cX4_fewestFor 96 = .ok (.iadd, 1) := by decide +kernel
theorem dX4_fewestFor_97 : decode cX4_fewestFor 97 = .ok (.istore_n 3, 1) := by decide +kernel
theorem dX4_fewestFor_98 : decode cX4_fewestFor 98 = .ok (.iload_n 3, 1) := by decide +kernel
theorem dX4_fewestFor_99 : decode cX4_fewestFor 99 = .ok (.iload_n 1, 1) := by decide +kernel
theorem dX4_fewestFor_100 : decode cX4_fewestFor 100 = .ok (.if_icmp .lt 6, 3) := by decide +kernel
theorem dX4_fewestFor_103 : decode cX4_fewestFor 103 = .ok (.iload 4, 2) := by decide +kernel
theorem dX4_fewestFor_105 : decode cX4_fewestFor 105 = .ok (.ireturn, 1) := by decide +kernel
theorem dX4_fewestFor_106 : decode cX4_fewestFor 106 = .ok (.iinc 4 1, 3) := by decide +kernel
theorem dX4_fewestFor_109 : decode cX4_fewestFor 109 = .ok (.goto (-102), 3) := by decide +kernel
theorem dX4_fewestFor_112 : decode cX4_fewestFor 112 = .ok (.iconst (-1), 1) := by decide +kernel
theorem dX4_fewestFor_113 : decode cX4_fewestFor 113 = .ok (.ireturn, 1) := by decide +kernel
abbrev dpX4_fewestFor : Nat := 1
def fX4_fewestFor_67 (k7 : (Nat × Int32 × Int32 × Int32 × Int32) → St → Option (Int32 × St)) (k22 : (Nat × Int32 × Int32 × Int32 × Int32 × Int32 × Int32) → St → Option (Int32 × St)) (a0 : Nat) (x1 : Int32) (x2 : Int32) (x3 : Int32) (x4 : Int32) (x5 : Int32) (x6 : Int32) : St → Option (Int32 × St) :=
 k22 (a0, x1, x2, x3, x4, x5, (x6 + 1))
set_option maxHeartbeats 4000000 in
set_option maxRecDepth 100000 in
theorem sfX4_fewestFor_67 {E : Ev} {l : Launch} (k7 : (Nat × Int32 × Int32 × Int32 × Int32) → St → Option (Int32 × St)) (hk7 : ∀ p : Nat × Int32 × Int32 × Int32 × Int32, Snd E l (dpX4_fewestFor, RX4, cX4_fewestFor, 7, (some .int), "fewestFor") rvI 7 [(0, .ref (E.1 + p.1)), (1, .int p.2.1), (2, .int p.2.2.1), (3, .int p.2.2.2.1), (4, .int p.2.2.2.2)] [] (k7 p)) (k22 : (Nat × Int32 × Int32 × Int32 × Int32 × Int32 × Int32) → St → Option (Int32 × St)) (hk22 : ∀ p : Nat × Int32 × Int32 × Int32 × Int32 × Int32 × Int32, Snd E l (dpX4_fewestFor, RX4, cX4_fewestFor, 7, (some .int), "fewestFor") rvI 22 [(0, .ref (E.1 + p.1)), (1, .int p.2.1), (2, .int p.2.2.1), (3, .int p.2.2.2.1), (4, .int p.2.2.2.2.1), (5, .int p.2.2.2.2.2.1), (6, .int p.2.2.2.2.2.2)] [] (k22 p)) (a0 : Nat) (x1 : Int32) (x2 : Int32) (x3 : Int32) (x4 : Int32) (x5 : Int32) (x6 : Int32) : Snd E l (dpX4_fewestFor, RX4, cX4_fewestFor, 7, (some .int), "fewestFor") rvI 67 [(0, .ref (E.1 + a0)), (1, .int x1), (2, .int x2), (3, .int x3), (4, .int x4), (5, .int x5), (6, .int x6)] [] (fX4_fewestFor_67 k7 k22 a0 x1 x2 x3 x4 x5 x6) := by
  unfold fX4_fewestFor_67
  refine sn_iinc (pc := 67) (v := x6 + 1) (lv' := [(6, .int (x6 + 1)), (0, .ref (E.1 + a0)), (1, .int x1), (2, .int x2), (3, .int x3), (4, .int x4), (5, .int x5)]) (j := 6) dX4_fewestFor_67 rfl rfl (by decide) rfl ?_
  refine sn_goto (pc := 70) (tgt := 22) dX4_fewestFor_70 (by decide) ?_
  exact sn_sub (lv' := [(0, .ref (E.1 + a0)), (1, .int x1), (2, .int x2), (3, .int x3), (4, .int x4), (5, .int x5), (6, .int (x6 + 1))]) [1, 2, 3, 4, 5, 6, 0] rfl (hk22 (a0, x1, x2, x3, x4, x5, (x6 + 1)))
def fX4_fewestFor_63 (k7 : (Nat × Int32 × Int32 × Int32 × Int32) → St → Option (Int32 × St)) (k22 : (Nat × Int32 × Int32 × Int32 × Int32 × Int32 × Int32) → St → Option (Int32 × St)) (a0 : Nat) (x1 : Int32) (x2 : Int32) (x3 : Int32) (x4 : Int32) (x6 : Int32) : St → Option (Int32 × St) :=
 fX4_fewestFor_67 k7 k22 a0 x1 x2 x3 x4 x6 x6
set_option maxHeartbeats 4000000 in
set_option maxRecDepth 100000 in
theorem sfX4_fewestFor_63 {E : Ev} {l : Launch} (k7 : (Nat × Int32 × Int32 × Int32 × Int32) → St → Option (Int32 × St)) (hk7 : ∀ p : Nat × Int32 × Int32 × Int32 × Int32, Snd E l (dpX4_fewestFor, RX4, cX4_fewestFor, 7, (some .int), "fewestFor") rvI 7 [(0, .ref (E.1 + p.1)), (1, .int p.2.1), (2, .int p.2.2.1), (3, .int p.2.2.2.1), (4, .int p.2.2.2.2)] [] (k7 p)) (k22 : (Nat × Int32 × Int32 × Int32 × Int32 × Int32 × Int32) → St → Option (Int32 × St)) (hk22 : ∀ p : Nat × Int32 × Int32 × Int32 × Int32 × Int32 × Int32, Snd E l (dpX4_fewestFor, RX4, cX4_fewestFor, 7, (some .int), "fewestFor") rvI 22 [(0, .ref (E.1 + p.1)), (1, .int p.2.1), (2, .int p.2.2.1), (3, .int p.2.2.2.1), (4, .int p.2.2.2.2.1), (5, .int p.2.2.2.2.2.1), (6, .int p.2.2.2.2.2.2)] [] (k22 p)) (a0 : Nat) (x1 : Int32) (x2 : Int32) (x3 : Int32) (x4 : Int32) (x6 : Int32) : Snd E l (dpX4_fewestFor, RX4, cX4_fewestFor, 7, (some .int), "fewestFor") rvI 63 [(0, .ref (E.1 + a0)), (1, .int x1), (2, .int x2), (3, .int x3), (4, .int x4), (6, .int x6)] [] (fX4_fewestFor_63 k7 k22 a0 x1 x2 x3 x4 x6) := by
  unfold fX4_fewestFor_63
  refine sn_iload (pc := 63) (j := 5) dX4_fewestFor_63 rfl ?_
  refine sn_istore (pc := 65) (i := 5) (lv' := [(5, .int x6), (0, .ref (E.1 + a0)), (1, .int x1), (2, .int x2), (3, .int x3), (4, .int x4), (6, .int x6)]) dX4_fewestFor_65 (by decide) rfl ?_
  exact sn_sub (lv' := [(0, .ref (E.1 + a0)), (1, .int x1), (2, .int x2), (3, .int x3), (4, .int x4), (5, .int x6), (6, .int x6)]) [1, 2, 3, 4, 5, 0, 6] rfl (sfX4_fewestFor_67 k7 hk7 k22 hk22 a0 x1 x2 x3 x4 x6 x6)
def fX4_fewestFor_22 (k7 : (Nat × Int32 × Int32 × Int32 × Int32) → St → Option (Int32 × St)) (k22 : (Nat × Int32 × Int32 × Int32 × Int32 × Int32 × Int32) → St → Option (Int32 × St)) (a0 : Nat) (x1 : Int32) (x2 : Int32) (x3 : Int32) (x4 : Int32) (x5 : Int32) (x6 : Int32) : St → Option (Int32 × St) :=
 gI 5 a0 3 fun v2001 =>
 br (v2001 ≤ x6) (br (x5 = (-1)) (rt (-1))
 (gR 5 a0 4 fun v2002 =>
 nn v2002 fun a2004 =>
 aI 15 a2004 x5 fun v2003 =>
 br ((x3 + v2003) < x1) (k7 (a0, x1, (x2 ||| (1 <<< (x5 &&& 31))), (x3 + v2003), (x4 + 1)))
 (rt x4)))
 (cl (fX4_isInSet x2 x6) fun v2005 =>
 br ((bi v2005) = 0) (br (x5 = (-1)) (fX4_fewestFor_63 k7 k22 a0 x1 x2 x3 x4 x6)
 (gR 5 a0 4 fun v2006 =>
 nn v2006 fun a2008 =>
 aI 15 a2008 x6 fun v2007 =>
 gR 5 a0 4 fun v2009 =>
 nn v2009 fun a2011 =>
 aI 15 a2011 x5 fun v2010 =>
 br (v2007 ≤ v2010) (fX4_fewestFor_67 k7 k22 a0 x1 x2 x3 x4 x5 x6)
 (fX4_fewestFor_63 k7 k22 a0 x1 x2 x3 x4 x6)))
 (fX4_fewestFor_67 k7 k22 a0 x1 x2 x3 x4 x5 x6))
set_option maxHeartbeats 4000000 in
set_option maxRecDepth 100000 in
theorem sfX4_fewestFor_22 {E : Ev} {l : Launch} (k7 : (Nat × Int32 × Int32 × Int32 × Int32) → St → Option (Int32 × St)) (hk7 : ∀ p : Nat × Int32 × Int32 × Int32 × Int32, Snd E l (dpX4_fewestFor, RX4, cX4_fewestFor, 7, (some .int), "fewestFor") rvI 7 [(0, .ref (E.1 + p.1)), (1, .int p.2.1), (2, .int p.2.2.1), (3, .int p.2.2.2.1), (4, .int p.2.2.2.2)] [] (k7 p)) (k22 : (Nat × Int32 × Int32 × Int32 × Int32 × Int32 × Int32) → St → Option (Int32 × St)) (hk22 : ∀ p : Nat × Int32 × Int32 × Int32 × Int32 × Int32 × Int32, Snd E l (dpX4_fewestFor, RX4, cX4_fewestFor, 7, (some .int), "fewestFor") rvI 22 [(0, .ref (E.1 + p.1)), (1, .int p.2.1), (2, .int p.2.2.1), (3, .int p.2.2.2.1), (4, .int p.2.2.2.2.1), (5, .int p.2.2.2.2.2.1), (6, .int p.2.2.2.2.2.2)] [] (k22 p)) (a0 : Nat) (x1 : Int32) (x2 : Int32) (x3 : Int32) (x4 : Int32) (x5 : Int32) (x6 : Int32) : Snd E l (dpX4_fewestFor, RX4, cX4_fewestFor, 7, (some .int), "fewestFor") rvI 22 [(0, .ref (E.1 + a0)), (1, .int x1), (2, .int x2), (3, .int x3), (4, .int x4), (5, .int x5), (6, .int x6)] [] (fX4_fewestFor_22 k7 k22 a0 x1 x2 x3 x4 x5 x6) := by
  unfold fX4_fewestFor_22
  refine sn_iload (pc := 22) (j := 6) dX4_fewestFor_22 rfl ?_
  refine sn_aload_n (pc := 24) (j := 0) dX4_fewestFor_24 rfl rfl ?_
  refine sn_gI (pc := 25) dX4_fewestFor_25 flX4_33 rfl (fun v2001 => ?_)
  refine sn_icmp_ge (pc := 28) (tgt := 73) dX4_fewestFor_28 (by decide) ?_ ?_
  · refine sn_iload (pc := 73) (j := 5) dX4_fewestFor_73 rfl ?_
    refine sn_iconst (pc := 75) (v := (-1)) dX4_fewestFor_75 (by decide) ?_
    refine sn_icmp_ne (pc := 76) (tgt := 81) dX4_fewestFor_76 (by decide) ?_ ?_
    · refine sn_iload_n (pc := 81) (j := 2) dX4_fewestFor_81 rfl rfl ?_
      refine sn_iconst (pc := 82) (v := 1) dX4_fewestFor_82 (by decide) ?_
      refine sn_iload (pc := 83) (j := 5) dX4_fewestFor_83 rfl ?_
      refine sn_ishl (pc := 85) dX4_fewestFor_85 ?_
      refine sn_ior (pc := 86) dX4_fewestFor_86 ?_
      refine sn_istore_n (pc := 87) (i := 2) (lv' := [(2, .int (x2 ||| (1 <<< (x5 &&& 31)))), (0, .ref (E.1 + a0)), (1, .int x1), (3, .int x3), (4, .int x4), (5, .int x5), (6, .int x6)]) dX4_fewestFor_87 rfl (by decide) rfl ?_
      refine sn_iload_n (pc := 88) (j := 3) dX4_fewestFor_88 rfl rfl ?_
      refine sn_aload_n (pc := 89) (j := 1) dX4_fewestFor_89 rfl rfl ?_
      refine sn_gR (pc := 90) dX4_fewestFor_90 flX4_9 rfl (fun v2002 => ?_)
      refine sn_iload (pc := 93) (j := 5) dX4_fewestFor_93 rfl ?_
      rcases v2002 with _ | a2004
      · exact sn_no
      refine sn_nn ?_
      refine sn_iald (pc := 95) dX4_fewestFor_95 (fun v2003 => ?_)
      refine sn_iadd (pc := 96) dX4_fewestFor_96 ?_
      refine sn_istore_n (pc := 97) (i := 3) (lv' := [(3, .int (x3 + v2003)), (2, .int (x2 ||| (1 <<< (x5 &&& 31)))), (0, .ref (E.1 + a0)), (1, .int x1), (4, .int x4), (5, .int x5), (6, .int x6)]) dX4_fewestFor_97 rfl (by decide) rfl ?_
      refine sn_iload_n (pc := 98) (j := 0) dX4_fewestFor_98 rfl rfl ?_
      refine sn_iload_n (pc := 99) (j := 3) dX4_fewestFor_99 rfl rfl ?_
      refine sn_icmp_lt (pc := 100) (tgt := 106) dX4_fewestFor_100 (by decide) ?_ ?_
      · refine sn_iinc (pc := 106) (v := x4 + 1) (lv' := [(4, .int (x4 + 1)), (3, .int (x3 + v2003)), (2, .int (x2 ||| (1 <<< (x5 &&& 31)))), (0, .ref (E.1 + a0)), (1, .int x1), (5, .int x5), (6, .int x6)]) (j := 4) dX4_fewestFor_106 rfl rfl (by decide) rfl ?_
        refine sn_goto (pc := 109) (tgt := 7) dX4_fewestFor_109 (by decide) ?_
        exact sn_sub (lv' := [(0, .ref (E.1 + a0)), (1, .int x1), (2, .int (x2 ||| (1 <<< (x5 &&& 31)))), (3, .int (x3 + v2003)), (4, .int (x4 + 1))]) [3, 4, 2, 1, 0] rfl (hk7 (a0, x1, (x2 ||| (1 <<< (x5 &&& 31))), (x3 + v2003), (x4 + 1)))
      · refine sn_iload (pc := 103) (j := 4) dX4_fewestFor_103 rfl ?_
        exact sn_iret (pc := 105) dX4_fewestFor_105 rfl
    · refine sn_iconst (pc := 79) (v := (-1)) dX4_fewestFor_79 (by decide) ?_
      exact sn_iret (pc := 80) dX4_fewestFor_80 rfl
  · refine sn_iload_n (pc := 31) (j := 2) dX4_fewestFor_31 rfl rfl ?_
    refine sn_iload (pc := 32) (j := 6) dX4_fewestFor_32 rfl ?_
    refine sn_callS (pc := 34) dX4_fewestFor_34 iX4_isInSet wt5_65 wt5_64 (mX4_isInSet x2 x6) (by decide) rfl rfl (Nat.le_of_ble_eq_true rfl) (fun v2005 => ?_)
    refine sn_if_ne (pc := 37) (tgt := 67) dX4_fewestFor_37 (by decide) ?_ ?_
    · exact sn_sub (lv' := [(0, .ref (E.1 + a0)), (1, .int x1), (2, .int x2), (3, .int x3), (4, .int x4), (5, .int x5), (6, .int x6)]) [0, 1, 2, 3, 4, 5, 6] rfl (sfX4_fewestFor_67 k7 hk7 k22 hk22 a0 x1 x2 x3 x4 x5 x6)
    · refine sn_iload (pc := 40) (j := 5) dX4_fewestFor_40 rfl ?_
      refine sn_iconst (pc := 42) (v := (-1)) dX4_fewestFor_42 (by decide) ?_
      refine sn_icmp_eq (pc := 43) (tgt := 63) dX4_fewestFor_43 (by decide) ?_ ?_
      · exact sn_sub (lv' := [(0, .ref (E.1 + a0)), (1, .int x1), (2, .int x2), (3, .int x3), (4, .int x4), (6, .int x6)]) [0, 1, 2, 3, 4, 6] rfl (sfX4_fewestFor_63 k7 hk7 k22 hk22 a0 x1 x2 x3 x4 x6)
      · refine sn_aload_n (pc := 46) (j := 0) dX4_fewestFor_46 rfl rfl ?_
        refine sn_gR (pc := 47) dX4_fewestFor_47 flX4_9 rfl (fun v2006 => ?_)
        refine sn_iload (pc := 50) (j := 6) dX4_fewestFor_50 rfl ?_
        rcases v2006 with _ | a2008
        · exact sn_no
        refine sn_nn ?_
        refine sn_iald (pc := 52) dX4_fewestFor_52 (fun v2007 => ?_)
        refine sn_aload_n (pc := 53) (j := 0) dX4_fewestFor_53 rfl rfl ?_
        refine sn_gR (pc := 54) dX4_fewestFor_54 flX4_9 rfl (fun v2009 => ?_)
        refine sn_iload (pc := 57) (j := 5) dX4_fewestFor_57 rfl ?_
        rcases v2009 with _ | a2011
        · exact sn_no
        refine sn_nn ?_
        refine sn_iald (pc := 59) dX4_fewestFor_59 (fun v2010 => ?_)
        refine sn_icmp_le (pc := 60) (tgt := 67) dX4_fewestFor_60 (by decide) ?_ ?_
        · exact sn_sub (lv' := [(0, .ref (E.1 + a0)), (1, .int x1), (2, .int x2), (3, .int x3), (4, .int x4), (5, .int x5), (6, .int x6)]) [0, 1, 2, 3, 4, 5, 6] rfl (sfX4_fewestFor_67 k7 hk7 k22 hk22 a0 x1 x2 x3 x4 x5 x6)
        · exact sn_sub (lv' := [(0, .ref (E.1 + a0)), (1, .int x1), (2, .int x2), (3, .int x3), (4, .int x4), (6, .int x6)]) [0, 1, 2, 3, 4, 6] rfl (sfX4_fewestFor_63 k7 hk7 k22 hk22 a0 x1 x2 x3 x4 x6)
def fX4_fewestFor_7 (k7 : (Nat × Int32 × Int32 × Int32 × Int32) → St → Option (Int32 × St)) (a0 : Nat) (x1 : Int32) (x2 : Int32) (x3 : Int32) (x4 : Int32) : St → Option (Int32 × St) :=
 gI 5 a0 3 fun v1001 =>
 br (v1001 < x4) (rt (-1))
 (itr (fun k (p : Nat × Int32 × Int32 × Int32 × Int32 × Int32 × Int32) => fX4_fewestFor_22 k7 k p.1 p.2.1 p.2.2.1 p.2.2.2.1 p.2.2.2.2.1 p.2.2.2.2.2.1 p.2.2.2.2.2.2) FU (a0, x1, x2, x3, x4, (-1), 0))
set_option maxHeartbeats 4000000 in
set_option maxRecDepth 100000 in
theorem sfX4_fewestFor_7 {E : Ev} {l : Launch} (k7 : (Nat × Int32 × Int32 × Int32 × Int32) → St → Option (Int32 × St)) (hk7 : ∀ p : Nat × Int32 × Int32 × Int32 × Int32, Snd E l (dpX4_fewestFor, RX4, cX4_fewestFor, 7, (some .int), "fewestFor") rvI 7 [(0, .ref (E.1 + p.1)), (1, .int p.2.1), (2, .int p.2.2.1), (3, .int p.2.2.2.1), (4, .int p.2.2.2.2)] [] (k7 p)) (a0 : Nat) (x1 : Int32) (x2 : Int32) (x3 : Int32) (x4 : Int32) : Snd E l (dpX4_fewestFor, RX4, cX4_fewestFor, 7, (some .int), "fewestFor") rvI 7 [(0, .ref (E.1 + a0)), (1, .int x1), (2, .int x2), (3, .int x3), (4, .int x4)] [] (fX4_fewestFor_7 k7 a0 x1 x2 x3 x4) := by
  unfold fX4_fewestFor_7
  refine sn_iload (pc := 7) (j := 4) dX4_fewestFor_7 rfl ?_
  refine sn_aload_n (pc := 9) (j := 0) dX4_fewestFor_9 rfl rfl ?_
  refine sn_gI (pc := 10) dX4_fewestFor_10 flX4_33 rfl (fun v1001 => ?_)
  refine sn_icmp_gt (pc := 13) (tgt := 112) dX4_fewestFor_13 (by decide) ?_ ?_
  · refine sn_iconst (pc := 112) (v := (-1)) dX4_fewestFor_112 (by decide) ?_
    exact sn_iret (pc := 113) dX4_fewestFor_113 rfl
  · refine sn_iconst (pc := 16) (v := (-1)) dX4_fewestFor_16 (by decide) ?_
    refine sn_istore (pc := 17) (i := 5) (lv' := [(5, .int (-1)), (0, .ref (E.1 + a0)), (1, .int x1), (2, .int x2), (3, .int x3), (4, .int x4)]) dX4_fewestFor_17 (by decide) rfl ?_
    refine sn_iconst (pc := 19) (v := 0) dX4_fewestFor_19 (by decide) ?_
    refine sn_istore (pc := 20) (i := 6) (lv' := [(6, .int 0), (5, .int (-1)), (0, .ref (E.1 + a0)), (1, .int x1), (2, .int x2), (3, .int x3), (4, .int x4)]) dX4_fewestFor_20 (by decide) rfl ?_
    exact sn_sub (lv' := [(0, .ref (E.1 + a0)), (1, .int x1), (2, .int x2), (3, .int x3), (4, .int x4), (5, .int (-1)), (6, .int 0)]) [2, 3, 4, 5, 6, 1, 0] rfl (sn_itr (lvf := fun p => [(0, .ref (E.1 + p.1)), (1, .int p.2.1), (2, .int p.2.2.1), (3, .int p.2.2.2.1), (4, .int p.2.2.2.2.1), (5, .int p.2.2.2.2.2.1), (6, .int p.2.2.2.2.2.2)]) (stf := fun p => []) (fun k hk p => sfX4_fewestFor_22 k7 hk7 k hk p.1 p.2.1 p.2.2.1 p.2.2.2.1 p.2.2.2.2.1 p.2.2.2.2.2.1 p.2.2.2.2.2.2) FU (a0, x1, x2, x3, x4, (-1), 0))
def fX4_fewestFor (a0 : Nat) (x1 : Int32) : St → Option (Int32 × St) :=
 itr (fun k (p : Nat × Int32 × Int32 × Int32 × Int32) => fX4_fewestFor_7  k p.1 p.2.1 p.2.2.1 p.2.2.2.1 p.2.2.2.2) FU (a0, x1, 0, 0, 1)
set_option maxHeartbeats 4000000 in
set_option maxRecDepth 100000 in
theorem mX4_fewestFor {E : Ev} {l : Launch} (a0 : Nat) (x1 : Int32) : MF E l dpX4_fewestFor yX4_fewestFor cX4_fewestFor 7 (some .int) rvI [.ref (E.1 + a0), .int x1] (fX4_fewestFor a0 x1) := by
  refine MF.of (lv := [(0, .ref (E.1 + a0)), (1, .int x1)]) (by decide) (Nat.le_of_ble_eq_true rfl) rfl ?_
  unfold fX4_fewestFor
  refine sn_iconst (pc := 0) (v := 0) dX4_fewestFor_0 (by decide) ?_
  refine sn_istore_n (pc := 1) (i := 2) (lv' := [(2, .int 0), (0, .ref (E.1 + a0)), (1, .int x1)]) dX4_fewestFor_1 rfl (by decide) rfl ?_
  refine sn_iconst (pc := 2) (v := 0) dX4_fewestFor_2 (by decide) ?_
  refine sn_istore_n (pc := 3) (i := 3) (lv' := [(3, .int 0), (2, .int 0), (0, .ref (E.1 + a0)), (1, .int x1)]) dX4_fewestFor_3 rfl (by decide) rfl ?_
  refine sn_iconst (pc := 4) (v := 1) dX4_fewestFor_4 (by decide) ?_
  refine sn_istore (pc := 5) (i := 4) (lv' := [(4, .int 1), (3, .int 0), (2, .int 0), (0, .ref (E.1 + a0)), (1, .int x1)]) dX4_fewestFor_5 (by decide) rfl ?_
  exact sn_sub (lv' := [(0, .ref (E.1 + a0)), (1, .int x1), (2, .int 0), (3, .int 0), (4, .int 1)]) [3, 4, 2, 1, 0] rfl (sn_itr (lvf := fun p => [(0, .ref (E.1 + p.1)), (1, .int p.2.1), (2, .int p.2.2.1), (3, .int p.2.2.2.1), (4, .int p.2.2.2.2)]) (stf := fun p => []) (fun k hk p => sfX4_fewestFor_7  k hk p.1 p.2.1 p.2.2.1 p.2.2.2.1 p.2.2.2.2) FU (a0, x1, 0, 0, 1))
theorem iX4_fewestFor : MI yX4_fewestFor cX4_fewestFor 7 (some .int) 1 := ⟨wt1_8, wt5_63, by decide +kernel, by decide⟩
-- NeedleHomes$Parting shareOut(I)V
theorem dX4_shareOut_0 : decode cX4_shareOut 0 = .ok (.iconst 0, 1) := by decide +kernel
theorem dX4_shareOut_1 : decode cX4_shareOut 1 = .ok (.istore_n 2, 1) := by decide +kernel
theorem dX4_shareOut_2 : decode cX4_shareOut 2 = .ok (.iload_n 2, 1) := by decide +kernel
theorem dX4_shareOut_3 : decode cX4_shareOut 3 = .ok (.iload_n 1, 1) := by decide +kernel
theorem dX4_shareOut_4 : decode cX4_shareOut 4 = .ok (.if_icmp .ge 97, 3) := by decide +kernel
theorem dX4_shareOut_7 : decode cX4_shareOut 7 = .ok (.iconst (-1), 1) := by decide +kernel
theorem dX4_shareOut_8 : decode cX4_shareOut 8 = .ok (.istore_n 3, 1) := by decide +kernel
theorem dX4_shareOut_9 : decode cX4_shareOut 9 = .ok (.iconst 0, 1) := by decide +kernel
theorem dX4_shareOut_10 : decode cX4_shareOut 10 = .ok (.istore 4, 2) := by decide +kernel
theorem dX4_shareOut_12 : decode cX4_shareOut 12 = .ok (.iload 4, 2) := by decide +kernel
theorem dX4_shareOut_14 : decode cX4_shareOut 14 = .ok (.aload_n 0, 1) := by decide +kernel
theorem dX4_shareOut_15 : decode cX4_shareOut 15 = .ok (.getfield 33, 3) := by decide +kernel
theorem dX4_shareOut_18 : decode cX4_shareOut 18 = .ok (.if_icmp .ge 62, 3) := by decide +kernel
theorem dX4_shareOut_21 : decode cX4_shareOut 21 = .ok (.aload_n 0, 1) := by decide +kernel
theorem dX4_shareOut_22 : decode cX4_shareOut 22 = .ok (.getfield 78, 3) := by decide +kernel
theorem dX4_shareOut_25 : decode cX4_shareOut 25 = .ok (.iload 4, 2) := by decide +kernel
theorem dX4_shareOut_27 : decode cX4_shareOut 27 = .ok (.invokestatic 74, 3) := by decide +kernel
theorem dX4_shareOut_30 : decode cX4_shareOut 30 = .ok (.ifCond .eq 44, 3) := by decide +kernel
theorem dX4_shareOut_33 : decode cX4_shareOut 33 = .ok (.aload_n 0, 1) := by decide +kernel
theorem dX4_shareOut_34 : decode cX4_shareOut 34 = .ok (.getfield 18, 3) := by decide +kernel
theorem dX4_shareOut_37 : decode cX4_shareOut 37 = .ok (.iload 4, 2) := by decide +kernel
theorem dX4_shareOut_39 : decode cX4_shareOut 39 = .ok (.iaload, 1) := by decide +kernel
theorem dX4_shareOut_40 : decode cX4_shareOut 40 = .ok (.aload_n 0, 1) := by decide +kernel
theorem dX4_shareOut_41 : decode cX4_shareOut 41 = .ok (.getfield 9, 3) := by decide +kernel
theorem dX4_shareOut_44 : decode cX4_shareOut 44 = .ok (.iload 4, 2) := by decide +kernel
theorem dX4_shareOut_46 : decode cX4_shareOut 46 = .ok (.iaload, 1) := by decide +kernel
theorem dX4_shareOut_47 : decode cX4_shareOut 47 = .ok (.if_icmp .ge 27, 3) := by decide +kernel
theorem dX4_shareOut_50 : decode cX4_shareOut 50 = .ok (.iload_n 3, 1) := by decide +kernel
theorem dX4_shareOut_51 : decode cX4_shareOut 51 = .ok (.iconst (-1), 1) := by decide +kernel
theorem dX4_shareOut_52 : decode cX4_shareOut 52 = .ok (.if_icmp .eq 19, 3) := by decide +kernel
theorem dX4_shareOut_55 : decode cX4_shareOut 55 = .ok (.aload_n 0, 1) := by decide +kernel
theorem dX4_shareOut_56 : decode cX4_shareOut 56 = .ok (.getfield 18, 3) := by decide +kernel
theorem dX4_shareOut_59 : decode cX4_shareOut 59 = .ok (.iload 4, 2) := by decide +kernel
theorem dX4_shareOut_61 : decode cX4_shareOut 61 = .ok (.iaload, 1) := by decide +kernel
theorem dX4_shareOut_62 : decode cX4_shareOut 62 = .ok (.aload_n 0, 1) := by decide +kernel
theorem dX4_shareOut_63 : decode cX4_shareOut 63 = .ok (.getfield 18, 3) := by decide +kernel
theorem dX4_shareOut_66 : decode cX4_shareOut 66 = .ok (.iload_n 3, 1) := by decide +kernel
theorem dX4_shareOut_67 : decode cX4_shareOut 67 = .ok (.iaload, 1) := by decide +kernel
theorem dX4_shareOut_68 : decode cX4_shareOut 68 = .ok (.if_icmp .ge 6, 3) := by decide +kernel
theorem dX4_shareOut_71 : decode cX4_shareOut 71 = .ok (.iload 4, 2) := by decide +kernel
theorem dX4_shareOut_73 : decode cX4_shareOut 73 = .ok (.istore_n 3, 1) := by decide +kernel
theorem dX4_shareOut_74 : decode cX4_shareOut 74 = .ok (.iinc 4 1, 3) := by decide +kernel
theorem dX4_shareOut_77 : decode cX4_shareOut 77 = .ok (.goto (-65), 3) := by decide +kernel
theorem dX4_shareOut_80 : decode cX4_shareOut 80 = .ok (.iload_n 3, 1) := by decide +kernel
theorem dX4_shareOut_81 : decode cX4_shareOut 81 = .ok (.iconst (-1), 1) := by decide +kernel
theorem dX4_shareOut_82 : decode cX4_shareOut 82 = .ok (.if_icmp .eq 13, 3) := by decide +kernel
theorem dX4_shareOut_85 : decode cX4_shareOut 85 = .ok (.aload_n 0, 1) := by decide +kernel
theorem dX4_shareOut_86 : decode cX4_shareOut 86 = .ok (.getfield 18, 3) := by decide +kernel
theorem dX4_shareOut_89 : decode cX4_shareOut 89 = .ok (.iload_n 3, 1) := by decide +kernel
theorem dX4_shareOut_90 : decode cX4_shareOut 90 = .ok (.dup2, 1) := by decide +kernel
theorem dX4_shareOut_91 : decode cX4_shareOut 91 = .ok (.iaload, 1) := by decide +kernel
theorem dX4_shareOut_92 : decode cX4_shareOut 92 = .ok (.iconst 1, 1) := by decide +kernel
theorem dX4_shareOut_93 : decode cX4_shareOut 93 = .ok (.iadd, 1) := by decide +kernel
theorem dX4_shareOut_94 : decode cX4_shareOut 94 = .ok (.iastore, 1) := by decide +kernel
theorem dX4_shareOut_95 : decode cX4_shareOut 95 = .ok (.iinc 2 1, 3) := by decide +kernel
theorem dX4_shareOut_98 : decode cX4_shareOut 98 = .ok (.goto (-96), 3) := by decide +kernel
theorem dX4_shareOut_101 : decode cX4_shareOut 101 = .ok (.return_, 1) := by decide +kernel
abbrev dpX4_shareOut : Nat := 1
def fX4_shareOut_74 (k2 : (Nat × Int32 × Int32) → St → Option (Unit × St)) (k12 : (Nat × Int32 × Int32 × Int32 × Int32) → St → Option (Unit × St)) (a0 : Nat) (x1 : Int32) (x2 : Int32) (x3 : Int32) (x4 : Int32) : St → Option (Unit × St) :=
 k12 (a0, x1, x2, x3, (x4 + 1))
set_option maxHeartbeats 4000000 in
set_option maxRecDepth 100000 in
theorem sfX4_shareOut_74 {E : Ev} {l : Launch} (k2 : (Nat × Int32 × Int32) → St → Option (Unit × St)) (hk2 : ∀ p : Nat × Int32 × Int32, Snd E l (dpX4_shareOut, RX4, cX4_shareOut, 5, none, "shareOut") rvV 2 [(0, .ref (E.1 + p.1)), (1, .int p.2.1), (2, .int p.2.2)] [] (k2 p)) (k12 : (Nat × Int32 × Int32 × Int32 × Int32) → St → Option (Unit × St)) (hk12 : ∀ p : Nat × Int32 × Int32 × Int32 × Int32, Snd E l (dpX4_shareOut, RX4, cX4_shareOut, 5, none, "shareOut") rvV 12 [(0, .ref (E.1 + p.1)), (1, .int p.2.1), (2, .int p.2.2.1), (3, .int p.2.2.2.1), (4, .int p.2.2.2.2)] [] (k12 p)) (a0 : Nat) (x1 : Int32) (x2 : Int32) (x3 : Int32) (x4 : Int32) : Snd E l (dpX4_shareOut, RX4, cX4_shareOut, 5, none, "shareOut") rvV 74 [(0, .ref (E.1 + a0)), (1, .int x1), (2, .int x2), (3, .int x3), (4, .int x4)] [] (fX4_shareOut_74 k2 k12 a0 x1 x2 x3 x4) := by
  unfold fX4_shareOut_74
  refine sn_iinc (pc := 74) (v := x4 + 1) (lv' := [(4, .int (x4 + 1)), (0, .ref (E.1 + a0)), (1, .int x1), (2, .int x2), (3, .int x3)]) (j := 4) dX4_shareOut_74 rfl rfl (by decide) rfl ?_
  refine sn_goto (pc := 77) (tgt := 12) dX4_shareOut_77 (by decide) ?_
  exact sn_sub (lv' := [(0, .ref (E.1 + a0)), (1, .int x1), (2, .int x2), (3, .int x3), (4, .int (x4 + 1))]) [1, 2, 3, 4, 0] rfl (hk12 (a0, x1, x2, x3, (x4 + 1)))
def fX4_shareOut_71 (k2 : (Nat × Int32 × Int32) → St → Option (Unit × St)) (k12 : (Nat × Int32 × Int32 × Int32 × Int32) → St → Option (Unit × St)) (a0 : Nat) (x1 : Int32) (x2 : Int32) (x4 : Int32) : St → Option (Unit × St) :=
 fX4_shareOut_74 k2 k12 a0 x1 x2 x4 x4
set_option maxHeartbeats 4000000 in
set_option maxRecDepth 100000 in
theorem sfX4_shareOut_71 {E : Ev} {l : Launch} (k2 : (Nat × Int32 × Int32) → St → Option (Unit × St)) (hk2 : ∀ p : Nat × Int32 × Int32, Snd E l (dpX4_shareOut, RX4, cX4_shareOut, 5, none, "shareOut") rvV 2 [(0, .ref (E.1 + p.1)), (1, .int p.2.1), (2, .int p.2.2)] [] (k2 p)) (k12 : (Nat × Int32 × Int32 × Int32 × Int32) → St → Option (Unit × St)) (hk12 : ∀ p : Nat × Int32 × Int32 × Int32 × Int32, Snd E l (dpX4_shareOut, RX4, cX4_shareOut, 5, none, "shareOut") rvV 12 [(0, .ref (E.1 + p.1)), (1, .int p.2.1), (2, .int p.2.2.1), (3, .int p.2.2.2.1), (4, .int p.2.2.2.2)] [] (k12 p)) (a0 : Nat) (x1 : Int32) (x2 : Int32) (x4 : Int32) : Snd E l (dpX4_shareOut, RX4, cX4_shareOut, 5, none, "shareOut") rvV 71 [(0, .ref (E.1 + a0)), (1, .int x1), (2, .int x2), (4, .int x4)] [] (fX4_shareOut_71 k2 k12 a0 x1 x2 x4) := by
  unfold fX4_shareOut_71
  refine sn_iload (pc := 71) (j := 3) dX4_shareOut_71 rfl ?_
  refine sn_istore_n (pc := 73) (i := 3) (lv' := [(3, .int x4), (0, .ref (E.1 + a0)), (1, .int x1), (2, .int x2), (4, .int x4)]) dX4_shareOut_73 rfl (by decide) rfl ?_
  exact sn_sub (lv' := [(0, .ref (E.1 + a0)), (1, .int x1), (2, .int x2), (3, .int x4), (4, .int x4)]) [1, 2, 3, 0, 4] rfl (sfX4_shareOut_74 k2 hk2 k12 hk12 a0 x1 x2 x4 x4)
def fX4_shareOut_95 (k2 : (Nat × Int32 × Int32) → St → Option (Unit × St)) (a0 : Nat) (x1 : Int32) (x2 : Int32) : St → Option (Unit × St) :=
 k2 (a0, x1, (x2 + 1))
set_option maxHeartbeats 4000000 in
set_option maxRecDepth 100000 in
theorem sfX4_shareOut_95 {E : Ev} {l : Launch} (k2 : (Nat × Int32 × Int32) → St → Option (Unit × St)) (hk2 : ∀ p : Nat × Int32 × Int32, Snd E l (dpX4_shareOut, RX4, cX4_shareOut, 5, none, "shareOut") rvV 2 [(0, .ref (E.1 + p.1)), (1, .int p.2.1), (2, .int p.2.2)] [] (k2 p)) (a0 : Nat) (x1 : Int32) (x2 : Int32) : Snd E l (dpX4_shareOut, RX4, cX4_shareOut, 5, none, "shareOut") rvV 95 [(0, .ref (E.1 + a0)), (1, .int x1), (2, .int x2)] [] (fX4_shareOut_95 k2 a0 x1 x2) := by
  unfold fX4_shareOut_95
  refine sn_iinc (pc := 95) (v := x2 + 1) (lv' := [(2, .int (x2 + 1)), (0, .ref (E.1 + a0)), (1, .int x1)]) (j := 2) dX4_shareOut_95 rfl rfl (by decide) rfl ?_
  refine sn_goto (pc := 98) (tgt := 2) dX4_shareOut_98 (by decide) ?_
  exact sn_sub (lv' := [(0, .ref (E.1 + a0)), (1, .int x1), (2, .int (x2 + 1))]) [1, 2, 0] rfl (hk2 (a0, x1, (x2 + 1)))
def fX4_shareOut_12 (k2 : (Nat × Int32 × Int32) → St → Option (Unit × St)) (k12 : (Nat × Int32 × Int32 × Int32 × Int32) → St → Option (Unit × St)) (a0 : Nat) (x1 : Int32) (x2 : Int32) (x3 : Int32) (x4 : Int32) : St → Option (Unit × St) :=
 gI 5 a0 3 fun v2001 =>
 br (v2001 ≤ x4) (br (x3 = (-1)) (fX4_shareOut_95 k2 a0 x1 x2)
 (gR 5 a0 6 fun v2002 =>
 nn v2002 fun a2004 =>
 aI 15 a2004 x3 fun v2003 =>
 wI a2004 x3 (v2003 + 1) <|
 fX4_shareOut_95 k2 a0 x1 x2))
 (gI 5 a0 2 fun v2005 =>
 cl (fX4_isInSet v2005 x4) fun v2006 =>
 br ((bi v2006) = 0) (fX4_shareOut_74 k2 k12 a0 x1 x2 x3 x4)
 (gR 5 a0 6 fun v2007 =>
 nn v2007 fun a2009 =>
 aI 15 a2009 x4 fun v2008 =>
 gR 5 a0 4 fun v2010 =>
 nn v2010 fun a2012 =>
 aI 15 a2012 x4 fun v2011 =>
 br (v2011 ≤ v2008) (fX4_shareOut_74 k2 k12 a0 x1 x2 x3 x4)
 (br (x3 = (-1)) (fX4_shareOut_71 k2 k12 a0 x1 x2 x4)
 (gR 5 a0 6 fun v2013 =>
 nn v2013 fun a2015 =>
 aI 15 a2015 x4 fun v2014 =>
 gR 5 a0 6 fun v2016 =>
 nn v2016 fun a2018 =>
 aI 15 a2018 x3 fun v2017 =>
 br (v2017 ≤ v2014) (fX4_shareOut_74 k2 k12 a0 x1 x2 x3 x4)
 (fX4_shareOut_71 k2 k12 a0 x1 x2 x4)))))
set_option maxHeartbeats 4000000 in
set_option maxRecDepth 100000 in
theorem sfX4_shareOut_12 {E : Ev} {l : Launch} (k2 : (Nat × Int32 × Int32) → St → Option (Unit × St)) (hk2 : ∀ p : Nat × Int32 × Int32, Snd E l (dpX4_shareOut, RX4, cX4_shareOut, 5, none, "shareOut") rvV 2 [(0, .ref (E.1 + p.1)), (1, .int p.2.1), (2, .int p.2.2)] [] (k2 p)) (k12 : (Nat × Int32 × Int32 × Int32 × Int32) → St → Option (Unit × St)) (hk12 : ∀ p : Nat × Int32 × Int32 × Int32 × Int32, Snd E l (dpX4_shareOut, RX4, cX4_shareOut, 5, none, "shareOut") rvV 12 [(0, .ref (E.1 + p.1)), (1, .int p.2.1), (2, .int p.2.2.1), (3, .int p.2.2.2.1), (4, .int p.2.2.2.2)] [] (k12 p)) (a0 : Nat) (x1 : Int32) (x2 : Int32) (x3 : Int32) (x4 : Int32) : Snd E l (dpX4_shareOut, RX4, cX4_shareOut, 5, none, "shareOut") rvV 12 [(0, .ref (E.1 + a0)), (1, .int x1), (2, .int x2), (3, .int x3), (4, .int x4)] [] (fX4_shareOut_12 k2 k12 a0 x1 x2 x3 x4) := by
  unfold fX4_shareOut_12
  refine sn_iload (pc := 12) (j := 4) dX4_shareOut_12 rfl ?_
  refine sn_aload_n (pc := 14) (j := 0) dX4_shareOut_14 rfl rfl ?_
  refine sn_gI (pc := 15) dX4_shareOut_15 flX4_33 rfl (fun v2001 => ?_)
  refine sn_icmp_ge (pc := 18) (tgt := 80) dX4_shareOut_18 (by decide) ?_ ?_
  · refine sn_iload_n (pc := 80) (j := 3) dX4_shareOut_80 rfl rfl ?_
    refine sn_iconst (pc := 81) (v := (-1)) dX4_shareOut_81 (by decide) ?_
    refine sn_icmp_eq (pc := 82) (tgt := 95) dX4_shareOut_82 (by decide) ?_ ?_
    · exact sn_sub (lv' := [(0, .ref (E.1 + a0)), (1, .int x1), (2, .int x2)]) [0, 1, 2] rfl (sfX4_shareOut_95 k2 hk2 a0 x1 x2)
    · refine sn_aload_n (pc := 85) (j := 0) dX4_shareOut_85 rfl rfl ?_
      refine sn_gR (pc := 86) dX4_shareOut_86 flX4_18 rfl (fun v2002 => ?_)
      refine sn_iload_n (pc := 89) (j := 3) dX4_shareOut_89 rfl rfl ?_
      refine sn_dup2 (pc := 90) dX4_shareOut_90 rfl (rf_cat _ _) ?_
      rcases v2002 with _ | a2004
      · exact sn_no
      refine sn_nn ?_
      refine sn_iald (pc := 91) dX4_shareOut_91 (fun v2003 => ?_)
      refine sn_iconst (pc := 92) (v := 1) dX4_shareOut_92 (by decide) ?_
      refine sn_iadd (pc := 93) dX4_shareOut_93 ?_
      refine sn_iast (pc := 94) dX4_shareOut_94 ?_
      exact sn_sub (lv' := [(0, .ref (E.1 + a0)), (1, .int x1), (2, .int x2)]) [0, 1, 2] rfl (sfX4_shareOut_95 k2 hk2 a0 x1 x2)
  · refine sn_aload_n (pc := 21) (j := 0) dX4_shareOut_21 rfl rfl ?_
    refine sn_gI (pc := 22) dX4_shareOut_22 flX4_78 rfl (fun v2005 => ?_)
    refine sn_iload (pc := 25) (j := 4) dX4_shareOut_25 rfl ?_
    refine sn_callS (pc := 27) dX4_shareOut_27 iX4_isInSet wt5_65 wt5_64 (mX4_isInSet v2005 x4) (by decide) rfl rfl (Nat.le_of_ble_eq_true rfl) (fun v2006 => ?_)
    refine sn_if_eq (pc := 30) (tgt := 74) dX4_shareOut_30 (by decide) ?_ ?_
    · exact sn_sub (lv' := [(0, .ref (E.1 + a0)), (1, .int x1), (2, .int x2), (3, .int x3), (4, .int x4)]) [0, 1, 2, 3, 4] rfl (sfX4_shareOut_74 k2 hk2 k12 hk12 a0 x1 x2 x3 x4)
    · refine sn_aload_n (pc := 33) (j := 0) dX4_shareOut_33 rfl rfl ?_
      refine sn_gR (pc := 34) dX4_shareOut_34 flX4_18 rfl (fun v2007 => ?_)
      refine sn_iload (pc := 37) (j := 4) dX4_shareOut_37 rfl ?_
      rcases v2007 with _ | a2009
      · exact sn_no
      refine sn_nn ?_
      refine sn_iald (pc := 39) dX4_shareOut_39 (fun v2008 => ?_)
      refine sn_aload_n (pc := 40) (j := 0) dX4_shareOut_40 rfl rfl ?_
      refine sn_gR (pc := 41) dX4_shareOut_41 flX4_9 rfl (fun v2010 => ?_)
      refine sn_iload (pc := 44) (j := 4) dX4_shareOut_44 rfl ?_
      rcases v2010 with _ | a2012
      · exact sn_no
      refine sn_nn ?_
      refine sn_iald (pc := 46) dX4_shareOut_46 (fun v2011 => ?_)
      refine sn_icmp_ge (pc := 47) (tgt := 74) dX4_shareOut_47 (by decide) ?_ ?_
      · exact sn_sub (lv' := [(0, .ref (E.1 + a0)), (1, .int x1), (2, .int x2), (3, .int x3), (4, .int x4)]) [0, 1, 2, 3, 4] rfl (sfX4_shareOut_74 k2 hk2 k12 hk12 a0 x1 x2 x3 x4)
      · refine sn_iload_n (pc := 50) (j := 3) dX4_shareOut_50 rfl rfl ?_
        refine sn_iconst (pc := 51) (v := (-1)) dX4_shareOut_51 (by decide) ?_
        refine sn_icmp_eq (pc := 52) (tgt := 71) dX4_shareOut_52 (by decide) ?_ ?_
        · exact sn_sub (lv' := [(0, .ref (E.1 + a0)), (1, .int x1), (2, .int x2), (4, .int x4)]) [0, 1, 2, 4] rfl (sfX4_shareOut_71 k2 hk2 k12 hk12 a0 x1 x2 x4)
        · refine sn_aload_n (pc := 55) (j := 0) dX4_shareOut_55 rfl rfl ?_
          refine sn_gR (pc := 56) dX4_shareOut_56 flX4_18 rfl (fun v2013 => ?_)
          refine sn_iload (pc := 59) (j := 4) dX4_shareOut_59 rfl ?_
          rcases v2013 with _ | a2015
          · exact sn_no
          refine sn_nn ?_
          refine sn_iald (pc := 61) dX4_shareOut_61 (fun v2014 => ?_)
          refine sn_aload_n (pc := 62) (j := 0) dX4_shareOut_62 rfl rfl ?_
          refine sn_gR (pc := 63) dX4_shareOut_63 flX4_18 rfl (fun v2016 => ?_)
          refine sn_iload_n (pc := 66) (j := 3) dX4_shareOut_66 rfl rfl ?_
          rcases v2016 with _ | a2018
          · exact sn_no
          refine sn_nn ?_
          refine sn_iald (pc := 67) dX4_shareOut_67 (fun v2017 => ?_)
          refine sn_icmp_ge (pc := 68) (tgt := 74) dX4_shareOut_68 (by decide) ?_ ?_
          · exact sn_sub (lv' := [(0, .ref (E.1 + a0)), (1, .int x1), (2, .int x2), (3, .int x3), (4, .int x4)]) [0, 1, 2, 3, 4] rfl (sfX4_shareOut_74 k2 hk2 k12 hk12 a0 x1 x2 x3 x4)
          · exact sn_sub (lv' := [(0, .ref (E.1 + a0)), (1, .int x1), (2, .int x2), (4, .int x4)]) [0, 1, 2, 4] rfl (sfX4_shareOut_71 k2 hk2 k12 hk12 a0 x1 x2 x4)
def fX4_shareOut_2 (k2 : (Nat × Int32 × Int32) → St → Option (Unit × St)) (a0 : Nat) (x1 : Int32) (x2 : Int32) : St → Option (Unit × St) :=
 br (x1 ≤ x2) (rt ())
 (itr (fun k (p : Nat × Int32 × Int32 × Int32 × Int32) => fX4_shareOut_12 k2 k p.1 p.2.1 p.2.2.1 p.2.2.2.1 p.2.2.2.2) FU (a0, x1, x2, (-1), 0))
set_option maxHeartbeats 4000000 in
set_option maxRecDepth 100000 in
theorem sfX4_shareOut_2 {E : Ev} {l : Launch} (k2 : (Nat × Int32 × Int32) → St → Option (Unit × St)) (hk2 : ∀ p : Nat × Int32 × Int32, Snd E l (dpX4_shareOut, RX4, cX4_shareOut, 5, none, "shareOut") rvV 2 [(0, .ref (E.1 + p.1)), (1, .int p.2.1), (2, .int p.2.2)] [] (k2 p)) (a0 : Nat) (x1 : Int32) (x2 : Int32) : Snd E l (dpX4_shareOut, RX4, cX4_shareOut, 5, none, "shareOut") rvV 2 [(0, .ref (E.1 + a0)), (1, .int x1), (2, .int x2)] [] (fX4_shareOut_2 k2 a0 x1 x2) := by
  unfold fX4_shareOut_2
  refine sn_iload_n (pc := 2) (j := 2) dX4_shareOut_2 rfl rfl ?_
  refine sn_iload_n (pc := 3) (j := 1) dX4_shareOut_3 rfl rfl ?_
  refine sn_icmp_ge (pc := 4) (tgt := 101) dX4_shareOut_4 (by decide) ?_ ?_
  · exact sn_vret (pc := 101) dX4_shareOut_101 rfl
  · refine sn_iconst (pc := 7) (v := (-1)) dX4_shareOut_7 (by decide) ?_
    refine sn_istore_n (pc := 8) (i := 3) (lv' := [(3, .int (-1)), (0, .ref (E.1 + a0)), (1, .int x1), (2, .int x2)]) dX4_shareOut_8 rfl (by decide) rfl ?_
    refine sn_iconst (pc := 9) (v := 0) dX4_shareOut_9 (by decide) ?_
    refine sn_istore (pc := 10) (i := 4) (lv' := [(4, .int 0), (3, .int (-1)), (0, .ref (E.1 + a0)), (1, .int x1), (2, .int x2)]) dX4_shareOut_10 (by decide) rfl ?_
    exact sn_sub (lv' := [(0, .ref (E.1 + a0)), (1, .int x1), (2, .int x2), (3, .int (-1)), (4, .int 0)]) [2, 3, 4, 1, 0] rfl (sn_itr (lvf := fun p => [(0, .ref (E.1 + p.1)), (1, .int p.2.1), (2, .int p.2.2.1), (3, .int p.2.2.2.1), (4, .int p.2.2.2.2)]) (stf := fun p => []) (fun k hk p => sfX4_shareOut_12 k2 hk2 k hk p.1 p.2.1 p.2.2.1 p.2.2.2.1 p.2.2.2.2) FU (a0, x1, x2, (-1), 0))
def fX4_shareOut (a0 : Nat) (x1 : Int32) : St → Option (Unit × St) :=
 itr (fun k (p : Nat × Int32 × Int32) => fX4_shareOut_2  k p.1 p.2.1 p.2.2) FU (a0, x1, 0)
set_option maxHeartbeats 4000000 in
set_option maxRecDepth 100000 in
theorem mX4_shareOut {E : Ev} {l : Launch} (a0 : Nat) (x1 : Int32) : MF E l dpX4_shareOut yX4_shareOut cX4_shareOut 5 none rvV [.ref (E.1 + a0), .int x1] (fX4_shareOut a0 x1) := by
  refine MF.of (lv := [(0, .ref (E.1 + a0)), (1, .int x1)]) (by decide) (Nat.le_of_ble_eq_true rfl) rfl ?_
  unfold fX4_shareOut
  refine sn_iconst (pc := 0) (v := 0) dX4_shareOut_0 (by decide) ?_
  refine sn_istore_n (pc := 1) (i := 2) (lv' := [(2, .int 0), (0, .ref (E.1 + a0)), (1, .int x1)]) dX4_shareOut_1 rfl (by decide) rfl ?_
  exact sn_sub (lv' := [(0, .ref (E.1 + a0)), (1, .int x1), (2, .int 0)]) [1, 2, 0] rfl (sn_itr (lvf := fun p => [(0, .ref (E.1 + p.1)), (1, .int p.2.1), (2, .int p.2.2)]) (stf := fun p => []) (fun k hk p => sfX4_shareOut_2  k hk p.1 p.2.1 p.2.2) FU (a0, x1, 0))
theorem iX4_shareOut : MI yX4_shareOut cX4_shareOut 5 none 1 := ⟨wt1_8, wt5_89, by decide +kernel, by decide⟩
-- NeedleHomes$Parting find(LNeedleHomes$World;LNeedleHomes$Pattern;II)Z
theorem dX4_find_0 : decode cX4_find 0 = .ok (.aload_n 0, 1) := by decide +kernel
theorem dX4_find_1 : decode cX4_find 1 = .ok (.aload_n 1, 1) := by decide +kernel
theorem dX4_find_2 : decode cX4_find 2 = .ok (.getfield 21, 3) := by decide +kernel
theorem dX4_find_5 : decode cX4_find 5 = .ok (.bipush 12, 2) := by decide +kernel
theorem dX4_find_7 : decode cX4_find 7 = .ok (.invokestatic 27, 3) := by decide +kernel
theorem dX4_find_10 : decode cX4_find 10 = .ok (.putfield 33, 3) := by decide +kernel
theorem dX4_find_13 : decode cX4_find 13 = .ok (.iconst 0, 1) := by decide +kernel
theorem dX4_find_14 : decode cX4_find 14 = .ok (.istore 5, 2) := by decide +kernel
theorem dX4_find_16 : decode cX4_find 16 = .ok (.iload 5, 2) := by decide +kernel
theorem dX4_find_18 : decode cX4_find 18 = .ok (.aload_n 0, 1) := by decide +kernel
theorem dX4_find_19 : decode cX4_find 19 = .ok (.getfield 33, 3) := by decide +kernel
theorem dX4_find_22 : decode cX4_find 22 = .ok (.if_icmp .ge 82, 3) := by decide +kernel
theorem dX4_find_25 : decode cX4_find 25 = .ok (.aload_n 1, 1) := by decide +kernel
theorem dX4_find_26 : decode cX4_find 26 = .ok (.iload 5, 2) := by decide +kernel
theorem dX4_find_28 : decode cX4_find 28 = .ok (.invokevirtual 34, 3) := by decide +kernel
theorem dX4_find_31 : decode cX4_find 31 = .ok (.astore 6, 2) := by decide +kernel
theorem dX4_find_33 : decode cX4_find 33 = .ok (.aload_n 0, 1) := by decide +kernel
theorem dX4_find_34 : decode cX4_find 34 = .ok (.getfield 18, 3) := by decide +kernel
theorem dX4_find_37 : decode cX4_find 37 = .ok (.iload 5, 2) := by decide +kernel
theorem dX4_find_39 : decode cX4_find 39 = .ok (.iconst 0, 1) := by decide +kernel
theorem dX4_find_40 : decode cX4_find 40 = .ok (.iastore, 1) := by decide +kernel
theorem dX4_find_41 : decode cX4_find 41 = .ok (.aload_n 0, 1) := by decide +kernel
theorem dX4_find_42 : decode cX4_find 42 = .ok (.getfield 15, 3) := by decide +kernel
theorem dX4_find_45 : decode cX4_find 45 = .ok (.iload 5, 2) := by decide +kernel
theorem dX4_find_47 : decode cX4_find 47 = .ok (.aload 6, 2) := by decide +kernel
theorem dX4_find_49 : decode cX4_find 49 = .ok (.ifnonnull 7, 3) := by decide +kernel
theorem dX4_find_52 : decode cX4_find 52 = .ok (.iconst 0, 1) := by decide +kernel
theorem dX4_find_53 : decode cX4_find 53 = .ok (.goto 8, 3) := by decide +kernel
theorem dX4_find_56 : decode cX4_find 56 = .ok (.aload 6, 2) := by decide +kernel
theorem dX4_find_58 : decode cX4_find 58 = .ok (.getfield 38, 3) := by decide +kernel
theorem dX4_find_61 : decode cX4_find 61 = .ok (.iastore, 1) := by decide +kernel
theorem dX4_find_62 : decode cX4_find 62 = .ok (.aload_n 0, 1) := by decide +kernel
theorem dX4_find_63 : decode cX4_find 63 = .ok (.getfield 9, 3) := by decide +kernel
theorem dX4_find_66 : decode cX4_find 66 = .ok (.iload 5, 2) := by decide +kernel
theorem dX4_find_68 : decode cX4_find 68 = .ok (.aload 6, 2) := by decide +kernel
theorem dX4_find_70 : decode cX4_find 70 = .ok (.ifnonnull 7, 3) := by decide +kernel
theorem dX4_find_73 : decode cX4_find 73 = .ok (.iconst 0, 1) := by decide +kernel
theorem dX4_find_74 : decode cX4_find 74 = .ok (.goto 23, 3) := by decide +kernel
theorem dX4_find_77 : decode cX4_find 77 = .ok (.aload 6, 2) := by decide +kernel
theorem dX4_find_79 : decode cX4_find 79 = .ok (.aload_n 2, 1) := by decide +kernel
theorem dX4_find_80 : decode cX4_find 80 = .ok (.getfield 43, 3) := by decide +kernel
theorem dX4_find_83 : decode cX4_find 83 = .ok (.aload 6, 2) := by decide +kernel
theorem dX4_find_85 : decode cX4_find 85 = .ok (.aload_n 1, 1) := by decide +kernel
theorem dX4_find_86 : decode cX4_find 86 = .ok (.getfield 48, 3) := by decide +kernel
theorem dX4_find_89 : decode cX4_find 89 = .ok (.iload 4, 2) := by decide +kernel
theorem dX4_find_91 : decode cX4_find 91 = .ok (.invokevirtual 51, 3) := by decide +kernel
theorem dX4_find_94 : decode cX4_find 94 = .ok (.invokevirtual 54, 3) := by decide +kernel
theorem dX4_find_97 : decode cX4_find 97 = .ok (.iastore, 1) := by decide +kernel
theorem dX4_find_98 : decode cX4_find 98 = .ok (.iinc 5 1, 3) := by decide +kernel
theorem dX4_find_101 : decode cX4_find 101 = .ok (.goto (-85), 3) := by decide +kernel
theorem dX4_find_104 : decode cX4_find 104 = .ok (.aload_n 0, 1) := by decide +kernel
theorem dX4_find_105 : decode cX4_find 105 = .ok (.aload_n 0, 1) := by decide +kernel
theorem dX4_find_106 : decode cX4_find 106 = .ok (.iload_n 3, 1) := by decide +kernel
theorem dX4_find_107 : decode cX4_find 107 = .ok (.invokevirtual 56, 3) := by decide +kernel
theorem dX4_find_110 : decode cX4_find 110 = .ok (.putfield 60, 3) := by decide +kernel
theorem dX4_find_113 : decode cX4_find 113 = .ok (.aload_n 0, 1) := by decide +kernel
theorem dX4_find_114 : decode cX4_find 114 = .ok (.getfield 60, 3) := by decide +kernel
theorem dX4_find_117 : decode cX4_find 117 = .ok (.iconst (-1), 1) := by decide +kernel
theorem dX4_find_118 : decode cX4_find 118 = .ok (.if_icmp .ne 5, 3) := by decide +kernel
theorem dX4_find_121 : decode cX4_find 121 = .ok (.iconst 0, 1) := by decide +kernel
theorem dX4_find_122 : decode cX4_find 122 = .ok (.ireturn, 1) := by decide +kernel
theorem dX4_find_123 : decode cX4_find 123 = .ok (.aload_n 0, 1) := by decide +kernel
theorem dX4_find_124 : decode cX4_find 124 = .ok (.iload_n 3, 1) := by decide +kernel
theorem dX4_find_125 : decode cX4_find 125 = .ok (.invokevirtual 63, 3) := by decide +kernel
theorem dX4_find_128 : decode cX4_find 128 = .ok (.aload_n 0, 1) := by decide +kernel
theorem dX4_find_129 : decode cX4_find 129 = .ok (.iload_n 3, 1) := by decide +kernel
theorem dX4_find_130 : decode cX4_find 130 = .ok (.invokevirtual 67, 3) := by decide +kernel
theorem dX4_find_133 : decode cX4_find 133 = .ok (.iconst 1, 1) := by decide +kernel
theorem dX4_find_134 : decode cX4_find 134 = .ok (.ireturn, 1) := by decide +kernel
abbrev dpX4_find : Nat := 3
def fX4_find_97 (k16 : (Nat × Option Nat × Option Nat × Int32 × Int32 × Int32) → St → Option (Bool × St)) (a0 : Nat) (x1 : Option Nat) (x2 : Option Nat) (x3 : Int32) (x4 : Int32) (x5 : Int32) (y0 : Int32) (y1 : Int32) (y2 : Option Nat) : St → Option (Bool × St) :=
 nn y2 fun a3001 =>
 wI a3001 y1 y0 <|
 k16 (a0, x1, x2, x3, x4, (x5 + 1))
set_option maxHeartbeats 4000000 in
set_option maxRecDepth 100000 in
theorem sfX4_find_97 {E : Ev} {l : Launch} (k16 : (Nat × Option Nat × Option Nat × Int32 × Int32 × Int32) → St → Option (Bool × St)) (hk16 : ∀ p : Nat × Option Nat × Option Nat × Int32 × Int32 × Int32, Snd E l (dpX4_find, RX4, cX4_find, 7, (some .boolean), "find") rvZ 16 [(0, .ref (E.1 + p.1)), (1, rf E.1 p.2.1), (2, rf E.1 p.2.2.1), (3, .int p.2.2.2.1), (4, .int p.2.2.2.2.1), (5, .int p.2.2.2.2.2)] [] (k16 p)) (a0 : Nat) (x1 : Option Nat) (x2 : Option Nat) (x3 : Int32) (x4 : Int32) (x5 : Int32) (y0 : Int32) (y1 : Int32) (y2 : Option Nat) : Snd E l (dpX4_find, RX4, cX4_find, 7, (some .boolean), "find") rvZ 97 [(0, .ref (E.1 + a0)), (1, rf E.1 x1), (2, rf E.1 x2), (3, .int x3), (4, .int x4), (5, .int x5)] [.int y0, .int y1, rf E.1 y2] (fX4_find_97 k16 a0 x1 x2 x3 x4 x5 y0 y1 y2) := by
  unfold fX4_find_97
  rcases y2 with _ | a3001
  · exact sn_no
  refine sn_nn ?_
  refine sn_iast (pc := 97) dX4_find_97 ?_
  refine sn_iinc (pc := 98) (v := x5 + 1) (lv' := [(5, .int (x5 + 1)), (0, .ref (E.1 + a0)), (1, rf E.1 x1), (2, rf E.1 x2), (3, .int x3), (4, .int x4)]) (j := 5) dX4_find_98 rfl rfl (by decide) rfl ?_
  refine sn_goto (pc := 101) (tgt := 16) dX4_find_101 (by decide) ?_
  exact sn_sub (lv' := [(0, .ref (E.1 + a0)), (1, rf E.1 x1), (2, rf E.1 x2), (3, .int x3), (4, .int x4), (5, .int (x5 + 1))]) [1, 2, 3, 4, 5, 0] rfl (hk16 (a0, x1, x2, x3, x4, (x5 + 1)))
def fX4_find_61 (k16 : (Nat × Option Nat × Option Nat × Int32 × Int32 × Int32) → St → Option (Bool × St)) (a0 : Nat) (x1 : Option Nat) (x2 : Option Nat) (x3 : Int32) (x4 : Int32) (x5 : Int32) (x6 : Option Nat) (y0 : Int32) (y1 : Int32) (y2 : Option Nat) : St → Option (Bool × St) :=
 nn y2 fun a2001 =>
 wI a2001 y1 y0 <|
 gR 5 a0 4 fun v2002 =>
 on x6 (fX4_find_97 k16 a0 x1 x2 x3 x4 x5 0 x5 v2002)
 fun a2003 => nn x2 fun a2005 =>
 gI 6 a2005 2 fun v2004 =>
 nn x1 fun a2007 =>
 gI 11 a2007 4 fun v2006 =>
 ck 3 a2003 <| cl (fX2_hoursIn a2003 v2006 x4) fun v2008 =>
 ck 3 a2003 <| cl (fX2_canDo a2003 v2004 v2008) fun v2009 =>
 fX4_find_97 k16 a0 (some a2007) (some a2005) x3 x4 x5 v2009 x5 v2002
set_option maxHeartbeats 4000000 in
set_option maxRecDepth 100000 in
theorem sfX4_find_61 {E : Ev} {l : Launch} (k16 : (Nat × Option Nat × Option Nat × Int32 × Int32 × Int32) → St → Option (Bool × St)) (hk16 : ∀ p : Nat × Option Nat × Option Nat × Int32 × Int32 × Int32, Snd E l (dpX4_find, RX4, cX4_find, 7, (some .boolean), "find") rvZ 16 [(0, .ref (E.1 + p.1)), (1, rf E.1 p.2.1), (2, rf E.1 p.2.2.1), (3, .int p.2.2.2.1), (4, .int p.2.2.2.2.1), (5, .int p.2.2.2.2.2)] [] (k16 p)) (a0 : Nat) (x1 : Option Nat) (x2 : Option Nat) (x3 : Int32) (x4 : Int32) (x5 : Int32) (x6 : Option Nat) (y0 : Int32) (y1 : Int32) (y2 : Option Nat) : Snd E l (dpX4_find, RX4, cX4_find, 7, (some .boolean), "find") rvZ 61 [(0, .ref (E.1 + a0)), (1, rf E.1 x1), (2, rf E.1 x2), (3, .int x3), (4, .int x4), (5, .int x5), (6, rf E.1 x6)] [.int y0, .int y1, rf E.1 y2] (fX4_find_61 k16 a0 x1 x2 x3 x4 x5 x6 y0 y1 y2) := by
  unfold fX4_find_61
  rcases y2 with _ | a2001
  · exact sn_no
  refine sn_nn ?_
  refine sn_iast (pc := 61) dX4_find_61 ?_
  refine sn_aload_n (pc := 62) (j := 0) dX4_find_62 rfl rfl ?_
  refine sn_gR (pc := 63) dX4_find_63 flX4_9 rfl (fun v2002 => ?_)
  refine sn_iload (pc := 66) (j := 5) dX4_find_66 rfl ?_
  refine sn_aloadR (pc := 68) (r := x6) (j := 6) dX4_find_68 rfl ?_
  rcases x6 with _ | a2003
  · refine sn_onN ?_
    refine sn_ifnonnull_n (pc := 70) dX4_find_70 ?_
    refine sn_iconst (pc := 73) (v := 0) dX4_find_73 (by decide) ?_
    refine sn_goto (pc := 74) (tgt := 97) dX4_find_74 (by decide) ?_
    exact sn_sub (lv' := [(0, .ref (E.1 + a0)), (1, rf E.1 x1), (2, rf E.1 x2), (3, .int x3), (4, .int x4), (5, .int x5)]) [0, 1, 2, 3, 4, 5] rfl (sfX4_find_97 k16 hk16 a0 x1 x2 x3 x4 x5 0 x5 v2002)
  · refine sn_onS ?_
    refine sn_ifnonnull_s (pc := 70) (tgt := 77) dX4_find_70 (by decide) ?_
    refine sn_aload (pc := 77) (j := 6) dX4_find_77 rfl ?_
    refine sn_aloadR_n (pc := 79) (r := x2) (j := 2) dX4_find_79 rfl rfl ?_
    rcases x2 with _ | a2005
    · exact sn_no
    refine sn_nn ?_
    refine sn_gI (pc := 80) dX4_find_80 flX4_43 rfl (fun v2004 => ?_)
    refine sn_aload (pc := 83) (j := 6) dX4_find_83 rfl ?_
    refine sn_aloadR_n (pc := 85) (r := x1) (j := 1) dX4_find_85 rfl rfl ?_
    rcases x1 with _ | a2007
    · exact sn_no
    refine sn_nn ?_
    refine sn_gI (pc := 86) dX4_find_86 flX4_48 rfl (fun v2006 => ?_)
    refine sn_iload (pc := 89) (j := 4) dX4_find_89 rfl ?_
    refine sn_callV (ci := 2) (pc := 91) dX4_find_91 iX2_hoursIn wt5_50 wt5_51 wt5_49 ⟨_, rfl, rfl⟩ (by decide) (mX2_hoursIn a2003 v2006 x4) (by decide) rfl rfl (by simp [rf_some, rf_cat, cat_int, cat_long, cat_ref, rvV, rvI, rvZ, rvR, rvJ]) (fun v2008 => ?_)
    refine sn_callV (ci := 2) (pc := 94) dX4_find_94 iX2_canDo wt5_56 wt5_57 wt5_55 ⟨_, rfl, rfl⟩ (by decide) (mX2_canDo a2003 v2004 v2008) (by decide) rfl rfl (by simp [rf_some, rf_cat, cat_int, cat_long, cat_ref, rvV, rvI, rvZ, rvR, rvJ]) (fun v2009 => ?_)
    exact sn_sub (lv' := [(0, .ref (E.1 + a0)), (1, .ref (E.1 + a2007)), (2, .ref (E.1 + a2005)), (3, .int x3), (4, .int x4), (5, .int x5)]) [0, 1, 2, 3, 4, 5] rfl (sfX4_find_97 k16 hk16 a0 (some a2007) (some a2005) x3 x4 x5 v2009 x5 v2002)
def fX4_find_16 (k16 : (Nat × Option Nat × Option Nat × Int32 × Int32 × Int32) → St → Option (Bool × St)) (a0 : Nat) (x1 : Option Nat) (x2 : Option Nat) (x3 : Int32) (x4 : Int32) (x5 : Int32) : St → Option (Bool × St) :=
 gI 5 a0 3 fun v1001 =>
 br (v1001 ≤ x5) (ck 5 a0 <| cl (fX4_fewestFor a0 x3) fun v1002 =>
 pI 5 a0 0 v1002 <|
 gI 5 a0 0 fun v1003 =>
 br (v1003 = (-1)) (rtZ 0)
 (ck 5 a0 <| cl (fX4_chooseSet a0 x3) fun v1004 =>
 ck 5 a0 <| cl (fX4_shareOut a0 x3) fun v1005 =>
 rtZ 1))
 (nn x1 fun a1006 =>
 ck 11 a1006 <| cl (fX10_handAt a1006 x5) fun v1007 =>
 gR 5 a0 6 fun v1008 =>
 nn v1008 fun a1009 =>
 wI a1009 x5 0 <|
 gR 5 a0 5 fun v1010 =>
 on v1007 (fX4_find_61 k16 a0 (some a1006) x2 x3 x4 x5 none 0 x5 v1010)
 fun a1011 => gI 3 a1011 0 fun v1012 =>
 fX4_find_61 k16 a0 (some a1006) x2 x3 x4 x5 (some a1011) v1012 x5 v1010)
set_option maxHeartbeats 4000000 in
set_option maxRecDepth 100000 in
theorem sfX4_find_16 {E : Ev} {l : Launch} (k16 : (Nat × Option Nat × Option Nat × Int32 × Int32 × Int32) → St → Option (Bool × St)) (hk16 : ∀ p : Nat × Option Nat × Option Nat × Int32 × Int32 × Int32, Snd E l (dpX4_find, RX4, cX4_find, 7, (some .boolean), "find") rvZ 16 [(0, .ref (E.1 + p.1)), (1, rf E.1 p.2.1), (2, rf E.1 p.2.2.1), (3, .int p.2.2.2.1), (4, .int p.2.2.2.2.1), (5, .int p.2.2.2.2.2)] [] (k16 p)) (a0 : Nat) (x1 : Option Nat) (x2 : Option Nat) (x3 : Int32) (x4 : Int32) (x5 : Int32) : Snd E l (dpX4_find, RX4, cX4_find, 7, (some .boolean), "find") rvZ 16 [(0, .ref (E.1 + a0)), (1, rf E.1 x1), (2, rf E.1 x2), (3, .int x3), (4, .int x4), (5, .int x5)] [] (fX4_find_16 k16 a0 x1 x2 x3 x4 x5) := by
  unfold fX4_find_16
  refine sn_iload (pc := 16) (j := 5) dX4_find_16 rfl ?_
  refine sn_aload_n (pc := 18) (j := 0) dX4_find_18 rfl rfl ?_
  refine sn_gI (pc := 19) dX4_find_19 flX4_33 rfl (fun v1001 => ?_)
  refine sn_icmp_ge (pc := 22) (tgt := 104) dX4_find_22 (by decide) ?_ ?_
  · refine sn_aload_n (pc := 104) (j := 0) dX4_find_104 rfl rfl ?_
    refine sn_aload_n (pc := 105) (j := 0) dX4_find_105 rfl rfl ?_
    refine sn_iload_n (pc := 106) (j := 3) dX4_find_106 rfl rfl ?_
    refine sn_callV (ci := 4) (pc := 107) dX4_find_107 iX4_fewestFor wt5_62 ws_28 wt5_60 ⟨_, rfl, rfl⟩ (by decide) (mX4_fewestFor a0 x3) (by decide) rfl rfl (Nat.le_of_ble_eq_true rfl) (fun v1002 => ?_)
    refine sn_pI (pc := 110) dX4_find_110 flX4_60 rfl rfl (Or.inl rfl) ?_
    refine sn_aload_n (pc := 113) (j := 0) dX4_find_113 rfl rfl ?_
    refine sn_gI (pc := 114) dX4_find_114 flX4_60 rfl (fun v1003 => ?_)
    refine sn_iconst (pc := 117) (v := (-1)) dX4_find_117 (by decide) ?_
    refine sn_icmp_ne (pc := 118) (tgt := 123) dX4_find_118 (by decide) ?_ ?_
    · refine sn_aload_n (pc := 123) (j := 0) dX4_find_123 rfl rfl ?_
      refine sn_iload_n (pc := 124) (j := 3) dX4_find_124 rfl rfl ?_
      refine sn_callV (ci := 4) (pc := 125) dX4_find_125 iX4_chooseSet wt5_69 ws_29 wt5_67 ⟨_, rfl, rfl⟩ (by decide) (mX4_chooseSet a0 x3) (by decide) rfl rfl (Nat.le_of_ble_eq_true rfl) (fun v1004 => ?_)
      refine sn_aload_n (pc := 128) (j := 0) dX4_find_128 rfl rfl ?_
      refine sn_iload_n (pc := 129) (j := 3) dX4_find_129 rfl rfl ?_
      refine sn_callV (ci := 4) (pc := 130) dX4_find_130 iX4_shareOut wt5_88 ws_32 wt5_86 ⟨_, rfl, rfl⟩ (by decide) (mX4_shareOut a0 x3) (by decide) rfl rfl (Nat.le_of_ble_eq_true rfl) (fun v1005 => ?_)
      refine sn_iconst (pc := 133) (v := 1) dX4_find_133 (by decide) ?_
      exact sn_zret (pc := 134) dX4_find_134 rfl
    · refine sn_iconst (pc := 121) (v := 0) dX4_find_121 (by decide) ?_
      exact sn_zret (pc := 122) dX4_find_122 rfl
  · refine sn_aloadR_n (pc := 25) (r := x1) (j := 1) dX4_find_25 rfl rfl ?_
    refine sn_iload (pc := 26) (j := 5) dX4_find_26 rfl ?_
    rcases x1 with _ | a1006
    · exact sn_no
    refine sn_nn ?_
    refine sn_callV (ci := 10) (pc := 28) dX4_find_28 iX10_handAt wt4_54 wt4_55 wt5_48 ⟨_, rfl, rfl⟩ (by decide) (mX10_handAt a1006 x5) (by decide) rfl rfl (Nat.le_of_ble_eq_true rfl) (fun v1007 => ?_)
    refine sn_astoreR (pc := 31) (r := v1007) (i := 6) (lv' := [(6, rf E.1 v1007), (0, .ref (E.1 + a0)), (1, .ref (E.1 + a1006)), (2, rf E.1 x2), (3, .int x3), (4, .int x4), (5, .int x5)]) dX4_find_31 (by decide) rfl ?_
    refine sn_aload_n (pc := 33) (j := 1) dX4_find_33 rfl rfl ?_
    refine sn_gR (pc := 34) dX4_find_34 flX4_18 rfl (fun v1008 => ?_)
    refine sn_iload (pc := 37) (j := 6) dX4_find_37 rfl ?_
    refine sn_iconst (pc := 39) (v := 0) dX4_find_39 (by decide) ?_
    rcases v1008 with _ | a1009
    · exact sn_no
    refine sn_nn ?_
    refine sn_iast (pc := 40) dX4_find_40 ?_
    refine sn_aload_n (pc := 41) (j := 1) dX4_find_41 rfl rfl ?_
    refine sn_gR (pc := 42) dX4_find_42 flX4_15 rfl (fun v1010 => ?_)
    refine sn_iload (pc := 45) (j := 6) dX4_find_45 rfl ?_
    refine sn_aloadR (pc := 47) (r := v1007) (j := 0) dX4_find_47 rfl ?_
    rcases v1007 with _ | a1011
    · refine sn_onN ?_
      refine sn_ifnonnull_n (pc := 49) dX4_find_49 ?_
      refine sn_iconst (pc := 52) (v := 0) dX4_find_52 (by decide) ?_
      refine sn_goto (pc := 53) (tgt := 61) dX4_find_53 (by decide) ?_
      exact sn_sub (lv' := [(0, .ref (E.1 + a0)), (1, .ref (E.1 + a1006)), (2, rf E.1 x2), (3, .int x3), (4, .int x4), (5, .int x5), (6, rf E.1 none)]) [1, 2, 3, 4, 5, 6, 0] rfl (sfX4_find_61 k16 hk16 a0 (some a1006) x2 x3 x4 x5 none 0 x5 v1010)
    · refine sn_onS ?_
      refine sn_ifnonnull_s (pc := 49) (tgt := 56) dX4_find_49 (by decide) ?_
      refine sn_aload (pc := 56) (j := 0) dX4_find_56 rfl ?_
      refine sn_gI (pc := 58) dX4_find_58 flX4_38 rfl (fun v1012 => ?_)
      exact sn_sub (lv' := [(0, .ref (E.1 + a0)), (1, .ref (E.1 + a1006)), (2, rf E.1 x2), (3, .int x3), (4, .int x4), (5, .int x5), (6, .ref (E.1 + a1011))]) [1, 2, 3, 4, 5, 6, 0] rfl (sfX4_find_61 k16 hk16 a0 (some a1006) x2 x3 x4 x5 (some a1011) v1012 x5 v1010)
def fX4_find (a0 : Nat) (x1 : Option Nat) (x2 : Option Nat) (x3 : Int32) (x4 : Int32) : St → Option (Bool × St) :=
 nn x1 fun a2 =>
 gI 11 a2 10 fun v1 =>
 pI 5 a0 3 (mnI v1 12) <|
 itr (fun k (p : Nat × Option Nat × Option Nat × Int32 × Int32 × Int32) => fX4_find_16  k p.1 p.2.1 p.2.2.1 p.2.2.2.1 p.2.2.2.2.1 p.2.2.2.2.2) FU (a0, (some a2), x2, x3, x4, 0)
set_option maxHeartbeats 4000000 in
set_option maxRecDepth 100000 in
theorem mX4_find {E : Ev} {l : Launch} (a0 : Nat) (x1 : Option Nat) (x2 : Option Nat) (x3 : Int32) (x4 : Int32) : MF E l dpX4_find yX4_find cX4_find 7 (some .boolean) rvZ [.ref (E.1 + a0), rf E.1 x1, rf E.1 x2, .int x3, .int x4] (fX4_find a0 x1 x2 x3 x4) := by
  refine MF.of (lv := [(0, .ref (E.1 + a0)), (1, rf E.1 x1), (2, rf E.1 x2), (3, .int x3), (4, .int x4)]) (by decide) (by simp [lg_sl, rf_cat, cat_int, cat_long, cat_ref]) (by simp [lv_args, rf_cat, cat_int, cat_long, cat_ref]) ?_
  unfold fX4_find
  refine sn_aload_n (pc := 0) (j := 0) dX4_find_0 rfl rfl ?_
  refine sn_aloadR_n (pc := 1) (r := x1) (j := 1) dX4_find_1 rfl rfl ?_
  rcases x1 with _ | a2
  · exact sn_no
  refine sn_nn ?_
  refine sn_gI (pc := 2) dX4_find_2 flX4_21 rfl (fun v1 => ?_)
  refine sn_bipush (pc := 5) (v := 12) dX4_find_5 (by decide) ?_
  refine sn_mmin (pc := 7) dX4_find_7 wt5_47 wt2_116 wt1_11 wt2_117 (by decide) (Nat.le_of_ble_eq_true rfl) ?_
  refine sn_pI (pc := 10) dX4_find_10 flX4_33 rfl rfl (Or.inl rfl) ?_
  refine sn_iconst (pc := 13) (v := 0) dX4_find_13 (by decide) ?_
  refine sn_istore (pc := 14) (i := 5) (lv' := [(5, .int 0), (0, .ref (E.1 + a0)), (1, .ref (E.1 + a2)), (2, rf E.1 x2), (3, .int x3), (4, .int x4)]) dX4_find_14 (by decide) rfl ?_
  exact sn_sub (lv' := [(0, .ref (E.1 + a0)), (1, .ref (E.1 + a2)), (2, rf E.1 x2), (3, .int x3), (4, .int x4), (5, .int 0)]) [1, 2, 3, 4, 5, 0] rfl (sn_itr (lvf := fun p => [(0, .ref (E.1 + p.1)), (1, rf E.1 p.2.1), (2, rf E.1 p.2.2.1), (3, .int p.2.2.2.1), (4, .int p.2.2.2.2.1), (5, .int p.2.2.2.2.2)]) (stf := fun p => []) (fun k hk p => sfX4_find_16  k hk p.1 p.2.1 p.2.2.1 p.2.2.2.1 p.2.2.2.2.1 p.2.2.2.2.2) FU (a0, (some a2), x2, x3, x4, 0))
theorem iX4_find : MI yX4_find cX4_find 7 (some .boolean) 4 := ⟨wt1_8, wt5_46, by decide +kernel, by decide⟩
-- NeedleHomes$Parting shareOf(I)I
theorem dX4_shareOf_0 : decode cX4_shareOf 0 = .ok (.iload_n 1, 1) := by decide +kernel
theorem dX4_shareOf_1 : decode cX4_shareOf 1 = .ok (.iconst 0, 1) := by decide +kernel
theorem dX4_shareOf_2 : decode cX4_shareOf 2 = .ok (.aload_n 0, 1) := by decide +kernel
theorem dX4_shareOf_3 : decode cX4_shareOf 3 = .ok (.getfield 33, 3) := by decide +kernel
theorem dX4_shareOf_6 : decode cX4_shareOf 6 = .ok (.iconst 1, 1) := by decide +kernel
theorem dX4_shareOf_7 : decode cX4_shareOf 7 = .ok (.isub, 1) := by decide +kernel
theorem dX4_shareOf_8 : decode cX4_shareOf 8 = .ok (.invokestatic 70, 3) := by decide +kernel
theorem dX4_shareOf_11 : decode cX4_shareOf 11 = .ok (.ifCond .eq 18, 3) := by decide +kernel
theorem dX4_shareOf_14 : decode cX4_shareOf 14 = .ok (.iload_n 1, 1) := by decide +kernel
theorem dX4_shareOf_15 : decode cX4_shareOf 15 = .ok (.bipush 12, 2) := by decide +kernel
theorem dX4_shareOf_17 : decode cX4_shareOf 17 = .ok (.if_icmp .ge 12, 3) := by decide +kernel
theorem dX4_shareOf_20 : decode cX4_shareOf 20 = .ok (.aload_n 0, 1) := by decide +kernel
theorem dX4_shareOf_21 : decode cX4_shareOf 21 = .ok (.getfield 18, 3) := by decide +kernel
theorem dX4_shareOf_24 : decode cX4_shareOf 24 = .ok (.iload_n 1, 1) := by decide +kernel
theorem dX4_shareOf_25 : decode cX4_shareOf 25 = .ok (.iaload, 1) := by decide +kernel
theorem dX4_shareOf_26 : decode cX4_shareOf 26 = .ok (.goto 4, 3) := by decide +kernel
theorem dX4_shareOf_29 : decode cX4_shareOf 29 = .ok (.iconst 0, 1) := by decide +kernel
theorem dX4_shareOf_30 : decode cX4_shareOf 30 = .ok (.ireturn, 1) := by decide +kernel
abbrev dpX4_shareOf : Nat := 1
def fX4_shareOf (a0 : Nat) (x1 : Int32) : St → Option (Int32 × St) :=
 gI 5 a0 3 fun v1 =>
 cl (fX11_within x1 0 (v1 - 1)) fun v2 =>
 br ((bi v2) = 0) (rt 0)
 (br (12 ≤ x1) (rt 0)
 (gR 5 a0 6 fun v3 =>
 nn v3 fun a5 =>
 aI 15 a5 x1 fun v4 =>
 rt v4))
set_option maxHeartbeats 4000000 in
set_option maxRecDepth 100000 in
theorem mX4_shareOf {E : Ev} {l : Launch} (a0 : Nat) (x1 : Int32) : MF E l dpX4_shareOf yX4_shareOf cX4_shareOf 2 (some .int) rvI [.ref (E.1 + a0), .int x1] (fX4_shareOf a0 x1) := by
  refine MF.of (lv := [(0, .ref (E.1 + a0)), (1, .int x1)]) (by decide) (Nat.le_of_ble_eq_true rfl) rfl ?_
  unfold fX4_shareOf
  refine sn_iload_n (pc := 0) (j := 1) dX4_shareOf_0 rfl rfl ?_
  refine sn_iconst (pc := 1) (v := 0) dX4_shareOf_1 (by decide) ?_
  refine sn_aload_n (pc := 2) (j := 0) dX4_shareOf_2 rfl rfl ?_
  refine sn_gI (pc := 3) dX4_shareOf_3 flX4_33 rfl (fun v1 => ?_)
  refine sn_iconst (pc := 6) (v := 1) dX4_shareOf_6 (by decide) ?_
  refine sn_isub (pc := 7) dX4_shareOf_7 ?_
  refine sn_callSN (pc := 8) dX4_shareOf_8 iX11_within wt2_96 (List.mem_of_getElem? (i := 19) rfl) (mX11_within x1 0 (v1 - 1)) (by decide) rfl rfl (Nat.le_of_ble_eq_true rfl) (fun v2 => ?_)
  refine sn_if_eq (pc := 11) (tgt := 29) dX4_shareOf_11 (by decide) ?_ ?_
  · refine sn_iconst (pc := 29) (v := 0) dX4_shareOf_29 (by decide) ?_
    exact sn_iret (pc := 30) dX4_shareOf_30 rfl
  · refine sn_iload_n (pc := 14) (j := 1) dX4_shareOf_14 rfl rfl ?_
    refine sn_bipush (pc := 15) (v := 12) dX4_shareOf_15 (by decide) ?_
    refine sn_icmp_ge (pc := 17) (tgt := 29) dX4_shareOf_17 (by decide) ?_ ?_
    · refine sn_iconst (pc := 29) (v := 0) dX4_shareOf_29 (by decide) ?_
      exact sn_iret (pc := 30) dX4_shareOf_30 rfl
    · refine sn_aload_n (pc := 20) (j := 0) dX4_shareOf_20 rfl rfl ?_
      refine sn_gR (pc := 21) dX4_shareOf_21 flX4_18 rfl (fun v3 => ?_)
      refine sn_iload_n (pc := 24) (j := 1) dX4_shareOf_24 rfl rfl ?_
      rcases v3 with _ | a5
      · exact sn_no
      refine sn_nn ?_
      refine sn_iald (pc := 25) dX4_shareOf_25 (fun v4 => ?_)
      refine sn_goto (pc := 26) (tgt := 30) dX4_shareOf_26 (by decide) ?_
      exact sn_iret (pc := 30) dX4_shareOf_30 rfl
theorem iX4_shareOf : MI yX4_shareOf cX4_shareOf 2 (some .int) 1 := ⟨wt1_8, wt5_97, by decide +kernel, by decide⟩
-- NeedleHomes$PatternReader slotOf(III)I
theorem dX6_slotOf_0 : decode cX6_slotOf 0 = .ok (.iload_n 0, 1) := by decide +kernel
theorem dX6_slotOf_1 : decode cX6_slotOf 1 = .ok (.ifCond .lt 32, 3) := by decide +kernel
theorem dX6_slotOf_4 : decode cX6_slotOf 4 = .ok (.iload_n 0, 1) := by decide +kernel
theorem dX6_slotOf_5 : decode cX6_slotOf 5 = .ok (.bipush 7, 2) := by decide +kernel
theorem dX6_slotOf_7 : decode cX6_slotOf 7 = .ok (.if_icmp .ge 26, 3) := by decide +kernel
theorem dX6_slotOf_10 : decode cX6_slotOf 10 = .ok (.iload_n 1, 1) := by decide +kernel
theorem dX6_slotOf_11 : decode cX6_slotOf 11 = .ok (.ifCond .lt 22, 3) := by decide +kernel
theorem dX6_slotOf_14 : decode cX6_slotOf 14 = .ok (.iload_n 1, 1) := by decide +kernel
theorem dX6_slotOf_15 : decode cX6_slotOf 15 = .ok (.bipush 6, 2) := by decide +kernel
theorem dX6_slotOf_17 : decode cX6_slotOf 17 = .ok (.if_icmp .ge 16, 3) := by decide +kernel
theorem dX6_slotOf_20 : decode cX6_slotOf 20 = .ok (.iload_n 2, 1) := by decide +kernel
theorem dX6_slotOf_21 : decode cX6_slotOf 21 = .ok (.ifCond .lt 12, 3) := by decide +kernel
theorem dX6_slotOf_24 : decode cX6_slotOf 24 = .ok (.iload_n 2, 1) := by decide +kernel
theorem dX6_slotOf_25 : decode cX6_slotOf 25 = .ok (.iconst 5, 1) := by decide +kernel
theorem dX6_slotOf_26 : decode cX6_slotOf 26 = .ok (.if_icmp .ge 7, 3) := by decide +kernel
theorem dX6_slotOf_29 : decode cX6_slotOf 29 = .ok (.iconst 1, 1) := by decide +kernel
theorem dX6_slotOf_30 : decode cX6_slotOf 30 = .ok (.goto 4, 3) := by decide +kernel
theorem dX6_slotOf_33 : decode cX6_slotOf 33 = .ok (.iconst 0, 1) := by decide +kernel
theorem dX6_slotOf_34 : decode cX6_slotOf 34 = .ok (.istore_n 3, 1) := by decide +kernel
theorem dX6_slotOf_35 : decode cX6_slotOf 35 = .ok (.iload_n 3, 1) := by decide +kernel
theorem dX6_slotOf_36 : decode cX6_slotOf 36 = .ok (.ifCond .eq 16, 3) := by decide +kernel
theorem dX6_slotOf_39 : decode cX6_slotOf 39 = .ok (.iload_n 0, 1) := by decide +kernel
theorem dX6_slotOf_40 : decode cX6_slotOf 40 = .ok (.bipush 30, 2) := by decide +kernel
theorem dX6_slotOf_42 : decode cX6_slotOf 42 = .ok (.imul, 1) := by decide +kernel
theorem dX6_slotOf_43 : decode cX6_slotOf 43 = .ok (.iload_n 1, 1) := by decide +kernel
theorem dX6_slotOf_44 : decode cX6_slotOf 44 = .ok (.iconst 5, 1) := by decide +kernel
theorem dX6_slotOf_45 : decode cX6_slotOf 45 = .ok (.imul, 1) := by decide +kernel
theorem dX6_slotOf_46 : decode cX6_slotOf 46 = .ok (.iadd, 1) := by decide +kernel
theorem dX6_slotOf_47 : decode cX6_slotOf 47 = .ok (.iload_n 2, 1) := by decide +kernel
theorem dX6_slotOf_48 : decode cX6_slotOf 48 = .ok (.iadd, 1) := by decide +kernel
theorem dX6_slotOf_49 : decode cX6_slotOf 49 = .ok (.goto 4, 3) := by decide +kernel
theorem dX6_slotOf_52 : decode cX6_slotOf 52 = .ok (.iconst (-1), 1) := by decide +kernel
theorem dX6_slotOf_53 : decode cX6_slotOf 53 = .ok (.ireturn, 1) := by decide +kernel
abbrev dpX6_slotOf : Nat := 0
def fX6_slotOf_34 (x0 : Int32) (x1 : Int32) (x2 : Int32) (y0 : Int32) : St → Option (Int32 × St) :=
 br (y0 = 0) (rt (-1))
 (rt (((x0 * 30) + (x1 * 5)) + x2))
set_option maxHeartbeats 4000000 in
set_option maxRecDepth 100000 in
theorem sfX6_slotOf_34 {E : Ev} {l : Launch} (x0 : Int32) (x1 : Int32) (x2 : Int32) (y0 : Int32) : Snd E l (dpX6_slotOf, RX6, cX6_slotOf, 4, (some .int), "slotOf") rvI 34 [(0, .int x0), (1, .int x1), (2, .int x2)] [.int y0] (fX6_slotOf_34 x0 x1 x2 y0) := by
  unfold fX6_slotOf_34
  refine sn_istore_n (pc := 34) (i := 3) (lv' := [(3, .int y0), (0, .int x0), (1, .int x1), (2, .int x2)]) dX6_slotOf_34 rfl (by decide) rfl ?_
  refine sn_iload_n (pc := 35) (j := 0) dX6_slotOf_35 rfl rfl ?_
  refine sn_if_eq (pc := 36) (tgt := 52) dX6_slotOf_36 (by decide) ?_ ?_
  · refine sn_iconst (pc := 52) (v := (-1)) dX6_slotOf_52 (by decide) ?_
    exact sn_iret (pc := 53) dX6_slotOf_53 rfl
  · refine sn_iload_n (pc := 39) (j := 1) dX6_slotOf_39 rfl rfl ?_
    refine sn_bipush (pc := 40) (v := 30) dX6_slotOf_40 (by decide) ?_
    refine sn_imul (pc := 42) dX6_slotOf_42 ?_
    refine sn_iload_n (pc := 43) (j := 2) dX6_slotOf_43 rfl rfl ?_
    refine sn_iconst (pc := 44) (v := 5) dX6_slotOf_44 (by decide) ?_
    refine sn_imul (pc := 45) dX6_slotOf_45 ?_
    refine sn_iadd (pc := 46) dX6_slotOf_46 ?_
    refine sn_iload_n (pc := 47) (j := 3) dX6_slotOf_47 rfl rfl ?_
    refine sn_iadd (pc := 48) dX6_slotOf_48 ?_
    refine sn_goto (pc := 49) (tgt := 53) dX6_slotOf_49 (by decide) ?_
    exact sn_iret (pc := 53) dX6_slotOf_53 rfl
def fX6_slotOf_33 (x0 : Int32) (x1 : Int32) (x2 : Int32) : St → Option (Int32 × St) :=
 fX6_slotOf_34  x0 x1 x2 0
set_option maxHeartbeats 4000000 in
set_option maxRecDepth 100000 in
theorem sfX6_slotOf_33 {E : Ev} {l : Launch} (x0 : Int32) (x1 : Int32) (x2 : Int32) : Snd E l (dpX6_slotOf, RX6, cX6_slotOf, 4, (some .int), "slotOf") rvI 33 [(0, .int x0), (1, .int x1), (2, .int x2)] [] (fX6_slotOf_33 x0 x1 x2) := by
  unfold fX6_slotOf_33
  refine sn_iconst (pc := 33) (v := 0) dX6_slotOf_33 (by decide) ?_
  exact sn_sub (lv' := [(0, .int x0), (1, .int x1), (2, .int x2)]) [0, 1, 2] rfl (sfX6_slotOf_34  x0 x1 x2 0)
def fX6_slotOf (x0 : Int32) (x1 : Int32) (x2 : Int32) : St → Option (Int32 × St) :=
 br (x0 < 0) (fX6_slotOf_33  x0 x1 x2)
 (br (7 ≤ x0) (fX6_slotOf_33  x0 x1 x2)
 (br (x1 < 0) (fX6_slotOf_33  x0 x1 x2)
 (br (6 ≤ x1) (fX6_slotOf_33  x0 x1 x2)
 (br (x2 < 0) (fX6_slotOf_33  x0 x1 x2)
 (br (5 ≤ x2) (fX6_slotOf_33  x0 x1 x2)
 (fX6_slotOf_34  x0 x1 x2 1))))))
set_option maxHeartbeats 4000000 in
set_option maxRecDepth 100000 in
theorem mX6_slotOf {E : Ev} {l : Launch} (x0 : Int32) (x1 : Int32) (x2 : Int32) : MF E l dpX6_slotOf yX6_slotOf cX6_slotOf 4 (some .int) rvI [.int x0, .int x1, .int x2] (fX6_slotOf x0 x1 x2) := by
  refine MF.of (lv := [(0, .int x0), (1, .int x1), (2, .int x2)]) (by decide) (Nat.le_of_ble_eq_true rfl) rfl ?_
  unfold fX6_slotOf
  refine sn_iload_n (pc := 0) (j := 0) dX6_slotOf_0 rfl rfl ?_
  refine sn_if_lt (pc := 1) (tgt := 33) dX6_slotOf_1 (by decide) ?_ ?_
  · exact sn_sub (lv' := [(0, .int x0), (1, .int x1), (2, .int x2)]) [0, 1, 2] rfl (sfX6_slotOf_33  x0 x1 x2)
  · refine sn_iload_n (pc := 4) (j := 0) dX6_slotOf_4 rfl rfl ?_
    refine sn_bipush (pc := 5) (v := 7) dX6_slotOf_5 (by decide) ?_
    refine sn_icmp_ge (pc := 7) (tgt := 33) dX6_slotOf_7 (by decide) ?_ ?_
    · exact sn_sub (lv' := [(0, .int x0), (1, .int x1), (2, .int x2)]) [0, 1, 2] rfl (sfX6_slotOf_33  x0 x1 x2)
    · refine sn_iload_n (pc := 10) (j := 1) dX6_slotOf_10 rfl rfl ?_
      refine sn_if_lt (pc := 11) (tgt := 33) dX6_slotOf_11 (by decide) ?_ ?_
      · exact sn_sub (lv' := [(0, .int x0), (1, .int x1), (2, .int x2)]) [0, 1, 2] rfl (sfX6_slotOf_33  x0 x1 x2)
      · refine sn_iload_n (pc := 14) (j := 1) dX6_slotOf_14 rfl rfl ?_
        refine sn_bipush (pc := 15) (v := 6) dX6_slotOf_15 (by decide) ?_
        refine sn_icmp_ge (pc := 17) (tgt := 33) dX6_slotOf_17 (by decide) ?_ ?_
        · exact sn_sub (lv' := [(0, .int x0), (1, .int x1), (2, .int x2)]) [0, 1, 2] rfl (sfX6_slotOf_33  x0 x1 x2)
        · refine sn_iload_n (pc := 20) (j := 2) dX6_slotOf_20 rfl rfl ?_
          refine sn_if_lt (pc := 21) (tgt := 33) dX6_slotOf_21 (by decide) ?_ ?_
          · exact sn_sub (lv' := [(0, .int x0), (1, .int x1), (2, .int x2)]) [0, 1, 2] rfl (sfX6_slotOf_33  x0 x1 x2)
          · refine sn_iload_n (pc := 24) (j := 2) dX6_slotOf_24 rfl rfl ?_
            refine sn_iconst (pc := 25) (v := 5) dX6_slotOf_25 (by decide) ?_
            refine sn_icmp_ge (pc := 26) (tgt := 33) dX6_slotOf_26 (by decide) ?_ ?_
            · exact sn_sub (lv' := [(0, .int x0), (1, .int x1), (2, .int x2)]) [0, 1, 2] rfl (sfX6_slotOf_33  x0 x1 x2)
            · refine sn_iconst (pc := 29) (v := 1) dX6_slotOf_29 (by decide) ?_
              refine sn_goto (pc := 30) (tgt := 34) dX6_slotOf_30 (by decide) ?_
              exact sn_sub (lv' := [(0, .int x0), (1, .int x1), (2, .int x2)]) [0, 1, 2] rfl (sfX6_slotOf_34  x0 x1 x2 1)
theorem iX6_slotOf : MI yX6_slotOf cX6_slotOf 4 (some .int) 3 := ⟨wt1_4, wt2_185, by decide +kernel, by decide⟩
-- NeedleHomes$PatternReader countAt(III)I
theorem dX6_countAt_0 : decode cX6_countAt 0 = .ok (.iload_n 1, 1) := by decide +kernel
theorem dX6_countAt_1 : decode cX6_countAt 1 = .ok (.iload_n 2, 1) := by decide +kernel
theorem dX6_countAt_2 : decode cX6_countAt 2 = .ok (.iload_n 3, 1) := by decide +kernel
theorem dX6_countAt_3 : decode cX6_countAt 3 = .ok (.invokestatic 115, 3) := by decide +kernel
theorem dX6_countAt_6 : decode cX6_countAt 6 = .ok (.istore 4, 2) := by decide +kernel
theorem dX6_countAt_8 : decode cX6_countAt 8 = .ok (.iload 4, 2) := by decide +kernel
theorem dX6_countAt_10 : decode cX6_countAt 10 = .ok (.iconst (-1), 1) := by decide +kernel
theorem dX6_countAt_11 : decode cX6_countAt 11 = .ok (.if_icmp .ne 7, 3) := by decide +kernel
theorem dX6_countAt_14 : decode cX6_countAt 14 = .ok (.iconst 0, 1) := by decide +kernel
theorem dX6_countAt_15 : decode cX6_countAt 15 = .ok (.goto 10, 3) := by decide +kernel
theorem dX6_countAt_18 : decode cX6_countAt 18 = .ok (.aload_n 0, 1) := by decide +kernel
theorem dX6_countAt_19 : decode cX6_countAt 19 = .ok (.getfield 18, 3) := by decide +kernel
theorem dX6_countAt_22 : decode cX6_countAt 22 = .ok (.iload 4, 2) := by decide +kernel
theorem dX6_countAt_24 : decode cX6_countAt 24 = .ok (.iaload, 1) := by decide +kernel
theorem dX6_countAt_25 : decode cX6_countAt 25 = .ok (.ireturn, 1) := by decide +kernel
abbrev dpX6_countAt : Nat := 1
def fX6_countAt (a0 : Nat) (x1 : Int32) (x2 : Int32) (x3 : Int32) : St → Option (Int32 × St) :=
 cl (fX6_slotOf x1 x2 x3) fun v1 =>
 br (v1 = (-1)) (rt 0)
 (gR 7 a0 2 fun v2 =>
 nn v2 fun a4 =>
 aI 15 a4 v1 fun v3 =>
 rt v3)
set_option maxHeartbeats 4000000 in
set_option maxRecDepth 100000 in
theorem mX6_countAt {E : Ev} {l : Launch} (a0 : Nat) (x1 : Int32) (x2 : Int32) (x3 : Int32) : MF E l dpX6_countAt yX6_countAt cX6_countAt 5 (some .int) rvI [.ref (E.1 + a0), .int x1, .int x2, .int x3] (fX6_countAt a0 x1 x2 x3) := by
  refine MF.of (lv := [(0, .ref (E.1 + a0)), (1, .int x1), (2, .int x2), (3, .int x3)]) (by decide) (Nat.le_of_ble_eq_true rfl) rfl ?_
  unfold fX6_countAt
  refine sn_iload_n (pc := 0) (j := 1) dX6_countAt_0 rfl rfl ?_
  refine sn_iload_n (pc := 1) (j := 2) dX6_countAt_1 rfl rfl ?_
  refine sn_iload_n (pc := 2) (j := 3) dX6_countAt_2 rfl rfl ?_
  refine sn_callS (pc := 3) dX6_countAt_3 iX6_slotOf wt2_184 wt2_183 (mX6_slotOf x1 x2 x3) (by decide) rfl rfl (Nat.le_of_ble_eq_true rfl) (fun v1 => ?_)
  refine sn_istore (pc := 6) (i := 4) (lv' := [(4, .int v1), (0, .ref (E.1 + a0)), (1, .int x1), (2, .int x2), (3, .int x3)]) dX6_countAt_6 (by decide) rfl ?_
  refine sn_iload (pc := 8) (j := 0) dX6_countAt_8 rfl ?_
  refine sn_iconst (pc := 10) (v := (-1)) dX6_countAt_10 (by decide) ?_
  refine sn_icmp_ne (pc := 11) (tgt := 18) dX6_countAt_11 (by decide) ?_ ?_
  · refine sn_aload_n (pc := 18) (j := 1) dX6_countAt_18 rfl rfl ?_
    refine sn_gR (pc := 19) dX6_countAt_19 flX6_18 rfl (fun v2 => ?_)
    refine sn_iload (pc := 22) (j := 0) dX6_countAt_22 rfl ?_
    rcases v2 with _ | a4
    · exact sn_no
    refine sn_nn ?_
    refine sn_iald (pc := 24) dX6_countAt_24 (fun v3 => ?_)
    exact sn_iret (pc := 25) dX6_countAt_25 rfl
  · refine sn_iconst (pc := 14) (v := 0) dX6_countAt_14 (by decide) ?_
    refine sn_goto (pc := 15) (tgt := 25) dX6_countAt_15 (by decide) ?_
    exact sn_iret (pc := 25) dX6_countAt_25 rfl
theorem iX6_countAt : MI yX6_countAt cX6_countAt 5 (some .int) 3 := ⟨wt1_4, wt2_213, by decide +kernel, by decide⟩
-- NeedleHomes$Pattern <init>(IILNeedleHomes$PatternReader;)V
theorem dX5_init_0 : decode cX5_init 0 = .ok (.aload_n 0, 1) := by decide +kernel
theorem dX5_init_1 : decode cX5_init 1 = .ok (.invokespecial 3, 3) := by decide +kernel
theorem dX5_init_4 : decode cX5_init 4 = .ok (.aload_n 0, 1) := by decide +kernel
theorem dX5_init_5 : decode cX5_init 5 = .ok (.bipush 24, 2) := by decide +kernel
theorem dX5_init_7 : decode cX5_init 7 = .ok (.newarray .int, 2) := by decide +kernel
theorem dX5_init_9 : decode cX5_init 9 = .ok (.putfield 9, 3) := by decide +kernel
theorem dX5_init_12 : decode cX5_init 12 = .ok (.aload_n 0, 1) := by decide +kernel
theorem dX5_init_13 : decode cX5_init 13 = .ok (.iload_n 1, 1) := by decide +kernel
theorem dX5_init_14 : decode cX5_init 14 = .ok (.putfield 15, 3) := by decide +kernel
theorem dX5_init_17 : decode cX5_init 17 = .ok (.aload_n 0, 1) := by decide +kernel
theorem dX5_init_18 : decode cX5_init 18 = .ok (.iload_n 2, 1) := by decide +kernel
theorem dX5_init_19 : decode cX5_init 19 = .ok (.putfield 19, 3) := by decide +kernel
theorem dX5_init_22 : decode cX5_init 22 = .ok (.iconst 0, 1) := by decide +kernel
theorem dX5_init_23 : decode cX5_init 23 = .ok (.istore 4, 2) := by decide +kernel
theorem dX5_init_25 : decode cX5_init 25 = .ok (.iconst 0, 1) := by decide +kernel
theorem dX5_init_26 : decode cX5_init 26 = .ok (.istore 5, 2) := by decide +kernel
theorem dX5_init_28 : decode cX5_init 28 = .ok (.iload 5, 2) := by decide +kernel
theorem dX5_init_30 : decode cX5_init 30 = .ok (.bipush 6, 2) := by decide +kernel
theorem dX5_init_32 : decode cX5_init 32 = .ok (.if_icmp .ge 62, 3) := by decide +kernel
theorem dX5_init_35 : decode cX5_init 35 = .ok (.iconst 0, 1) := by decide +kernel
theorem dX5_init_36 : decode cX5_init 36 = .ok (.istore 6, 2) := by decide +kernel
theorem dX5_init_38 : decode cX5_init 38 = .ok (.iload 6, 2) := by decide +kernel
theorem dX5_init_40 : decode cX5_init 40 = .ok (.iconst 4, 1) := by decide +kernel
theorem dX5_init_41 : decode cX5_init 41 = .ok (.if_icmp .ge 47, 3) := by decide +kernel
theorem dX5_init_44 : decode cX5_init 44 = .ok (.aload_n 0, 1) := by decide +kernel
theorem dX5_init_45 : decode cX5_init 45 = .ok (.getfield 9, 3) := by decide +kernel
theorem dX5_init_48 : decode cX5_init 48 = .ok (.iload 5, 2) := by decide +kernel
theorem dX5_init_50 : decode cX5_init 50 = .ok (.iconst 4, 1) := by decide +kernel
theorem dX5_init_51 : decode cX5_init 51 = .ok (.imul, 1) := by decide +kernel
theorem dX5_init_52 : decode cX5_init 52 = .ok (.iload 6, 2) := by decide +kernel
theorem dX5_init_54 : decode cX5_init 54 = .ok (.iadd, 1) := by decide +kernel
theorem dX5_init_55 : decode cX5_init 55 = .ok (.aload_n 3, 1) := by decide +kernel
theorem dX5_init_56 : decode cX5_init 56 = .ok (.iconst 0, 1) := by decide +kernel
theorem dX5_init_57 : decode cX5_init 57 = .ok (.iload 5, 2) := by decide +kernel
theorem dX5_init_59 : decode cX5_init 59 = .ok (.iload 6, 2) := by decide +kernel
theorem dX5_init_61 : decode cX5_init 61 = .ok (.invokevirtual 22, 3) := by decide +kernel
theorem dX5_init_64 : decode cX5_init 64 = .ok (.iastore, 1) := by decide +kernel
theorem dX5_init_65 : decode cX5_init 65 = .ok (.iload 4, 2) := by decide +kernel
theorem dX5_init_67 : decode cX5_init 67 = .ok (.aload_n 0, 1) := by decide +kernel
theorem dX5_init_68 : decode cX5_init 68 = .ok (.getfield 9, 3) := by decide +kernel
theorem dX5_init_71 : decode cX5_init 71 = .ok (.iload 5, 2) := by decide +kernel
theorem dX5_init_73 : decode cX5_init 73 = .ok (.iconst 4, 1) := by decide +kernel
theorem dX5_init_74 : decode cX5_init 74 = .ok (.imul, 1) := by decide +kernel
theorem dX5_init_75 : decode cX5_init 75 = .ok (.iload 6, 2) := by decide +kernel
theorem dX5_init_77 : decode cX5_init 77 = .ok (.iadd, 1) := by decide +kernel
theorem dX5_init_78 : decode cX5_init 78 = .ok (.iaload, 1) := by decide +kernel
theorem dX5_init_79 : decode cX5_init 79 = .ok (.iadd, 1) := by decide +kernel
theorem dX5_init_80 : decode cX5_init 80 = .ok (.istore 4, 2) := by decide +kernel
theorem dX5_init_82 : decode cX5_init 82 = .ok (.iinc 6 1, 3) := by decide +kernel
theorem dX5_init_85 : decode cX5_init 85 = .ok (.goto (-47), 3) := by decide +kernel
theorem dX5_init_88 : decode cX5_init 88 = .ok (.iinc 5 1, 3) := by decide +kernel
theorem dX5_init_91 : decode cX5_init 91 = .ok (.goto (-63), 3) := by decide +kernel
theorem dX5_init_94 : decode cX5_init 94 = .ok (.aload_n 0, 1) := by decide +kernel
theorem dX5_init_95 : decode cX5_init 95 = .ok (.iload 4, 2) := by decide +kernel
theorem dX5_init_97 : decode cX5_init 97 = .ok (.putfield 28, 3) := by decide +kernel
theorem dX5_init_100 : decode cX5_init 100 = .ok (.return_, 1) := by decide +kernel
abbrev dpX5_init : Nat := 2
def fX5_init_38 (k28 : (Nat × Option Nat × Int32 × Int32) → St → Option (Unit × St)) (k38 : (Nat × Option Nat × Int32 × Int32 × Int32) → St → Option (Unit × St)) (a0 : Nat) (x3 : Option Nat) (x4 : Int32) (x5 : Int32) (x6 : Int32) : St → Option (Unit × St) :=
 br (4 ≤ x6) (k28 (a0, x3, x4, (x5 + 1)))
 (gR 6 a0 3 fun v2001 =>
 nn x3 fun a2002 =>
 ck 7 a2002 <| cl (fX6_countAt a2002 0 x5 x6) fun v2003 =>
 nn v2001 fun a2004 =>
 wI a2004 ((x5 * 4) + x6) v2003 <|
 gR 6 a0 3 fun v2005 =>
 nn v2005 fun a2007 =>
 aI 15 a2007 ((x5 * 4) + x6) fun v2006 =>
 k38 (a0, (some a2002), (x4 + v2006), x5, (x6 + 1)))
set_option maxHeartbeats 4000000 in
set_option maxRecDepth 100000 in
theorem sfX5_init_38 {E : Ev} {l : Launch} (k28 : (Nat × Option Nat × Int32 × Int32) → St → Option (Unit × St)) (hk28 : ∀ p : Nat × Option Nat × Int32 × Int32, Snd E l (dpX5_init, RX5, cX5_init, 7, none, "<init>") rvV 28 [(0, .ref (E.1 + p.1)), (3, rf E.1 p.2.1), (4, .int p.2.2.1), (5, .int p.2.2.2)] [] (k28 p)) (k38 : (Nat × Option Nat × Int32 × Int32 × Int32) → St → Option (Unit × St)) (hk38 : ∀ p : Nat × Option Nat × Int32 × Int32 × Int32, Snd E l (dpX5_init, RX5, cX5_init, 7, none, "<init>") rvV 38 [(0, .ref (E.1 + p.1)), (3, rf E.1 p.2.1), (4, .int p.2.2.1), (5, .int p.2.2.2.1), (6, .int p.2.2.2.2)] [] (k38 p)) (a0 : Nat) (x3 : Option Nat) (x4 : Int32) (x5 : Int32) (x6 : Int32) : Snd E l (dpX5_init, RX5, cX5_init, 7, none, "<init>") rvV 38 [(0, .ref (E.1 + a0)), (3, rf E.1 x3), (4, .int x4), (5, .int x5), (6, .int x6)] [] (fX5_init_38 k28 k38 a0 x3 x4 x5 x6) := by
  unfold fX5_init_38
  refine sn_iload (pc := 38) (j := 4) dX5_init_38 rfl ?_
  refine sn_iconst (pc := 40) (v := 4) dX5_init_40 (by decide) ?_
  refine sn_icmp_ge (pc := 41) (tgt := 88) dX5_init_41 (by decide) ?_ ?_
  · refine sn_iinc (pc := 88) (v := x5 + 1) (lv' := [(5, .int (x5 + 1)), (0, .ref (E.1 + a0)), (3, rf E.1 x3), (4, .int x4), (6, .int x6)]) (j := 3) dX5_init_88 rfl rfl (by decide) rfl ?_
    refine sn_goto (pc := 91) (tgt := 28) dX5_init_91 (by decide) ?_
    exact sn_sub (lv' := [(0, .ref (E.1 + a0)), (3, rf E.1 x3), (4, .int x4), (5, .int (x5 + 1))]) [1, 2, 3, 0] rfl (hk28 (a0, x3, x4, (x5 + 1)))
  · refine sn_aload_n (pc := 44) (j := 0) dX5_init_44 rfl rfl ?_
    refine sn_gR (pc := 45) dX5_init_45 flX5_9 rfl (fun v2001 => ?_)
    refine sn_iload (pc := 48) (j := 3) dX5_init_48 rfl ?_
    refine sn_iconst (pc := 50) (v := 4) dX5_init_50 (by decide) ?_
    refine sn_imul (pc := 51) dX5_init_51 ?_
    refine sn_iload (pc := 52) (j := 4) dX5_init_52 rfl ?_
    refine sn_iadd (pc := 54) dX5_init_54 ?_
    refine sn_aloadR_n (pc := 55) (r := x3) (j := 1) dX5_init_55 rfl rfl ?_
    refine sn_iconst (pc := 56) (v := 0) dX5_init_56 (by decide) ?_
    refine sn_iload (pc := 57) (j := 3) dX5_init_57 rfl ?_
    refine sn_iload (pc := 59) (j := 4) dX5_init_59 rfl ?_
    rcases x3 with _ | a2002
    · exact sn_no
    refine sn_nn ?_
    refine sn_callV (ci := 6) (pc := 61) dX5_init_61 iX6_countAt wt2_211 wt2_212 wt2_229 ⟨_, rfl, rfl⟩ (by decide) (mX6_countAt a2002 0 x5 x6) (by decide) rfl rfl (by simp [rf_some, rf_cat, cat_int, cat_long, cat_ref, rvV, rvI, rvZ, rvR, rvJ]) (fun v2003 => ?_)
    rcases v2001 with _ | a2004
    · exact sn_no
    refine sn_nn ?_
    refine sn_iast (pc := 64) dX5_init_64 ?_
    refine sn_iload (pc := 65) (j := 2) dX5_init_65 rfl ?_
    refine sn_aload_n (pc := 67) (j := 0) dX5_init_67 rfl rfl ?_
    refine sn_gR (pc := 68) dX5_init_68 flX5_9 rfl (fun v2005 => ?_)
    refine sn_iload (pc := 71) (j := 3) dX5_init_71 rfl ?_
    refine sn_iconst (pc := 73) (v := 4) dX5_init_73 (by decide) ?_
    refine sn_imul (pc := 74) dX5_init_74 ?_
    refine sn_iload (pc := 75) (j := 4) dX5_init_75 rfl ?_
    refine sn_iadd (pc := 77) dX5_init_77 ?_
    rcases v2005 with _ | a2007
    · exact sn_no
    refine sn_nn ?_
    refine sn_iald (pc := 78) dX5_init_78 (fun v2006 => ?_)
    refine sn_iadd (pc := 79) dX5_init_79 ?_
    refine sn_istore (pc := 80) (i := 4) (lv' := [(4, .int (x4 + v2006)), (0, .ref (E.1 + a0)), (3, .ref (E.1 + a2002)), (5, .int x5), (6, .int x6)]) dX5_init_80 (by decide) rfl ?_
    refine sn_iinc (pc := 82) (v := x6 + 1) (lv' := [(6, .int (x6 + 1)), (4, .int (x4 + v2006)), (0, .ref (E.1 + a0)), (3, .ref (E.1 + a2002)), (5, .int x5)]) (j := 4) dX5_init_82 rfl rfl (by decide) rfl ?_
    refine sn_goto (pc := 85) (tgt := 38) dX5_init_85 (by decide) ?_
    exact sn_sub (lv' := [(0, .ref (E.1 + a0)), (3, .ref (E.1 + a2002)), (4, .int (x4 + v2006)), (5, .int x5), (6, .int (x6 + 1))]) [2, 3, 1, 4, 0] rfl (hk38 (a0, (some a2002), (x4 + v2006), x5, (x6 + 1)))
def fX5_init_28 (k28 : (Nat × Option Nat × Int32 × Int32) → St → Option (Unit × St)) (a0 : Nat) (x3 : Option Nat) (x4 : Int32) (x5 : Int32) : St → Option (Unit × St) :=
 br (6 ≤ x5) (pI 6 a0 2 x4 <|
 rt ())
 (itr (fun k (p : Nat × Option Nat × Int32 × Int32 × Int32) => fX5_init_38 k28 k p.1 p.2.1 p.2.2.1 p.2.2.2.1 p.2.2.2.2) FU (a0, x3, x4, x5, 0))
set_option maxHeartbeats 4000000 in
set_option maxRecDepth 100000 in
theorem sfX5_init_28 {E : Ev} {l : Launch} (k28 : (Nat × Option Nat × Int32 × Int32) → St → Option (Unit × St)) (hk28 : ∀ p : Nat × Option Nat × Int32 × Int32, Snd E l (dpX5_init, RX5, cX5_init, 7, none, "<init>") rvV 28 [(0, .ref (E.1 + p.1)), (3, rf E.1 p.2.1), (4, .int p.2.2.1), (5, .int p.2.2.2)] [] (k28 p)) (a0 : Nat) (x3 : Option Nat) (x4 : Int32) (x5 : Int32) : Snd E l (dpX5_init, RX5, cX5_init, 7, none, "<init>") rvV 28 [(0, .ref (E.1 + a0)), (3, rf E.1 x3), (4, .int x4), (5, .int x5)] [] (fX5_init_28 k28 a0 x3 x4 x5) := by
  unfold fX5_init_28
  refine sn_iload (pc := 28) (j := 3) dX5_init_28 rfl ?_
  refine sn_bipush (pc := 30) (v := 6) dX5_init_30 (by decide) ?_
  refine sn_icmp_ge (pc := 32) (tgt := 94) dX5_init_32 (by decide) ?_ ?_
  · refine sn_aload_n (pc := 94) (j := 0) dX5_init_94 rfl rfl ?_
    refine sn_iload (pc := 95) (j := 2) dX5_init_95 rfl ?_
    refine sn_pI (pc := 97) dX5_init_97 flX5_28 rfl rfl (Or.inr ⟨rfl, rfl, rfl⟩) ?_
    exact sn_vret (pc := 100) dX5_init_100 rfl
  · refine sn_iconst (pc := 35) (v := 0) dX5_init_35 (by decide) ?_
    refine sn_istore (pc := 36) (i := 6) (lv' := [(6, .int 0), (0, .ref (E.1 + a0)), (3, rf E.1 x3), (4, .int x4), (5, .int x5)]) dX5_init_36 (by decide) rfl ?_
    exact sn_sub (lv' := [(0, .ref (E.1 + a0)), (3, rf E.1 x3), (4, .int x4), (5, .int x5), (6, .int 0)]) [1, 2, 3, 4, 0] rfl (sn_itr (lvf := fun p => [(0, .ref (E.1 + p.1)), (3, rf E.1 p.2.1), (4, .int p.2.2.1), (5, .int p.2.2.2.1), (6, .int p.2.2.2.2)]) (stf := fun p => []) (fun k hk p => sfX5_init_38 k28 hk28 k hk p.1 p.2.1 p.2.2.1 p.2.2.2.1 p.2.2.2.2) FU (a0, x3, x4, x5, 0))
def fX5_init (a0 : Nat) (x1 : Int32) (x2 : Int32) (x3 : Option Nat) : St → Option (Unit × St) :=
 nA 15 24 fun a1 =>
 pR 6 a0 3 (some a1) <|
 pI 6 a0 0 x1 <|
 pI 6 a0 1 x2 <|
 itr (fun k (p : Nat × Option Nat × Int32 × Int32) => fX5_init_28  k p.1 p.2.1 p.2.2.1 p.2.2.2) FU (a0, x3, 0, 0)
set_option maxHeartbeats 4000000 in
set_option maxRecDepth 100000 in
theorem mX5_init {E : Ev} {l : Launch} (a0 : Nat) (x1 : Int32) (x2 : Int32) (x3 : Option Nat) : MF E l dpX5_init yX5_init cX5_init 7 none rvV [.ref (E.1 + a0), .int x1, .int x2, rf E.1 x3] (fX5_init a0 x1 x2 x3) := by
  refine MF.of (lv := [(0, .ref (E.1 + a0)), (1, .int x1), (2, .int x2), (3, rf E.1 x3)]) (by decide) (by simp [lg_sl, rf_cat, cat_int, cat_long, cat_ref]) (by simp [lv_args, rf_cat, cat_int, cat_long, cat_ref]) ?_
  unfold fX5_init
  refine sn_aload_n (pc := 0) (j := 0) dX5_init_0 rfl rfl ?_
  refine sn_objInit (pc := 1) dX5_init_1 wt2_228 w_oi w_oc (by decide) (Nat.le_of_ble_eq_true rfl) ?_
  refine sn_aload_n (pc := 4) (j := 0) dX5_init_4 rfl rfl ?_
  refine sn_bipush (pc := 5) (v := 24) dX5_init_5 (by decide) ?_
  refine sn_newI (pc := 7) dX5_init_7 wt1_109 (fun a1 => ?_)
  refine sn_pR (pc := 9) (v := (some a1)) dX5_init_9 flX5_9 rfl (Or.inr ⟨_, rfl⟩) (Or.inr ⟨rfl, rfl, rfl⟩) ?_
  refine sn_aload_n (pc := 12) (j := 0) dX5_init_12 rfl rfl ?_
  refine sn_iload_n (pc := 13) (j := 1) dX5_init_13 rfl rfl ?_
  refine sn_pI (pc := 14) dX5_init_14 flX5_15 rfl rfl (Or.inr ⟨rfl, rfl, rfl⟩) ?_
  refine sn_aload_n (pc := 17) (j := 0) dX5_init_17 rfl rfl ?_
  refine sn_iload_n (pc := 18) (j := 2) dX5_init_18 rfl rfl ?_
  refine sn_pI (pc := 19) dX5_init_19 flX5_19 rfl rfl (Or.inr ⟨rfl, rfl, rfl⟩) ?_
  refine sn_iconst (pc := 22) (v := 0) dX5_init_22 (by decide) ?_
  refine sn_istore (pc := 23) (i := 4) (lv' := [(4, .int 0), (0, .ref (E.1 + a0)), (1, .int x1), (2, .int x2), (3, rf E.1 x3)]) dX5_init_23 (by decide) (by simp [rf_some, rf_cat, cat_int, cat_long, cat_ref]) ?_
  refine sn_iconst (pc := 25) (v := 0) dX5_init_25 (by decide) ?_
  refine sn_istore (pc := 26) (i := 5) (lv' := [(5, .int 0), (4, .int 0), (0, .ref (E.1 + a0)), (1, .int x1), (2, .int x2), (3, rf E.1 x3)]) dX5_init_26 (by decide) rfl ?_
  exact sn_sub (lv' := [(0, .ref (E.1 + a0)), (3, rf E.1 x3), (4, .int 0), (5, .int 0)]) [2, 5, 1, 0] rfl (sn_itr (lvf := fun p => [(0, .ref (E.1 + p.1)), (3, rf E.1 p.2.1), (4, .int p.2.2.1), (5, .int p.2.2.2)]) (stf := fun p => []) (fun k hk p => sfX5_init_28  k hk p.1 p.2.1 p.2.2.1 p.2.2.2) FU (a0, x3, 0, 0))
theorem iX5_init : MI yX5_init cX5_init 7 none 3 := ⟨wt1_12, wt2_227, by decide +kernel, by decide⟩
