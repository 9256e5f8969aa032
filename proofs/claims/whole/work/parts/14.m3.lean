-- NeedleHomes$Reader isWord(Ljava/lang/String;)Z
theorem dX8_isWord_0 : decode cX8_isWord 0 = .ok (.aload_n 0, 1) := by decide +kernel
theorem dX8_isWord_1 : decode cX8_isWord 1 = .ok (.getfield 50, 3) := by decide +kernel
theorem dX8_isWord_4 : decode cX8_isWord 4 = .ok (.iconst 1, 1) := by decide +kernel
theorem dX8_isWord_5 : decode cX8_isWord 5 = .ok (.if_icmp .ne 19, 3) := by decide +kernel
theorem dX8_isWord_8 : decode cX8_isWord 8 = .ok (.aload_n 0, 1) := by decide +kernel
theorem dX8_isWord_9 : decode cX8_isWord 9 = .ok (.getfield 28, 3) := by decide +kernel
theorem dX8_isWord_12 : decode cX8_isWord 12 = .ok (.aload_n 0, 1) := by decide +kernel
theorem dX8_isWord_13 : decode cX8_isWord 13 = .ok (.getfield 44, 3) := by decide +kernel
theorem dX8_isWord_16 : decode cX8_isWord 16 = .ok (.isub, 1) := by decide +kernel
theorem dX8_isWord_17 : decode cX8_isWord 17 = .ok (.aload_n 1, 1) := by decide +kernel
theorem dX8_isWord_18 : decode cX8_isWord 18 = .ok (.invokevirtual 66, 3) := by decide +kernel
theorem dX8_isWord_21 : decode cX8_isWord 21 = .ok (.if_icmp .eq 5, 3) := by decide +kernel
theorem dX8_isWord_24 : decode cX8_isWord 24 = .ok (.iconst 0, 1) := by decide +kernel
theorem dX8_isWord_25 : decode cX8_isWord 25 = .ok (.ireturn, 1) := by decide +kernel
theorem dX8_isWord_26 : decode cX8_isWord 26 = .ok (.iconst 0, 1) := by decide +kernel
theorem dX8_isWord_27 : decode cX8_isWord 27 = .ok (.istore_n 2, 1) := by decide +kernel
theorem dX8_isWord_28 : decode cX8_isWord 28 = .ok (.iload_n 2, 1) := by decide +kernel
theorem dX8_isWord_29 : decode cX8_isWord 29 = .ok (.aload_n 1, 1) := by decide +kernel
theorem dX8_isWord_30 : decode cX8_isWord 30 = .ok (.invokevirtual 66, 3) := by decide +kernel
theorem dX8_isWord_33 : decode cX8_isWord 33 = .ok (.if_icmp .ge 29, 3) := by decide +kernel
theorem dX8_isWord_36 : decode cX8_isWord 36 = .ok (.aload_n 0, 1) := by decide +kernel
theorem dX8_isWord_37 : decode cX8_isWord 37 = .ok (.aload_n 0, 1) := by decide +kernel
theorem dX8_isWord_38 : decode cX8_isWord 38 = .ok (.getfield 44, 3) := by decide +kernel
theorem dX8_isWord_41 : decode cX8_isWord 41 = .ok (.iload_n 2, 1) := by decide +kernel
theorem dX8_isWord_42 : decode cX8_isWord 42 = .ok (.iadd, 1) := by decide +kernel
theorem dX8_isWord_43 : decode cX8_isWord 43 = .ok (.invokevirtual 40, 3) := by decide +kernel
theorem dX8_isWord_46 : decode cX8_isWord 46 = .ok (.aload_n 1, 1) := by decide +kernel
theorem dX8_isWord_47 : decode cX8_isWord 47 = .ok (.iload_n 2, 1) := by decide +kernel
theorem dX8_isWord_48 : decode cX8_isWord 48 = .ok (.invokevirtual 71, 3) := by decide +kernel
theorem dX8_isWord_51 : decode cX8_isWord 51 = .ok (.if_icmp .eq 5, 3) := by decide +kernel
theorem dX8_isWord_54 : decode cX8_isWord 54 = .ok (.iconst 0, 1) := by decide +kernel
theorem dX8_isWord_55 : decode cX8_isWord 55 = .ok (.ireturn, 1) := by decide +kernel
theorem dX8_isWord_56 : decode cX8_isWord 56 = .ok (.iinc 2 1, 3) := by decide +kernel
theorem dX8_isWord_59 : decode cX8_isWord 59 = .ok (.goto (-31), 3) := by decide +kernel
theorem dX8_isWord_62 : decode cX8_isWord 62 = .ok (.iconst 1, 1) := by decide +kernel
theorem dX8_isWord_63 : decode cX8_isWord 63 = .ok (.ireturn, 1) := by decide +kernel
abbrev dpX8_isWord : Nat := 5
def fX8_isWord_28 (x1 : Nat) (k28 : (Nat × Int32) → St → Option (Bool × St)) (a0 : Nat) (x2 : Int32) : St → Option (Bool × St) :=
 cl (fStr_length x1) fun v1001 =>
 br (v1001 ≤ x2) (rtZ 1)
 (gI 9 a0 2 fun v1002 =>
 ck 9 a0 <| cl (fX8_byteAt a0 (v1002 + x2)) fun v1003 =>
 cl (fStr_charAt x1 x2) fun v1004 =>
 br (v1003 = v1004) (k28 (a0, (x2 + 1)))
 (rtZ 0))
set_option maxHeartbeats 4000000 in
set_option maxRecDepth 100000 in
theorem sfX8_isWord_28 {E : Ev} {l : Launch} (x1 : Nat) (hi1 : x1 < 17)  (k28 : (Nat × Int32) → St → Option (Bool × St)) (hk28 : ∀ p : Nat × Int32, Snd E l (dpX8_isWord, RX8, cX8_isWord, 3, (some .boolean), "isWord") rvZ 28 [(1, .ref (E.2.2.2.1 x1)), (0, .ref (E.1 + p.1)), (2, .int p.2)] [] (k28 p)) (a0 : Nat) (x2 : Int32) : Snd E l (dpX8_isWord, RX8, cX8_isWord, 3, (some .boolean), "isWord") rvZ 28 [(1, .ref (E.2.2.2.1 x1)), (0, .ref (E.1 + a0)), (2, .int x2)] [] (fX8_isWord_28 x1 k28 a0 x2) := by
  unfold fX8_isWord_28
  refine sn_iload_n (pc := 28) (j := 2) dX8_isWord_28 rfl rfl ?_
  refine sn_aload_n (pc := 29) (j := 0) dX8_isWord_29 rfl rfl ?_
  refine sn_str_length (pc := 30) dX8_isWord_30 wt3_37 hi1 (by decide) (Nat.le_of_ble_eq_true rfl) (fun v1001 => ?_)
  refine sn_icmp_ge (pc := 33) (tgt := 62) dX8_isWord_33 (by decide) ?_ ?_
  · refine sn_iconst (pc := 62) (v := 1) dX8_isWord_62 (by decide) ?_
    exact sn_zret (pc := 63) dX8_isWord_63 rfl
  · refine sn_aload_n (pc := 36) (j := 1) dX8_isWord_36 rfl rfl ?_
    refine sn_aload_n (pc := 37) (j := 1) dX8_isWord_37 rfl rfl ?_
    refine sn_gI (pc := 38) dX8_isWord_38 flX8_44 rfl (fun v1002 => ?_)
    refine sn_iload_n (pc := 41) (j := 2) dX8_isWord_41 rfl rfl ?_
    refine sn_iadd (pc := 42) dX8_isWord_42 ?_
    refine sn_callV (ci := 8) (pc := 43) dX8_isWord_43 iX8_byteAt wt2_127 ws_0 wt2_125 ⟨_, rfl, rfl⟩ (by decide) (mX8_byteAt a0 (v1002 + x2)) (by decide) rfl rfl (Nat.le_of_ble_eq_true rfl) (fun v1003 => ?_)
    refine sn_aload_n (pc := 46) (j := 0) dX8_isWord_46 rfl rfl ?_
    refine sn_iload_n (pc := 47) (j := 2) dX8_isWord_47 rfl rfl ?_
    refine sn_str_charAt (pc := 48) dX8_isWord_48 wt3_47 hi1 (by decide) (Nat.le_of_ble_eq_true rfl) (fun v1004 => ?_)
    refine sn_icmp_eq (pc := 51) (tgt := 56) dX8_isWord_51 (by decide) ?_ ?_
    · refine sn_iinc (pc := 56) (v := x2 + 1) (lv' := [(2, .int (x2 + 1)), (1, .ref (E.2.2.2.1 x1)), (0, .ref (E.1 + a0))]) (j := 2) dX8_isWord_56 rfl rfl (by decide) rfl ?_
      refine sn_goto (pc := 59) (tgt := 28) dX8_isWord_59 (by decide) ?_
      exact sn_sub (lv' := [(1, .ref (E.2.2.2.1 x1)), (0, .ref (E.1 + a0)), (2, .int (x2 + 1))]) [1, 2, 0] rfl (hk28 (a0, (x2 + 1)))
    · refine sn_iconst (pc := 54) (v := 0) dX8_isWord_54 (by decide) ?_
      exact sn_zret (pc := 55) dX8_isWord_55 rfl
def fX8_isWord (a0 : Nat) (x1 : Nat) : St → Option (Bool × St) :=
 gI 9 a0 0 fun v1 =>
 br (v1 = 1) (gI 9 a0 7 fun v2 =>
 gI 9 a0 2 fun v3 =>
 cl (fStr_length x1) fun v4 =>
 br ((v2 - v3) = v4) (itr (fun k (p : Nat × Int32) => fX8_isWord_28 x1  k p.1 p.2) FU (a0, 0))
 (rtZ 0))
 (rtZ 0)
set_option maxHeartbeats 4000000 in
set_option maxRecDepth 100000 in
theorem mX8_isWord {E : Ev} {l : Launch} (a0 : Nat) (x1 : Nat) (hi1 : x1 < 17)  : MF E l dpX8_isWord yX8_isWord cX8_isWord 3 (some .boolean) rvZ [.ref (E.1 + a0), .ref (E.2.2.2.1 x1)] (fX8_isWord a0 x1) := by
  refine MF.of (lv := [(0, .ref (E.1 + a0)), (1, .ref (E.2.2.2.1 x1))]) (by decide) (Nat.le_of_ble_eq_true rfl) rfl ?_
  unfold fX8_isWord
  refine sn_aload_n (pc := 0) (j := 0) dX8_isWord_0 rfl rfl ?_
  refine sn_gI (pc := 1) dX8_isWord_1 flX8_50 rfl (fun v1 => ?_)
  refine sn_iconst (pc := 4) (v := 1) dX8_isWord_4 (by decide) ?_
  refine sn_icmp_ne (pc := 5) (tgt := 24) dX8_isWord_5 (by decide) ?_ ?_
  · refine sn_iconst (pc := 24) (v := 0) dX8_isWord_24 (by decide) ?_
    exact sn_zret (pc := 25) dX8_isWord_25 rfl
  · refine sn_aload_n (pc := 8) (j := 0) dX8_isWord_8 rfl rfl ?_
    refine sn_gI (pc := 9) dX8_isWord_9 flX8_28 rfl (fun v2 => ?_)
    refine sn_aload_n (pc := 12) (j := 0) dX8_isWord_12 rfl rfl ?_
    refine sn_gI (pc := 13) dX8_isWord_13 flX8_44 rfl (fun v3 => ?_)
    refine sn_isub (pc := 16) dX8_isWord_16 ?_
    refine sn_aload_n (pc := 17) (j := 1) dX8_isWord_17 rfl rfl ?_
    refine sn_str_length (pc := 18) dX8_isWord_18 wt3_37 hi1 (by decide) (Nat.le_of_ble_eq_true rfl) (fun v4 => ?_)
    refine sn_icmp_eq (pc := 21) (tgt := 26) dX8_isWord_21 (by decide) ?_ ?_
    · refine sn_iconst (pc := 26) (v := 0) dX8_isWord_26 (by decide) ?_
      refine sn_istore_n (pc := 27) (i := 2) (lv' := [(2, .int 0), (0, .ref (E.1 + a0)), (1, .ref (E.2.2.2.1 x1))]) dX8_isWord_27 rfl (by decide) rfl ?_
      exact sn_sub (lv' := [(1, .ref (E.2.2.2.1 x1)), (0, .ref (E.1 + a0)), (2, .int 0)]) [2, 1, 0] rfl (sn_itr (lvf := fun p => [(1, .ref (E.2.2.2.1 x1)), (0, .ref (E.1 + p.1)), (2, .int p.2)]) (stf := fun p => []) (fun k hk p => sfX8_isWord_28 x1 hi1  k hk p.1 p.2) FU (a0, 0))
    · refine sn_iconst (pc := 24) (v := 0) dX8_isWord_24 (by decide) ?_
      exact sn_zret (pc := 25) dX8_isWord_25 rfl
theorem iX8_isWord : MI yX8_isWord cX8_isWord 3 (some .boolean) 1 := ⟨wt1_5, wt3_36, by decide +kernel, by decide⟩
-- NeedleHomes$ListReader askedHere()I
theorem dX3_askedHere_0 : decode cX3_askedHere 0 = .ok (.aload_n 0, 1) := by decide +kernel
theorem dX3_askedHere_1 : decode cX3_askedHere 1 = .ok (.getfield 12, 3) := by decide +kernel
theorem dX3_askedHere_4 : decode cX3_askedHere 4 = .ok (.ldc 121, 2) := by decide +kernel
theorem dX3_askedHere_6 : decode cX3_askedHere 6 = .ok (.invokevirtual 72, 3) := by decide +kernel
theorem dX3_askedHere_9 : decode cX3_askedHere 9 = .ok (.ifCond .eq 5, 3) := by decide +kernel
theorem dX3_askedHere_12 : decode cX3_askedHere 12 = .ok (.iconst 0, 1) := by decide +kernel
theorem dX3_askedHere_13 : decode cX3_askedHere 13 = .ok (.ireturn, 1) := by decide +kernel
theorem dX3_askedHere_14 : decode cX3_askedHere 14 = .ok (.aload_n 0, 1) := by decide +kernel
theorem dX3_askedHere_15 : decode cX3_askedHere 15 = .ok (.getfield 12, 3) := by decide +kernel
theorem dX3_askedHere_18 : decode cX3_askedHere 18 = .ok (.ldc 123, 2) := by decide +kernel
theorem dX3_askedHere_20 : decode cX3_askedHere 20 = .ok (.invokevirtual 72, 3) := by decide +kernel
theorem dX3_askedHere_23 : decode cX3_askedHere 23 = .ok (.ifCond .eq 5, 3) := by decide +kernel
theorem dX3_askedHere_26 : decode cX3_askedHere 26 = .ok (.iconst 1, 1) := by decide +kernel
theorem dX3_askedHere_27 : decode cX3_askedHere 27 = .ok (.ireturn, 1) := by decide +kernel
theorem dX3_askedHere_28 : decode cX3_askedHere 28 = .ok (.aload_n 0, 1) := by decide +kernel
theorem dX3_askedHere_29 : decode cX3_askedHere 29 = .ok (.getfield 12, 3) := by decide +kernel
theorem dX3_askedHere_32 : decode cX3_askedHere 32 = .ok (.ldc 125, 2) := by decide +kernel
theorem dX3_askedHere_34 : decode cX3_askedHere 34 = .ok (.invokevirtual 72, 3) := by decide +kernel
theorem dX3_askedHere_37 : decode cX3_askedHere 37 = .ok (.ifCond .eq 5, 3) := by decide +kernel
theorem dX3_askedHere_40 : decode cX3_askedHere 40 = .ok (.iconst 2, 1) := by decide +kernel
theorem dX3_askedHere_41 : decode cX3_askedHere 41 = .ok (.ireturn, 1) := by decide +kernel
theorem dX3_askedHere_42 : decode cX3_askedHere 42 = .ok (.aload_n 0, 1) := by decide +kernel
theorem dX3_askedHere_43 : decode cX3_askedHere 43 = .ok (.getfield 12, 3) := by decide +kernel
theorem dX3_askedHere_46 : decode cX3_askedHere 46 = .ok (.ldc 127, 2) := by decide +kernel
theorem dX3_askedHere_48 : decode cX3_askedHere 48 = .ok (.invokevirtual 72, 3) := by decide +kernel
theorem dX3_askedHere_51 : decode cX3_askedHere 51 = .ok (.ifCond .eq 5, 3) := by decide +kernel
theorem dX3_askedHere_54 : decode cX3_askedHere 54 = .ok (.iconst 3, 1) := by decide +kernel
theorem dX3_askedHere_55 : decode cX3_askedHere 55 = .ok (.ireturn, 1) := by decide +kernel
theorem dX3_askedHere_56 : decode cX3_askedHere 56 = .ok (.aload_n 0, 1) := by decide +kernel
theorem dX3_askedHere_57 : decode cX3_askedHere 57 = .ok (.getfield 12, 3) := by decide +kernel
theorem dX3_askedHere_60 : decode cX3_askedHere 60 = .ok (.ldc 129, 2) := by decide +kernel
theorem dX3_askedHere_62 : decode cX3_askedHere 62 = .ok (.invokevirtual 72, 3) := by decide +kernel
theorem dX3_askedHere_65 : decode cX3_askedHere 65 = .ok (.ifCond .eq 5, 3) := by decide +kernel
theorem dX3_askedHere_68 : decode cX3_askedHere 68 = .ok (.iconst 4, 1) := by decide +kernel
theorem dX3_askedHere_69 : decode cX3_askedHere 69 = .ok (.ireturn, 1) := by decide +kernel
theorem dX3_askedHere_70 : decode cX3_askedHere 70 = .ok (.aload_n 0, 1) := by decide +kernel
theorem dX3_askedHere_71 : decode cX3_askedHere 71 = .ok (.getfield 12, 3) := by decide +kernel
theorem dX3_askedHere_74 : decode cX3_askedHere 74 = .ok (.ldc 131, 2) := by decide +kernel
theorem dX3_askedHere_76 : decode cX3_askedHere 76 = .ok (.invokevirtual 72, 3) := by decide +kernel
theorem dX3_askedHere_79 : decode cX3_askedHere 79 = .ok (.ifCond .eq 5, 3) := by decide +kernel
theorem dX3_askedHere_82 : decode cX3_askedHere 82 = .ok (.iconst 5, 1) := by decide +kernel
theorem dX3_askedHere_83 : decode cX3_askedHere 83 = .ok (.ireturn, 1) := by decide +kernel
theorem dX3_askedHere_84 : decode cX3_askedHere 84 = .ok (.aload_n 0, 1) := by decide +kernel
theorem dX3_askedHere_85 : decode cX3_askedHere 85 = .ok (.getfield 12, 3) := by decide +kernel
theorem dX3_askedHere_88 : decode cX3_askedHere 88 = .ok (.ldc 133, 2) := by decide +kernel
theorem dX3_askedHere_90 : decode cX3_askedHere 90 = .ok (.invokevirtual 72, 3) := by decide +kernel
theorem dX3_askedHere_93 : decode cX3_askedHere 93 = .ok (.ifCond .eq 8, 3) := by decide +kernel
theorem dX3_askedHere_96 : decode cX3_askedHere 96 = .ok (.bipush 6, 2) := by decide +kernel
theorem dX3_askedHere_98 : decode cX3_askedHere 98 = .ok (.goto 4, 3) := by decide +kernel
theorem dX3_askedHere_101 : decode cX3_askedHere 101 = .ok (.iconst (-1), 1) := by decide +kernel
theorem dX3_askedHere_102 : decode cX3_askedHere 102 = .ok (.ireturn, 1) := by decide +kernel
abbrev dpX3_askedHere : Nat := 6
def fX3_askedHere (a0 : Nat) : St → Option (Int32 × St) :=
 gR 4 a0 0 fun v1 =>
 nn v1 fun a2 =>
 ck 9 a2 <| cl (fX8_isWord a2 9) fun v3 =>
 br ((bi v3) = 0) (gR 4 a0 0 fun v4 =>
 nn v4 fun a5 =>
 ck 9 a5 <| cl (fX8_isWord a5 10) fun v6 =>
 br ((bi v6) = 0) (gR 4 a0 0 fun v7 =>
 nn v7 fun a8 =>
 ck 9 a8 <| cl (fX8_isWord a8 11) fun v9 =>
 br ((bi v9) = 0) (gR 4 a0 0 fun v10 =>
 nn v10 fun a11 =>
 ck 9 a11 <| cl (fX8_isWord a11 12) fun v12 =>
 br ((bi v12) = 0) (gR 4 a0 0 fun v13 =>
 nn v13 fun a14 =>
 ck 9 a14 <| cl (fX8_isWord a14 13) fun v15 =>
 br ((bi v15) = 0) (gR 4 a0 0 fun v16 =>
 nn v16 fun a17 =>
 ck 9 a17 <| cl (fX8_isWord a17 14) fun v18 =>
 br ((bi v18) = 0) (gR 4 a0 0 fun v19 =>
 nn v19 fun a20 =>
 ck 9 a20 <| cl (fX8_isWord a20 15) fun v21 =>
 br ((bi v21) = 0) (rt (-1))
 (rt 6))
 (rt 5))
 (rt 4))
 (rt 3))
 (rt 2))
 (rt 1))
 (rt 0)
set_option maxHeartbeats 4000000 in
set_option maxRecDepth 100000 in
theorem mX3_askedHere {E : Ev} {l : Launch} (a0 : Nat) : MF E l dpX3_askedHere yX3_askedHere cX3_askedHere 1 (some .int) rvI [.ref (E.1 + a0)] (fX3_askedHere a0) := by
  refine MF.of (lv := [(0, .ref (E.1 + a0))]) (by decide) (Nat.le_of_ble_eq_true rfl) rfl ?_
  unfold fX3_askedHere
  refine sn_aload_n (pc := 0) (j := 0) dX3_askedHere_0 rfl rfl ?_
  refine sn_gR (pc := 1) dX3_askedHere_1 flX3_12 rfl (fun v1 => ?_)
  refine sn_ldcS (pc := 4) (i := 9) dX3_askedHere_4 rfl (by decide) rfl ?_
  rcases v1 with _ | a2
  · exact sn_no
  refine sn_nn ?_
  refine sn_callV (ci := 8) (pc := 6) dX3_askedHere_6 iX8_isWord wt3_34 wt3_35 wt3_33 ⟨_, rfl, rfl⟩ (by decide) (mX8_isWord a2 9 (by decide)) (by decide) rfl rfl (Nat.le_of_ble_eq_true rfl) (fun v3 => ?_)
  refine sn_if_eq (pc := 9) (tgt := 14) dX3_askedHere_9 (by decide) ?_ ?_
  · refine sn_aload_n (pc := 14) (j := 0) dX3_askedHere_14 rfl rfl ?_
    refine sn_gR (pc := 15) dX3_askedHere_15 flX3_12 rfl (fun v4 => ?_)
    refine sn_ldcS (pc := 18) (i := 10) dX3_askedHere_18 rfl (by decide) rfl ?_
    rcases v4 with _ | a5
    · exact sn_no
    refine sn_nn ?_
    refine sn_callV (ci := 8) (pc := 20) dX3_askedHere_20 iX8_isWord wt3_34 wt3_35 wt3_33 ⟨_, rfl, rfl⟩ (by decide) (mX8_isWord a5 10 (by decide)) (by decide) rfl rfl (Nat.le_of_ble_eq_true rfl) (fun v6 => ?_)
    refine sn_if_eq (pc := 23) (tgt := 28) dX3_askedHere_23 (by decide) ?_ ?_
    · refine sn_aload_n (pc := 28) (j := 0) dX3_askedHere_28 rfl rfl ?_
      refine sn_gR (pc := 29) dX3_askedHere_29 flX3_12 rfl (fun v7 => ?_)
      refine sn_ldcS (pc := 32) (i := 11) dX3_askedHere_32 rfl (by decide) rfl ?_
      rcases v7 with _ | a8
      · exact sn_no
      refine sn_nn ?_
      refine sn_callV (ci := 8) (pc := 34) dX3_askedHere_34 iX8_isWord wt3_34 wt3_35 wt3_33 ⟨_, rfl, rfl⟩ (by decide) (mX8_isWord a8 11 (by decide)) (by decide) rfl rfl (Nat.le_of_ble_eq_true rfl) (fun v9 => ?_)
      refine sn_if_eq (pc := 37) (tgt := 42) dX3_askedHere_37 (by decide) ?_ ?_
      · refine sn_aload_n (pc := 42) (j := 0) dX3_askedHere_42 rfl rfl ?_
        refine sn_gR (pc := 43) dX3_askedHere_43 flX3_12 rfl (fun v10 => ?_)
        refine sn_ldcS (pc := 46) (i := 12) dX3_askedHere_46 rfl (by decide) rfl ?_
        rcases v10 with _ | a11
        · exact sn_no
        refine sn_nn ?_
        refine sn_callV (ci := 8) (pc := 48) dX3_askedHere_48 iX8_isWord wt3_34 wt3_35 wt3_33 ⟨_, rfl, rfl⟩ (by decide) (mX8_isWord a11 12 (by decide)) (by decide) rfl rfl (Nat.le_of_ble_eq_true rfl) (fun v12 => ?_)
        refine sn_if_eq (pc := 51) (tgt := 56) dX3_askedHere_51 (by decide) ?_ ?_
        · refine sn_aload_n (pc := 56) (j := 0) dX3_askedHere_56 rfl rfl ?_
          refine sn_gR (pc := 57) dX3_askedHere_57 flX3_12 rfl (fun v13 => ?_)
          refine sn_ldcS (pc := 60) (i := 13) dX3_askedHere_60 rfl (by decide) rfl ?_
          rcases v13 with _ | a14
          · exact sn_no
          refine sn_nn ?_
          refine sn_callV (ci := 8) (pc := 62) dX3_askedHere_62 iX8_isWord wt3_34 wt3_35 wt3_33 ⟨_, rfl, rfl⟩ (by decide) (mX8_isWord a14 13 (by decide)) (by decide) rfl rfl (Nat.le_of_ble_eq_true rfl) (fun v15 => ?_)
          refine sn_if_eq (pc := 65) (tgt := 70) dX3_askedHere_65 (by decide) ?_ ?_
          · refine sn_aload_n (pc := 70) (j := 0) dX3_askedHere_70 rfl rfl ?_
            refine sn_gR (pc := 71) dX3_askedHere_71 flX3_12 rfl (fun v16 => ?_)
            refine sn_ldcS (pc := 74) (i := 14) dX3_askedHere_74 rfl (by decide) rfl ?_
            rcases v16 with _ | a17
            · exact sn_no
            refine sn_nn ?_
            refine sn_callV (ci := 8) (pc := 76) dX3_askedHere_76 iX8_isWord wt3_34 wt3_35 wt3_33 ⟨_, rfl, rfl⟩ (by decide) (mX8_isWord a17 14 (by decide)) (by decide) rfl rfl (Nat.le_of_ble_eq_true rfl) (fun v18 => ?_)
            refine sn_if_eq (pc := 79) (tgt := 84) dX3_askedHere_79 (by decide) ?_ ?_
            · refine sn_aload_n (pc := 84) (j := 0) dX3_askedHere_84 rfl rfl ?_
              refine sn_gR (pc := 85) dX3_askedHere_85 flX3_12 rfl (fun v19 => ?_)
              refine sn_ldcS (pc := 88) (i := 15) dX3_askedHere_88 rfl (by decide) rfl ?_
              rcases v19 with _ | a20
              · exact sn_no
              refine sn_nn ?_
              refine sn_callV (ci := 8) (pc := 90) dX3_askedHere_90 iX8_isWord wt3_34 wt3_35 wt3_33 ⟨_, rfl, rfl⟩ (by decide) (mX8_isWord a20 15 (by decide)) (by decide) rfl rfl (Nat.le_of_ble_eq_true rfl) (fun v21 => ?_)
              refine sn_if_eq (pc := 93) (tgt := 101) dX3_askedHere_93 (by decide) ?_ ?_
              · refine sn_iconst (pc := 101) (v := (-1)) dX3_askedHere_101 (by decide) ?_
                exact sn_iret (pc := 102) dX3_askedHere_102 rfl
              · refine sn_bipush (pc := 96) (v := 6) dX3_askedHere_96 (by decide) ?_
                refine sn_goto (pc := 98) (tgt := 102) dX3_askedHere_98 (by decide) ?_
                exact sn_iret (pc := 102) dX3_askedHere_102 rfl
            · refine sn_iconst (pc := 82) (v := 5) dX3_askedHere_82 (by decide) ?_
              exact sn_iret (pc := 83) dX3_askedHere_83 rfl
          · refine sn_iconst (pc := 68) (v := 4) dX3_askedHere_68 (by decide) ?_
            exact sn_iret (pc := 69) dX3_askedHere_69 rfl
        · refine sn_iconst (pc := 54) (v := 3) dX3_askedHere_54 (by decide) ?_
          exact sn_iret (pc := 55) dX3_askedHere_55 rfl
      · refine sn_iconst (pc := 40) (v := 2) dX3_askedHere_40 (by decide) ?_
        exact sn_iret (pc := 41) dX3_askedHere_41 rfl
    · refine sn_iconst (pc := 26) (v := 1) dX3_askedHere_26 (by decide) ?_
      exact sn_iret (pc := 27) dX3_askedHere_27 rfl
  · refine sn_iconst (pc := 12) (v := 0) dX3_askedHere_12 (by decide) ?_
    exact sn_iret (pc := 13) dX3_askedHere_13 rfl
theorem iX3_askedHere : MI yX3_askedHere cX3_askedHere 1 (some .int) 0 := ⟨wt1_6, wt3_112, by decide +kernel, by decide⟩
-- NeedleHomes$ListReader keepTest(IIZIII)V
theorem dX3_keepTest_0 : decode cX3_keepTest 0 = .ok (.iload_n 1, 1) := by decide +kernel
theorem dX3_keepTest_1 : decode cX3_keepTest 1 = .ok (.iconst 0, 1) := by decide +kernel
theorem dX3_keepTest_2 : decode cX3_keepTest 2 = .ok (.bipush 15, 2) := by decide +kernel
theorem dX3_keepTest_4 : decode cX3_keepTest 4 = .ok (.invokestatic 63, 3) := by decide +kernel
theorem dX3_keepTest_7 : decode cX3_keepTest 7 = .ok (.ifCond .eq 12, 3) := by decide +kernel
theorem dX3_keepTest_10 : decode cX3_keepTest 10 = .ok (.iload_n 2, 1) := by decide +kernel
theorem dX3_keepTest_11 : decode cX3_keepTest 11 = .ok (.iconst 0, 1) := by decide +kernel
theorem dX3_keepTest_12 : decode cX3_keepTest 12 = .ok (.iconst 3, 1) := by decide +kernel
theorem dX3_keepTest_13 : decode cX3_keepTest 13 = .ok (.invokestatic 63, 3) := by decide +kernel
theorem dX3_keepTest_16 : decode cX3_keepTest 16 = .ok (.ifCond .ne 4, 3) := by decide +kernel
theorem dX3_keepTest_19 : decode cX3_keepTest 19 = .ok (.return_, 1) := by decide +kernel
theorem dX3_keepTest_20 : decode cX3_keepTest 20 = .ok (.iload_n 1, 1) := by decide +kernel
theorem dX3_keepTest_21 : decode cX3_keepTest 21 = .ok (.bipush 16, 2) := by decide +kernel
theorem dX3_keepTest_23 : decode cX3_keepTest 23 = .ok (.imul, 1) := by decide +kernel
theorem dX3_keepTest_24 : decode cX3_keepTest 24 = .ok (.iload_n 2, 1) := by decide +kernel
theorem dX3_keepTest_25 : decode cX3_keepTest 25 = .ok (.iconst 4, 1) := by decide +kernel
theorem dX3_keepTest_26 : decode cX3_keepTest 26 = .ok (.imul, 1) := by decide +kernel
theorem dX3_keepTest_27 : decode cX3_keepTest 27 = .ok (.iadd, 1) := by decide +kernel
theorem dX3_keepTest_28 : decode cX3_keepTest 28 = .ok (.istore 7, 2) := by decide +kernel
theorem dX3_keepTest_30 : decode cX3_keepTest 30 = .ok (.aload_n 0, 1) := by decide +kernel
theorem dX3_keepTest_31 : decode cX3_keepTest 31 = .ok (.getfield 30, 3) := by decide +kernel
theorem dX3_keepTest_34 : decode cX3_keepTest 34 = .ok (.iload 7, 2) := by decide +kernel
theorem dX3_keepTest_36 : decode cX3_keepTest 36 = .ok (.iload_n 3, 1) := by decide +kernel
theorem dX3_keepTest_37 : decode cX3_keepTest 37 = .ok (.ifCond .eq 7, 3) := by decide +kernel
theorem dX3_keepTest_40 : decode cX3_keepTest 40 = .ok (.iconst 1, 1) := by decide +kernel
theorem dX3_keepTest_41 : decode cX3_keepTest 41 = .ok (.goto 4, 3) := by decide +kernel
theorem dX3_keepTest_44 : decode cX3_keepTest 44 = .ok (.iconst 0, 1) := by decide +kernel
theorem dX3_keepTest_45 : decode cX3_keepTest 45 = .ok (.iastore, 1) := by decide +kernel
theorem dX3_keepTest_46 : decode cX3_keepTest 46 = .ok (.aload_n 0, 1) := by decide +kernel
theorem dX3_keepTest_47 : decode cX3_keepTest 47 = .ok (.getfield 30, 3) := by decide +kernel
theorem dX3_keepTest_50 : decode cX3_keepTest 50 = .ok (.iload 7, 2) := by decide +kernel
theorem dX3_keepTest_52 : decode cX3_keepTest 52 = .ok (.iconst 1, 1) := by decide +kernel
theorem dX3_keepTest_53 : decode cX3_keepTest 53 = .ok (.iadd, 1) := by decide +kernel
theorem dX3_keepTest_54 : decode cX3_keepTest 54 = .ok (.iload 4, 2) := by decide +kernel
theorem dX3_keepTest_56 : decode cX3_keepTest 56 = .ok (.iastore, 1) := by decide +kernel
theorem dX3_keepTest_57 : decode cX3_keepTest 57 = .ok (.aload_n 0, 1) := by decide +kernel
theorem dX3_keepTest_58 : decode cX3_keepTest 58 = .ok (.getfield 30, 3) := by decide +kernel
theorem dX3_keepTest_61 : decode cX3_keepTest 61 = .ok (.iload 7, 2) := by decide +kernel
theorem dX3_keepTest_63 : decode cX3_keepTest 63 = .ok (.iconst 2, 1) := by decide +kernel
theorem dX3_keepTest_64 : decode cX3_keepTest 64 = .ok (.iadd, 1) := by decide +kernel
theorem dX3_keepTest_65 : decode cX3_keepTest 65 = .ok (.iload 5, 2) := by decide +kernel
theorem dX3_keepTest_67 : decode cX3_keepTest 67 = .ok (.iastore, 1) := by decide +kernel
theorem dX3_keepTest_68 : decode cX3_keepTest 68 = .ok (.aload_n 0, 1) := by decide +kernel
theorem dX3_keepTest_69 : decode cX3_keepTest 69 = .ok (.getfield 30, 3) := by decide +kernel
theorem dX3_keepTest_72 : decode cX3_keepTest 72 = .ok (.iload 7, 2) := by decide +kernel
theorem dX3_keepTest_74 : decode cX3_keepTest 74 = .ok (.iconst 3, 1) := by decide +kernel
theorem dX3_keepTest_75 : decode cX3_keepTest 75 = .ok (.iadd, 1) := by decide +kernel
theorem dX3_keepTest_76 : decode cX3_keepTest 76 = .ok (.iload 6, 2) := by decide +kernel
theorem dX3_keepTest_78 : decode cX3_keepTest 78 = .ok (.iastore, 1) := by decide +kernel
theorem dX3_keepTest_79 : decode cX3_keepTest 79 = .ok (.aload_n 0, 1) := by decide +kernel
theorem dX3_keepTest_80 : decode cX3_keepTest 80 = .ok (.getfield 25, 3) := by decide +kernel
theorem dX3_keepTest_83 : decode cX3_keepTest 83 = .ok (.iload_n 1, 1) := by decide +kernel
theorem dX3_keepTest_84 : decode cX3_keepTest 84 = .ok (.iload_n 2, 1) := by decide +kernel
theorem dX3_keepTest_85 : decode cX3_keepTest 85 = .ok (.iconst 1, 1) := by decide +kernel
theorem dX3_keepTest_86 : decode cX3_keepTest 86 = .ok (.iadd, 1) := by decide +kernel
theorem dX3_keepTest_87 : decode cX3_keepTest 87 = .ok (.iastore, 1) := by decide +kernel
theorem dX3_keepTest_88 : decode cX3_keepTest 88 = .ok (.return_, 1) := by decide +kernel
abbrev dpX3_keepTest : Nat := 1
def fX3_keepTest_45 (a0 : Nat) (x1 : Int32) (x2 : Int32) (x4 : Int32) (x5 : Int32) (x6 : Int32) (x7 : Int32) (y0 : Int32) (y1 : Int32) (y2 : Option Nat) : St → Option (Unit × St) :=
 nn y2 fun a1001 =>
 wI a1001 y1 y0 <|
 gR 4 a0 5 fun v1002 =>
 nn v1002 fun a1003 =>
 wI a1003 (x7 + 1) x4 <|
 gR 4 a0 5 fun v1004 =>
 nn v1004 fun a1005 =>
 wI a1005 (x7 + 2) x5 <|
 gR 4 a0 5 fun v1006 =>
 nn v1006 fun a1007 =>
 wI a1007 (x7 + 3) x6 <|
 gR 4 a0 4 fun v1008 =>
 nn v1008 fun a1009 =>
 wI a1009 x1 (x2 + 1) <|
 rt ()
set_option maxHeartbeats 4000000 in
set_option maxRecDepth 100000 in
theorem sfX3_keepTest_45 {E : Ev} {l : Launch} (a0 : Nat) (x1 : Int32) (x2 : Int32) (x4 : Int32) (x5 : Int32) (x6 : Int32) (x7 : Int32) (y0 : Int32) (y1 : Int32) (y2 : Option Nat) : Snd E l (dpX3_keepTest, RX3, cX3_keepTest, 8, none, "keepTest") rvV 45 [(0, .ref (E.1 + a0)), (1, .int x1), (2, .int x2), (4, .int x4), (5, .int x5), (6, .int x6), (7, .int x7)] [.int y0, .int y1, rf E.1 y2] (fX3_keepTest_45 a0 x1 x2 x4 x5 x6 x7 y0 y1 y2) := by
  unfold fX3_keepTest_45
  rcases y2 with _ | a1001
  · exact sn_no
  refine sn_nn ?_
  refine sn_iast (pc := 45) dX3_keepTest_45 ?_
  refine sn_aload_n (pc := 46) (j := 0) dX3_keepTest_46 rfl rfl ?_
  refine sn_gR (pc := 47) dX3_keepTest_47 flX3_30 rfl (fun v1002 => ?_)
  refine sn_iload (pc := 50) (j := 6) dX3_keepTest_50 rfl ?_
  refine sn_iconst (pc := 52) (v := 1) dX3_keepTest_52 (by decide) ?_
  refine sn_iadd (pc := 53) dX3_keepTest_53 ?_
  refine sn_iload (pc := 54) (j := 3) dX3_keepTest_54 rfl ?_
  rcases v1002 with _ | a1003
  · exact sn_no
  refine sn_nn ?_
  refine sn_iast (pc := 56) dX3_keepTest_56 ?_
  refine sn_aload_n (pc := 57) (j := 0) dX3_keepTest_57 rfl rfl ?_
  refine sn_gR (pc := 58) dX3_keepTest_58 flX3_30 rfl (fun v1004 => ?_)
  refine sn_iload (pc := 61) (j := 6) dX3_keepTest_61 rfl ?_
  refine sn_iconst (pc := 63) (v := 2) dX3_keepTest_63 (by decide) ?_
  refine sn_iadd (pc := 64) dX3_keepTest_64 ?_
  refine sn_iload (pc := 65) (j := 4) dX3_keepTest_65 rfl ?_
  rcases v1004 with _ | a1005
  · exact sn_no
  refine sn_nn ?_
  refine sn_iast (pc := 67) dX3_keepTest_67 ?_
  refine sn_aload_n (pc := 68) (j := 0) dX3_keepTest_68 rfl rfl ?_
  refine sn_gR (pc := 69) dX3_keepTest_69 flX3_30 rfl (fun v1006 => ?_)
  refine sn_iload (pc := 72) (j := 6) dX3_keepTest_72 rfl ?_
  refine sn_iconst (pc := 74) (v := 3) dX3_keepTest_74 (by decide) ?_
  refine sn_iadd (pc := 75) dX3_keepTest_75 ?_
  refine sn_iload (pc := 76) (j := 5) dX3_keepTest_76 rfl ?_
  rcases v1006 with _ | a1007
  · exact sn_no
  refine sn_nn ?_
  refine sn_iast (pc := 78) dX3_keepTest_78 ?_
  refine sn_aload_n (pc := 79) (j := 0) dX3_keepTest_79 rfl rfl ?_
  refine sn_gR (pc := 80) dX3_keepTest_80 flX3_25 rfl (fun v1008 => ?_)
  refine sn_iload_n (pc := 83) (j := 1) dX3_keepTest_83 rfl rfl ?_
  refine sn_iload_n (pc := 84) (j := 2) dX3_keepTest_84 rfl rfl ?_
  refine sn_iconst (pc := 85) (v := 1) dX3_keepTest_85 (by decide) ?_
  refine sn_iadd (pc := 86) dX3_keepTest_86 ?_
  rcases v1008 with _ | a1009
  · exact sn_no
  refine sn_nn ?_
  refine sn_iast (pc := 87) dX3_keepTest_87 ?_
  exact sn_vret (pc := 88) dX3_keepTest_88 rfl
def fX3_keepTest (a0 : Nat) (x1 : Int32) (x2 : Int32) (x3 : Int32) (x4 : Int32) (x5 : Int32) (x6 : Int32) : St → Option (Unit × St) :=
 cl (fX11_within x1 0 15) fun v1 =>
 br ((bi v1) = 0) (rt ())
 (cl (fX11_within x2 0 3) fun v2 =>
 br ((bi v2) = 0) (rt ())
 (gR 4 a0 5 fun v3 =>
 br (x3 = 0) (fX3_keepTest_45  a0 x1 x2 x4 x5 x6 ((x1 * 16) + (x2 * 4)) 0 ((x1 * 16) + (x2 * 4)) v3)
 (fX3_keepTest_45  a0 x1 x2 x4 x5 x6 ((x1 * 16) + (x2 * 4)) 1 ((x1 * 16) + (x2 * 4)) v3)))
set_option maxHeartbeats 4000000 in
set_option maxRecDepth 100000 in
theorem mX3_keepTest {E : Ev} {l : Launch} (a0 : Nat) (x1 : Int32) (x2 : Int32) (x3 : Int32) (x4 : Int32) (x5 : Int32) (x6 : Int32) : MF E l dpX3_keepTest yX3_keepTest cX3_keepTest 8 none rvV [.ref (E.1 + a0), .int x1, .int x2, .int x3, .int x4, .int x5, .int x6] (fX3_keepTest a0 x1 x2 x3 x4 x5 x6) := by
  refine MF.of (lv := [(0, .ref (E.1 + a0)), (1, .int x1), (2, .int x2), (3, .int x3), (4, .int x4), (5, .int x5), (6, .int x6)]) (by decide) (Nat.le_of_ble_eq_true rfl) rfl ?_
  unfold fX3_keepTest
  refine sn_iload_n (pc := 0) (j := 1) dX3_keepTest_0 rfl rfl ?_
  refine sn_iconst (pc := 1) (v := 0) dX3_keepTest_1 (by decide) ?_
  refine sn_bipush (pc := 2) (v := 15) dX3_keepTest_2 (by decide) ?_
  refine sn_callSN (pc := 4) dX3_keepTest_4 iX11_within wt2_96 (List.mem_of_getElem? (i := 10) rfl) (mX11_within x1 0 15) (by decide) rfl rfl (Nat.le_of_ble_eq_true rfl) (fun v1 => ?_)
  refine sn_if_eq (pc := 7) (tgt := 19) dX3_keepTest_7 (by decide) ?_ ?_
  · exact sn_vret (pc := 19) dX3_keepTest_19 rfl
  · refine sn_iload_n (pc := 10) (j := 2) dX3_keepTest_10 rfl rfl ?_
    refine sn_iconst (pc := 11) (v := 0) dX3_keepTest_11 (by decide) ?_
    refine sn_iconst (pc := 12) (v := 3) dX3_keepTest_12 (by decide) ?_
    refine sn_callSN (pc := 13) dX3_keepTest_13 iX11_within wt2_96 (List.mem_of_getElem? (i := 10) rfl) (mX11_within x2 0 3) (by decide) rfl rfl (Nat.le_of_ble_eq_true rfl) (fun v2 => ?_)
    refine sn_if_ne (pc := 16) (tgt := 20) dX3_keepTest_16 (by decide) ?_ ?_
    · refine sn_iload_n (pc := 20) (j := 1) dX3_keepTest_20 rfl rfl ?_
      refine sn_bipush (pc := 21) (v := 16) dX3_keepTest_21 (by decide) ?_
      refine sn_imul (pc := 23) dX3_keepTest_23 ?_
      refine sn_iload_n (pc := 24) (j := 2) dX3_keepTest_24 rfl rfl ?_
      refine sn_iconst (pc := 25) (v := 4) dX3_keepTest_25 (by decide) ?_
      refine sn_imul (pc := 26) dX3_keepTest_26 ?_
      refine sn_iadd (pc := 27) dX3_keepTest_27 ?_
      refine sn_istore (pc := 28) (i := 7) (lv' := [(7, .int ((x1 * 16) + (x2 * 4))), (0, .ref (E.1 + a0)), (1, .int x1), (2, .int x2), (3, .int x3), (4, .int x4), (5, .int x5), (6, .int x6)]) dX3_keepTest_28 (by decide) rfl ?_
      refine sn_aload_n (pc := 30) (j := 1) dX3_keepTest_30 rfl rfl ?_
      refine sn_gR (pc := 31) dX3_keepTest_31 flX3_30 rfl (fun v3 => ?_)
      refine sn_iload (pc := 34) (j := 0) dX3_keepTest_34 rfl ?_
      refine sn_iload_n (pc := 36) (j := 4) dX3_keepTest_36 rfl rfl ?_
      refine sn_if_eq (pc := 37) (tgt := 44) dX3_keepTest_37 (by decide) ?_ ?_
      · refine sn_iconst (pc := 44) (v := 0) dX3_keepTest_44 (by decide) ?_
        exact sn_sub (lv' := [(0, .ref (E.1 + a0)), (1, .int x1), (2, .int x2), (4, .int x4), (5, .int x5), (6, .int x6), (7, .int ((x1 * 16) + (x2 * 4)))]) [1, 2, 3, 5, 6, 7, 0] rfl (sfX3_keepTest_45  a0 x1 x2 x4 x5 x6 ((x1 * 16) + (x2 * 4)) 0 ((x1 * 16) + (x2 * 4)) v3)
      · refine sn_iconst (pc := 40) (v := 1) dX3_keepTest_40 (by decide) ?_
        refine sn_goto (pc := 41) (tgt := 45) dX3_keepTest_41 (by decide) ?_
        exact sn_sub (lv' := [(0, .ref (E.1 + a0)), (1, .int x1), (2, .int x2), (4, .int x4), (5, .int x5), (6, .int x6), (7, .int ((x1 * 16) + (x2 * 4)))]) [1, 2, 3, 5, 6, 7, 0] rfl (sfX3_keepTest_45  a0 x1 x2 x4 x5 x6 ((x1 * 16) + (x2 * 4)) 1 ((x1 * 16) + (x2 * 4)) v3)
    · exact sn_vret (pc := 19) dX3_keepTest_19 rfl
theorem iX3_keepTest : MI yX3_keepTest cX3_keepTest 8 none 6 := ⟨wt1_6, wt3_108, by decide +kernel, by decide⟩
-- NeedleHomes$ListReader signHere()I
theorem dX3_signHere_0 : decode cX3_signHere 0 = .ok (.aload_n 0, 1) := by decide +kernel
theorem dX3_signHere_1 : decode cX3_signHere 1 = .ok (.getfield 12, 3) := by decide +kernel
theorem dX3_signHere_4 : decode cX3_signHere 4 = .ok (.bipush 60, 2) := by decide +kernel
theorem dX3_signHere_6 : decode cX3_signHere 6 = .ok (.invokevirtual 105, 3) := by decide +kernel
theorem dX3_signHere_9 : decode cX3_signHere 9 = .ok (.ifCond .eq 5, 3) := by decide +kernel
theorem dX3_signHere_12 : decode cX3_signHere 12 = .ok (.iconst 0, 1) := by decide +kernel
theorem dX3_signHere_13 : decode cX3_signHere 13 = .ok (.ireturn, 1) := by decide +kernel
theorem dX3_signHere_14 : decode cX3_signHere 14 = .ok (.aload_n 0, 1) := by decide +kernel
theorem dX3_signHere_15 : decode cX3_signHere 15 = .ok (.getfield 12, 3) := by decide +kernel
theorem dX3_signHere_18 : decode cX3_signHere 18 = .ok (.bipush 62, 2) := by decide +kernel
theorem dX3_signHere_20 : decode cX3_signHere 20 = .ok (.invokevirtual 105, 3) := by decide +kernel
theorem dX3_signHere_23 : decode cX3_signHere 23 = .ok (.ifCond .eq 5, 3) := by decide +kernel
theorem dX3_signHere_26 : decode cX3_signHere 26 = .ok (.iconst 1, 1) := by decide +kernel
theorem dX3_signHere_27 : decode cX3_signHere 27 = .ok (.ireturn, 1) := by decide +kernel
theorem dX3_signHere_28 : decode cX3_signHere 28 = .ok (.aload_n 0, 1) := by decide +kernel
theorem dX3_signHere_29 : decode cX3_signHere 29 = .ok (.getfield 12, 3) := by decide +kernel
theorem dX3_signHere_32 : decode cX3_signHere 32 = .ok (.bipush 61, 2) := by decide +kernel
theorem dX3_signHere_34 : decode cX3_signHere 34 = .ok (.invokevirtual 105, 3) := by decide +kernel
theorem dX3_signHere_37 : decode cX3_signHere 37 = .ok (.ifCond .eq 7, 3) := by decide +kernel
theorem dX3_signHere_40 : decode cX3_signHere 40 = .ok (.iconst 2, 1) := by decide +kernel
theorem dX3_signHere_41 : decode cX3_signHere 41 = .ok (.goto 4, 3) := by decide +kernel
theorem dX3_signHere_44 : decode cX3_signHere 44 = .ok (.iconst (-1), 1) := by decide +kernel
theorem dX3_signHere_45 : decode cX3_signHere 45 = .ok (.ireturn, 1) := by decide +kernel
abbrev dpX3_signHere : Nat := 2
def fX3_signHere (a0 : Nat) : St → Option (Int32 × St) :=
 gR 4 a0 0 fun v1 =>
 nn v1 fun a2 =>
 ck 9 a2 <| cl (fX8_isSign a2 60) fun v3 =>
 br ((bi v3) = 0) (gR 4 a0 0 fun v4 =>
 nn v4 fun a5 =>
 ck 9 a5 <| cl (fX8_isSign a5 62) fun v6 =>
 br ((bi v6) = 0) (gR 4 a0 0 fun v7 =>
 nn v7 fun a8 =>
 ck 9 a8 <| cl (fX8_isSign a8 61) fun v9 =>
 br ((bi v9) = 0) (rt (-1))
 (rt 2))
 (rt 1))
 (rt 0)
set_option maxHeartbeats 4000000 in
set_option maxRecDepth 100000 in
theorem mX3_signHere {E : Ev} {l : Launch} (a0 : Nat) : MF E l dpX3_signHere yX3_signHere cX3_signHere 1 (some .int) rvI [.ref (E.1 + a0)] (fX3_signHere a0) := by
  refine MF.of (lv := [(0, .ref (E.1 + a0))]) (by decide) (Nat.le_of_ble_eq_true rfl) rfl ?_
  unfold fX3_signHere
  refine sn_aload_n (pc := 0) (j := 0) dX3_signHere_0 rfl rfl ?_
  refine sn_gR (pc := 1) dX3_signHere_1 flX3_12 rfl (fun v1 => ?_)
  refine sn_bipush (pc := 4) (v := 60) dX3_signHere_4 (by decide) ?_
  rcases v1 with _ | a2
  · exact sn_no
  refine sn_nn ?_
  refine sn_callV (ci := 8) (pc := 6) dX3_signHere_6 iX8_isSign wt2_195 wt2_196 wt3_124 ⟨_, rfl, rfl⟩ (by decide) (mX8_isSign a2 60) (by decide) rfl rfl (Nat.le_of_ble_eq_true rfl) (fun v3 => ?_)
  refine sn_if_eq (pc := 9) (tgt := 14) dX3_signHere_9 (by decide) ?_ ?_
  · refine sn_aload_n (pc := 14) (j := 0) dX3_signHere_14 rfl rfl ?_
    refine sn_gR (pc := 15) dX3_signHere_15 flX3_12 rfl (fun v4 => ?_)
    refine sn_bipush (pc := 18) (v := 62) dX3_signHere_18 (by decide) ?_
    rcases v4 with _ | a5
    · exact sn_no
    refine sn_nn ?_
    refine sn_callV (ci := 8) (pc := 20) dX3_signHere_20 iX8_isSign wt2_195 wt2_196 wt3_124 ⟨_, rfl, rfl⟩ (by decide) (mX8_isSign a5 62) (by decide) rfl rfl (Nat.le_of_ble_eq_true rfl) (fun v6 => ?_)
    refine sn_if_eq (pc := 23) (tgt := 28) dX3_signHere_23 (by decide) ?_ ?_
    · refine sn_aload_n (pc := 28) (j := 0) dX3_signHere_28 rfl rfl ?_
      refine sn_gR (pc := 29) dX3_signHere_29 flX3_12 rfl (fun v7 => ?_)
      refine sn_bipush (pc := 32) (v := 61) dX3_signHere_32 (by decide) ?_
      rcases v7 with _ | a8
      · exact sn_no
      refine sn_nn ?_
      refine sn_callV (ci := 8) (pc := 34) dX3_signHere_34 iX8_isSign wt2_195 wt2_196 wt3_124 ⟨_, rfl, rfl⟩ (by decide) (mX8_isSign a8 61) (by decide) rfl rfl (Nat.le_of_ble_eq_true rfl) (fun v9 => ?_)
      refine sn_if_eq (pc := 37) (tgt := 44) dX3_signHere_37 (by decide) ?_ ?_
      · refine sn_iconst (pc := 44) (v := (-1)) dX3_signHere_44 (by decide) ?_
        exact sn_iret (pc := 45) dX3_signHere_45 rfl
      · refine sn_iconst (pc := 40) (v := 2) dX3_signHere_40 (by decide) ?_
        refine sn_goto (pc := 41) (tgt := 45) dX3_signHere_41 (by decide) ?_
        exact sn_iret (pc := 45) dX3_signHere_45 rfl
    · refine sn_iconst (pc := 26) (v := 1) dX3_signHere_26 (by decide) ?_
      exact sn_iret (pc := 27) dX3_signHere_27 rfl
  · refine sn_iconst (pc := 12) (v := 0) dX3_signHere_12 (by decide) ?_
    exact sn_iret (pc := 13) dX3_signHere_13 rfl
theorem iX3_signHere : MI yX3_signHere cX3_signHere 1 (some .int) 0 := ⟨wt1_6, wt3_123, by decide +kernel, by decide⟩
-- NeedleHomes$ListReader readTest(II)Z
theorem dX3_readTest_0 : decode cX3_readTest 0 = .ok (.aload_n 0, 1) := by decide +kernel
theorem dX3_readTest_1 : decode cX3_readTest 1 = .ok (.getfield 12, 3) := by decide +kernel
theorem dX3_readTest_4 : decode cX3_readTest 4 = .ok (.ldc 88, 2) := by decide +kernel
theorem dX3_readTest_6 : decode cX3_readTest 6 = .ok (.invokevirtual 72, 3) := by decide +kernel
theorem dX3_readTest_9 : decode cX3_readTest 9 = .ok (.istore_n 3, 1) := by decide +kernel
theorem dX3_readTest_10 : decode cX3_readTest 10 = .ok (.iload_n 3, 1) := by decide +kernel
theorem dX3_readTest_11 : decode cX3_readTest 11 = .ok (.ifCond .eq 10, 3) := by decide +kernel
theorem dX3_readTest_14 : decode cX3_readTest 14 = .ok (.aload_n 0, 1) := by decide +kernel
theorem dX3_readTest_15 : decode cX3_readTest 15 = .ok (.getfield 12, 3) := by decide +kernel
theorem dX3_readTest_18 : decode cX3_readTest 18 = .ok (.invokevirtual 67, 3) := by decide +kernel
theorem dX3_readTest_21 : decode cX3_readTest 21 = .ok (.aload_n 0, 1) := by decide +kernel
theorem dX3_readTest_22 : decode cX3_readTest 22 = .ok (.getfield 12, 3) := by decide +kernel
theorem dX3_readTest_25 : decode cX3_readTest 25 = .ok (.ldc 90, 2) := by decide +kernel
theorem dX3_readTest_27 : decode cX3_readTest 27 = .ok (.invokevirtual 72, 3) := by decide +kernel
theorem dX3_readTest_30 : decode cX3_readTest 30 = .ok (.ifCond .eq 23, 3) := by decide +kernel
theorem dX3_readTest_33 : decode cX3_readTest 33 = .ok (.aload_n 0, 1) := by decide +kernel
theorem dX3_readTest_34 : decode cX3_readTest 34 = .ok (.getfield 12, 3) := by decide +kernel
theorem dX3_readTest_37 : decode cX3_readTest 37 = .ok (.invokevirtual 67, 3) := by decide +kernel
theorem dX3_readTest_40 : decode cX3_readTest 40 = .ok (.aload_n 0, 1) := by decide +kernel
theorem dX3_readTest_41 : decode cX3_readTest 41 = .ok (.iload_n 1, 1) := by decide +kernel
theorem dX3_readTest_42 : decode cX3_readTest 42 = .ok (.iload_n 2, 1) := by decide +kernel
theorem dX3_readTest_43 : decode cX3_readTest 43 = .ok (.iload_n 3, 1) := by decide +kernel
theorem dX3_readTest_44 : decode cX3_readTest 44 = .ok (.bipush 7, 2) := by decide +kernel
theorem dX3_readTest_46 : decode cX3_readTest 46 = .ok (.iconst 2, 1) := by decide +kernel
theorem dX3_readTest_47 : decode cX3_readTest 47 = .ok (.iconst 1, 1) := by decide +kernel
theorem dX3_readTest_48 : decode cX3_readTest 48 = .ok (.invokevirtual 92, 3) := by decide +kernel
theorem dX3_readTest_51 : decode cX3_readTest 51 = .ok (.iconst 1, 1) := by decide +kernel
theorem dX3_readTest_52 : decode cX3_readTest 52 = .ok (.ireturn, 1) := by decide +kernel
theorem dX3_readTest_53 : decode cX3_readTest 53 = .ok (.aload_n 0, 1) := by decide +kernel
theorem dX3_readTest_54 : decode cX3_readTest 54 = .ok (.invokevirtual 96, 3) := by decide +kernel
theorem dX3_readTest_57 : decode cX3_readTest 57 = .ok (.istore 4, 2) := by decide +kernel
theorem dX3_readTest_59 : decode cX3_readTest 59 = .ok (.iload 4, 2) := by decide +kernel
theorem dX3_readTest_61 : decode cX3_readTest 61 = .ok (.iconst (-1), 1) := by decide +kernel
theorem dX3_readTest_62 : decode cX3_readTest 62 = .ok (.if_icmp .ne 11, 3) := by decide +kernel
theorem dX3_readTest_65 : decode cX3_readTest 65 = .ok (.aload_n 0, 1) := by decide +kernel
theorem dX3_readTest_66 : decode cX3_readTest 66 = .ok (.getfield 12, 3) := by decide +kernel
theorem dX3_readTest_69 : decode cX3_readTest 69 = .ok (.invokevirtual 52, 3) := by decide +kernel
theorem dX3_readTest_72 : decode cX3_readTest 72 = .ok (.ireturn, 1) := by decide +kernel
theorem dX3_readTest_73 : decode cX3_readTest 73 = .ok (.aload_n 0, 1) := by decide +kernel
theorem dX3_readTest_74 : decode cX3_readTest 74 = .ok (.getfield 12, 3) := by decide +kernel
theorem dX3_readTest_77 : decode cX3_readTest 77 = .ok (.invokevirtual 67, 3) := by decide +kernel
theorem dX3_readTest_80 : decode cX3_readTest 80 = .ok (.aload_n 0, 1) := by decide +kernel
theorem dX3_readTest_81 : decode cX3_readTest 81 = .ok (.invokevirtual 99, 3) := by decide +kernel
theorem dX3_readTest_84 : decode cX3_readTest 84 = .ok (.istore 5, 2) := by decide +kernel
theorem dX3_readTest_86 : decode cX3_readTest 86 = .ok (.iload 5, 2) := by decide +kernel
theorem dX3_readTest_88 : decode cX3_readTest 88 = .ok (.iconst (-1), 1) := by decide +kernel
theorem dX3_readTest_89 : decode cX3_readTest 89 = .ok (.if_icmp .ne 11, 3) := by decide +kernel
theorem dX3_readTest_92 : decode cX3_readTest 92 = .ok (.aload_n 0, 1) := by decide +kernel
theorem dX3_readTest_93 : decode cX3_readTest 93 = .ok (.getfield 12, 3) := by decide +kernel
theorem dX3_readTest_96 : decode cX3_readTest 96 = .ok (.invokevirtual 52, 3) := by decide +kernel
theorem dX3_readTest_99 : decode cX3_readTest 99 = .ok (.ireturn, 1) := by decide +kernel
theorem dX3_readTest_100 : decode cX3_readTest 100 = .ok (.aload_n 0, 1) := by decide +kernel
theorem dX3_readTest_101 : decode cX3_readTest 101 = .ok (.getfield 12, 3) := by decide +kernel
theorem dX3_readTest_104 : decode cX3_readTest 104 = .ok (.invokevirtual 67, 3) := by decide +kernel
theorem dX3_readTest_107 : decode cX3_readTest 107 = .ok (.aload_n 0, 1) := by decide +kernel
theorem dX3_readTest_108 : decode cX3_readTest 108 = .ok (.getfield 12, 3) := by decide +kernel
theorem dX3_readTest_111 : decode cX3_readTest 111 = .ok (.getfield 41, 3) := by decide +kernel
theorem dX3_readTest_114 : decode cX3_readTest 114 = .ok (.iconst 2, 1) := by decide +kernel
theorem dX3_readTest_115 : decode cX3_readTest 115 = .ok (.if_icmp .eq 11, 3) := by decide +kernel
theorem dX3_readTest_118 : decode cX3_readTest 118 = .ok (.aload_n 0, 1) := by decide +kernel
theorem dX3_readTest_119 : decode cX3_readTest 119 = .ok (.getfield 12, 3) := by decide +kernel
theorem dX3_readTest_122 : decode cX3_readTest 122 = .ok (.invokevirtual 52, 3) := by decide +kernel
theorem dX3_readTest_125 : decode cX3_readTest 125 = .ok (.ireturn, 1) := by decide +kernel
theorem dX3_readTest_126 : decode cX3_readTest 126 = .ok (.aload_n 0, 1) := by decide +kernel
theorem dX3_readTest_127 : decode cX3_readTest 127 = .ok (.iload_n 1, 1) := by decide +kernel
theorem dX3_readTest_128 : decode cX3_readTest 128 = .ok (.iload_n 2, 1) := by decide +kernel
theorem dX3_readTest_129 : decode cX3_readTest 129 = .ok (.iload_n 3, 1) := by decide +kernel
theorem dX3_readTest_130 : decode cX3_readTest 130 = .ok (.iload 4, 2) := by decide +kernel
theorem dX3_readTest_132 : decode cX3_readTest 132 = .ok (.iload 5, 2) := by decide +kernel
theorem dX3_readTest_134 : decode cX3_readTest 134 = .ok (.aload_n 0, 1) := by decide +kernel
theorem dX3_readTest_135 : decode cX3_readTest 135 = .ok (.getfield 12, 3) := by decide +kernel
theorem dX3_readTest_138 : decode cX3_readTest 138 = .ok (.getfield 102, 3) := by decide +kernel
theorem dX3_readTest_141 : decode cX3_readTest 141 = .ok (.invokevirtual 92, 3) := by decide +kernel
theorem dX3_readTest_144 : decode cX3_readTest 144 = .ok (.aload_n 0, 1) := by decide +kernel
theorem dX3_readTest_145 : decode cX3_readTest 145 = .ok (.getfield 12, 3) := by decide +kernel
theorem dX3_readTest_148 : decode cX3_readTest 148 = .ok (.invokevirtual 67, 3) := by decide +kernel
theorem dX3_readTest_151 : decode cX3_readTest 151 = .ok (.iconst 1, 1) := by decide +kernel
theorem dX3_readTest_152 : decode cX3_readTest 152 = .ok (.ireturn, 1) := by decide +kernel
abbrev dpX3_readTest : Nat := 7
def fX3_readTest_21 (a0 : Nat) (x1 : Int32) (x2 : Int32) (x3 : Int32) : St → Option (Bool × St) :=
 gR 4 a0 0 fun v1001 =>
 nn v1001 fun a1002 =>
 ck 9 a1002 <| cl (fX8_isWord a1002 8) fun v1003 =>
 br ((bi v1003) = 0) (ck 4 a0 <| cl (fX3_askedHere a0) fun v1004 =>
 br (v1004 = (-1)) (gR 4 a0 0 fun v1028 =>
 nn v1028 fun a1029 =>
 ck 9 a1029 <| cl (fX8_failHere a1029) fun v1030 =>
 rtZ (bi v1030))
 (gR 4 a0 0 fun v1005 =>
 nn v1005 fun a1006 =>
 ck 9 a1006 <| cl (fX8_step a1006) fun v1007 =>
 ck 4 a0 <| cl (fX3_signHere a0) fun v1008 =>
 br (v1008 = (-1)) (gR 4 a0 0 fun v1025 =>
 nn v1025 fun a1026 =>
 ck 9 a1026 <| cl (fX8_failHere a1026) fun v1027 =>
 rtZ (bi v1027))
 (gR 4 a0 0 fun v1009 =>
 nn v1009 fun a1010 =>
 ck 9 a1010 <| cl (fX8_step a1010) fun v1011 =>
 gR 4 a0 0 fun v1012 =>
 nn v1012 fun a1014 =>
 gI 9 a1014 0 fun v1013 =>
 br (v1013 = 2) (gR 4 a0 0 fun v1015 =>
 nn v1015 fun a1017 =>
 gI 9 a1017 1 fun v1016 =>
 ck 4 a0 <| cl (fX3_keepTest a0 x1 x2 x3 v1004 v1008 v1016) fun v1018 =>
 gR 4 a0 0 fun v1019 =>
 nn v1019 fun a1020 =>
 ck 9 a1020 <| cl (fX8_step a1020) fun v1021 =>
 rtZ 1)
 (gR 4 a0 0 fun v1022 =>
 nn v1022 fun a1023 =>
 ck 9 a1023 <| cl (fX8_failHere a1023) fun v1024 =>
 rtZ (bi v1024)))))
 (gR 4 a0 0 fun v1031 =>
 nn v1031 fun a1032 =>
 ck 9 a1032 <| cl (fX8_step a1032) fun v1033 =>
 ck 4 a0 <| cl (fX3_keepTest a0 x1 x2 x3 7 2 1) fun v1034 =>
 rtZ 1)
set_option maxHeartbeats 4000000 in
set_option maxRecDepth 100000 in
theorem sfX3_readTest_21 {E : Ev} {l : Launch} (a0 : Nat) (x1 : Int32) (x2 : Int32) (x3 : Int32) : Snd E l (dpX3_readTest, RX3, cX3_readTest, 6, (some .boolean), "readTest") rvZ 21 [(0, .ref (E.1 + a0)), (1, .int x1), (2, .int x2), (3, .int x3)] [] (fX3_readTest_21 a0 x1 x2 x3) := by
  unfold fX3_readTest_21
  refine sn_aload_n (pc := 21) (j := 0) dX3_readTest_21 rfl rfl ?_
  refine sn_gR (pc := 22) dX3_readTest_22 flX3_12 rfl (fun v1001 => ?_)
  refine sn_ldcS (pc := 25) (i := 8) dX3_readTest_25 rfl (by decide) rfl ?_
  rcases v1001 with _ | a1002
  · exact sn_no
  refine sn_nn ?_
  refine sn_callV (ci := 8) (pc := 27) dX3_readTest_27 iX8_isWord wt3_34 wt3_35 wt3_33 ⟨_, rfl, rfl⟩ (by decide) (mX8_isWord a1002 8 (by decide)) (by decide) rfl rfl (Nat.le_of_ble_eq_true rfl) (fun v1003 => ?_)
  refine sn_if_eq (pc := 30) (tgt := 53) dX3_readTest_30 (by decide) ?_ ?_
  · refine sn_aload_n (pc := 53) (j := 0) dX3_readTest_53 rfl rfl ?_
    refine sn_callV (ci := 3) (pc := 54) dX3_readTest_54 iX3_askedHere wt3_111 ws_18 wt3_109 ⟨_, rfl, rfl⟩ (by decide) (mX3_askedHere a0) (by decide) rfl rfl (Nat.le_of_ble_eq_true rfl) (fun v1004 => ?_)
    refine sn_istore (pc := 57) (i := 4) (lv' := [(4, .int v1004), (0, .ref (E.1 + a0)), (1, .int x1), (2, .int x2), (3, .int x3)]) dX3_readTest_57 (by decide) rfl ?_
    refine sn_iload (pc := 59) (j := 0) dX3_readTest_59 rfl ?_
    refine sn_iconst (pc := 61) (v := (-1)) dX3_readTest_61 (by decide) ?_
    refine sn_icmp_ne (pc := 62) (tgt := 73) dX3_readTest_62 (by decide) ?_ ?_
    · refine sn_aload_n (pc := 73) (j := 1) dX3_readTest_73 rfl rfl ?_
      refine sn_gR (pc := 74) dX3_readTest_74 flX3_12 rfl (fun v1005 => ?_)
      rcases v1005 with _ | a1006
      · exact sn_no
      refine sn_nn ?_
      refine sn_callV (ci := 8) (pc := 77) dX3_readTest_77 iX8_step wt2_122 wt2_123 wt3_93 ⟨_, rfl, rfl⟩ (by decide) (mX8_step a1006) (by decide) rfl rfl (Nat.le_of_ble_eq_true rfl) (fun v1007 => ?_)
      refine sn_aload_n (pc := 80) (j := 1) dX3_readTest_80 rfl rfl ?_
      refine sn_callV (ci := 3) (pc := 81) dX3_readTest_81 iX3_signHere wt3_122 ws_19 wt3_120 ⟨_, rfl, rfl⟩ (by decide) (mX3_signHere a0) (by decide) rfl rfl (Nat.le_of_ble_eq_true rfl) (fun v1008 => ?_)
      refine sn_istore (pc := 84) (i := 5) (lv' := [(5, .int v1008), (4, .int v1004), (0, .ref (E.1 + a0)), (1, .int x1), (2, .int x2), (3, .int x3)]) dX3_readTest_84 (by decide) rfl ?_
      refine sn_iload (pc := 86) (j := 0) dX3_readTest_86 rfl ?_
      refine sn_iconst (pc := 88) (v := (-1)) dX3_readTest_88 (by decide) ?_
      refine sn_icmp_ne (pc := 89) (tgt := 100) dX3_readTest_89 (by decide) ?_ ?_
      · refine sn_aload_n (pc := 100) (j := 2) dX3_readTest_100 rfl rfl ?_
        refine sn_gR (pc := 101) dX3_readTest_101 flX3_12 rfl (fun v1009 => ?_)
        rcases v1009 with _ | a1010
        · exact sn_no
        refine sn_nn ?_
        refine sn_callV (ci := 8) (pc := 104) dX3_readTest_104 iX8_step wt2_122 wt2_123 wt3_93 ⟨_, rfl, rfl⟩ (by decide) (mX8_step a1010) (by decide) rfl rfl (Nat.le_of_ble_eq_true rfl) (fun v1011 => ?_)
        refine sn_aload_n (pc := 107) (j := 2) dX3_readTest_107 rfl rfl ?_
        refine sn_gR (pc := 108) dX3_readTest_108 flX3_12 rfl (fun v1012 => ?_)
        rcases v1012 with _ | a1014
        · exact sn_no
        refine sn_nn ?_
        refine sn_gI (pc := 111) dX3_readTest_111 flX3_41 rfl (fun v1013 => ?_)
        refine sn_iconst (pc := 114) (v := 2) dX3_readTest_114 (by decide) ?_
        refine sn_icmp_eq (pc := 115) (tgt := 126) dX3_readTest_115 (by decide) ?_ ?_
        · refine sn_aload_n (pc := 126) (j := 2) dX3_readTest_126 rfl rfl ?_
          refine sn_iload_n (pc := 127) (j := 3) dX3_readTest_127 rfl rfl ?_
          refine sn_iload_n (pc := 128) (j := 4) dX3_readTest_128 rfl rfl ?_
          refine sn_iload_n (pc := 129) (j := 5) dX3_readTest_129 rfl rfl ?_
          refine sn_iload (pc := 130) (j := 1) dX3_readTest_130 rfl ?_
          refine sn_iload (pc := 132) (j := 0) dX3_readTest_132 rfl ?_
          refine sn_aload_n (pc := 134) (j := 2) dX3_readTest_134 rfl rfl ?_
          refine sn_gR (pc := 135) dX3_readTest_135 flX3_12 rfl (fun v1015 => ?_)
          rcases v1015 with _ | a1017
          · exact sn_no
          refine sn_nn ?_
          refine sn_gI (pc := 138) dX3_readTest_138 flX3_102 rfl (fun v1016 => ?_)
          refine sn_callV (ci := 3) (pc := 141) dX3_readTest_141 iX3_keepTest wt3_107 ws_17 wt3_105 ⟨_, rfl, rfl⟩ (by decide) (mX3_keepTest a0 x1 x2 x3 v1004 v1008 v1016) (by decide) rfl rfl (Nat.le_of_ble_eq_true rfl) (fun v1018 => ?_)
          refine sn_aload_n (pc := 144) (j := 2) dX3_readTest_144 rfl rfl ?_
          refine sn_gR (pc := 145) dX3_readTest_145 flX3_12 rfl (fun v1019 => ?_)
          rcases v1019 with _ | a1020
          · exact sn_no
          refine sn_nn ?_
          refine sn_callV (ci := 8) (pc := 148) dX3_readTest_148 iX8_step wt2_122 wt2_123 wt3_93 ⟨_, rfl, rfl⟩ (by decide) (mX8_step a1020) (by decide) rfl rfl (Nat.le_of_ble_eq_true rfl) (fun v1021 => ?_)
          refine sn_iconst (pc := 151) (v := 1) dX3_readTest_151 (by decide) ?_
          exact sn_zret (pc := 152) dX3_readTest_152 rfl
        · refine sn_aload_n (pc := 118) (j := 2) dX3_readTest_118 rfl rfl ?_
          refine sn_gR (pc := 119) dX3_readTest_119 flX3_12 rfl (fun v1022 => ?_)
          rcases v1022 with _ | a1023
          · exact sn_no
          refine sn_nn ?_
          refine sn_callV (ci := 8) (pc := 122) dX3_readTest_122 iX8_failHere wt2_161 wt2_162 wt3_90 ⟨_, rfl, rfl⟩ (by decide) (mX8_failHere a1023) (by decide) rfl rfl (Nat.le_of_ble_eq_true rfl) (fun v1024 => ?_)
          exact sn_zret (pc := 125) dX3_readTest_125 rfl
      · refine sn_aload_n (pc := 92) (j := 2) dX3_readTest_92 rfl rfl ?_
        refine sn_gR (pc := 93) dX3_readTest_93 flX3_12 rfl (fun v1025 => ?_)
        rcases v1025 with _ | a1026
        · exact sn_no
        refine sn_nn ?_
        refine sn_callV (ci := 8) (pc := 96) dX3_readTest_96 iX8_failHere wt2_161 wt2_162 wt3_90 ⟨_, rfl, rfl⟩ (by decide) (mX8_failHere a1026) (by decide) rfl rfl (Nat.le_of_ble_eq_true rfl) (fun v1027 => ?_)
        exact sn_zret (pc := 99) dX3_readTest_99 rfl
    · refine sn_aload_n (pc := 65) (j := 1) dX3_readTest_65 rfl rfl ?_
      refine sn_gR (pc := 66) dX3_readTest_66 flX3_12 rfl (fun v1028 => ?_)
      rcases v1028 with _ | a1029
      · exact sn_no
      refine sn_nn ?_
      refine sn_callV (ci := 8) (pc := 69) dX3_readTest_69 iX8_failHere wt2_161 wt2_162 wt3_90 ⟨_, rfl, rfl⟩ (by decide) (mX8_failHere a1029) (by decide) rfl rfl (Nat.le_of_ble_eq_true rfl) (fun v1030 => ?_)
      exact sn_zret (pc := 72) dX3_readTest_72 rfl
  · refine sn_aload_n (pc := 33) (j := 0) dX3_readTest_33 rfl rfl ?_
    refine sn_gR (pc := 34) dX3_readTest_34 flX3_12 rfl (fun v1031 => ?_)
    rcases v1031 with _ | a1032
    · exact sn_no
    refine sn_nn ?_
    refine sn_callV (ci := 8) (pc := 37) dX3_readTest_37 iX8_step wt2_122 wt2_123 wt3_93 ⟨_, rfl, rfl⟩ (by decide) (mX8_step a1032) (by decide) rfl rfl (Nat.le_of_ble_eq_true rfl) (fun v1033 => ?_)
    refine sn_aload_n (pc := 40) (j := 0) dX3_readTest_40 rfl rfl ?_
    refine sn_iload_n (pc := 41) (j := 1) dX3_readTest_41 rfl rfl ?_
    refine sn_iload_n (pc := 42) (j := 2) dX3_readTest_42 rfl rfl ?_
    refine sn_iload_n (pc := 43) (j := 3) dX3_readTest_43 rfl rfl ?_
    refine sn_bipush (pc := 44) (v := 7) dX3_readTest_44 (by decide) ?_
    refine sn_iconst (pc := 46) (v := 2) dX3_readTest_46 (by decide) ?_
    refine sn_iconst (pc := 47) (v := 1) dX3_readTest_47 (by decide) ?_
    refine sn_callV (ci := 3) (pc := 48) dX3_readTest_48 iX3_keepTest wt3_107 ws_17 wt3_105 ⟨_, rfl, rfl⟩ (by decide) (mX3_keepTest a0 x1 x2 x3 7 2 1) (by decide) rfl rfl (Nat.le_of_ble_eq_true rfl) (fun v1034 => ?_)
    refine sn_iconst (pc := 51) (v := 1) dX3_readTest_51 (by decide) ?_
    exact sn_zret (pc := 52) dX3_readTest_52 rfl
def fX3_readTest (a0 : Nat) (x1 : Int32) (x2 : Int32) : St → Option (Bool × St) :=
 gR 4 a0 0 fun v1 =>
 nn v1 fun a2 =>
 ck 9 a2 <| cl (fX8_isWord a2 7) fun v3 =>
 br ((bi v3) = 0) (fX3_readTest_21  a0 x1 x2 (bi v3))
 (gR 4 a0 0 fun v4 =>
 nn v4 fun a5 =>
 ck 9 a5 <| cl (fX8_step a5) fun v6 =>
 fX3_readTest_21  a0 x1 x2 (bi v3))
set_option maxHeartbeats 4000000 in
set_option maxRecDepth 100000 in
theorem mX3_readTest {E : Ev} {l : Launch} (a0 : Nat) (x1 : Int32) (x2 : Int32) : MF E l dpX3_readTest yX3_readTest cX3_readTest 6 (some .boolean) rvZ [.ref (E.1 + a0), .int x1, .int x2] (fX3_readTest a0 x1 x2) := by
  refine MF.of (lv := [(0, .ref (E.1 + a0)), (1, .int x1), (2, .int x2)]) (by decide) (Nat.le_of_ble_eq_true rfl) rfl ?_
  unfold fX3_readTest
  refine sn_aload_n (pc := 0) (j := 0) dX3_readTest_0 rfl rfl ?_
  refine sn_gR (pc := 1) dX3_readTest_1 flX3_12 rfl (fun v1 => ?_)
  refine sn_ldcS (pc := 4) (i := 7) dX3_readTest_4 rfl (by decide) rfl ?_
  rcases v1 with _ | a2
  · exact sn_no
  refine sn_nn ?_
  refine sn_callV (ci := 8) (pc := 6) dX3_readTest_6 iX8_isWord wt3_34 wt3_35 wt3_33 ⟨_, rfl, rfl⟩ (by decide) (mX8_isWord a2 7 (by decide)) (by decide) rfl rfl (Nat.le_of_ble_eq_true rfl) (fun v3 => ?_)
  refine sn_istore_n (pc := 9) (i := 3) (lv' := [(3, .int (bi v3)), (0, .ref (E.1 + a0)), (1, .int x1), (2, .int x2)]) dX3_readTest_9 rfl (by decide) rfl ?_
  refine sn_iload_n (pc := 10) (j := 0) dX3_readTest_10 rfl rfl ?_
  refine sn_if_eq (pc := 11) (tgt := 21) dX3_readTest_11 (by decide) ?_ ?_
  · exact sn_sub (lv' := [(0, .ref (E.1 + a0)), (1, .int x1), (2, .int x2), (3, .int (bi v3))]) [1, 2, 3, 0] rfl (sfX3_readTest_21  a0 x1 x2 (bi v3))
  · refine sn_aload_n (pc := 14) (j := 1) dX3_readTest_14 rfl rfl ?_
    refine sn_gR (pc := 15) dX3_readTest_15 flX3_12 rfl (fun v4 => ?_)
    rcases v4 with _ | a5
    · exact sn_no
    refine sn_nn ?_
    refine sn_callV (ci := 8) (pc := 18) dX3_readTest_18 iX8_step wt2_122 wt2_123 wt3_93 ⟨_, rfl, rfl⟩ (by decide) (mX8_step a5) (by decide) rfl rfl (Nat.le_of_ble_eq_true rfl) (fun v6 => ?_)
    exact sn_sub (lv' := [(0, .ref (E.1 + a0)), (1, .int x1), (2, .int x2), (3, .int (bi v3))]) [1, 2, 3, 0] rfl (sfX3_readTest_21  a0 x1 x2 (bi v3))
theorem iX3_readTest : MI yX3_readTest cX3_readTest 6 (some .boolean) 2 := ⟨wt1_6, wt3_102, by decide +kernel, by decide⟩
-- NeedleHomes$ListReader readTests(I)Z
theorem dX3_readTests_0 : decode cX3_readTests 0 = .ok (.iconst 0, 1) := by decide +kernel
theorem dX3_readTests_1 : decode cX3_readTests 1 = .ok (.istore_n 2, 1) := by decide +kernel
theorem dX3_readTests_2 : decode cX3_readTests 2 = .ok (.iload_n 2, 1) := by decide +kernel
theorem dX3_readTests_3 : decode cX3_readTests 3 = .ok (.sipush 400, 3) := by decide +kernel
theorem dX3_readTests_6 : decode cX3_readTests 6 = .ok (.if_icmp .gt 61, 3) := by decide +kernel
theorem dX3_readTests_9 : decode cX3_readTests 9 = .ok (.aload_n 0, 1) := by decide +kernel
theorem dX3_readTests_10 : decode cX3_readTests 10 = .ok (.getfield 12, 3) := by decide +kernel
theorem dX3_readTests_13 : decode cX3_readTests 13 = .ok (.invokevirtual 67, 3) := by decide +kernel
theorem dX3_readTests_16 : decode cX3_readTests 16 = .ok (.iload_n 2, 1) := by decide +kernel
theorem dX3_readTests_17 : decode cX3_readTests 17 = .ok (.iconst 4, 1) := by decide +kernel
theorem dX3_readTests_18 : decode cX3_readTests 18 = .ok (.if_icmp .lt 18, 3) := by decide +kernel
theorem dX3_readTests_21 : decode cX3_readTests 21 = .ok (.aload_n 0, 1) := by decide +kernel
theorem dX3_readTests_22 : decode cX3_readTests 22 = .ok (.getfield 12, 3) := by decide +kernel
theorem dX3_readTests_25 : decode cX3_readTests 25 = .ok (.iconst 3, 1) := by decide +kernel
theorem dX3_readTests_26 : decode cX3_readTests 26 = .ok (.aload_n 0, 1) := by decide +kernel
theorem dX3_readTests_27 : decode cX3_readTests 27 = .ok (.getfield 12, 3) := by decide +kernel
theorem dX3_readTests_30 : decode cX3_readTests 30 = .ok (.getfield 56, 3) := by decide +kernel
theorem dX3_readTests_33 : decode cX3_readTests 33 = .ok (.invokevirtual 59, 3) := by decide +kernel
theorem dX3_readTests_36 : decode cX3_readTests 36 = .ok (.aload_n 0, 1) := by decide +kernel
theorem dX3_readTests_37 : decode cX3_readTests 37 = .ok (.iload_n 1, 1) := by decide +kernel
theorem dX3_readTests_38 : decode cX3_readTests 38 = .ok (.iload_n 2, 1) := by decide +kernel
theorem dX3_readTests_39 : decode cX3_readTests 39 = .ok (.invokevirtual 83, 3) := by decide +kernel
theorem dX3_readTests_42 : decode cX3_readTests 42 = .ok (.ifCond .ne 5, 3) := by decide +kernel
theorem dX3_readTests_45 : decode cX3_readTests 45 = .ok (.iconst 0, 1) := by decide +kernel
theorem dX3_readTests_46 : decode cX3_readTests 46 = .ok (.ireturn, 1) := by decide +kernel
theorem dX3_readTests_47 : decode cX3_readTests 47 = .ok (.aload_n 0, 1) := by decide +kernel
theorem dX3_readTests_48 : decode cX3_readTests 48 = .ok (.getfield 12, 3) := by decide +kernel
theorem dX3_readTests_51 : decode cX3_readTests 51 = .ok (.ldc 86, 2) := by decide +kernel
theorem dX3_readTests_53 : decode cX3_readTests 53 = .ok (.invokevirtual 72, 3) := by decide +kernel
theorem dX3_readTests_56 : decode cX3_readTests 56 = .ok (.ifCond .ne 5, 3) := by decide +kernel
theorem dX3_readTests_59 : decode cX3_readTests 59 = .ok (.iconst 1, 1) := by decide +kernel
theorem dX3_readTests_60 : decode cX3_readTests 60 = .ok (.ireturn, 1) := by decide +kernel
theorem dX3_readTests_61 : decode cX3_readTests 61 = .ok (.iinc 2 1, 3) := by decide +kernel
theorem dX3_readTests_64 : decode cX3_readTests 64 = .ok (.goto (-62), 3) := by decide +kernel
theorem dX3_readTests_67 : decode cX3_readTests 67 = .ok (.aload_n 0, 1) := by decide +kernel
theorem dX3_readTests_68 : decode cX3_readTests 68 = .ok (.getfield 12, 3) := by decide +kernel
theorem dX3_readTests_71 : decode cX3_readTests 71 = .ok (.invokevirtual 52, 3) := by decide +kernel
theorem dX3_readTests_74 : decode cX3_readTests 74 = .ok (.ireturn, 1) := by decide +kernel
abbrev dpX3_readTests : Nat := 8
def fX3_readTests_36 (k2 : (Nat × Int32 × Int32) → St → Option (Bool × St)) (a0 : Nat) (x1 : Int32) (x2 : Int32) : St → Option (Bool × St) :=
 ck 4 a0 <| cl (fX3_readTest a0 x1 x2) fun v2001 =>
 br ((bi v2001) = 0) (rtZ 0)
 (gR 4 a0 0 fun v2002 =>
 nn v2002 fun a2003 =>
 ck 9 a2003 <| cl (fX8_isWord a2003 16) fun v2004 =>
 br ((bi v2004) = 0) (rtZ 1)
 (k2 (a0, x1, (x2 + 1))))
set_option maxHeartbeats 4000000 in
set_option maxRecDepth 100000 in
theorem sfX3_readTests_36 {E : Ev} {l : Launch} (k2 : (Nat × Int32 × Int32) → St → Option (Bool × St)) (hk2 : ∀ p : Nat × Int32 × Int32, Snd E l (dpX3_readTests, RX3, cX3_readTests, 3, (some .boolean), "readTests") rvZ 2 [(0, .ref (E.1 + p.1)), (1, .int p.2.1), (2, .int p.2.2)] [] (k2 p)) (a0 : Nat) (x1 : Int32) (x2 : Int32) : Snd E l (dpX3_readTests, RX3, cX3_readTests, 3, (some .boolean), "readTests") rvZ 36 [(0, .ref (E.1 + a0)), (1, .int x1), (2, .int x2)] [] (fX3_readTests_36 k2 a0 x1 x2) := by
  unfold fX3_readTests_36
  refine sn_aload_n (pc := 36) (j := 0) dX3_readTests_36 rfl rfl ?_
  refine sn_iload_n (pc := 37) (j := 1) dX3_readTests_37 rfl rfl ?_
  refine sn_iload_n (pc := 38) (j := 2) dX3_readTests_38 rfl rfl ?_
  refine sn_callV (ci := 3) (pc := 39) dX3_readTests_39 iX3_readTest wt3_101 ws_16 wt3_99 ⟨_, rfl, rfl⟩ (by decide) (mX3_readTest a0 x1 x2) (by decide) rfl rfl (Nat.le_of_ble_eq_true rfl) (fun v2001 => ?_)
  refine sn_if_ne (pc := 42) (tgt := 47) dX3_readTests_42 (by decide) ?_ ?_
  · refine sn_aload_n (pc := 47) (j := 0) dX3_readTests_47 rfl rfl ?_
    refine sn_gR (pc := 48) dX3_readTests_48 flX3_12 rfl (fun v2002 => ?_)
    refine sn_ldcS (pc := 51) (i := 16) dX3_readTests_51 rfl (by decide) rfl ?_
    rcases v2002 with _ | a2003
    · exact sn_no
    refine sn_nn ?_
    refine sn_callV (ci := 8) (pc := 53) dX3_readTests_53 iX8_isWord wt3_34 wt3_35 wt3_33 ⟨_, rfl, rfl⟩ (by decide) (mX8_isWord a2003 16 (by decide)) (by decide) rfl rfl (Nat.le_of_ble_eq_true rfl) (fun v2004 => ?_)
    refine sn_if_ne (pc := 56) (tgt := 61) dX3_readTests_56 (by decide) ?_ ?_
    · refine sn_iinc (pc := 61) (v := x2 + 1) (lv' := [(2, .int (x2 + 1)), (0, .ref (E.1 + a0)), (1, .int x1)]) (j := 2) dX3_readTests_61 rfl rfl (by decide) rfl ?_
      refine sn_goto (pc := 64) (tgt := 2) dX3_readTests_64 (by decide) ?_
      exact sn_sub (lv' := [(0, .ref (E.1 + a0)), (1, .int x1), (2, .int (x2 + 1))]) [1, 2, 0] rfl (hk2 (a0, x1, (x2 + 1)))
    · refine sn_iconst (pc := 59) (v := 1) dX3_readTests_59 (by decide) ?_
      exact sn_zret (pc := 60) dX3_readTests_60 rfl
  · refine sn_iconst (pc := 45) (v := 0) dX3_readTests_45 (by decide) ?_
    exact sn_zret (pc := 46) dX3_readTests_46 rfl
def fX3_readTests_2 (k2 : (Nat × Int32 × Int32) → St → Option (Bool × St)) (a0 : Nat) (x1 : Int32) (x2 : Int32) : St → Option (Bool × St) :=
 br (400 < x2) (gR 4 a0 0 fun v1001 =>
 nn v1001 fun a1002 =>
 ck 9 a1002 <| cl (fX8_failHere a1002) fun v1003 =>
 rtZ (bi v1003))
 (gR 4 a0 0 fun v1004 =>
 nn v1004 fun a1005 =>
 ck 9 a1005 <| cl (fX8_step a1005) fun v1006 =>
 br (x2 < 4) (fX3_readTests_36 k2 a0 x1 x2)
 (gR 4 a0 0 fun v1007 =>
 gR 4 a0 0 fun v1008 =>
 nn v1008 fun a1010 =>
 gI 9 a1010 2 fun v1009 =>
 nn v1007 fun a1011 =>
 ck 9 a1011 <| cl (fX8_noteFault a1011 3 v1009) fun v1012 =>
 fX3_readTests_36 k2 a0 x1 x2))
set_option maxHeartbeats 4000000 in
set_option maxRecDepth 100000 in
theorem sfX3_readTests_2 {E : Ev} {l : Launch} (k2 : (Nat × Int32 × Int32) → St → Option (Bool × St)) (hk2 : ∀ p : Nat × Int32 × Int32, Snd E l (dpX3_readTests, RX3, cX3_readTests, 3, (some .boolean), "readTests") rvZ 2 [(0, .ref (E.1 + p.1)), (1, .int p.2.1), (2, .int p.2.2)] [] (k2 p)) (a0 : Nat) (x1 : Int32) (x2 : Int32) : Snd E l (dpX3_readTests, RX3, cX3_readTests, 3, (some .boolean), "readTests") rvZ 2 [(0, .ref (E.1 + a0)), (1, .int x1), (2, .int x2)] [] (fX3_readTests_2 k2 a0 x1 x2) := by
  unfold fX3_readTests_2
  refine sn_iload_n (pc := 2) (j := 2) dX3_readTests_2 rfl rfl ?_
  refine sn_sipush (pc := 3) (v := 400) dX3_readTests_3 (by decide) ?_
  refine sn_icmp_gt (pc := 6) (tgt := 67) dX3_readTests_6 (by decide) ?_ ?_
  · refine sn_aload_n (pc := 67) (j := 0) dX3_readTests_67 rfl rfl ?_
    refine sn_gR (pc := 68) dX3_readTests_68 flX3_12 rfl (fun v1001 => ?_)
    rcases v1001 with _ | a1002
    · exact sn_no
    refine sn_nn ?_
    refine sn_callV (ci := 8) (pc := 71) dX3_readTests_71 iX8_failHere wt2_161 wt2_162 wt3_90 ⟨_, rfl, rfl⟩ (by decide) (mX8_failHere a1002) (by decide) rfl rfl (Nat.le_of_ble_eq_true rfl) (fun v1003 => ?_)
    exact sn_zret (pc := 74) dX3_readTests_74 rfl
  · refine sn_aload_n (pc := 9) (j := 0) dX3_readTests_9 rfl rfl ?_
    refine sn_gR (pc := 10) dX3_readTests_10 flX3_12 rfl (fun v1004 => ?_)
    rcases v1004 with _ | a1005
    · exact sn_no
    refine sn_nn ?_
    refine sn_callV (ci := 8) (pc := 13) dX3_readTests_13 iX8_step wt2_122 wt2_123 wt3_93 ⟨_, rfl, rfl⟩ (by decide) (mX8_step a1005) (by decide) rfl rfl (Nat.le_of_ble_eq_true rfl) (fun v1006 => ?_)
    refine sn_iload_n (pc := 16) (j := 2) dX3_readTests_16 rfl rfl ?_
    refine sn_iconst (pc := 17) (v := 4) dX3_readTests_17 (by decide) ?_
    refine sn_icmp_lt (pc := 18) (tgt := 36) dX3_readTests_18 (by decide) ?_ ?_
    · exact sn_sub (lv' := [(0, .ref (E.1 + a0)), (1, .int x1), (2, .int x2)]) [0, 1, 2] rfl (sfX3_readTests_36 k2 hk2 a0 x1 x2)
    · refine sn_aload_n (pc := 21) (j := 0) dX3_readTests_21 rfl rfl ?_
      refine sn_gR (pc := 22) dX3_readTests_22 flX3_12 rfl (fun v1007 => ?_)
      refine sn_iconst (pc := 25) (v := 3) dX3_readTests_25 (by decide) ?_
      refine sn_aload_n (pc := 26) (j := 0) dX3_readTests_26 rfl rfl ?_
      refine sn_gR (pc := 27) dX3_readTests_27 flX3_12 rfl (fun v1008 => ?_)
      rcases v1008 with _ | a1010
      · exact sn_no
      refine sn_nn ?_
      refine sn_gI (pc := 30) dX3_readTests_30 flX3_56 rfl (fun v1009 => ?_)
      rcases v1007 with _ | a1011
      · exact sn_no
      refine sn_nn ?_
      refine sn_callV (ci := 8) (pc := 33) dX3_readTests_33 iX8_noteFault wt2_168 wt2_169 wt3_91 ⟨_, rfl, rfl⟩ (by decide) (mX8_noteFault a1011 3 v1009) (by decide) rfl rfl (Nat.le_of_ble_eq_true rfl) (fun v1012 => ?_)
      exact sn_sub (lv' := [(0, .ref (E.1 + a0)), (1, .int x1), (2, .int x2)]) [0, 1, 2] rfl (sfX3_readTests_36 k2 hk2 a0 x1 x2)
def fX3_readTests (a0 : Nat) (x1 : Int32) : St → Option (Bool × St) :=
 itr (fun k (p : Nat × Int32 × Int32) => fX3_readTests_2  k p.1 p.2.1 p.2.2) FU (a0, x1, 0)
set_option maxHeartbeats 4000000 in
set_option maxRecDepth 100000 in
theorem mX3_readTests {E : Ev} {l : Launch} (a0 : Nat) (x1 : Int32) : MF E l dpX3_readTests yX3_readTests cX3_readTests 3 (some .boolean) rvZ [.ref (E.1 + a0), .int x1] (fX3_readTests a0 x1) := by
  refine MF.of (lv := [(0, .ref (E.1 + a0)), (1, .int x1)]) (by decide) (Nat.le_of_ble_eq_true rfl) rfl ?_
  unfold fX3_readTests
  refine sn_iconst (pc := 0) (v := 0) dX3_readTests_0 (by decide) ?_
  refine sn_istore_n (pc := 1) (i := 2) (lv' := [(2, .int 0), (0, .ref (E.1 + a0)), (1, .int x1)]) dX3_readTests_1 rfl (by decide) rfl ?_
  exact sn_sub (lv' := [(0, .ref (E.1 + a0)), (1, .int x1), (2, .int 0)]) [1, 2, 0] rfl (sn_itr (lvf := fun p => [(0, .ref (E.1 + p.1)), (1, .int p.2.1), (2, .int p.2.2)]) (stf := fun p => []) (fun k hk p => sfX3_readTests_2  k hk p.1 p.2.1 p.2.2) FU (a0, x1, 0))
theorem iX3_readTests : MI yX3_readTests cX3_readTests 3 (some .boolean) 1 := ⟨wt1_6, wt3_98, by decide +kernel, by decide⟩
-- NeedleHomes$ListReader topicHere()I
theorem dX3_topicHere_0 : decode cX3_topicHere 0 = .ok (.aload_n 0, 1) := by decide +kernel
theorem dX3_topicHere_1 : decode cX3_topicHere 1 = .ok (.getfield 12, 3) := by decide +kernel
theorem dX3_topicHere_4 : decode cX3_topicHere 4 = .ok (.ldc 109, 2) := by decide +kernel
theorem dX3_topicHere_6 : decode cX3_topicHere 6 = .ok (.invokevirtual 72, 3) := by decide +kernel
theorem dX3_topicHere_9 : decode cX3_topicHere 9 = .ok (.ifCond .eq 5, 3) := by decide +kernel
theorem dX3_topicHere_12 : decode cX3_topicHere 12 = .ok (.iconst 0, 1) := by decide +kernel
theorem dX3_topicHere_13 : decode cX3_topicHere 13 = .ok (.ireturn, 1) := by decide +kernel
theorem dX3_topicHere_14 : decode cX3_topicHere 14 = .ok (.aload_n 0, 1) := by decide +kernel
theorem dX3_topicHere_15 : decode cX3_topicHere 15 = .ok (.getfield 12, 3) := by decide +kernel
theorem dX3_topicHere_18 : decode cX3_topicHere 18 = .ok (.ldc 111, 2) := by decide +kernel
theorem dX3_topicHere_20 : decode cX3_topicHere 20 = .ok (.invokevirtual 72, 3) := by decide +kernel
theorem dX3_topicHere_23 : decode cX3_topicHere 23 = .ok (.ifCond .eq 5, 3) := by decide +kernel
theorem dX3_topicHere_26 : decode cX3_topicHere 26 = .ok (.iconst 1, 1) := by decide +kernel
theorem dX3_topicHere_27 : decode cX3_topicHere 27 = .ok (.ireturn, 1) := by decide +kernel
theorem dX3_topicHere_28 : decode cX3_topicHere 28 = .ok (.aload_n 0, 1) := by decide +kernel
theorem dX3_topicHere_29 : decode cX3_topicHere 29 = .ok (.getfield 12, 3) := by decide +kernel
theorem dX3_topicHere_32 : decode cX3_topicHere 32 = .ok (.ldc 113, 2) := by decide +kernel
theorem dX3_topicHere_34 : decode cX3_topicHere 34 = .ok (.invokevirtual 72, 3) := by decide +kernel
theorem dX3_topicHere_37 : decode cX3_topicHere 37 = .ok (.ifCond .eq 5, 3) := by decide +kernel
theorem dX3_topicHere_40 : decode cX3_topicHere 40 = .ok (.iconst 2, 1) := by decide +kernel
theorem dX3_topicHere_41 : decode cX3_topicHere 41 = .ok (.ireturn, 1) := by decide +kernel
theorem dX3_topicHere_42 : decode cX3_topicHere 42 = .ok (.aload_n 0, 1) := by decide +kernel
theorem dX3_topicHere_43 : decode cX3_topicHere 43 = .ok (.getfield 12, 3) := by decide +kernel
theorem dX3_topicHere_46 : decode cX3_topicHere 46 = .ok (.ldc 115, 2) := by decide +kernel
theorem dX3_topicHere_48 : decode cX3_topicHere 48 = .ok (.invokevirtual 72, 3) := by decide +kernel
theorem dX3_topicHere_51 : decode cX3_topicHere 51 = .ok (.ifCond .eq 5, 3) := by decide +kernel
theorem dX3_topicHere_54 : decode cX3_topicHere 54 = .ok (.iconst 3, 1) := by decide +kernel
theorem dX3_topicHere_55 : decode cX3_topicHere 55 = .ok (.ireturn, 1) := by decide +kernel
theorem dX3_topicHere_56 : decode cX3_topicHere 56 = .ok (.aload_n 0, 1) := by decide +kernel
theorem dX3_topicHere_57 : decode cX3_topicHere 57 = .ok (.getfield 12, 3) := by decide +kernel
theorem dX3_topicHere_60 : decode cX3_topicHere 60 = .ok (.ldc 117, 2) := by decide +kernel
theorem dX3_topicHere_62 : decode cX3_topicHere 62 = .ok (.invokevirtual 72, 3) := by decide +kernel
theorem dX3_topicHere_65 : decode cX3_topicHere 65 = .ok (.ifCond .eq 5, 3) := by decide +kernel
theorem dX3_topicHere_68 : decode cX3_topicHere 68 = .ok (.iconst 4, 1) := by decide +kernel
theorem dX3_topicHere_69 : decode cX3_topicHere 69 = .ok (.ireturn, 1) := by decide +kernel
theorem dX3_topicHere_70 : decode cX3_topicHere 70 = .ok (.aload_n 0, 1) := by decide +kernel
theorem dX3_topicHere_71 : decode cX3_topicHere 71 = .ok (.getfield 12, 3) := by decide +kernel
theorem dX3_topicHere_74 : decode cX3_topicHere 74 = .ok (.ldc 119, 2) := by decide +kernel
theorem dX3_topicHere_76 : decode cX3_topicHere 76 = .ok (.invokevirtual 72, 3) := by decide +kernel
theorem dX3_topicHere_79 : decode cX3_topicHere 79 = .ok (.ifCond .eq 7, 3) := by decide +kernel
theorem dX3_topicHere_82 : decode cX3_topicHere 82 = .ok (.iconst 5, 1) := by decide +kernel
theorem dX3_topicHere_83 : decode cX3_topicHere 83 = .ok (.goto 4, 3) := by decide +kernel
theorem dX3_topicHere_86 : decode cX3_topicHere 86 = .ok (.iconst (-1), 1) := by decide +kernel
theorem dX3_topicHere_87 : decode cX3_topicHere 87 = .ok (.ireturn, 1) := by decide +kernel
abbrev dpX3_topicHere : Nat := 6
def fX3_topicHere (a0 : Nat) : St → Option (Int32 × St) :=
 gR 4 a0 0 fun v1 =>
 nn v1 fun a2 =>
 ck 9 a2 <| cl (fX8_isWord a2 0) fun v3 =>
 br ((bi v3) = 0) (gR 4 a0 0 fun v4 =>
 nn v4 fun a5 =>
 ck 9 a5 <| cl (fX8_isWord a5 1) fun v6 =>
 br ((bi v6) = 0) (gR 4 a0 0 fun v7 =>
 nn v7 fun a8 =>
 ck 9 a8 <| cl (fX8_isWord a8 2) fun v9 =>
 br ((bi v9) = 0) (gR 4 a0 0 fun v10 =>
 nn v10 fun a11 =>
 ck 9 a11 <| cl (fX8_isWord a11 3) fun v12 =>
 br ((bi v12) = 0) (gR 4 a0 0 fun v13 =>
 nn v13 fun a14 =>
 ck 9 a14 <| cl (fX8_isWord a14 4) fun v15 =>
 br ((bi v15) = 0) (gR 4 a0 0 fun v16 =>
 nn v16 fun a17 =>
 ck 9 a17 <| cl (fX8_isWord a17 5) fun v18 =>
 br ((bi v18) = 0) (rt (-1))
 (rt 5))
 (rt 4))
 (rt 3))
 (rt 2))
 (rt 1))
 (rt 0)
set_option maxHeartbeats 4000000 in
set_option maxRecDepth 100000 in
theorem mX3_topicHere {E : Ev} {l : Launch} (a0 : Nat) : MF E l dpX3_topicHere yX3_topicHere cX3_topicHere 1 (some .int) rvI [.ref (E.1 + a0)] (fX3_topicHere a0) := by
  refine MF.of (lv := [(0, .ref (E.1 + a0))]) (by decide) (Nat.le_of_ble_eq_true rfl) rfl ?_
  unfold fX3_topicHere
  refine sn_aload_n (pc := 0) (j := 0) dX3_topicHere_0 rfl rfl ?_
  refine sn_gR (pc := 1) dX3_topicHere_1 flX3_12 rfl (fun v1 => ?_)
  refine sn_ldcS (pc := 4) (i := 0) dX3_topicHere_4 rfl (by decide) rfl ?_
  rcases v1 with _ | a2
  · exact sn_no
  refine sn_nn ?_
  refine sn_callV (ci := 8) (pc := 6) dX3_topicHere_6 iX8_isWord wt3_34 wt3_35 wt3_33 ⟨_, rfl, rfl⟩ (by decide) (mX8_isWord a2 0 (by decide)) (by decide) rfl rfl (Nat.le_of_ble_eq_true rfl) (fun v3 => ?_)
  refine sn_if_eq (pc := 9) (tgt := 14) dX3_topicHere_9 (by decide) ?_ ?_
  · refine sn_aload_n (pc := 14) (j := 0) dX3_topicHere_14 rfl rfl ?_
    refine sn_gR (pc := 15) dX3_topicHere_15 flX3_12 rfl (fun v4 => ?_)
    refine sn_ldcS (pc := 18) (i := 1) dX3_topicHere_18 rfl (by decide) rfl ?_
    rcases v4 with _ | a5
    · exact sn_no
    refine sn_nn ?_
    refine sn_callV (ci := 8) (pc := 20) dX3_topicHere_20 iX8_isWord wt3_34 wt3_35 wt3_33 ⟨_, rfl, rfl⟩ (by decide) (mX8_isWord a5 1 (by decide)) (by decide) rfl rfl (Nat.le_of_ble_eq_true rfl) (fun v6 => ?_)
    refine sn_if_eq (pc := 23) (tgt := 28) dX3_topicHere_23 (by decide) ?_ ?_
    · refine sn_aload_n (pc := 28) (j := 0) dX3_topicHere_28 rfl rfl ?_
      refine sn_gR (pc := 29) dX3_topicHere_29 flX3_12 rfl (fun v7 => ?_)
      refine sn_ldcS (pc := 32) (i := 2) dX3_topicHere_32 rfl (by decide) rfl ?_
      rcases v7 with _ | a8
      · exact sn_no
      refine sn_nn ?_
      refine sn_callV (ci := 8) (pc := 34) dX3_topicHere_34 iX8_isWord wt3_34 wt3_35 wt3_33 ⟨_, rfl, rfl⟩ (by decide) (mX8_isWord a8 2 (by decide)) (by decide) rfl rfl (Nat.le_of_ble_eq_true rfl) (fun v9 => ?_)
      refine sn_if_eq (pc := 37) (tgt := 42) dX3_topicHere_37 (by decide) ?_ ?_
      · refine sn_aload_n (pc := 42) (j := 0) dX3_topicHere_42 rfl rfl ?_
        refine sn_gR (pc := 43) dX3_topicHere_43 flX3_12 rfl (fun v10 => ?_)
        refine sn_ldcS (pc := 46) (i := 3) dX3_topicHere_46 rfl (by decide) rfl ?_
        rcases v10 with _ | a11
        · exact sn_no
        refine sn_nn ?_
        refine sn_callV (ci := 8) (pc := 48) dX3_topicHere_48 iX8_isWord wt3_34 wt3_35 wt3_33 ⟨_, rfl, rfl⟩ (by decide) (mX8_isWord a11 3 (by decide)) (by decide) rfl rfl (Nat.le_of_ble_eq_true rfl) (fun v12 => ?_)
        refine sn_if_eq (pc := 51) (tgt := 56) dX3_topicHere_51 (by decide) ?_ ?_
        · refine sn_aload_n (pc := 56) (j := 0) dX3_topicHere_56 rfl rfl ?_
          refine sn_gR (pc := 57) dX3_topicHere_57 flX3_12 rfl (fun v13 => ?_)
          refine sn_ldcS (pc := 60) (i := 4) dX3_topicHere_60 rfl (by decide) rfl ?_
          rcases v13 with _ | a14
          · exact sn_no
          refine sn_nn ?_
          refine sn_callV (ci := 8) (pc := 62) dX3_topicHere_62 iX8_isWord wt3_34 wt3_35 wt3_33 ⟨_, rfl, rfl⟩ (by decide) (mX8_isWord a14 4 (by decide)) (by decide) rfl rfl (Nat.le_of_ble_eq_true rfl) (fun v15 => ?_)
          refine sn_if_eq (pc := 65) (tgt := 70) dX3_topicHere_65 (by decide) ?_ ?_
          · refine sn_aload_n (pc := 70) (j := 0) dX3_topicHere_70 rfl rfl ?_
            refine sn_gR (pc := 71) dX3_topicHere_71 flX3_12 rfl (fun v16 => ?_)
            refine sn_ldcS (pc := 74) (i := 5) dX3_topicHere_74 rfl (by decide) rfl ?_
            rcases v16 with _ | a17
            · exact sn_no
            refine sn_nn ?_
            refine sn_callV (ci := 8) (pc := 76) dX3_topicHere_76 iX8_isWord wt3_34 wt3_35 wt3_33 ⟨_, rfl, rfl⟩ (by decide) (mX8_isWord a17 5 (by decide)) (by decide) rfl rfl (Nat.le_of_ble_eq_true rfl) (fun v18 => ?_)
            refine sn_if_eq (pc := 79) (tgt := 86) dX3_topicHere_79 (by decide) ?_ ?_
            · refine sn_iconst (pc := 86) (v := (-1)) dX3_topicHere_86 (by decide) ?_
              exact sn_iret (pc := 87) dX3_topicHere_87 rfl
            · refine sn_iconst (pc := 82) (v := 5) dX3_topicHere_82 (by decide) ?_
              refine sn_goto (pc := 83) (tgt := 87) dX3_topicHere_83 (by decide) ?_
              exact sn_iret (pc := 87) dX3_topicHere_87 rfl
          · refine sn_iconst (pc := 68) (v := 4) dX3_topicHere_68 (by decide) ?_
            exact sn_iret (pc := 69) dX3_topicHere_69 rfl
        · refine sn_iconst (pc := 54) (v := 3) dX3_topicHere_54 (by decide) ?_
          exact sn_iret (pc := 55) dX3_topicHere_55 rfl
      · refine sn_iconst (pc := 40) (v := 2) dX3_topicHere_40 (by decide) ?_
        exact sn_iret (pc := 41) dX3_topicHere_41 rfl
    · refine sn_iconst (pc := 26) (v := 1) dX3_topicHere_26 (by decide) ?_
      exact sn_iret (pc := 27) dX3_topicHere_27 rfl
  · refine sn_iconst (pc := 12) (v := 0) dX3_topicHere_12 (by decide) ?_
    exact sn_iret (pc := 13) dX3_topicHere_13 rfl
theorem iX3_topicHere : MI yX3_topicHere cX3_topicHere 1 (some .int) 0 := ⟨wt1_6, wt3_31, by decide +kernel, by decide⟩
-- NeedleHomes$ListReader readLine(I)Z
theorem dX3_readLine_0 : decode cX3_readLine 0 = .ok (.aload_n 0, 1) := by decide +kernel
theorem dX3_readLine_1 : decode cX3_readLine 1 = .ok (.invokevirtual 48, 3) := by decide +kernel
theorem dX3_readLine_4 : decode cX3_readLine 4 = .ok (.istore_n 2, 1) := by decide +kernel
theorem dX3_readLine_5 : decode cX3_readLine 5 = .ok (.iload_n 2, 1) := by decide +kernel
theorem dX3_readLine_6 : decode cX3_readLine 6 = .ok (.iconst (-1), 1) := by decide +kernel
theorem dX3_readLine_7 : decode cX3_readLine 7 = .ok (.if_icmp .ne 11, 3) := by decide +kernel
theorem dX3_readLine_10 : decode cX3_readLine 10 = .ok (.aload_n 0, 1) := by decide +kernel
theorem dX3_readLine_11 : decode cX3_readLine 11 = .ok (.getfield 12, 3) := by decide +kernel
theorem dX3_readLine_14 : decode cX3_readLine 14 = .ok (.invokevirtual 52, 3) := by decide +kernel
theorem dX3_readLine_17 : decode cX3_readLine 17 = .ok (.ireturn, 1) := by decide +kernel
theorem dX3_readLine_18 : decode cX3_readLine 18 = .ok (.iload_n 1, 1) := by decide +kernel
theorem dX3_readLine_19 : decode cX3_readLine 19 = .ok (.bipush 16, 2) := by decide +kernel
theorem dX3_readLine_21 : decode cX3_readLine 21 = .ok (.if_icmp .lt 18, 3) := by decide +kernel
theorem dX3_readLine_24 : decode cX3_readLine 24 = .ok (.aload_n 0, 1) := by decide +kernel
theorem dX3_readLine_25 : decode cX3_readLine 25 = .ok (.getfield 12, 3) := by decide +kernel
theorem dX3_readLine_28 : decode cX3_readLine 28 = .ok (.iconst 3, 1) := by decide +kernel
theorem dX3_readLine_29 : decode cX3_readLine 29 = .ok (.aload_n 0, 1) := by decide +kernel
theorem dX3_readLine_30 : decode cX3_readLine 30 = .ok (.getfield 12, 3) := by decide +kernel
theorem dX3_readLine_33 : decode cX3_readLine 33 = .ok (.getfield 56, 3) := by decide +kernel
theorem dX3_readLine_36 : decode cX3_readLine 36 = .ok (.invokevirtual 59, 3) := by decide +kernel
theorem dX3_readLine_39 : decode cX3_readLine 39 = .ok (.iload_n 1, 1) := by decide +kernel
theorem dX3_readLine_40 : decode cX3_readLine 40 = .ok (.iconst 0, 1) := by decide +kernel
theorem dX3_readLine_41 : decode cX3_readLine 41 = .ok (.bipush 15, 2) := by decide +kernel
theorem dX3_readLine_43 : decode cX3_readLine 43 = .ok (.invokestatic 63, 3) := by decide +kernel
theorem dX3_readLine_46 : decode cX3_readLine 46 = .ok (.ifCond .eq 17, 3) := by decide +kernel
theorem dX3_readLine_49 : decode cX3_readLine 49 = .ok (.aload_n 0, 1) := by decide +kernel
theorem dX3_readLine_50 : decode cX3_readLine 50 = .ok (.getfield 18, 3) := by decide +kernel
theorem dX3_readLine_53 : decode cX3_readLine 53 = .ok (.iload_n 1, 1) := by decide +kernel
theorem dX3_readLine_54 : decode cX3_readLine 54 = .ok (.iload_n 2, 1) := by decide +kernel
theorem dX3_readLine_55 : decode cX3_readLine 55 = .ok (.iastore, 1) := by decide +kernel
theorem dX3_readLine_56 : decode cX3_readLine 56 = .ok (.aload_n 0, 1) := by decide +kernel
theorem dX3_readLine_57 : decode cX3_readLine 57 = .ok (.getfield 25, 3) := by decide +kernel
theorem dX3_readLine_60 : decode cX3_readLine 60 = .ok (.iload_n 1, 1) := by decide +kernel
theorem dX3_readLine_61 : decode cX3_readLine 61 = .ok (.iconst 0, 1) := by decide +kernel
theorem dX3_readLine_62 : decode cX3_readLine 62 = .ok (.iastore, 1) := by decide +kernel
theorem dX3_readLine_63 : decode cX3_readLine 63 = .ok (.aload_n 0, 1) := by decide +kernel
theorem dX3_readLine_64 : decode cX3_readLine 64 = .ok (.getfield 12, 3) := by decide +kernel
theorem dX3_readLine_67 : decode cX3_readLine 67 = .ok (.invokevirtual 67, 3) := by decide +kernel
theorem dX3_readLine_70 : decode cX3_readLine 70 = .ok (.aload_n 0, 1) := by decide +kernel
theorem dX3_readLine_71 : decode cX3_readLine 71 = .ok (.getfield 12, 3) := by decide +kernel
theorem dX3_readLine_74 : decode cX3_readLine 74 = .ok (.ldc 70, 2) := by decide +kernel
theorem dX3_readLine_76 : decode cX3_readLine 76 = .ok (.invokevirtual 72, 3) := by decide +kernel
theorem dX3_readLine_79 : decode cX3_readLine 79 = .ok (.ifCond .eq 13, 3) := by decide +kernel
theorem dX3_readLine_82 : decode cX3_readLine 82 = .ok (.aload_n 0, 1) := by decide +kernel
theorem dX3_readLine_83 : decode cX3_readLine 83 = .ok (.iload_n 1, 1) := by decide +kernel
theorem dX3_readLine_84 : decode cX3_readLine 84 = .ok (.invokevirtual 76, 3) := by decide +kernel
theorem dX3_readLine_87 : decode cX3_readLine 87 = .ok (.ifCond .ne 5, 3) := by decide +kernel
theorem dX3_readLine_90 : decode cX3_readLine 90 = .ok (.iconst 0, 1) := by decide +kernel
theorem dX3_readLine_91 : decode cX3_readLine 91 = .ok (.ireturn, 1) := by decide +kernel
theorem dX3_readLine_92 : decode cX3_readLine 92 = .ok (.aload_n 0, 1) := by decide +kernel
theorem dX3_readLine_93 : decode cX3_readLine 93 = .ok (.iload_n 1, 1) := by decide +kernel
theorem dX3_readLine_94 : decode cX3_readLine 94 = .ok (.iload_n 2, 1) := by decide +kernel
theorem dX3_readLine_95 : decode cX3_readLine 95 = .ok (.invokevirtual 79, 3) := by decide +kernel
theorem dX3_readLine_98 : decode cX3_readLine 98 = .ok (.ireturn, 1) := by decide +kernel
abbrev dpX3_readLine : Nat := 9
def fX3_readLine_92 (a0 : Nat) (x1 : Int32) (x2 : Int32) : St → Option (Bool × St) :=
 ck 4 a0 <| cl (fX3_readNumber a0 x1 x2) fun v3001 =>
 rtZ (bi v3001)
set_option maxHeartbeats 4000000 in
set_option maxRecDepth 100000 in
theorem sfX3_readLine_92 {E : Ev} {l : Launch} (a0 : Nat) (x1 : Int32) (x2 : Int32) : Snd E l (dpX3_readLine, RX3, cX3_readLine, 3, (some .boolean), "readLine") rvZ 92 [(0, .ref (E.1 + a0)), (1, .int x1), (2, .int x2)] [] (fX3_readLine_92 a0 x1 x2) := by
  unfold fX3_readLine_92
  refine sn_aload_n (pc := 92) (j := 0) dX3_readLine_92 rfl rfl ?_
  refine sn_iload_n (pc := 93) (j := 1) dX3_readLine_93 rfl rfl ?_
  refine sn_iload_n (pc := 94) (j := 2) dX3_readLine_94 rfl rfl ?_
  refine sn_callV (ci := 3) (pc := 95) dX3_readLine_95 iX3_readNumber wt3_128 ws_20 wt3_126 ⟨_, rfl, rfl⟩ (by decide) (mX3_readNumber a0 x1 x2) (by decide) rfl rfl (Nat.le_of_ble_eq_true rfl) (fun v3001 => ?_)
  exact sn_zret (pc := 98) dX3_readLine_98 rfl
def fX3_readLine_63 (a0 : Nat) (x1 : Int32) (x2 : Int32) : St → Option (Bool × St) :=
 gR 4 a0 0 fun v2001 =>
 nn v2001 fun a2002 =>
 ck 9 a2002 <| cl (fX8_step a2002) fun v2003 =>
 gR 4 a0 0 fun v2004 =>
 nn v2004 fun a2005 =>
 ck 9 a2005 <| cl (fX8_isWord a2005 6) fun v2006 =>
 br ((bi v2006) = 0) (fX3_readLine_92  a0 x1 x2)
 (ck 4 a0 <| cl (fX3_readTests a0 x1) fun v2007 =>
 br ((bi v2007) = 0) (rtZ 0)
 (fX3_readLine_92  a0 x1 x2))
set_option maxHeartbeats 4000000 in
set_option maxRecDepth 100000 in
theorem sfX3_readLine_63 {E : Ev} {l : Launch} (a0 : Nat) (x1 : Int32) (x2 : Int32) : Snd E l (dpX3_readLine, RX3, cX3_readLine, 3, (some .boolean), "readLine") rvZ 63 [(0, .ref (E.1 + a0)), (1, .int x1), (2, .int x2)] [] (fX3_readLine_63 a0 x1 x2) := by
  unfold fX3_readLine_63
  refine sn_aload_n (pc := 63) (j := 0) dX3_readLine_63 rfl rfl ?_
  refine sn_gR (pc := 64) dX3_readLine_64 flX3_12 rfl (fun v2001 => ?_)
  rcases v2001 with _ | a2002
  · exact sn_no
  refine sn_nn ?_
  refine sn_callV (ci := 8) (pc := 67) dX3_readLine_67 iX8_step wt2_122 wt2_123 wt3_93 ⟨_, rfl, rfl⟩ (by decide) (mX8_step a2002) (by decide) rfl rfl (Nat.le_of_ble_eq_true rfl) (fun v2003 => ?_)
  refine sn_aload_n (pc := 70) (j := 0) dX3_readLine_70 rfl rfl ?_
  refine sn_gR (pc := 71) dX3_readLine_71 flX3_12 rfl (fun v2004 => ?_)
  refine sn_ldcS (pc := 74) (i := 6) dX3_readLine_74 rfl (by decide) rfl ?_
  rcases v2004 with _ | a2005
  · exact sn_no
  refine sn_nn ?_
  refine sn_callV (ci := 8) (pc := 76) dX3_readLine_76 iX8_isWord wt3_34 wt3_35 wt3_33 ⟨_, rfl, rfl⟩ (by decide) (mX8_isWord a2005 6 (by decide)) (by decide) rfl rfl (Nat.le_of_ble_eq_true rfl) (fun v2006 => ?_)
  refine sn_if_eq (pc := 79) (tgt := 92) dX3_readLine_79 (by decide) ?_ ?_
  · exact sn_sub (lv' := [(0, .ref (E.1 + a0)), (1, .int x1), (2, .int x2)]) [0, 1, 2] rfl (sfX3_readLine_92  a0 x1 x2)
  · refine sn_aload_n (pc := 82) (j := 0) dX3_readLine_82 rfl rfl ?_
    refine sn_iload_n (pc := 83) (j := 1) dX3_readLine_83 rfl rfl ?_
    refine sn_callV (ci := 3) (pc := 84) dX3_readLine_84 iX3_readTests wt3_97 ws_15 wt3_95 ⟨_, rfl, rfl⟩ (by decide) (mX3_readTests a0 x1) (by decide) rfl rfl (Nat.le_of_ble_eq_true rfl) (fun v2007 => ?_)
    refine sn_if_ne (pc := 87) (tgt := 92) dX3_readLine_87 (by decide) ?_ ?_
    · exact sn_sub (lv' := [(0, .ref (E.1 + a0)), (1, .int x1), (2, .int x2)]) [0, 1, 2] rfl (sfX3_readLine_92  a0 x1 x2)
    · refine sn_iconst (pc := 90) (v := 0) dX3_readLine_90 (by decide) ?_
      exact sn_zret (pc := 91) dX3_readLine_91 rfl
def fX3_readLine_39 (a0 : Nat) (x1 : Int32) (x2 : Int32) : St → Option (Bool × St) :=
 cl (fX11_within x1 0 15) fun v1001 =>
 br ((bi v1001) = 0) (fX3_readLine_63  a0 x1 x2)
 (gR 4 a0 2 fun v1002 =>
 nn v1002 fun a1003 =>
 wI a1003 x1 x2 <|
 gR 4 a0 4 fun v1004 =>
 nn v1004 fun a1005 =>
 wI a1005 x1 0 <|
 fX3_readLine_63  a0 x1 x2)
set_option maxHeartbeats 4000000 in
set_option maxRecDepth 100000 in
theorem sfX3_readLine_39 {E : Ev} {l : Launch} (a0 : Nat) (x1 : Int32) (x2 : Int32) : Snd E l (dpX3_readLine, RX3, cX3_readLine, 3, (some .boolean), "readLine") rvZ 39 [(0, .ref (E.1 + a0)), (1, .int x1), (2, .int x2)] [] (fX3_readLine_39 a0 x1 x2) := by
  unfold fX3_readLine_39
  refine sn_iload_n (pc := 39) (j := 1) dX3_readLine_39 rfl rfl ?_
  refine sn_iconst (pc := 40) (v := 0) dX3_readLine_40 (by decide) ?_
  refine sn_bipush (pc := 41) (v := 15) dX3_readLine_41 (by decide) ?_
  refine sn_callSN (pc := 43) dX3_readLine_43 iX11_within wt2_96 (List.mem_of_getElem? (i := 10) rfl) (mX11_within x1 0 15) (by decide) rfl rfl (Nat.le_of_ble_eq_true rfl) (fun v1001 => ?_)
  refine sn_if_eq (pc := 46) (tgt := 63) dX3_readLine_46 (by decide) ?_ ?_
  · exact sn_sub (lv' := [(0, .ref (E.1 + a0)), (1, .int x1), (2, .int x2)]) [0, 1, 2] rfl (sfX3_readLine_63  a0 x1 x2)
  · refine sn_aload_n (pc := 49) (j := 0) dX3_readLine_49 rfl rfl ?_
    refine sn_gR (pc := 50) dX3_readLine_50 flX3_18 rfl (fun v1002 => ?_)
    refine sn_iload_n (pc := 53) (j := 1) dX3_readLine_53 rfl rfl ?_
    refine sn_iload_n (pc := 54) (j := 2) dX3_readLine_54 rfl rfl ?_
    rcases v1002 with _ | a1003
    · exact sn_no
    refine sn_nn ?_
    refine sn_iast (pc := 55) dX3_readLine_55 ?_
    refine sn_aload_n (pc := 56) (j := 0) dX3_readLine_56 rfl rfl ?_
    refine sn_gR (pc := 57) dX3_readLine_57 flX3_25 rfl (fun v1004 => ?_)
    refine sn_iload_n (pc := 60) (j := 1) dX3_readLine_60 rfl rfl ?_
    refine sn_iconst (pc := 61) (v := 0) dX3_readLine_61 (by decide) ?_
    rcases v1004 with _ | a1005
    · exact sn_no
    refine sn_nn ?_
    refine sn_iast (pc := 62) dX3_readLine_62 ?_
    exact sn_sub (lv' := [(0, .ref (E.1 + a0)), (1, .int x1), (2, .int x2)]) [0, 1, 2] rfl (sfX3_readLine_63  a0 x1 x2)
def fX3_readLine (a0 : Nat) (x1 : Int32) : St → Option (Bool × St) :=
 ck 4 a0 <| cl (fX3_topicHere a0) fun v1 =>
 br (v1 = (-1)) (gR 4 a0 0 fun v8 =>
 nn v8 fun a9 =>
 ck 9 a9 <| cl (fX8_failHere a9) fun v10 =>
 rtZ (bi v10))
 (br (x1 < 16) (fX3_readLine_39  a0 x1 v1)
 (gR 4 a0 0 fun v2 =>
 gR 4 a0 0 fun v3 =>
 nn v3 fun a5 =>
 gI 9 a5 2 fun v4 =>
 nn v2 fun a6 =>
 ck 9 a6 <| cl (fX8_noteFault a6 3 v4) fun v7 =>
 fX3_readLine_39  a0 x1 v1))
set_option maxHeartbeats 4000000 in
set_option maxRecDepth 100000 in
theorem mX3_readLine {E : Ev} {l : Launch} (a0 : Nat) (x1 : Int32) : MF E l dpX3_readLine yX3_readLine cX3_readLine 3 (some .boolean) rvZ [.ref (E.1 + a0), .int x1] (fX3_readLine a0 x1) := by
  refine MF.of (lv := [(0, .ref (E.1 + a0)), (1, .int x1)]) (by decide) (Nat.le_of_ble_eq_true rfl) rfl ?_
  unfold fX3_readLine
  refine sn_aload_n (pc := 0) (j := 0) dX3_readLine_0 rfl rfl ?_
  refine sn_callV (ci := 3) (pc := 1) dX3_readLine_1 iX3_topicHere wt3_30 ws_14 wt3_28 ⟨_, rfl, rfl⟩ (by decide) (mX3_topicHere a0) (by decide) rfl rfl (Nat.le_of_ble_eq_true rfl) (fun v1 => ?_)
  refine sn_istore_n (pc := 4) (i := 2) (lv' := [(2, .int v1), (0, .ref (E.1 + a0)), (1, .int x1)]) dX3_readLine_4 rfl (by decide) rfl ?_
  refine sn_iload_n (pc := 5) (j := 0) dX3_readLine_5 rfl rfl ?_
  refine sn_iconst (pc := 6) (v := (-1)) dX3_readLine_6 (by decide) ?_
  refine sn_icmp_ne (pc := 7) (tgt := 18) dX3_readLine_7 (by decide) ?_ ?_
  · refine sn_iload_n (pc := 18) (j := 2) dX3_readLine_18 rfl rfl ?_
    refine sn_bipush (pc := 19) (v := 16) dX3_readLine_19 (by decide) ?_
    refine sn_icmp_lt (pc := 21) (tgt := 39) dX3_readLine_21 (by decide) ?_ ?_
    · exact sn_sub (lv' := [(0, .ref (E.1 + a0)), (1, .int x1), (2, .int v1)]) [1, 2, 0] rfl (sfX3_readLine_39  a0 x1 v1)
    · refine sn_aload_n (pc := 24) (j := 1) dX3_readLine_24 rfl rfl ?_
      refine sn_gR (pc := 25) dX3_readLine_25 flX3_12 rfl (fun v2 => ?_)
      refine sn_iconst (pc := 28) (v := 3) dX3_readLine_28 (by decide) ?_
      refine sn_aload_n (pc := 29) (j := 1) dX3_readLine_29 rfl rfl ?_
      refine sn_gR (pc := 30) dX3_readLine_30 flX3_12 rfl (fun v3 => ?_)
      rcases v3 with _ | a5
      · exact sn_no
      refine sn_nn ?_
      refine sn_gI (pc := 33) dX3_readLine_33 flX3_56 rfl (fun v4 => ?_)
      rcases v2 with _ | a6
      · exact sn_no
      refine sn_nn ?_
      refine sn_callV (ci := 8) (pc := 36) dX3_readLine_36 iX8_noteFault wt2_168 wt2_169 wt3_91 ⟨_, rfl, rfl⟩ (by decide) (mX8_noteFault a6 3 v4) (by decide) rfl rfl (Nat.le_of_ble_eq_true rfl) (fun v7 => ?_)
      exact sn_sub (lv' := [(0, .ref (E.1 + a0)), (1, .int x1), (2, .int v1)]) [1, 2, 0] rfl (sfX3_readLine_39  a0 x1 v1)
  · refine sn_aload_n (pc := 10) (j := 1) dX3_readLine_10 rfl rfl ?_
    refine sn_gR (pc := 11) dX3_readLine_11 flX3_12 rfl (fun v8 => ?_)
    rcases v8 with _ | a9
    · exact sn_no
    refine sn_nn ?_
    refine sn_callV (ci := 8) (pc := 14) dX3_readLine_14 iX8_failHere wt2_161 wt2_162 wt3_90 ⟨_, rfl, rfl⟩ (by decide) (mX8_failHere a9) (by decide) rfl rfl (Nat.le_of_ble_eq_true rfl) (fun v10 => ?_)
    exact sn_zret (pc := 17) dX3_readLine_17 rfl
theorem iX3_readLine : MI yX3_readLine cX3_readLine 3 (some .boolean) 1 := ⟨wt1_6, wt3_27, by decide +kernel, by decide⟩
-- NeedleHomes$Reader start([BI)V
theorem dX8_start_0 : decode cX8_start 0 = .ok (.aload_n 0, 1) := by decide +kernel
theorem dX8_start_1 : decode cX8_start 1 = .ok (.aload_n 1, 1) := by decide +kernel
theorem dX8_start_2 : decode cX8_start 2 = .ok (.putfield 9, 3) := by decide +kernel
theorem dX8_start_5 : decode cX8_start 5 = .ok (.aload_n 0, 1) := by decide +kernel
theorem dX8_start_6 : decode cX8_start 6 = .ok (.aload_n 1, 1) := by decide +kernel
theorem dX8_start_7 : decode cX8_start 7 = .ok (.ifnonnull 7, 3) := by decide +kernel
theorem dX8_start_10 : decode cX8_start 10 = .ok (.iconst 0, 1) := by decide +kernel
theorem dX8_start_11 : decode cX8_start 11 = .ok (.goto 13, 3) := by decide +kernel
theorem dX8_start_14 : decode cX8_start 14 = .ok (.iconst 0, 1) := by decide +kernel
theorem dX8_start_15 : decode cX8_start 15 = .ok (.iload_n 2, 1) := by decide +kernel
theorem dX8_start_16 : decode cX8_start 16 = .ok (.aload_n 1, 1) := by decide +kernel
theorem dX8_start_17 : decode cX8_start 17 = .ok (.arraylength, 1) := by decide +kernel
theorem dX8_start_18 : decode cX8_start 18 = .ok (.invokestatic 15, 3) := by decide +kernel
theorem dX8_start_21 : decode cX8_start 21 = .ok (.invokestatic 21, 3) := by decide +kernel
theorem dX8_start_24 : decode cX8_start 24 = .ok (.putfield 24, 3) := by decide +kernel
theorem dX8_start_27 : decode cX8_start 27 = .ok (.aload_n 0, 1) := by decide +kernel
theorem dX8_start_28 : decode cX8_start 28 = .ok (.iconst 0, 1) := by decide +kernel
theorem dX8_start_29 : decode cX8_start 29 = .ok (.putfield 28, 3) := by decide +kernel
theorem dX8_start_32 : decode cX8_start 32 = .ok (.aload_n 0, 1) := by decide +kernel
theorem dX8_start_33 : decode cX8_start 33 = .ok (.iconst 0, 1) := by decide +kernel
theorem dX8_start_34 : decode cX8_start 34 = .ok (.putfield 31, 3) := by decide +kernel
theorem dX8_start_37 : decode cX8_start 37 = .ok (.aload_n 0, 1) := by decide +kernel
theorem dX8_start_38 : decode cX8_start 38 = .ok (.iconst (-1), 1) := by decide +kernel
theorem dX8_start_39 : decode cX8_start 39 = .ok (.putfield 34, 3) := by decide +kernel
theorem dX8_start_42 : decode cX8_start 42 = .ok (.aload_n 0, 1) := by decide +kernel
theorem dX8_start_43 : decode cX8_start 43 = .ok (.invokevirtual 37, 3) := by decide +kernel
theorem dX8_start_46 : decode cX8_start 46 = .ok (.return_, 1) := by decide +kernel
abbrev dpX8_start : Nat := 3
def fX8_start_24 (a0 : Nat) (y0 : Int32) (y1 : Nat) : St → Option (Unit × St) :=
 pI 9 y1 6 y0 <|
 pI 9 a0 7 0 <|
 pI 9 a0 3 0 <|
 pI 9 a0 4 (-1) <|
 ck 9 a0 <| cl (fX8_step a0) fun v1001 =>
 rt ()
set_option maxHeartbeats 4000000 in
set_option maxRecDepth 100000 in
theorem sfX8_start_24 {E : Ev} {l : Launch} (a0 : Nat) (y0 : Int32) (y1 : Nat) : Snd E l (dpX8_start, RX8, cX8_start, 3, none, "start") rvV 24 [(0, .ref (E.1 + a0))] [.int y0, .ref (E.1 + y1)] (fX8_start_24 a0 y0 y1) := by
  unfold fX8_start_24
  refine sn_pI (pc := 24) dX8_start_24 flX8_24 rfl rfl (Or.inl rfl) ?_
  refine sn_aload_n (pc := 27) (j := 0) dX8_start_27 rfl rfl ?_
  refine sn_iconst (pc := 28) (v := 0) dX8_start_28 (by decide) ?_
  refine sn_pI (pc := 29) dX8_start_29 flX8_28 rfl rfl (Or.inl rfl) ?_
  refine sn_aload_n (pc := 32) (j := 0) dX8_start_32 rfl rfl ?_
  refine sn_iconst (pc := 33) (v := 0) dX8_start_33 (by decide) ?_
  refine sn_pI (pc := 34) dX8_start_34 flX8_31 rfl rfl (Or.inl rfl) ?_
  refine sn_aload_n (pc := 37) (j := 0) dX8_start_37 rfl rfl ?_
  refine sn_iconst (pc := 38) (v := (-1)) dX8_start_38 (by decide) ?_
  refine sn_pI (pc := 39) dX8_start_39 flX8_34 rfl rfl (Or.inl rfl) ?_
  refine sn_aload_n (pc := 42) (j := 0) dX8_start_42 rfl rfl ?_
  refine sn_callV (ci := 8) (pc := 43) dX8_start_43 iX8_step wt2_122 wt2_123 wt2_121 ⟨_, rfl, rfl⟩ (by decide) (mX8_step a0) (by decide) rfl rfl (Nat.le_of_ble_eq_true rfl) (fun v1001 => ?_)
  exact sn_vret (pc := 46) dX8_start_46 rfl
def fX8_start (a0 : Nat) (x1 : Option Nat) (x2 : Int32) : St → Option (Unit × St) :=
 pR 9 a0 5 x1 <|
 on x1 (fX8_start_24  a0 0 a0)
 fun a1 => aL 14 a1 fun v2 =>
 fX8_start_24  a0 (mxI 0 (mnI x2 v2)) a0
set_option maxHeartbeats 4000000 in
set_option maxRecDepth 100000 in
theorem mX8_start {E : Ev} {l : Launch} (a0 : Nat) (x1 : Option Nat) (x2 : Int32) : MF E l dpX8_start yX8_start cX8_start 3 none rvV [.ref (E.1 + a0), rf E.1 x1, .int x2] (fX8_start a0 x1 x2) := by
  refine MF.of (lv := [(0, .ref (E.1 + a0)), (1, rf E.1 x1), (2, .int x2)]) (by decide) (by simp [lg_sl, rf_cat, cat_int, cat_long, cat_ref]) (by simp [lv_args, rf_cat, cat_int, cat_long, cat_ref]) ?_
  unfold fX8_start
  refine sn_aload_n (pc := 0) (j := 0) dX8_start_0 rfl rfl ?_
  refine sn_aloadR_n (pc := 1) (r := x1) (j := 1) dX8_start_1 rfl rfl ?_
  refine sn_pR (pc := 2) (v := x1) dX8_start_2 flX8_9 rfl (Or.inr ⟨_, rfl⟩) (Or.inl rfl) ?_
  refine sn_aload_n (pc := 5) (j := 0) dX8_start_5 rfl rfl ?_
  refine sn_aloadR_n (pc := 6) (r := x1) (j := 1) dX8_start_6 rfl rfl ?_
  rcases x1 with _ | a1
  · refine sn_onN ?_
    refine sn_ifnonnull_n (pc := 7) dX8_start_7 ?_
    refine sn_iconst (pc := 10) (v := 0) dX8_start_10 (by decide) ?_
    refine sn_goto (pc := 11) (tgt := 24) dX8_start_11 (by decide) ?_
    exact sn_sub (lv' := [(0, .ref (E.1 + a0))]) [0] rfl (sfX8_start_24  a0 0 a0)
  · refine sn_onS ?_
    refine sn_ifnonnull_s (pc := 7) (tgt := 14) dX8_start_7 (by decide) ?_
    refine sn_iconst (pc := 14) (v := 0) dX8_start_14 (by decide) ?_
    refine sn_iload_n (pc := 15) (j := 2) dX8_start_15 rfl rfl ?_
    refine sn_aload_n (pc := 16) (j := 1) dX8_start_16 rfl rfl ?_
    refine sn_alen (t := 0) (pc := 17) dX8_start_17 rfl (fun v2 => ?_)
    refine sn_mmin (pc := 18) dX8_start_18 wt2_115 wt2_116 wt1_11 wt2_117 (by decide) (Nat.le_of_ble_eq_true rfl) ?_
    refine sn_mmax (pc := 21) dX8_start_21 wt2_118 wt2_119 wt1_11 wt2_120 (by decide) (Nat.le_of_ble_eq_true rfl) ?_
    exact sn_sub (lv' := [(0, .ref (E.1 + a0))]) [0] rfl (sfX8_start_24  a0 (mxI 0 (mnI x2 v2)) a0)
theorem iX8_start : MI yX8_start cX8_start 3 none 2 := ⟨wt1_5, wt2_114, by decide +kernel, by decide⟩
-- NeedleHomes$ListReader read([BI)V
theorem dX3_read_0 : decode cX3_read 0 = .ok (.aload_n 0, 1) := by decide +kernel
theorem dX3_read_1 : decode cX3_read 1 = .ok (.getfield 12, 3) := by decide +kernel
theorem dX3_read_4 : decode cX3_read 4 = .ok (.aload_n 1, 1) := by decide +kernel
theorem dX3_read_5 : decode cX3_read 5 = .ok (.iload_n 2, 1) := by decide +kernel
theorem dX3_read_6 : decode cX3_read 6 = .ok (.invokevirtual 33, 3) := by decide +kernel
theorem dX3_read_9 : decode cX3_read 9 = .ok (.aload_n 0, 1) := by decide +kernel
theorem dX3_read_10 : decode cX3_read 10 = .ok (.iconst 0, 1) := by decide +kernel
theorem dX3_read_11 : decode cX3_read 11 = .ok (.putfield 37, 3) := by decide +kernel
theorem dX3_read_14 : decode cX3_read 14 = .ok (.iconst 0, 1) := by decide +kernel
theorem dX3_read_15 : decode cX3_read 15 = .ok (.istore_n 3, 1) := by decide +kernel
theorem dX3_read_16 : decode cX3_read 16 = .ok (.iload_n 3, 1) := by decide +kernel
theorem dX3_read_17 : decode cX3_read 17 = .ok (.sipush 400, 3) := by decide +kernel
theorem dX3_read_20 : decode cX3_read 20 = .ok (.if_icmp .gt 35, 3) := by decide +kernel
theorem dX3_read_23 : decode cX3_read 23 = .ok (.aload_n 0, 1) := by decide +kernel
theorem dX3_read_24 : decode cX3_read 24 = .ok (.getfield 12, 3) := by decide +kernel
theorem dX3_read_27 : decode cX3_read 27 = .ok (.getfield 41, 3) := by decide +kernel
theorem dX3_read_30 : decode cX3_read 30 = .ok (.ifCond .eq 11, 3) := by decide +kernel
theorem dX3_read_33 : decode cX3_read 33 = .ok (.aload_n 0, 1) := by decide +kernel
theorem dX3_read_34 : decode cX3_read 34 = .ok (.iload_n 3, 1) := by decide +kernel
theorem dX3_read_35 : decode cX3_read 35 = .ok (.invokevirtual 44, 3) := by decide +kernel
theorem dX3_read_38 : decode cX3_read 38 = .ok (.ifCond .ne 4, 3) := by decide +kernel
theorem dX3_read_41 : decode cX3_read 41 = .ok (.return_, 1) := by decide +kernel
theorem dX3_read_42 : decode cX3_read 42 = .ok (.aload_n 0, 1) := by decide +kernel
theorem dX3_read_43 : decode cX3_read 43 = .ok (.iload_n 3, 1) := by decide +kernel
theorem dX3_read_44 : decode cX3_read 44 = .ok (.iconst 1, 1) := by decide +kernel
theorem dX3_read_45 : decode cX3_read 45 = .ok (.iadd, 1) := by decide +kernel
theorem dX3_read_46 : decode cX3_read 46 = .ok (.putfield 37, 3) := by decide +kernel
theorem dX3_read_49 : decode cX3_read 49 = .ok (.iinc 3 1, 3) := by decide +kernel
theorem dX3_read_52 : decode cX3_read 52 = .ok (.goto (-36), 3) := by decide +kernel
theorem dX3_read_55 : decode cX3_read 55 = .ok (.return_, 1) := by decide +kernel
abbrev dpX3_read : Nat := 10
def fX3_read_16 (k16 : (Nat × Int32) → St → Option (Unit × St)) (a0 : Nat) (x3 : Int32) : St → Option (Unit × St) :=
 br (400 < x3) (rt ())
 (gR 4 a0 0 fun v1001 =>
 nn v1001 fun a1003 =>
 gI 9 a1003 0 fun v1002 =>
 br (v1002 = 0) (rt ())
 (ck 4 a0 <| cl (fX3_readLine a0 x3) fun v1004 =>
 br ((bi v1004) = 0) (rt ())
 (pI 4 a0 1 (x3 + 1) <|
 k16 (a0, (x3 + 1)))))
set_option maxHeartbeats 4000000 in
set_option maxRecDepth 100000 in
theorem sfX3_read_16 {E : Ev} {l : Launch} (k16 : (Nat × Int32) → St → Option (Unit × St)) (hk16 : ∀ p : Nat × Int32, Snd E l (dpX3_read, RX3, cX3_read, 4, none, "read") rvV 16 [(0, .ref (E.1 + p.1)), (3, .int p.2)] [] (k16 p)) (a0 : Nat) (x3 : Int32) : Snd E l (dpX3_read, RX3, cX3_read, 4, none, "read") rvV 16 [(0, .ref (E.1 + a0)), (3, .int x3)] [] (fX3_read_16 k16 a0 x3) := by
  unfold fX3_read_16
  refine sn_iload_n (pc := 16) (j := 1) dX3_read_16 rfl rfl ?_
  refine sn_sipush (pc := 17) (v := 400) dX3_read_17 (by decide) ?_
  refine sn_icmp_gt (pc := 20) (tgt := 55) dX3_read_20 (by decide) ?_ ?_
  · exact sn_vret (pc := 55) dX3_read_55 rfl
  · refine sn_aload_n (pc := 23) (j := 0) dX3_read_23 rfl rfl ?_
    refine sn_gR (pc := 24) dX3_read_24 flX3_12 rfl (fun v1001 => ?_)
    rcases v1001 with _ | a1003
    · exact sn_no
    refine sn_nn ?_
    refine sn_gI (pc := 27) dX3_read_27 flX3_41 rfl (fun v1002 => ?_)
    refine sn_if_eq (pc := 30) (tgt := 41) dX3_read_30 (by decide) ?_ ?_
    · exact sn_vret (pc := 41) dX3_read_41 rfl
    · refine sn_aload_n (pc := 33) (j := 0) dX3_read_33 rfl rfl ?_
      refine sn_iload_n (pc := 34) (j := 1) dX3_read_34 rfl rfl ?_
      refine sn_callV (ci := 3) (pc := 35) dX3_read_35 iX3_readLine wt3_26 ws_13 wt3_24 ⟨_, rfl, rfl⟩ (by decide) (mX3_readLine a0 x3) (by decide) rfl rfl (Nat.le_of_ble_eq_true rfl) (fun v1004 => ?_)
      refine sn_if_ne (pc := 38) (tgt := 42) dX3_read_38 (by decide) ?_ ?_
      · refine sn_aload_n (pc := 42) (j := 0) dX3_read_42 rfl rfl ?_
        refine sn_iload_n (pc := 43) (j := 1) dX3_read_43 rfl rfl ?_
        refine sn_iconst (pc := 44) (v := 1) dX3_read_44 (by decide) ?_
        refine sn_iadd (pc := 45) dX3_read_45 ?_
        refine sn_pI (pc := 46) dX3_read_46 flX3_37 rfl rfl (Or.inl rfl) ?_
        refine sn_iinc (pc := 49) (v := x3 + 1) (lv' := [(3, .int (x3 + 1)), (0, .ref (E.1 + a0))]) (j := 1) dX3_read_49 rfl rfl (by decide) rfl ?_
        refine sn_goto (pc := 52) (tgt := 16) dX3_read_52 (by decide) ?_
        exact sn_sub (lv' := [(0, .ref (E.1 + a0)), (3, .int (x3 + 1))]) [1, 0] rfl (hk16 (a0, (x3 + 1)))
      · exact sn_vret (pc := 41) dX3_read_41 rfl
def fX3_read (a0 : Nat) (x1 : Option Nat) (x2 : Int32) : St → Option (Unit × St) :=
 gR 4 a0 0 fun v1 =>
 nn v1 fun a2 =>
 ck 9 a2 <| cl (fX8_start a2 x1 x2) fun v3 =>
 pI 4 a0 1 0 <|
 itr (fun k (p : Nat × Int32) => fX3_read_16  k p.1 p.2) FU (a0, 0)
set_option maxHeartbeats 4000000 in
set_option maxRecDepth 100000 in
theorem mX3_read {E : Ev} {l : Launch} (a0 : Nat) (x1 : Option Nat) (x2 : Int32) : MF E l dpX3_read yX3_read cX3_read 4 none rvV [.ref (E.1 + a0), rf E.1 x1, .int x2] (fX3_read a0 x1 x2) := by
  refine MF.of (lv := [(0, .ref (E.1 + a0)), (1, rf E.1 x1), (2, .int x2)]) (by decide) (by simp [lg_sl, rf_cat, cat_int, cat_long, cat_ref]) (by simp [lv_args, rf_cat, cat_int, cat_long, cat_ref]) ?_
  unfold fX3_read
  refine sn_aload_n (pc := 0) (j := 0) dX3_read_0 rfl rfl ?_
  refine sn_gR (pc := 1) dX3_read_1 flX3_12 rfl (fun v1 => ?_)
  refine sn_aloadR_n (pc := 4) (r := x1) (j := 1) dX3_read_4 rfl rfl ?_
  refine sn_iload_n (pc := 5) (j := 2) dX3_read_5 rfl rfl ?_
  rcases v1 with _ | a2
  · exact sn_no
  refine sn_nn ?_
  refine sn_callV (ci := 8) (pc := 6) dX3_read_6 iX8_start wt2_112 wt2_113 wt3_23 ⟨_, rfl, rfl⟩ (by decide) (mX8_start a2 x1 x2) (by decide) rfl rfl (Nat.le_of_ble_eq_true rfl) (fun v3 => ?_)
  refine sn_aload_n (pc := 9) (j := 0) dX3_read_9 rfl rfl ?_
  refine sn_iconst (pc := 10) (v := 0) dX3_read_10 (by decide) ?_
  refine sn_pI (pc := 11) dX3_read_11 flX3_37 rfl rfl (Or.inl rfl) ?_
  refine sn_iconst (pc := 14) (v := 0) dX3_read_14 (by decide) ?_
  refine sn_istore_n (pc := 15) (i := 3) (lv' := [(3, .int 0), (0, .ref (E.1 + a0)), (1, rf E.1 x1), (2, .int x2)]) dX3_read_15 rfl (by decide) rfl ?_
  exact sn_sub (lv' := [(0, .ref (E.1 + a0)), (3, .int 0)]) [1, 0] rfl (sn_itr (lvf := fun p => [(0, .ref (E.1 + p.1)), (3, .int p.2)]) (stf := fun p => []) (fun k hk p => sfX3_read_16  k hk p.1 p.2) FU (a0, 0))
theorem iX3_read : MI yX3_read cX3_read 4 none 2 := ⟨wt1_6, wt3_22, by decide +kernel, by decide⟩
-- NeedleHomes$Parting <init>()V
theorem dX4_init_0 : decode cX4_init 0 = .ok (.aload_n 0, 1) := by decide +kernel
theorem dX4_init_1 : decode cX4_init 1 = .ok (.invokespecial 3, 3) := by decide +kernel
theorem dX4_init_4 : decode cX4_init 4 = .ok (.aload_n 0, 1) := by decide +kernel
theorem dX4_init_5 : decode cX4_init 5 = .ok (.bipush 12, 2) := by decide +kernel
theorem dX4_init_7 : decode cX4_init 7 = .ok (.newarray .int, 2) := by decide +kernel
theorem dX4_init_9 : decode cX4_init 9 = .ok (.putfield 9, 3) := by decide +kernel
theorem dX4_init_12 : decode cX4_init 12 = .ok (.aload_n 0, 1) := by decide +kernel
theorem dX4_init_13 : decode cX4_init 13 = .ok (.bipush 12, 2) := by decide +kernel
theorem dX4_init_15 : decode cX4_init 15 = .ok (.newarray .int, 2) := by decide +kernel
theorem dX4_init_17 : decode cX4_init 17 = .ok (.putfield 15, 3) := by decide +kernel
theorem dX4_init_20 : decode cX4_init 20 = .ok (.aload_n 0, 1) := by decide +kernel
theorem dX4_init_21 : decode cX4_init 21 = .ok (.bipush 12, 2) := by decide +kernel
theorem dX4_init_23 : decode cX4_init 23 = .ok (.newarray .int, 2) := by decide +kernel
theorem dX4_init_25 : decode cX4_init 25 = .ok (.putfield 18, 3) := by decide +kernel
theorem dX4_init_28 : decode cX4_init 28 = .ok (.return_, 1) := by decide +kernel
abbrev dpX4_init : Nat := 1
def fX4_init (a0 : Nat) : St → Option (Unit × St) :=
 nA 15 12 fun a1 =>
 pR 5 a0 4 (some a1) <|
 nA 15 12 fun a2 =>
 pR 5 a0 5 (some a2) <|
 nA 15 12 fun a3 =>
 pR 5 a0 6 (some a3) <|
 rt ()
set_option maxHeartbeats 4000000 in
set_option maxRecDepth 100000 in
theorem mX4_init {E : Ev} {l : Launch} (a0 : Nat) : MF E l dpX4_init yX4_init cX4_init 1 none rvV [.ref (E.1 + a0)] (fX4_init a0) := by
  refine MF.of (lv := [(0, .ref (E.1 + a0))]) (by decide) (Nat.le_of_ble_eq_true rfl) rfl ?_
  unfold fX4_init
  refine sn_aload_n (pc := 0) (j := 0) dX4_init_0 rfl rfl ?_
  refine sn_objInit (pc := 1) dX4_init_1 wt2_5 w_oi w_oc (by decide) (Nat.le_of_ble_eq_true rfl) ?_
  refine sn_aload_n (pc := 4) (j := 0) dX4_init_4 rfl rfl ?_
  refine sn_bipush (pc := 5) (v := 12) dX4_init_5 (by decide) ?_
  refine sn_newI (pc := 7) dX4_init_7 wt1_109 (fun a1 => ?_)
  refine sn_pR (pc := 9) (v := (some a1)) dX4_init_9 flX4_9 rfl (Or.inr ⟨_, rfl⟩) (Or.inr ⟨rfl, rfl, rfl⟩) ?_
  refine sn_aload_n (pc := 12) (j := 0) dX4_init_12 rfl rfl ?_
  refine sn_bipush (pc := 13) (v := 12) dX4_init_13 (by decide) ?_
  refine sn_newI (pc := 15) dX4_init_15 wt1_109 (fun a2 => ?_)
  refine sn_pR (pc := 17) (v := (some a2)) dX4_init_17 flX4_15 rfl (Or.inr ⟨_, rfl⟩) (Or.inr ⟨rfl, rfl, rfl⟩) ?_
  refine sn_aload_n (pc := 20) (j := 0) dX4_init_20 rfl rfl ?_
  refine sn_bipush (pc := 21) (v := 12) dX4_init_21 (by decide) ?_
  refine sn_newI (pc := 23) dX4_init_23 wt1_109 (fun a3 => ?_)
  refine sn_pR (pc := 25) (v := (some a3)) dX4_init_25 flX4_18 rfl (Or.inr ⟨_, rfl⟩) (Or.inr ⟨rfl, rfl, rfl⟩) ?_
  exact sn_vret (pc := 28) dX4_init_28 rfl
theorem iX4_init : MI yX4_init cX4_init 1 none 0 := ⟨wt1_8, wt2_4, by decide +kernel, by decide⟩
