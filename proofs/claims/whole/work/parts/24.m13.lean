-- NeedleHomesModel items()V
theorem dX12_items_0 : decode cX12_items 0 = .ok (.aload_n 0, 1) := by decide +kernel
theorem dX12_items_1 : decode cX12_items 1 = .ok (.getfield 119, 3) := by decide +kernel
theorem dX12_items_4 : decode cX12_items 4 = .ok (.ifCond .ne 71, 3) := by decide +kernel
theorem dX12_items_7 : decode cX12_items 7 = .ok (.aload_n 0, 1) := by decide +kernel
theorem dX12_items_8 : decode cX12_items 8 = .ok (.getfield 93, 3) := by decide +kernel
theorem dX12_items_11 : decode cX12_items 11 = .ok (.ifCond .ne 11, 3) := by decide +kernel
theorem dX12_items_14 : decode cX12_items 14 = .ok (.aload_n 0, 1) := by decide +kernel
theorem dX12_items_15 : decode cX12_items 15 = .ok (.getfield 134, 3) := by decide +kernel
theorem dX12_items_18 : decode cX12_items 18 = .ok (.ifCond .ne 4, 3) := by decide +kernel
theorem dX12_items_21 : decode cX12_items 21 = .ok (.return_, 1) := by decide +kernel
theorem dX12_items_22 : decode cX12_items 22 = .ok (.aload_n 0, 1) := by decide +kernel
theorem dX12_items_23 : decode cX12_items 23 = .ok (.bipush 93, 2) := by decide +kernel
theorem dX12_items_25 : decode cX12_items 25 = .ok (.invokevirtual 126, 3) := by decide +kernel
theorem dX12_items_28 : decode cX12_items 28 = .ok (.ifCond .eq 10, 3) := by decide +kernel
theorem dX12_items_31 : decode cX12_items 31 = .ok (.aload_n 0, 1) := by decide +kernel
theorem dX12_items_32 : decode cX12_items 32 = .ok (.getfield 134, 3) := by decide +kernel
theorem dX12_items_35 : decode cX12_items 35 = .ok (.ifCond .ne 10, 3) := by decide +kernel
theorem dX12_items_38 : decode cX12_items 38 = .ok (.aload_n 0, 1) := by decide +kernel
theorem dX12_items_39 : decode cX12_items 39 = .ok (.invokevirtual 163, 3) := by decide +kernel
theorem dX12_items_42 : decode cX12_items 42 = .ok (.goto (-42), 3) := by decide +kernel
theorem dX12_items_45 : decode cX12_items 45 = .ok (.aload_n 0, 1) := by decide +kernel
theorem dX12_items_46 : decode cX12_items 46 = .ok (.getfield 134, 3) := by decide +kernel
theorem dX12_items_49 : decode cX12_items 49 = .ok (.bipush 7, 2) := by decide +kernel
theorem dX12_items_51 : decode cX12_items 51 = .ok (.if_icmp .ge 7, 3) := by decide +kernel
theorem dX12_items_54 : decode cX12_items 54 = .ok (.aload_n 0, 1) := by decide +kernel
theorem dX12_items_55 : decode cX12_items 55 = .ok (.invokevirtual 166, 3) := by decide +kernel
theorem dX12_items_58 : decode cX12_items 58 = .ok (.aload_n 0, 1) := by decide +kernel
theorem dX12_items_59 : decode cX12_items 59 = .ok (.dup, 1) := by decide +kernel
theorem dX12_items_60 : decode cX12_items 60 = .ok (.getfield 134, 3) := by decide +kernel
theorem dX12_items_63 : decode cX12_items 63 = .ok (.iconst 1, 1) := by decide +kernel
theorem dX12_items_64 : decode cX12_items 64 = .ok (.isub, 1) := by decide +kernel
theorem dX12_items_65 : decode cX12_items 65 = .ok (.putfield 134, 3) := by decide +kernel
theorem dX12_items_68 : decode cX12_items 68 = .ok (.aload_n 0, 1) := by decide +kernel
theorem dX12_items_69 : decode cX12_items 69 = .ok (.invokevirtual 123, 3) := by decide +kernel
theorem dX12_items_72 : decode cX12_items 72 = .ok (.goto (-72), 3) := by decide +kernel
theorem dX12_items_75 : decode cX12_items 75 = .ok (.return_, 1) := by decide +kernel
abbrev dpX12_items : Nat := 6
def fX12_items_38 (k0 : Nat → St → Option (Unit × St)) (a0 : Nat) : St → Option (Unit × St) :=
 ck 13 a0 <| cl (fX12_anItem a0) fun v3001 =>
 k0 a0
set_option maxHeartbeats 4000000 in
set_option maxRecDepth 100000 in
theorem sfX12_items_38 {E : Ev} {l : Launch} (k0 : Nat → St → Option (Unit × St)) (hk0 : ∀ p : Nat, Snd E l (dpX12_items, RX12, cX12_items, 1, none, "items") rvV 0 [(0, .ref (E.1 + p))] [] (k0 p)) (a0 : Nat) : Snd E l (dpX12_items, RX12, cX12_items, 1, none, "items") rvV 38 [(0, .ref (E.1 + a0))] [] (fX12_items_38 k0 a0) := by
  unfold fX12_items_38
  refine sn_aload_n (pc := 38) (j := 0) dX12_items_38 rfl rfl ?_
  refine sn_callV (ci := 12) (pc := 39) dX12_items_39 iX12_anItem wt6_190 ws_46 wt6_188 ⟨_, rfl, rfl⟩ (by decide) (mX12_anItem a0) (by decide) rfl rfl (Nat.le_of_ble_eq_true rfl) (fun v3001 => ?_)
  refine sn_goto (pc := 42) (tgt := 0) dX12_items_42 (by decide) ?_
  exact sn_sub (lv' := [(0, .ref (E.1 + a0))]) [0] rfl (hk0 a0)
def fX12_items_58 (k0 : Nat → St → Option (Unit × St)) (a0 : Nat) : St → Option (Unit × St) :=
 gI 13 a0 14 fun v4001 =>
 pI 13 a0 14 (v4001 - 1) <|
 ck 13 a0 <| cl (fX12_step a0) fun v4002 =>
 k0 a0
set_option maxHeartbeats 4000000 in
set_option maxRecDepth 100000 in
theorem sfX12_items_58 {E : Ev} {l : Launch} (k0 : Nat → St → Option (Unit × St)) (hk0 : ∀ p : Nat, Snd E l (dpX12_items, RX12, cX12_items, 1, none, "items") rvV 0 [(0, .ref (E.1 + p))] [] (k0 p)) (a0 : Nat) : Snd E l (dpX12_items, RX12, cX12_items, 1, none, "items") rvV 58 [(0, .ref (E.1 + a0))] [] (fX12_items_58 k0 a0) := by
  unfold fX12_items_58
  refine sn_aload_n (pc := 58) (j := 0) dX12_items_58 rfl rfl ?_
  refine sn_dup (pc := 59) dX12_items_59 rfl ?_
  refine sn_gI (pc := 60) dX12_items_60 flX12_134 rfl (fun v4001 => ?_)
  refine sn_iconst (pc := 63) (v := 1) dX12_items_63 (by decide) ?_
  refine sn_isub (pc := 64) dX12_items_64 ?_
  refine sn_pI (pc := 65) dX12_items_65 flX12_134 rfl rfl (Or.inl rfl) ?_
  refine sn_aload_n (pc := 68) (j := 0) dX12_items_68 rfl rfl ?_
  refine sn_callV (ci := 12) (pc := 69) dX12_items_69 iX12_step wt6_147 ws_42 wt6_145 ⟨_, rfl, rfl⟩ (by decide) (mX12_step a0) (by decide) rfl rfl (Nat.le_of_ble_eq_true rfl) (fun v4002 => ?_)
  refine sn_goto (pc := 72) (tgt := 0) dX12_items_72 (by decide) ?_
  exact sn_sub (lv' := [(0, .ref (E.1 + a0))]) [0] rfl (hk0 a0)
def fX12_items_22 (k0 : Nat → St → Option (Unit × St)) (a0 : Nat) : St → Option (Unit × St) :=
 ck 13 a0 <| cl (fX12_isSign a0 93) fun v2001 =>
 br ((bi v2001) = 0) (fX12_items_38 k0 a0)
 (gI 13 a0 14 fun v2002 =>
 br (v2002 = 0) (fX12_items_38 k0 a0)
 (gI 13 a0 14 fun v2003 =>
 br (7 ≤ v2003) (fX12_items_58 k0 a0)
 (ck 13 a0 <| cl (fX12_closes a0) fun v2004 =>
 fX12_items_58 k0 a0)))
set_option maxHeartbeats 4000000 in
set_option maxRecDepth 100000 in
theorem sfX12_items_22 {E : Ev} {l : Launch} (k0 : Nat → St → Option (Unit × St)) (hk0 : ∀ p : Nat, Snd E l (dpX12_items, RX12, cX12_items, 1, none, "items") rvV 0 [(0, .ref (E.1 + p))] [] (k0 p)) (a0 : Nat) : Snd E l (dpX12_items, RX12, cX12_items, 1, none, "items") rvV 22 [(0, .ref (E.1 + a0))] [] (fX12_items_22 k0 a0) := by
  unfold fX12_items_22
  refine sn_aload_n (pc := 22) (j := 0) dX12_items_22 rfl rfl ?_
  refine sn_bipush (pc := 23) (v := 93) dX12_items_23 (by decide) ?_
  refine sn_callV (ci := 12) (pc := 25) dX12_items_25 iX12_isSign wt6_186 ws_45 wt6_184 ⟨_, rfl, rfl⟩ (by decide) (mX12_isSign a0 93) (by decide) rfl rfl (Nat.le_of_ble_eq_true rfl) (fun v2001 => ?_)
  refine sn_if_eq (pc := 28) (tgt := 38) dX12_items_28 (by decide) ?_ ?_
  · exact sn_sub (lv' := [(0, .ref (E.1 + a0))]) [0] rfl (sfX12_items_38 k0 hk0 a0)
  · refine sn_aload_n (pc := 31) (j := 0) dX12_items_31 rfl rfl ?_
    refine sn_gI (pc := 32) dX12_items_32 flX12_134 rfl (fun v2002 => ?_)
    refine sn_if_ne (pc := 35) (tgt := 45) dX12_items_35 (by decide) ?_ ?_
    · refine sn_aload_n (pc := 45) (j := 0) dX12_items_45 rfl rfl ?_
      refine sn_gI (pc := 46) dX12_items_46 flX12_134 rfl (fun v2003 => ?_)
      refine sn_bipush (pc := 49) (v := 7) dX12_items_49 (by decide) ?_
      refine sn_icmp_ge (pc := 51) (tgt := 58) dX12_items_51 (by decide) ?_ ?_
      · exact sn_sub (lv' := [(0, .ref (E.1 + a0))]) [0] rfl (sfX12_items_58 k0 hk0 a0)
      · refine sn_aload_n (pc := 54) (j := 0) dX12_items_54 rfl rfl ?_
        refine sn_callV (ci := 12) (pc := 55) dX12_items_55 iX12_closes wt6_222 ws_53 wt6_220 ⟨_, rfl, rfl⟩ (by decide) (mX12_closes a0) (by decide) rfl rfl (Nat.le_of_ble_eq_true rfl) (fun v2004 => ?_)
        exact sn_sub (lv' := [(0, .ref (E.1 + a0))]) [0] rfl (sfX12_items_58 k0 hk0 a0)
    · exact sn_sub (lv' := [(0, .ref (E.1 + a0))]) [0] rfl (sfX12_items_38 k0 hk0 a0)
def fX12_items_0 (k0 : Nat → St → Option (Unit × St)) (a0 : Nat) : St → Option (Unit × St) :=
 gI 13 a0 9 fun v1001 =>
 br (v1001 = 0) (gI 13 a0 5 fun v1002 =>
 br (v1002 = 0) (gI 13 a0 14 fun v1003 =>
 br (v1003 = 0) (rt ())
 (fX12_items_22 k0 a0))
 (fX12_items_22 k0 a0))
 (rt ())
set_option maxHeartbeats 4000000 in
set_option maxRecDepth 100000 in
theorem sfX12_items_0 {E : Ev} {l : Launch} (k0 : Nat → St → Option (Unit × St)) (hk0 : ∀ p : Nat, Snd E l (dpX12_items, RX12, cX12_items, 1, none, "items") rvV 0 [(0, .ref (E.1 + p))] [] (k0 p)) (a0 : Nat) : Snd E l (dpX12_items, RX12, cX12_items, 1, none, "items") rvV 0 [(0, .ref (E.1 + a0))] [] (fX12_items_0 k0 a0) := by
  unfold fX12_items_0
  refine sn_aload_n (pc := 0) (j := 0) dX12_items_0 rfl rfl ?_
  refine sn_gI (pc := 1) dX12_items_1 flX12_119 rfl (fun v1001 => ?_)
  refine sn_if_ne (pc := 4) (tgt := 75) dX12_items_4 (by decide) ?_ ?_
  · exact sn_vret (pc := 75) dX12_items_75 rfl
  · refine sn_aload_n (pc := 7) (j := 0) dX12_items_7 rfl rfl ?_
    refine sn_gI (pc := 8) dX12_items_8 flX12_93 rfl (fun v1002 => ?_)
    refine sn_if_ne (pc := 11) (tgt := 22) dX12_items_11 (by decide) ?_ ?_
    · exact sn_sub (lv' := [(0, .ref (E.1 + a0))]) [0] rfl (sfX12_items_22 k0 hk0 a0)
    · refine sn_aload_n (pc := 14) (j := 0) dX12_items_14 rfl rfl ?_
      refine sn_gI (pc := 15) dX12_items_15 flX12_134 rfl (fun v1003 => ?_)
      refine sn_if_ne (pc := 18) (tgt := 22) dX12_items_18 (by decide) ?_ ?_
      · exact sn_sub (lv' := [(0, .ref (E.1 + a0))]) [0] rfl (sfX12_items_22 k0 hk0 a0)
      · exact sn_vret (pc := 21) dX12_items_21 rfl
def fX12_items (a0 : Nat) : St → Option (Unit × St) :=
 itr (fun k (p : Nat) => fX12_items_0  k p) FU a0
set_option maxHeartbeats 4000000 in
set_option maxRecDepth 100000 in
theorem mX12_items {E : Ev} {l : Launch} (a0 : Nat) : MF E l dpX12_items yX12_items cX12_items 1 none rvV [.ref (E.1 + a0)] (fX12_items a0) := by
  refine MF.of (lv := [(0, .ref (E.1 + a0))]) (by decide) (Nat.le_of_ble_eq_true rfl) rfl ?_
  unfold fX12_items
  exact sn_sub (lv' := [(0, .ref (E.1 + a0))]) [0] rfl (sn_itr (lvf := fun p => [(0, .ref (E.1 + p))]) (stf := fun p => []) (fun k hk p => sfX12_items_0  k hk p) FU a0)
theorem iX12_items : MI yX12_items cX12_items 1 none 0 := ⟨wt1_10, wt6_183, by decide +kernel, by decide⟩
-- NeedleHomesModel pattern(II)I
theorem dX12_pattern_0 : decode cX12_pattern 0 = .ok (.aload_n 0, 1) := by decide +kernel
theorem dX12_pattern_1 : decode cX12_pattern 1 = .ok (.invokevirtual 169, 3) := by decide +kernel
theorem dX12_pattern_4 : decode cX12_pattern 4 = .ok (.aload_n 0, 1) := by decide +kernel
theorem dX12_pattern_5 : decode cX12_pattern 5 = .ok (.getfield 7, 3) := by decide +kernel
theorem dX12_pattern_8 : decode cX12_pattern 8 = .ok (.iconst 0, 1) := by decide +kernel
theorem dX12_pattern_9 : decode cX12_pattern 9 = .ok (.iaload, 1) := by decide +kernel
theorem dX12_pattern_10 : decode cX12_pattern 10 = .ok (.bipush 8, 2) := by decide +kernel
theorem dX12_pattern_12 : decode cX12_pattern 12 = .ok (.if_icmp .eq 22, 3) := by decide +kernel
theorem dX12_pattern_15 : decode cX12_pattern 15 = .ok (.iload_n 1, 1) := by decide +kernel
theorem dX12_pattern_16 : decode cX12_pattern 16 = .ok (.iconst 0, 1) := by decide +kernel
theorem dX12_pattern_17 : decode cX12_pattern 17 = .ok (.iconst 3, 1) := by decide +kernel
theorem dX12_pattern_18 : decode cX12_pattern 18 = .ok (.invokestatic 51, 3) := by decide +kernel
theorem dX12_pattern_21 : decode cX12_pattern 21 = .ok (.ifCond .eq 13, 3) := by decide +kernel
theorem dX12_pattern_24 : decode cX12_pattern 24 = .ok (.iload_n 2, 1) := by decide +kernel
theorem dX12_pattern_25 : decode cX12_pattern 25 = .ok (.iconst 0, 1) := by decide +kernel
theorem dX12_pattern_26 : decode cX12_pattern 26 = .ok (.ldc 172, 2) := by decide +kernel
theorem dX12_pattern_28 : decode cX12_pattern 28 = .ok (.invokestatic 51, 3) := by decide +kernel
theorem dX12_pattern_31 : decode cX12_pattern 31 = .ok (.ifCond .ne 6, 3) := by decide +kernel
theorem dX12_pattern_34 : decode cX12_pattern 34 = .ok (.bipush (-2), 2) := by decide +kernel
theorem dX12_pattern_36 : decode cX12_pattern 36 = .ok (.ireturn, 1) := by decide +kernel
theorem dX12_pattern_37 : decode cX12_pattern 37 = .ok (.aload_n 0, 1) := by decide +kernel
theorem dX12_pattern_38 : decode cX12_pattern 38 = .ok (.iconst 0, 1) := by decide +kernel
theorem dX12_pattern_39 : decode cX12_pattern 39 = .ok (.putfield 134, 3) := by decide +kernel
theorem dX12_pattern_42 : decode cX12_pattern 42 = .ok (.aload_n 0, 1) := by decide +kernel
theorem dX12_pattern_43 : decode cX12_pattern 43 = .ok (.iconst 1, 1) := by decide +kernel
theorem dX12_pattern_44 : decode cX12_pattern 44 = .ok (.invokevirtual 160, 3) := by decide +kernel
theorem dX12_pattern_47 : decode cX12_pattern 47 = .ok (.aload_n 0, 1) := by decide +kernel
theorem dX12_pattern_48 : decode cX12_pattern 48 = .ok (.getfield 24, 3) := by decide +kernel
theorem dX12_pattern_51 : decode cX12_pattern 51 = .ok (.iconst 0, 1) := by decide +kernel
theorem dX12_pattern_52 : decode cX12_pattern 52 = .ok (.iconst 0, 1) := by decide +kernel
theorem dX12_pattern_53 : decode cX12_pattern 53 = .ok (.iastore, 1) := by decide +kernel
theorem dX12_pattern_54 : decode cX12_pattern 54 = .ok (.aload_n 0, 1) := by decide +kernel
theorem dX12_pattern_55 : decode cX12_pattern 55 = .ok (.invokevirtual 123, 3) := by decide +kernel
theorem dX12_pattern_58 : decode cX12_pattern 58 = .ok (.aload_n 0, 1) := by decide +kernel
theorem dX12_pattern_59 : decode cX12_pattern 59 = .ok (.invokevirtual 173, 3) := by decide +kernel
theorem dX12_pattern_62 : decode cX12_pattern 62 = .ok (.lconst 0, 1) := by decide +kernel
theorem dX12_pattern_63 : decode cX12_pattern 63 = .ok (.lstore_n 3, 1) := by decide +kernel
theorem dX12_pattern_64 : decode cX12_pattern 64 = .ok (.iconst 0, 1) := by decide +kernel
theorem dX12_pattern_65 : decode cX12_pattern 65 = .ok (.istore 5, 2) := by decide +kernel
theorem dX12_pattern_67 : decode cX12_pattern 67 = .ok (.iload 5, 2) := by decide +kernel
theorem dX12_pattern_69 : decode cX12_pattern 69 = .ok (.bipush 24, 2) := by decide +kernel
theorem dX12_pattern_71 : decode cX12_pattern 71 = .ok (.if_icmp .ge 19, 3) := by decide +kernel
theorem dX12_pattern_74 : decode cX12_pattern 74 = .ok (.lload_n 3, 1) := by decide +kernel
theorem dX12_pattern_75 : decode cX12_pattern 75 = .ok (.aload_n 0, 1) := by decide +kernel
theorem dX12_pattern_76 : decode cX12_pattern 76 = .ok (.getfield 21, 3) := by decide +kernel
theorem dX12_pattern_79 : decode cX12_pattern 79 = .ok (.iload 5, 2) := by decide +kernel
theorem dX12_pattern_81 : decode cX12_pattern 81 = .ok (.laload, 1) := by decide +kernel
theorem dX12_pattern_82 : decode cX12_pattern 82 = .ok (.ladd, 1) := by decide +kernel
theorem dX12_pattern_83 : decode cX12_pattern 83 = .ok (.lstore_n 3, 1) := by decide +kernel
theorem dX12_pattern_84 : decode cX12_pattern 84 = .ok (.iinc 5 1, 3) := by decide +kernel
theorem dX12_pattern_87 : decode cX12_pattern 87 = .ok (.goto (-20), 3) := by decide +kernel
theorem dX12_pattern_90 : decode cX12_pattern 90 = .ok (.lload_n 3, 1) := by decide +kernel
theorem dX12_pattern_91 : decode cX12_pattern 91 = .ok (.ldc2_w 176, 3) := by decide +kernel
theorem dX12_pattern_94 : decode cX12_pattern 94 = .ok (.lcmp, 1) := by decide +kernel
theorem dX12_pattern_95 : decode cX12_pattern 95 = .ok (.ifCond .le 9, 3) := by decide +kernel
theorem dX12_pattern_98 : decode cX12_pattern 98 = .ok (.aload_n 0, 1) := by decide +kernel
theorem dX12_pattern_99 : decode cX12_pattern 99 = .ok (.iconst 4, 1) := by decide +kernel
theorem dX12_pattern_100 : decode cX12_pattern 100 = .ok (.iconst 0, 1) := by decide +kernel
theorem dX12_pattern_101 : decode cX12_pattern 101 = .ok (.invokevirtual 152, 3) := by decide +kernel
theorem dX12_pattern_104 : decode cX12_pattern 104 = .ok (.aload_n 0, 1) := by decide +kernel
theorem dX12_pattern_105 : decode cX12_pattern 105 = .ok (.getfield 7, 3) := by decide +kernel
theorem dX12_pattern_108 : decode cX12_pattern 108 = .ok (.bipush 6, 2) := by decide +kernel
theorem dX12_pattern_110 : decode cX12_pattern 110 = .ok (.iaload, 1) := by decide +kernel
theorem dX12_pattern_111 : decode cX12_pattern 111 = .ok (.ifCond .eq 5, 3) := by decide +kernel
theorem dX12_pattern_114 : decode cX12_pattern 114 = .ok (.iconst (-1), 1) := by decide +kernel
theorem dX12_pattern_115 : decode cX12_pattern 115 = .ok (.ireturn, 1) := by decide +kernel
theorem dX12_pattern_116 : decode cX12_pattern 116 = .ok (.bipush 20, 2) := by decide +kernel
theorem dX12_pattern_118 : decode cX12_pattern 118 = .ok (.bipush 27, 2) := by decide +kernel
theorem dX12_pattern_120 : decode cX12_pattern 120 = .ok (.aload_n 0, 1) := by decide +kernel
theorem dX12_pattern_121 : decode cX12_pattern 121 = .ok (.getfield 7, 3) := by decide +kernel
theorem dX12_pattern_124 : decode cX12_pattern 124 = .ok (.iconst 0, 1) := by decide +kernel
theorem dX12_pattern_125 : decode cX12_pattern 125 = .ok (.iaload, 1) := by decide +kernel
theorem dX12_pattern_126 : decode cX12_pattern 126 = .ok (.imul, 1) := by decide +kernel
theorem dX12_pattern_127 : decode cX12_pattern 127 = .ok (.iadd, 1) := by decide +kernel
theorem dX12_pattern_128 : decode cX12_pattern 128 = .ok (.istore 5, 2) := by decide +kernel
theorem dX12_pattern_130 : decode cX12_pattern 130 = .ok (.aload_n 0, 1) := by decide +kernel
theorem dX12_pattern_131 : decode cX12_pattern 131 = .ok (.getfield 7, 3) := by decide +kernel
theorem dX12_pattern_134 : decode cX12_pattern 134 = .ok (.iload 5, 2) := by decide +kernel
theorem dX12_pattern_136 : decode cX12_pattern 136 = .ok (.iload_n 1, 1) := by decide +kernel
theorem dX12_pattern_137 : decode cX12_pattern 137 = .ok (.iastore, 1) := by decide +kernel
theorem dX12_pattern_138 : decode cX12_pattern 138 = .ok (.aload_n 0, 1) := by decide +kernel
theorem dX12_pattern_139 : decode cX12_pattern 139 = .ok (.getfield 7, 3) := by decide +kernel
theorem dX12_pattern_142 : decode cX12_pattern 142 = .ok (.iload 5, 2) := by decide +kernel
theorem dX12_pattern_144 : decode cX12_pattern 144 = .ok (.iconst 1, 1) := by decide +kernel
theorem dX12_pattern_145 : decode cX12_pattern 145 = .ok (.iadd, 1) := by decide +kernel
theorem dX12_pattern_146 : decode cX12_pattern 146 = .ok (.iload_n 2, 1) := by decide +kernel
theorem dX12_pattern_147 : decode cX12_pattern 147 = .ok (.iastore, 1) := by decide +kernel
theorem dX12_pattern_148 : decode cX12_pattern 148 = .ok (.aload_n 0, 1) := by decide +kernel
theorem dX12_pattern_149 : decode cX12_pattern 149 = .ok (.getfield 7, 3) := by decide +kernel
theorem dX12_pattern_152 : decode cX12_pattern 152 = .ok (.iload 5, 2) := by decide +kernel
theorem dX12_pattern_154 : decode cX12_pattern 154 = .ok (.iconst 2, 1) := by decide +kernel
theorem dX12_pattern_155 : decode cX12_pattern 155 = .ok (.iadd, 1) := by decide +kernel
theorem dX12_pattern_156 : decode cX12_pattern 156 = .ok (.lload_n 3, 1) := by decide +kernel
theorem dX12_pattern_157 : decode cX12_pattern 157 = .ok (.l2i, 1) := by decide +kernel
theorem dX12_pattern_158 : decode cX12_pattern 158 = .ok (.iastore, 1) := by decide +kernel
theorem dX12_pattern_159 : decode cX12_pattern 159 = .ok (.iconst 0, 1) := by decide +kernel
theorem dX12_pattern_160 : decode cX12_pattern 160 = .ok (.istore 6, 2) := by decide +kernel
theorem dX12_pattern_162 : decode cX12_pattern 162 = .ok (.iload 6, 2) := by decide +kernel
theorem dX12_pattern_164 : decode cX12_pattern 164 = .ok (.bipush 24, 2) := by decide +kernel
theorem dX12_pattern_166 : decode cX12_pattern 166 = .ok (.if_icmp .ge 29, 3) := by decide +kernel
theorem dX12_pattern_169 : decode cX12_pattern 169 = .ok (.aload_n 0, 1) := by decide +kernel
theorem dX12_pattern_170 : decode cX12_pattern 170 = .ok (.getfield 7, 3) := by decide +kernel
theorem dX12_pattern_173 : decode cX12_pattern 173 = .ok (.iload 5, 2) := by decide +kernel
theorem dX12_pattern_175 : decode cX12_pattern 175 = .ok (.iconst 3, 1) := by decide +kernel
theorem dX12_pattern_176 : decode cX12_pattern 176 = .ok (.iadd, 1) := by decide +kernel
theorem dX12_pattern_177 : decode cX12_pattern 177 = .ok (.iload 6, 2) := by decide +kernel
theorem dX12_pattern_179 : decode cX12_pattern 179 = .ok (.iadd, 1) := by decide +kernel
theorem dX12_pattern_180 : decode cX12_pattern 180 = .ok (.aload_n 0, 1) := by decide +kernel
theorem dX12_pattern_181 : decode cX12_pattern 181 = .ok (.getfield 21, 3) := by decide +kernel
theorem dX12_pattern_184 : decode cX12_pattern 184 = .ok (.iload 6, 2) := by decide +kernel
theorem dX12_pattern_186 : decode cX12_pattern 186 = .ok (.laload, 1) := by decide +kernel
theorem dX12_pattern_187 : decode cX12_pattern 187 = .ok (.l2i, 1) := by decide +kernel
theorem dX12_pattern_188 : decode cX12_pattern 188 = .ok (.iastore, 1) := by decide +kernel
theorem dX12_pattern_189 : decode cX12_pattern 189 = .ok (.iinc 6 1, 3) := by decide +kernel
theorem dX12_pattern_192 : decode cX12_pattern 192 = .ok (.goto (-30), 3) := by decide +kernel
theorem dX12_pattern_195 : decode cX12_pattern 195 = .ok (.aload_n 0, 1) := by decide +kernel
theorem dX12_pattern_196 : decode cX12_pattern 196 = .ok (.getfield 7, 3) := by decide +kernel
theorem dX12_pattern_199 : decode cX12_pattern 199 = .ok (.iconst 0, 1) := by decide +kernel
theorem dX12_pattern_200 : decode cX12_pattern 200 = .ok (.dup2, 1) := by decide +kernel
theorem dX12_pattern_201 : decode cX12_pattern 201 = .ok (.iaload, 1) := by decide +kernel
theorem dX12_pattern_202 : decode cX12_pattern 202 = .ok (.iconst 1, 1) := by decide +kernel
theorem dX12_pattern_203 : decode cX12_pattern 203 = .ok (.iadd, 1) := by decide +kernel
theorem dX12_pattern_204 : decode cX12_pattern 204 = .ok (.iastore, 1) := by decide +kernel
theorem dX12_pattern_205 : decode cX12_pattern 205 = .ok (.aload_n 0, 1) := by decide +kernel
theorem dX12_pattern_206 : decode cX12_pattern 206 = .ok (.getfield 7, 3) := by decide +kernel
theorem dX12_pattern_209 : decode cX12_pattern 209 = .ok (.iconst 0, 1) := by decide +kernel
theorem dX12_pattern_210 : decode cX12_pattern 210 = .ok (.iaload, 1) := by decide +kernel
theorem dX12_pattern_211 : decode cX12_pattern 211 = .ok (.iconst 1, 1) := by decide +kernel
theorem dX12_pattern_212 : decode cX12_pattern 212 = .ok (.isub, 1) := by decide +kernel
theorem dX12_pattern_213 : decode cX12_pattern 213 = .ok (.ireturn, 1) := by decide +kernel
abbrev dpX12_pattern : Nat := 7
def fX12_pattern_162 (k162 : (Nat × Int32 × Int32) → St → Option (Int32 × St)) (a0 : Nat) (x5 : Int32) (x6 : Int32) : St → Option (Int32 × St) :=
 br (24 ≤ x6) (gR 13 a0 0 fun v3001 =>
 nn v3001 fun a3003 =>
 aI 15 a3003 0 fun v3002 =>
 wI a3003 0 (v3002 + 1) <|
 gR 13 a0 0 fun v3004 =>
 nn v3004 fun a3006 =>
 aI 15 a3006 0 fun v3005 =>
 rt (v3005 - 1))
 (gR 13 a0 0 fun v3007 =>
 gR 13 a0 11 fun v3008 =>
 nn v3008 fun a3010 =>
 aJ a3010 x6 fun v3009 =>
 nn v3007 fun a3011 =>
 wI a3011 ((x5 + 3) + x6) v3009.toInt32 <|
 k162 (a0, x5, (x6 + 1)))
set_option maxHeartbeats 4000000 in
set_option maxRecDepth 100000 in
theorem sfX12_pattern_162 {E : Ev} {l : Launch} (k162 : (Nat × Int32 × Int32) → St → Option (Int32 × St)) (hk162 : ∀ p : Nat × Int32 × Int32, Snd E l (dpX12_pattern, RX12, cX12_pattern, 7, (some .int), "pattern") rvI 162 [(0, .ref (E.1 + p.1)), (5, .int p.2.1), (6, .int p.2.2)] [] (k162 p)) (a0 : Nat) (x5 : Int32) (x6 : Int32) : Snd E l (dpX12_pattern, RX12, cX12_pattern, 7, (some .int), "pattern") rvI 162 [(0, .ref (E.1 + a0)), (5, .int x5), (6, .int x6)] [] (fX12_pattern_162 k162 a0 x5 x6) := by
  unfold fX12_pattern_162
  refine sn_iload (pc := 162) (j := 2) dX12_pattern_162 rfl ?_
  refine sn_bipush (pc := 164) (v := 24) dX12_pattern_164 (by decide) ?_
  refine sn_icmp_ge (pc := 166) (tgt := 195) dX12_pattern_166 (by decide) ?_ ?_
  · refine sn_aload_n (pc := 195) (j := 0) dX12_pattern_195 rfl rfl ?_
    refine sn_gR (pc := 196) dX12_pattern_196 flX12_7 rfl (fun v3001 => ?_)
    refine sn_iconst (pc := 199) (v := 0) dX12_pattern_199 (by decide) ?_
    refine sn_dup2 (pc := 200) dX12_pattern_200 rfl (rf_cat _ _) ?_
    rcases v3001 with _ | a3003
    · exact sn_no
    refine sn_nn ?_
    refine sn_iald (pc := 201) dX12_pattern_201 (fun v3002 => ?_)
    refine sn_iconst (pc := 202) (v := 1) dX12_pattern_202 (by decide) ?_
    refine sn_iadd (pc := 203) dX12_pattern_203 ?_
    refine sn_iast (pc := 204) dX12_pattern_204 ?_
    refine sn_aload_n (pc := 205) (j := 0) dX12_pattern_205 rfl rfl ?_
    refine sn_gR (pc := 206) dX12_pattern_206 flX12_7 rfl (fun v3004 => ?_)
    refine sn_iconst (pc := 209) (v := 0) dX12_pattern_209 (by decide) ?_
    rcases v3004 with _ | a3006
    · exact sn_no
    refine sn_nn ?_
    refine sn_iald (pc := 210) dX12_pattern_210 (fun v3005 => ?_)
    refine sn_iconst (pc := 211) (v := 1) dX12_pattern_211 (by decide) ?_
    refine sn_isub (pc := 212) dX12_pattern_212 ?_
    exact sn_iret (pc := 213) dX12_pattern_213 rfl
  · refine sn_aload_n (pc := 169) (j := 0) dX12_pattern_169 rfl rfl ?_
    refine sn_gR (pc := 170) dX12_pattern_170 flX12_7 rfl (fun v3007 => ?_)
    refine sn_iload (pc := 173) (j := 1) dX12_pattern_173 rfl ?_
    refine sn_iconst (pc := 175) (v := 3) dX12_pattern_175 (by decide) ?_
    refine sn_iadd (pc := 176) dX12_pattern_176 ?_
    refine sn_iload (pc := 177) (j := 2) dX12_pattern_177 rfl ?_
    refine sn_iadd (pc := 179) dX12_pattern_179 ?_
    refine sn_aload_n (pc := 180) (j := 0) dX12_pattern_180 rfl rfl ?_
    refine sn_gR (pc := 181) dX12_pattern_181 flX12_21 rfl (fun v3008 => ?_)
    refine sn_iload (pc := 184) (j := 2) dX12_pattern_184 rfl ?_
    rcases v3008 with _ | a3010
    · exact sn_no
    refine sn_nn ?_
    refine sn_lald (pc := 186) dX12_pattern_186 (fun v3009 => ?_)
    refine sn_l2i (pc := 187) dX12_pattern_187 ?_
    rcases v3007 with _ | a3011
    · exact sn_no
    refine sn_nn ?_
    refine sn_iast (pc := 188) dX12_pattern_188 ?_
    refine sn_iinc (pc := 189) (v := x6 + 1) (lv' := [(6, .int (x6 + 1)), (0, .ref (E.1 + a0)), (5, .int x5)]) (j := 2) dX12_pattern_189 rfl rfl (by decide) rfl ?_
    refine sn_goto (pc := 192) (tgt := 162) dX12_pattern_192 (by decide) ?_
    exact sn_sub (lv' := [(0, .ref (E.1 + a0)), (5, .int x5), (6, .int (x6 + 1))]) [1, 2, 0] rfl (hk162 (a0, x5, (x6 + 1)))
def fX12_pattern_104 (a0 : Nat) (x1 : Int32) (x2 : Int32) (x3 : Int64) : St → Option (Int32 × St) :=
 gR 13 a0 0 fun v2001 =>
 nn v2001 fun a2003 =>
 aI 15 a2003 6 fun v2002 =>
 br (v2002 = 0) (gR 13 a0 0 fun v2004 =>
 nn v2004 fun a2006 =>
 aI 15 a2006 0 fun v2005 =>
 gR 13 a0 0 fun v2007 =>
 nn v2007 fun a2008 =>
 wI a2008 (20 + (27 * v2005)) x1 <|
 gR 13 a0 0 fun v2009 =>
 nn v2009 fun a2010 =>
 wI a2010 ((20 + (27 * v2005)) + 1) x2 <|
 gR 13 a0 0 fun v2011 =>
 nn v2011 fun a2012 =>
 wI a2012 ((20 + (27 * v2005)) + 2) x3.toInt32 <|
 itr (fun k (p : Nat × Int32 × Int32) => fX12_pattern_162  k p.1 p.2.1 p.2.2) FU (a0, (20 + (27 * v2005)), 0))
 (rt (-1))
set_option maxHeartbeats 4000000 in
set_option maxRecDepth 100000 in
theorem sfX12_pattern_104 {E : Ev} {l : Launch} (a0 : Nat) (x1 : Int32) (x2 : Int32) (x3 : Int64) : Snd E l (dpX12_pattern, RX12, cX12_pattern, 7, (some .int), "pattern") rvI 104 [(0, .ref (E.1 + a0)), (1, .int x1), (2, .int x2), (3, .long x3)] [] (fX12_pattern_104 a0 x1 x2 x3) := by
  unfold fX12_pattern_104
  refine sn_aload_n (pc := 104) (j := 0) dX12_pattern_104 rfl rfl ?_
  refine sn_gR (pc := 105) dX12_pattern_105 flX12_7 rfl (fun v2001 => ?_)
  refine sn_bipush (pc := 108) (v := 6) dX12_pattern_108 (by decide) ?_
  rcases v2001 with _ | a2003
  · exact sn_no
  refine sn_nn ?_
  refine sn_iald (pc := 110) dX12_pattern_110 (fun v2002 => ?_)
  refine sn_if_eq (pc := 111) (tgt := 116) dX12_pattern_111 (by decide) ?_ ?_
  · refine sn_bipush (pc := 116) (v := 20) dX12_pattern_116 (by decide) ?_
    refine sn_bipush (pc := 118) (v := 27) dX12_pattern_118 (by decide) ?_
    refine sn_aload_n (pc := 120) (j := 0) dX12_pattern_120 rfl rfl ?_
    refine sn_gR (pc := 121) dX12_pattern_121 flX12_7 rfl (fun v2004 => ?_)
    refine sn_iconst (pc := 124) (v := 0) dX12_pattern_124 (by decide) ?_
    rcases v2004 with _ | a2006
    · exact sn_no
    refine sn_nn ?_
    refine sn_iald (pc := 125) dX12_pattern_125 (fun v2005 => ?_)
    refine sn_imul (pc := 126) dX12_pattern_126 ?_
    refine sn_iadd (pc := 127) dX12_pattern_127 ?_
    refine sn_istore (pc := 128) (i := 5) (lv' := [(5, .int (20 + (27 * v2005))), (0, .ref (E.1 + a0)), (1, .int x1), (2, .int x2), (3, .long x3)]) dX12_pattern_128 (by decide) rfl ?_
    refine sn_aload_n (pc := 130) (j := 1) dX12_pattern_130 rfl rfl ?_
    refine sn_gR (pc := 131) dX12_pattern_131 flX12_7 rfl (fun v2007 => ?_)
    refine sn_iload (pc := 134) (j := 0) dX12_pattern_134 rfl ?_
    refine sn_iload_n (pc := 136) (j := 2) dX12_pattern_136 rfl rfl ?_
    rcases v2007 with _ | a2008
    · exact sn_no
    refine sn_nn ?_
    refine sn_iast (pc := 137) dX12_pattern_137 ?_
    refine sn_aload_n (pc := 138) (j := 1) dX12_pattern_138 rfl rfl ?_
    refine sn_gR (pc := 139) dX12_pattern_139 flX12_7 rfl (fun v2009 => ?_)
    refine sn_iload (pc := 142) (j := 0) dX12_pattern_142 rfl ?_
    refine sn_iconst (pc := 144) (v := 1) dX12_pattern_144 (by decide) ?_
    refine sn_iadd (pc := 145) dX12_pattern_145 ?_
    refine sn_iload_n (pc := 146) (j := 3) dX12_pattern_146 rfl rfl ?_
    rcases v2009 with _ | a2010
    · exact sn_no
    refine sn_nn ?_
    refine sn_iast (pc := 147) dX12_pattern_147 ?_
    refine sn_aload_n (pc := 148) (j := 1) dX12_pattern_148 rfl rfl ?_
    refine sn_gR (pc := 149) dX12_pattern_149 flX12_7 rfl (fun v2011 => ?_)
    refine sn_iload (pc := 152) (j := 0) dX12_pattern_152 rfl ?_
    refine sn_iconst (pc := 154) (v := 2) dX12_pattern_154 (by decide) ?_
    refine sn_iadd (pc := 155) dX12_pattern_155 ?_
    refine sn_lload_n (pc := 156) (j := 4) dX12_pattern_156 rfl rfl ?_
    refine sn_l2i (pc := 157) dX12_pattern_157 ?_
    rcases v2011 with _ | a2012
    · exact sn_no
    refine sn_nn ?_
    refine sn_iast (pc := 158) dX12_pattern_158 ?_
    refine sn_iconst (pc := 159) (v := 0) dX12_pattern_159 (by decide) ?_
    refine sn_istore (pc := 160) (i := 6) (lv' := [(6, .int 0), (5, .int (20 + (27 * v2005))), (0, .ref (E.1 + a0)), (1, .int x1), (2, .int x2), (3, .long x3)]) dX12_pattern_160 (by decide) rfl ?_
    exact sn_sub (lv' := [(0, .ref (E.1 + a0)), (5, .int (20 + (27 * v2005))), (6, .int 0)]) [2, 1, 0] rfl (sn_itr (lvf := fun p => [(0, .ref (E.1 + p.1)), (5, .int p.2.1), (6, .int p.2.2)]) (stf := fun p => []) (fun k hk p => sfX12_pattern_162  k hk p.1 p.2.1 p.2.2) FU (a0, (20 + (27 * v2005)), 0))
  · refine sn_iconst (pc := 114) (v := (-1)) dX12_pattern_114 (by decide) ?_
    exact sn_iret (pc := 115) dX12_pattern_115 rfl
def fX12_pattern_67 (k67 : (Nat × Int32 × Int32 × Int64 × Int32) → St → Option (Int32 × St)) (a0 : Nat) (x1 : Int32) (x2 : Int32) (x3 : Int64) (x5 : Int32) : St → Option (Int32 × St) :=
 br (24 ≤ x5) (br ((lg_cmp x3 1000000) ≤ 0) (fX12_pattern_104  a0 x1 x2 x3)
 (ck 13 a0 <| cl (fX12_also a0 4 0) fun v1001 =>
 fX12_pattern_104  a0 x1 x2 x3))
 (gR 13 a0 11 fun v1002 =>
 nn v1002 fun a1004 =>
 aJ a1004 x5 fun v1003 =>
 k67 (a0, x1, x2, (x3 + v1003), (x5 + 1)))
set_option maxHeartbeats 4000000 in
set_option maxRecDepth 100000 in
theorem sfX12_pattern_67 {E : Ev} {l : Launch} (k67 : (Nat × Int32 × Int32 × Int64 × Int32) → St → Option (Int32 × St)) (hk67 : ∀ p : Nat × Int32 × Int32 × Int64 × Int32, Snd E l (dpX12_pattern, RX12, cX12_pattern, 7, (some .int), "pattern") rvI 67 [(0, .ref (E.1 + p.1)), (1, .int p.2.1), (2, .int p.2.2.1), (3, .long p.2.2.2.1), (5, .int p.2.2.2.2)] [] (k67 p)) (a0 : Nat) (x1 : Int32) (x2 : Int32) (x3 : Int64) (x5 : Int32) : Snd E l (dpX12_pattern, RX12, cX12_pattern, 7, (some .int), "pattern") rvI 67 [(0, .ref (E.1 + a0)), (1, .int x1), (2, .int x2), (3, .long x3), (5, .int x5)] [] (fX12_pattern_67 k67 a0 x1 x2 x3 x5) := by
  unfold fX12_pattern_67
  refine sn_iload (pc := 67) (j := 4) dX12_pattern_67 rfl ?_
  refine sn_bipush (pc := 69) (v := 24) dX12_pattern_69 (by decide) ?_
  refine sn_icmp_ge (pc := 71) (tgt := 90) dX12_pattern_71 (by decide) ?_ ?_
  · refine sn_lload_n (pc := 90) (j := 3) dX12_pattern_90 rfl rfl ?_
    refine sn_ldc2 (pc := 91) (v := 1000000) dX12_pattern_91 wt6_224 ?_
    refine sn_lcmp (pc := 94) dX12_pattern_94 ?_
    refine sn_if_le (pc := 95) (tgt := 104) dX12_pattern_95 (by decide) ?_ ?_
    · exact sn_sub (lv' := [(0, .ref (E.1 + a0)), (1, .int x1), (2, .int x2), (3, .long x3)]) [0, 1, 2, 3] rfl (sfX12_pattern_104  a0 x1 x2 x3)
    · refine sn_aload_n (pc := 98) (j := 0) dX12_pattern_98 rfl rfl ?_
      refine sn_iconst (pc := 99) (v := 4) dX12_pattern_99 (by decide) ?_
      refine sn_iconst (pc := 100) (v := 0) dX12_pattern_100 (by decide) ?_
      refine sn_callV (ci := 12) (pc := 101) dX12_pattern_101 iX12_also wt6_214 ws_51 wt6_212 ⟨_, rfl, rfl⟩ (by decide) (mX12_also a0 4 0) (by decide) rfl rfl (Nat.le_of_ble_eq_true rfl) (fun v1001 => ?_)
      exact sn_sub (lv' := [(0, .ref (E.1 + a0)), (1, .int x1), (2, .int x2), (3, .long x3)]) [0, 1, 2, 3] rfl (sfX12_pattern_104  a0 x1 x2 x3)
  · refine sn_lload_n (pc := 74) (j := 3) dX12_pattern_74 rfl rfl ?_
    refine sn_aload_n (pc := 75) (j := 0) dX12_pattern_75 rfl rfl ?_
    refine sn_gR (pc := 76) dX12_pattern_76 flX12_21 rfl (fun v1002 => ?_)
    refine sn_iload (pc := 79) (j := 4) dX12_pattern_79 rfl ?_
    rcases v1002 with _ | a1004
    · exact sn_no
    refine sn_nn ?_
    refine sn_lald (pc := 81) dX12_pattern_81 (fun v1003 => ?_)
    refine sn_ladd (pc := 82) dX12_pattern_82 ?_
    refine sn_lstore_n (pc := 83) (i := 3) (lv' := [(3, .long (x3 + v1003)), (0, .ref (E.1 + a0)), (1, .int x1), (2, .int x2), (5, .int x5)]) dX12_pattern_83 rfl (by decide) rfl ?_
    refine sn_iinc (pc := 84) (v := x5 + 1) (lv' := [(5, .int (x5 + 1)), (3, .long (x3 + v1003)), (0, .ref (E.1 + a0)), (1, .int x1), (2, .int x2)]) (j := 4) dX12_pattern_84 rfl rfl (by decide) rfl ?_
    refine sn_goto (pc := 87) (tgt := 67) dX12_pattern_87 (by decide) ?_
    exact sn_sub (lv' := [(0, .ref (E.1 + a0)), (1, .int x1), (2, .int x2), (3, .long (x3 + v1003)), (5, .int (x5 + 1))]) [2, 3, 4, 1, 0] rfl (hk67 (a0, x1, x2, (x3 + v1003), (x5 + 1)))
def fX12_pattern (a0 : Nat) (x1 : Int32) (x2 : Int32) : St → Option (Int32 × St) :=
 ck 13 a0 <| cl (fX12_begins a0) fun v1 =>
 gR 13 a0 0 fun v2 =>
 nn v2 fun a4 =>
 aI 15 a4 0 fun v3 =>
 br (v3 = 8) (rt (-2))
 (cl (fX12_isIn x1 0 3) fun v5 =>
 br ((bi v5) = 0) (rt (-2))
 (cl (fX12_isIn x2 0 16777215) fun v6 =>
 br ((bi v6) = 0) (rt (-2))
 (pI 13 a0 14 0 <|
 ck 13 a0 <| cl (fX12_opens a0 1) fun v7 =>
 gR 13 a0 12 fun v8 =>
 nn v8 fun a9 =>
 wI a9 0 0 <|
 ck 13 a0 <| cl (fX12_step a0) fun v10 =>
 ck 13 a0 <| cl (fX12_items a0) fun v11 =>
 itr (fun k (p : Nat × Int32 × Int32 × Int64 × Int32) => fX12_pattern_67  k p.1 p.2.1 p.2.2.1 p.2.2.2.1 p.2.2.2.2) FU (a0, x1, x2, 0, 0))))
set_option maxHeartbeats 4000000 in
set_option maxRecDepth 100000 in
theorem mX12_pattern {E : Ev} {l : Launch} (a0 : Nat) (x1 : Int32) (x2 : Int32) : MF E l dpX12_pattern yX12_pattern cX12_pattern 7 (some .int) rvI [.ref (E.1 + a0), .int x1, .int x2] (fX12_pattern a0 x1 x2) := by
  refine MF.of (lv := [(0, .ref (E.1 + a0)), (1, .int x1), (2, .int x2)]) (by decide) (Nat.le_of_ble_eq_true rfl) rfl ?_
  unfold fX12_pattern
  refine sn_aload_n (pc := 0) (j := 0) dX12_pattern_0 rfl rfl ?_
  refine sn_callV (ci := 12) (pc := 1) dX12_pattern_1 iX12_begins wt6_135 ws_40 wt6_133 ⟨_, rfl, rfl⟩ (by decide) (mX12_begins a0) (by decide) rfl rfl (Nat.le_of_ble_eq_true rfl) (fun v1 => ?_)
  refine sn_aload_n (pc := 4) (j := 0) dX12_pattern_4 rfl rfl ?_
  refine sn_gR (pc := 5) dX12_pattern_5 flX12_7 rfl (fun v2 => ?_)
  refine sn_iconst (pc := 8) (v := 0) dX12_pattern_8 (by decide) ?_
  rcases v2 with _ | a4
  · exact sn_no
  refine sn_nn ?_
  refine sn_iald (pc := 9) dX12_pattern_9 (fun v3 => ?_)
  refine sn_bipush (pc := 10) (v := 8) dX12_pattern_10 (by decide) ?_
  refine sn_icmp_eq (pc := 12) (tgt := 34) dX12_pattern_12 (by decide) ?_ ?_
  · refine sn_bipush (pc := 34) (v := (-2)) dX12_pattern_34 (by decide) ?_
    exact sn_iret (pc := 36) dX12_pattern_36 rfl
  · refine sn_iload_n (pc := 15) (j := 1) dX12_pattern_15 rfl rfl ?_
    refine sn_iconst (pc := 16) (v := 0) dX12_pattern_16 (by decide) ?_
    refine sn_iconst (pc := 17) (v := 3) dX12_pattern_17 (by decide) ?_
    refine sn_callS (pc := 18) dX12_pattern_18 iX12_isIn wt6_138 wt6_137 (mX12_isIn x1 0 3) (by decide) rfl rfl (Nat.le_of_ble_eq_true rfl) (fun v5 => ?_)
    refine sn_if_eq (pc := 21) (tgt := 34) dX12_pattern_21 (by decide) ?_ ?_
    · refine sn_bipush (pc := 34) (v := (-2)) dX12_pattern_34 (by decide) ?_
      exact sn_iret (pc := 36) dX12_pattern_36 rfl
    · refine sn_iload_n (pc := 24) (j := 2) dX12_pattern_24 rfl rfl ?_
      refine sn_iconst (pc := 25) (v := 0) dX12_pattern_25 (by decide) ?_
      refine sn_ldc (pc := 26) (v := 16777215) dX12_pattern_26 wt6_140 ?_
      refine sn_callS (pc := 28) dX12_pattern_28 iX12_isIn wt6_138 wt6_137 (mX12_isIn x2 0 16777215) (by decide) rfl rfl (Nat.le_of_ble_eq_true rfl) (fun v6 => ?_)
      refine sn_if_ne (pc := 31) (tgt := 37) dX12_pattern_31 (by decide) ?_ ?_
      · refine sn_aload_n (pc := 37) (j := 0) dX12_pattern_37 rfl rfl ?_
        refine sn_iconst (pc := 38) (v := 0) dX12_pattern_38 (by decide) ?_
        refine sn_pI (pc := 39) dX12_pattern_39 flX12_134 rfl rfl (Or.inl rfl) ?_
        refine sn_aload_n (pc := 42) (j := 0) dX12_pattern_42 rfl rfl ?_
        refine sn_iconst (pc := 43) (v := 1) dX12_pattern_43 (by decide) ?_
        refine sn_callV (ci := 12) (pc := 44) dX12_pattern_44 iX12_opens wt6_143 ws_41 wt6_141 ⟨_, rfl, rfl⟩ (by decide) (mX12_opens a0 1) (by decide) rfl rfl (Nat.le_of_ble_eq_true rfl) (fun v7 => ?_)
        refine sn_aload_n (pc := 47) (j := 0) dX12_pattern_47 rfl rfl ?_
        refine sn_gR (pc := 48) dX12_pattern_48 flX12_24 rfl (fun v8 => ?_)
        refine sn_iconst (pc := 51) (v := 0) dX12_pattern_51 (by decide) ?_
        refine sn_iconst (pc := 52) (v := 0) dX12_pattern_52 (by decide) ?_
        rcases v8 with _ | a9
        · exact sn_no
        refine sn_nn ?_
        refine sn_iast (pc := 53) dX12_pattern_53 ?_
        refine sn_aload_n (pc := 54) (j := 0) dX12_pattern_54 rfl rfl ?_
        refine sn_callV (ci := 12) (pc := 55) dX12_pattern_55 iX12_step wt6_147 ws_42 wt6_145 ⟨_, rfl, rfl⟩ (by decide) (mX12_step a0) (by decide) rfl rfl (Nat.le_of_ble_eq_true rfl) (fun v10 => ?_)
        refine sn_aload_n (pc := 58) (j := 0) dX12_pattern_58 rfl rfl ?_
        refine sn_callV (ci := 12) (pc := 59) dX12_pattern_59 iX12_items wt6_182 ws_44 wt6_180 ⟨_, rfl, rfl⟩ (by decide) (mX12_items a0) (by decide) rfl rfl (Nat.le_of_ble_eq_true rfl) (fun v11 => ?_)
        refine sn_lconst (pc := 62) (v := 0) dX12_pattern_62 (by decide) ?_
        refine sn_lstore_n (pc := 63) (i := 3) (lv' := [(3, .long 0), (0, .ref (E.1 + a0)), (1, .int x1), (2, .int x2)]) dX12_pattern_63 rfl (by decide) rfl ?_
        refine sn_iconst (pc := 64) (v := 0) dX12_pattern_64 (by decide) ?_
        refine sn_istore (pc := 65) (i := 5) (lv' := [(5, .int 0), (3, .long 0), (0, .ref (E.1 + a0)), (1, .int x1), (2, .int x2)]) dX12_pattern_65 (by decide) rfl ?_
        exact sn_sub (lv' := [(0, .ref (E.1 + a0)), (1, .int x1), (2, .int x2), (3, .long 0), (5, .int 0)]) [2, 3, 4, 1, 0] rfl (sn_itr (lvf := fun p => [(0, .ref (E.1 + p.1)), (1, .int p.2.1), (2, .int p.2.2.1), (3, .long p.2.2.2.1), (5, .int p.2.2.2.2)]) (stf := fun p => []) (fun k hk p => sfX12_pattern_67  k hk p.1 p.2.1 p.2.2.1 p.2.2.2.1 p.2.2.2.2) FU (a0, x1, x2, 0, 0))
      · refine sn_bipush (pc := 34) (v := (-2)) dX12_pattern_34 (by decide) ?_
        exact sn_iret (pc := 36) dX12_pattern_36 rfl
theorem iX12_pattern : MI yX12_pattern cX12_pattern 7 (some .int) 2 := ⟨wt1_10, wt6_132, by decide +kernel, by decide⟩
-- NeedleHomesModel fault(I)I
theorem dX12_fault_0 : decode cX12_fault 0 = .ok (.iload_n 1, 1) := by decide +kernel
theorem dX12_fault_1 : decode cX12_fault 1 = .ok (.ifCond .ne 13, 3) := by decide +kernel
theorem dX12_fault_4 : decode cX12_fault 4 = .ok (.aload_n 0, 1) := by decide +kernel
theorem dX12_fault_5 : decode cX12_fault 5 = .ok (.getfield 7, 3) := by decide +kernel
theorem dX12_fault_8 : decode cX12_fault 8 = .ok (.bipush 6, 2) := by decide +kernel
theorem dX12_fault_10 : decode cX12_fault 10 = .ok (.iaload, 1) := by decide +kernel
theorem dX12_fault_11 : decode cX12_fault 11 = .ok (.goto 19, 3) := by decide +kernel
theorem dX12_fault_14 : decode cX12_fault 14 = .ok (.iload_n 1, 1) := by decide +kernel
theorem dX12_fault_15 : decode cX12_fault 15 = .ok (.iconst 1, 1) := by decide +kernel
theorem dX12_fault_16 : decode cX12_fault 16 = .ok (.if_icmp .ne 13, 3) := by decide +kernel
theorem dX12_fault_19 : decode cX12_fault 19 = .ok (.aload_n 0, 1) := by decide +kernel
theorem dX12_fault_20 : decode cX12_fault 20 = .ok (.getfield 7, 3) := by decide +kernel
theorem dX12_fault_23 : decode cX12_fault 23 = .ok (.bipush 7, 2) := by decide +kernel
theorem dX12_fault_25 : decode cX12_fault 25 = .ok (.iaload, 1) := by decide +kernel
theorem dX12_fault_26 : decode cX12_fault 26 = .ok (.goto 4, 3) := by decide +kernel
theorem dX12_fault_29 : decode cX12_fault 29 = .ok (.iconst (-1), 1) := by decide +kernel
theorem dX12_fault_30 : decode cX12_fault 30 = .ok (.ireturn, 1) := by decide +kernel
abbrev dpX12_fault : Nat := 0
def fX12_fault (a0 : Nat) (x1 : Int32) : St → Option (Int32 × St) :=
 br (x1 = 0) (gR 13 a0 0 fun v4 =>
 nn v4 fun a6 =>
 aI 15 a6 6 fun v5 =>
 rt v5)
 (br (x1 = 1) (gR 13 a0 0 fun v1 =>
 nn v1 fun a3 =>
 aI 15 a3 7 fun v2 =>
 rt v2)
 (rt (-1)))
set_option maxHeartbeats 4000000 in
set_option maxRecDepth 100000 in
theorem mX12_fault {E : Ev} {l : Launch} (a0 : Nat) (x1 : Int32) : MF E l dpX12_fault yX12_fault cX12_fault 2 (some .int) rvI [.ref (E.1 + a0), .int x1] (fX12_fault a0 x1) := by
  refine MF.of (lv := [(0, .ref (E.1 + a0)), (1, .int x1)]) (by decide) (Nat.le_of_ble_eq_true rfl) rfl ?_
  unfold fX12_fault
  refine sn_iload_n (pc := 0) (j := 1) dX12_fault_0 rfl rfl ?_
  refine sn_if_ne (pc := 1) (tgt := 14) dX12_fault_1 (by decide) ?_ ?_
  · refine sn_iload_n (pc := 14) (j := 1) dX12_fault_14 rfl rfl ?_
    refine sn_iconst (pc := 15) (v := 1) dX12_fault_15 (by decide) ?_
    refine sn_icmp_ne (pc := 16) (tgt := 29) dX12_fault_16 (by decide) ?_ ?_
    · refine sn_iconst (pc := 29) (v := (-1)) dX12_fault_29 (by decide) ?_
      exact sn_iret (pc := 30) dX12_fault_30 rfl
    · refine sn_aload_n (pc := 19) (j := 0) dX12_fault_19 rfl rfl ?_
      refine sn_gR (pc := 20) dX12_fault_20 flX12_7 rfl (fun v1 => ?_)
      refine sn_bipush (pc := 23) (v := 7) dX12_fault_23 (by decide) ?_
      rcases v1 with _ | a3
      · exact sn_no
      refine sn_nn ?_
      refine sn_iald (pc := 25) dX12_fault_25 (fun v2 => ?_)
      refine sn_goto (pc := 26) (tgt := 30) dX12_fault_26 (by decide) ?_
      exact sn_iret (pc := 30) dX12_fault_30 rfl
  · refine sn_aload_n (pc := 4) (j := 0) dX12_fault_4 rfl rfl ?_
    refine sn_gR (pc := 5) dX12_fault_5 flX12_7 rfl (fun v4 => ?_)
    refine sn_bipush (pc := 8) (v := 6) dX12_fault_8 (by decide) ?_
    rcases v4 with _ | a6
    · exact sn_no
    refine sn_nn ?_
    refine sn_iald (pc := 10) dX12_fault_10 (fun v5 => ?_)
    refine sn_goto (pc := 11) (tgt := 30) dX12_fault_11 (by decide) ?_
    exact sn_iret (pc := 30) dX12_fault_30 rfl
theorem iX12_fault : MI yX12_fault cX12_fault 2 (some .int) 1 := ⟨wt1_10, wt6_228, by decide +kernel, by decide⟩
-- NeedleHomesModel stitches(III)I
theorem dX12_stitches_0 : decode cX12_stitches 0 = .ok (.aload_n 0, 1) := by decide +kernel
theorem dX12_stitches_1 : decode cX12_stitches 1 = .ok (.iload_n 1, 1) := by decide +kernel
theorem dX12_stitches_2 : decode cX12_stitches 2 = .ok (.iconst 0, 1) := by decide +kernel
theorem dX12_stitches_3 : decode cX12_stitches 3 = .ok (.invokevirtual 178, 3) := by decide +kernel
theorem dX12_stitches_6 : decode cX12_stitches 6 = .ok (.ifCond .eq 36, 3) := by decide +kernel
theorem dX12_stitches_9 : decode cX12_stitches 9 = .ok (.iload_n 2, 1) := by decide +kernel
theorem dX12_stitches_10 : decode cX12_stitches 10 = .ok (.iconst 0, 1) := by decide +kernel
theorem dX12_stitches_11 : decode cX12_stitches 11 = .ok (.iconst 5, 1) := by decide +kernel
theorem dX12_stitches_12 : decode cX12_stitches 12 = .ok (.invokestatic 51, 3) := by decide +kernel
theorem dX12_stitches_15 : decode cX12_stitches 15 = .ok (.ifCond .eq 27, 3) := by decide +kernel
theorem dX12_stitches_18 : decode cX12_stitches 18 = .ok (.iload_n 3, 1) := by decide +kernel
theorem dX12_stitches_19 : decode cX12_stitches 19 = .ok (.iconst 0, 1) := by decide +kernel
theorem dX12_stitches_20 : decode cX12_stitches 20 = .ok (.iconst 3, 1) := by decide +kernel
theorem dX12_stitches_21 : decode cX12_stitches 21 = .ok (.invokestatic 51, 3) := by decide +kernel
theorem dX12_stitches_24 : decode cX12_stitches 24 = .ok (.ifCond .eq 18, 3) := by decide +kernel
theorem dX12_stitches_27 : decode cX12_stitches 27 = .ok (.aload_n 0, 1) := by decide +kernel
theorem dX12_stitches_28 : decode cX12_stitches 28 = .ok (.iload_n 1, 1) := by decide +kernel
theorem dX12_stitches_29 : decode cX12_stitches 29 = .ok (.iconst 3, 1) := by decide +kernel
theorem dX12_stitches_30 : decode cX12_stitches 30 = .ok (.iconst 4, 1) := by decide +kernel
theorem dX12_stitches_31 : decode cX12_stitches 31 = .ok (.iload_n 2, 1) := by decide +kernel
theorem dX12_stitches_32 : decode cX12_stitches 32 = .ok (.imul, 1) := by decide +kernel
theorem dX12_stitches_33 : decode cX12_stitches 33 = .ok (.iadd, 1) := by decide +kernel
theorem dX12_stitches_34 : decode cX12_stitches 34 = .ok (.iload_n 3, 1) := by decide +kernel
theorem dX12_stitches_35 : decode cX12_stitches 35 = .ok (.iadd, 1) := by decide +kernel
theorem dX12_stitches_36 : decode cX12_stitches 36 = .ok (.invokevirtual 182, 3) := by decide +kernel
theorem dX12_stitches_39 : decode cX12_stitches 39 = .ok (.goto 4, 3) := by decide +kernel
theorem dX12_stitches_42 : decode cX12_stitches 42 = .ok (.iconst (-1), 1) := by decide +kernel
theorem dX12_stitches_43 : decode cX12_stitches 43 = .ok (.ireturn, 1) := by decide +kernel
abbrev dpX12_stitches : Nat := 2
def fX12_stitches (a0 : Nat) (x1 : Int32) (x2 : Int32) (x3 : Int32) : St → Option (Int32 × St) :=
 ck 13 a0 <| cl (fX12_isOf a0 x1 0) fun v1 =>
 br ((bi v1) = 0) (rt (-1))
 (cl (fX12_isIn x2 0 5) fun v2 =>
 br ((bi v2) = 0) (rt (-1))
 (cl (fX12_isIn x3 0 3) fun v3 =>
 br ((bi v3) = 0) (rt (-1))
 (ck 13 a0 <| cl (fX12_patternOf a0 x1 ((3 + (4 * x2)) + x3)) fun v4 =>
 rt v4)))
set_option maxHeartbeats 4000000 in
set_option maxRecDepth 100000 in
theorem mX12_stitches {E : Ev} {l : Launch} (a0 : Nat) (x1 : Int32) (x2 : Int32) (x3 : Int32) : MF E l dpX12_stitches yX12_stitches cX12_stitches 4 (some .int) rvI [.ref (E.1 + a0), .int x1, .int x2, .int x3] (fX12_stitches a0 x1 x2 x3) := by
  refine MF.of (lv := [(0, .ref (E.1 + a0)), (1, .int x1), (2, .int x2), (3, .int x3)]) (by decide) (Nat.le_of_ble_eq_true rfl) rfl ?_
  unfold fX12_stitches
  refine sn_aload_n (pc := 0) (j := 0) dX12_stitches_0 rfl rfl ?_
  refine sn_iload_n (pc := 1) (j := 1) dX12_stitches_1 rfl rfl ?_
  refine sn_iconst (pc := 2) (v := 0) dX12_stitches_2 (by decide) ?_
  refine sn_callV (ci := 12) (pc := 3) dX12_stitches_3 iX12_isOf wt6_235 ws_54 wt6_233 ⟨_, rfl, rfl⟩ (by decide) (mX12_isOf a0 x1 0) (by decide) rfl rfl (Nat.le_of_ble_eq_true rfl) (fun v1 => ?_)
  refine sn_if_eq (pc := 6) (tgt := 42) dX12_stitches_6 (by decide) ?_ ?_
  · refine sn_iconst (pc := 42) (v := (-1)) dX12_stitches_42 (by decide) ?_
    exact sn_iret (pc := 43) dX12_stitches_43 rfl
  · refine sn_iload_n (pc := 9) (j := 2) dX12_stitches_9 rfl rfl ?_
    refine sn_iconst (pc := 10) (v := 0) dX12_stitches_10 (by decide) ?_
    refine sn_iconst (pc := 11) (v := 5) dX12_stitches_11 (by decide) ?_
    refine sn_callS (pc := 12) dX12_stitches_12 iX12_isIn wt6_138 wt6_137 (mX12_isIn x2 0 5) (by decide) rfl rfl (Nat.le_of_ble_eq_true rfl) (fun v2 => ?_)
    refine sn_if_eq (pc := 15) (tgt := 42) dX12_stitches_15 (by decide) ?_ ?_
    · refine sn_iconst (pc := 42) (v := (-1)) dX12_stitches_42 (by decide) ?_
      exact sn_iret (pc := 43) dX12_stitches_43 rfl
    · refine sn_iload_n (pc := 18) (j := 3) dX12_stitches_18 rfl rfl ?_
      refine sn_iconst (pc := 19) (v := 0) dX12_stitches_19 (by decide) ?_
      refine sn_iconst (pc := 20) (v := 3) dX12_stitches_20 (by decide) ?_
      refine sn_callS (pc := 21) dX12_stitches_21 iX12_isIn wt6_138 wt6_137 (mX12_isIn x3 0 3) (by decide) rfl rfl (Nat.le_of_ble_eq_true rfl) (fun v3 => ?_)
      refine sn_if_eq (pc := 24) (tgt := 42) dX12_stitches_24 (by decide) ?_ ?_
      · refine sn_iconst (pc := 42) (v := (-1)) dX12_stitches_42 (by decide) ?_
        exact sn_iret (pc := 43) dX12_stitches_43 rfl
      · refine sn_aload_n (pc := 27) (j := 0) dX12_stitches_27 rfl rfl ?_
        refine sn_iload_n (pc := 28) (j := 1) dX12_stitches_28 rfl rfl ?_
        refine sn_iconst (pc := 29) (v := 3) dX12_stitches_29 (by decide) ?_
        refine sn_iconst (pc := 30) (v := 4) dX12_stitches_30 (by decide) ?_
        refine sn_iload_n (pc := 31) (j := 2) dX12_stitches_31 rfl rfl ?_
        refine sn_imul (pc := 32) dX12_stitches_32 ?_
        refine sn_iadd (pc := 33) dX12_stitches_33 ?_
        refine sn_iload_n (pc := 34) (j := 3) dX12_stitches_34 rfl rfl ?_
        refine sn_iadd (pc := 35) dX12_stitches_35 ?_
        refine sn_callV (ci := 12) (pc := 36) dX12_stitches_36 iX12_patternOf wt6_239 ws_55 wt6_237 ⟨_, rfl, rfl⟩ (by decide) (mX12_patternOf a0 x1 ((3 + (4 * x2)) + x3)) (by decide) rfl rfl (Nat.le_of_ble_eq_true rfl) (fun v4 => ?_)
        refine sn_goto (pc := 39) (tgt := 43) dX12_stitches_39 (by decide) ?_
        exact sn_iret (pc := 43) dX12_stitches_43 rfl
theorem iX12_stitches : MI yX12_stitches cX12_stitches 4 (some .int) 3 := ⟨wt1_10, wt6_232, by decide +kernel, by decide⟩
-- NeedleHomesModel ones(I)I
theorem dX12_ones_0 : decode cX12_ones 0 = .ok (.iconst 0, 1) := by decide +kernel
theorem dX12_ones_1 : decode cX12_ones 1 = .ok (.istore_n 1, 1) := by decide +kernel
theorem dX12_ones_2 : decode cX12_ones 2 = .ok (.iload_n 0, 1) := by decide +kernel
theorem dX12_ones_3 : decode cX12_ones 3 = .ok (.istore_n 2, 1) := by decide +kernel
theorem dX12_ones_4 : decode cX12_ones 4 = .ok (.iload_n 2, 1) := by decide +kernel
theorem dX12_ones_5 : decode cX12_ones 5 = .ok (.ifCond .eq 15, 3) := by decide +kernel
theorem dX12_ones_8 : decode cX12_ones 8 = .ok (.iinc 1 1, 3) := by decide +kernel
theorem dX12_ones_11 : decode cX12_ones 11 = .ok (.iload_n 2, 1) := by decide +kernel
theorem dX12_ones_12 : decode cX12_ones 12 = .ok (.iload_n 2, 1) := by decide +kernel
theorem dX12_ones_13 : decode cX12_ones 13 = .ok (.iconst 1, 1) := by decide +kernel
theorem dX12_ones_14 : decode cX12_ones 14 = .ok (.isub, 1) := by decide +kernel
theorem dX12_ones_15 : decode cX12_ones 15 = .ok (.iand, 1) := by decide +kernel
theorem dX12_ones_16 : decode cX12_ones 16 = .ok (.istore_n 2, 1) := by decide +kernel
theorem dX12_ones_17 : decode cX12_ones 17 = .ok (.goto (-13), 3) := by decide +kernel
theorem dX12_ones_20 : decode cX12_ones 20 = .ok (.iload_n 1, 1) := by decide +kernel
theorem dX12_ones_21 : decode cX12_ones 21 = .ok (.ireturn, 1) := by decide +kernel
abbrev dpX12_ones : Nat := 0
def fX12_ones_4 (k4 : (Int32 × Int32) → St → Option (Int32 × St)) (x1 : Int32) (x2 : Int32) : St → Option (Int32 × St) :=
 br (x2 = 0) (rt x1)
 (k4 ((x1 + 1), (x2 &&& (x2 - 1))))
set_option maxHeartbeats 4000000 in
set_option maxRecDepth 100000 in
theorem sfX12_ones_4 {E : Ev} {l : Launch} (k4 : (Int32 × Int32) → St → Option (Int32 × St)) (hk4 : ∀ p : Int32 × Int32, Snd E l (dpX12_ones, RX12, cX12_ones, 3, (some .int), "ones") rvI 4 [(1, .int p.1), (2, .int p.2)] [] (k4 p)) (x1 : Int32) (x2 : Int32) : Snd E l (dpX12_ones, RX12, cX12_ones, 3, (some .int), "ones") rvI 4 [(1, .int x1), (2, .int x2)] [] (fX12_ones_4 k4 x1 x2) := by
  unfold fX12_ones_4
  refine sn_iload_n (pc := 4) (j := 1) dX12_ones_4 rfl rfl ?_
  refine sn_if_eq (pc := 5) (tgt := 20) dX12_ones_5 (by decide) ?_ ?_
  · refine sn_iload_n (pc := 20) (j := 0) dX12_ones_20 rfl rfl ?_
    exact sn_iret (pc := 21) dX12_ones_21 rfl
  · refine sn_iinc (pc := 8) (v := x1 + 1) (lv' := [(1, .int (x1 + 1)), (2, .int x2)]) (j := 0) dX12_ones_8 rfl rfl (by decide) rfl ?_
    refine sn_iload_n (pc := 11) (j := 1) dX12_ones_11 rfl rfl ?_
    refine sn_iload_n (pc := 12) (j := 1) dX12_ones_12 rfl rfl ?_
    refine sn_iconst (pc := 13) (v := 1) dX12_ones_13 (by decide) ?_
    refine sn_isub (pc := 14) dX12_ones_14 ?_
    refine sn_iand (pc := 15) dX12_ones_15 ?_
    refine sn_istore_n (pc := 16) (i := 2) (lv' := [(2, .int (x2 &&& (x2 - 1))), (1, .int (x1 + 1))]) dX12_ones_16 rfl (by decide) rfl ?_
    refine sn_goto (pc := 17) (tgt := 4) dX12_ones_17 (by decide) ?_
    exact sn_sub (lv' := [(1, .int (x1 + 1)), (2, .int (x2 &&& (x2 - 1)))]) [1, 0] rfl (hk4 ((x1 + 1), (x2 &&& (x2 - 1))))
def fX12_ones (x0 : Int32) : St → Option (Int32 × St) :=
 itr (fun k (p : Int32 × Int32) => fX12_ones_4  k p.1 p.2) FU (0, x0)
set_option maxHeartbeats 4000000 in
set_option maxRecDepth 100000 in
theorem mX12_ones {E : Ev} {l : Launch} (x0 : Int32) : MF E l dpX12_ones yX12_ones cX12_ones 3 (some .int) rvI [.int x0] (fX12_ones x0) := by
  refine MF.of (lv := [(0, .int x0)]) (by decide) (Nat.le_of_ble_eq_true rfl) rfl ?_
  unfold fX12_ones
  refine sn_iconst (pc := 0) (v := 0) dX12_ones_0 (by decide) ?_
  refine sn_istore_n (pc := 1) (i := 1) (lv' := [(1, .int 0), (0, .int x0)]) dX12_ones_1 rfl (by decide) rfl ?_
  refine sn_iload_n (pc := 2) (j := 1) dX12_ones_2 rfl rfl ?_
  refine sn_istore_n (pc := 3) (i := 2) (lv' := [(2, .int x0), (1, .int 0), (0, .int x0)]) dX12_ones_3 rfl (by decide) rfl ?_
  exact sn_sub (lv' := [(1, .int 0), (2, .int x0)]) [1, 0] rfl (sn_itr (lvf := fun p => [(1, .int p.1), (2, .int p.2)]) (stf := fun p => []) (fun k hk p => sfX12_ones_4  k hk p.1 p.2) FU (0, x0))
theorem iX12_ones : MI yX12_ones cX12_ones 3 (some .int) 1 := ⟨wt1_10, wt7_7, by decide +kernel, by decide⟩
-- NeedleHomesModel about(II)I
theorem dX12_about_0 : decode cX12_about 0 = .ok (.aload_n 0, 1) := by decide +kernel
theorem dX12_about_1 : decode cX12_about 1 = .ok (.iload_n 1, 1) := by decide +kernel
theorem dX12_about_2 : decode cX12_about 2 = .ok (.iconst 0, 1) := by decide +kernel
theorem dX12_about_3 : decode cX12_about 3 = .ok (.invokevirtual 178, 3) := by decide +kernel
theorem dX12_about_6 : decode cX12_about 6 = .ok (.ifCond .ne 6, 3) := by decide +kernel
theorem dX12_about_9 : decode cX12_about 9 = .ok (.bipush (-2), 2) := by decide +kernel
theorem dX12_about_11 : decode cX12_about 11 = .ok (.ireturn, 1) := by decide +kernel
theorem dX12_about_12 : decode cX12_about 12 = .ok (.iload_n 2, 1) := by decide +kernel
theorem dX12_about_13 : decode cX12_about 13 = .ok (.iconst 0, 1) := by decide +kernel
theorem dX12_about_14 : decode cX12_about 14 = .ok (.iconst 2, 1) := by decide +kernel
theorem dX12_about_15 : decode cX12_about 15 = .ok (.invokestatic 51, 3) := by decide +kernel
theorem dX12_about_18 : decode cX12_about 18 = .ok (.ifCond .eq 10, 3) := by decide +kernel
theorem dX12_about_21 : decode cX12_about 21 = .ok (.aload_n 0, 1) := by decide +kernel
theorem dX12_about_22 : decode cX12_about 22 = .ok (.iload_n 1, 1) := by decide +kernel
theorem dX12_about_23 : decode cX12_about 23 = .ok (.iload_n 2, 1) := by decide +kernel
theorem dX12_about_24 : decode cX12_about 24 = .ok (.invokevirtual 182, 3) := by decide +kernel
theorem dX12_about_27 : decode cX12_about 27 = .ok (.ireturn, 1) := by decide +kernel
theorem dX12_about_28 : decode cX12_about 28 = .ok (.iconst 0, 1) := by decide +kernel
theorem dX12_about_29 : decode cX12_about 29 = .ok (.istore_n 3, 1) := by decide +kernel
theorem dX12_about_30 : decode cX12_about 30 = .ok (.iconst 0, 1) := by decide +kernel
theorem dX12_about_31 : decode cX12_about 31 = .ok (.istore 4, 2) := by decide +kernel
theorem dX12_about_33 : decode cX12_about 33 = .ok (.iconst 0, 1) := by decide +kernel
theorem dX12_about_34 : decode cX12_about 34 = .ok (.istore 5, 2) := by decide +kernel
theorem dX12_about_36 : decode cX12_about 36 = .ok (.iload 5, 2) := by decide +kernel
theorem dX12_about_38 : decode cX12_about 38 = .ok (.bipush 24, 2) := by decide +kernel
theorem dX12_about_40 : decode cX12_about 40 = .ok (.if_icmp .ge 44, 3) := by decide +kernel
theorem dX12_about_43 : decode cX12_about 43 = .ok (.aload_n 0, 1) := by decide +kernel
theorem dX12_about_44 : decode cX12_about 44 = .ok (.iload_n 1, 1) := by decide +kernel
theorem dX12_about_45 : decode cX12_about 45 = .ok (.iconst 3, 1) := by decide +kernel
theorem dX12_about_46 : decode cX12_about 46 = .ok (.iload 5, 2) := by decide +kernel
theorem dX12_about_48 : decode cX12_about 48 = .ok (.iadd, 1) := by decide +kernel
theorem dX12_about_49 : decode cX12_about 49 = .ok (.invokevirtual 182, 3) := by decide +kernel
theorem dX12_about_52 : decode cX12_about 52 = .ok (.ifCond .ne 6, 3) := by decide +kernel
theorem dX12_about_55 : decode cX12_about 55 = .ok (.goto 23, 3) := by decide +kernel
theorem dX12_about_58 : decode cX12_about 58 = .ok (.iload_n 3, 1) := by decide +kernel
theorem dX12_about_59 : decode cX12_about 59 = .ok (.iconst 1, 1) := by decide +kernel
theorem dX12_about_60 : decode cX12_about 60 = .ok (.iload 5, 2) := by decide +kernel
theorem dX12_about_62 : decode cX12_about 62 = .ok (.iconst 4, 1) := by decide +kernel
theorem dX12_about_63 : decode cX12_about 63 = .ok (.idiv, 1) := by decide +kernel
theorem dX12_about_64 : decode cX12_about 64 = .ok (.ishl, 1) := by decide +kernel
theorem dX12_about_65 : decode cX12_about 65 = .ok (.ior, 1) := by decide +kernel
theorem dX12_about_66 : decode cX12_about 66 = .ok (.istore_n 3, 1) := by decide +kernel
theorem dX12_about_67 : decode cX12_about 67 = .ok (.iload 4, 2) := by decide +kernel
theorem dX12_about_69 : decode cX12_about 69 = .ok (.iconst 1, 1) := by decide +kernel
theorem dX12_about_70 : decode cX12_about 70 = .ok (.iload 5, 2) := by decide +kernel
theorem dX12_about_72 : decode cX12_about 72 = .ok (.iconst 4, 1) := by decide +kernel
theorem dX12_about_73 : decode cX12_about 73 = .ok (.irem, 1) := by decide +kernel
theorem dX12_about_74 : decode cX12_about 74 = .ok (.ishl, 1) := by decide +kernel
theorem dX12_about_75 : decode cX12_about 75 = .ok (.ior, 1) := by decide +kernel
theorem dX12_about_76 : decode cX12_about 76 = .ok (.istore 4, 2) := by decide +kernel
theorem dX12_about_78 : decode cX12_about 78 = .ok (.iinc 5 1, 3) := by decide +kernel
theorem dX12_about_81 : decode cX12_about 81 = .ok (.goto (-45), 3) := by decide +kernel
theorem dX12_about_84 : decode cX12_about 84 = .ok (.iload_n 2, 1) := by decide +kernel
theorem dX12_about_85 : decode cX12_about 85 = .ok (.iconst 3, 1) := by decide +kernel
theorem dX12_about_86 : decode cX12_about 86 = .ok (.if_icmp .ne 10, 3) := by decide +kernel
theorem dX12_about_89 : decode cX12_about 89 = .ok (.iload_n 3, 1) := by decide +kernel
theorem dX12_about_90 : decode cX12_about 90 = .ok (.invokestatic 186, 3) := by decide +kernel
theorem dX12_about_93 : decode cX12_about 93 = .ok (.goto 18, 3) := by decide +kernel
theorem dX12_about_96 : decode cX12_about 96 = .ok (.iload_n 2, 1) := by decide +kernel
theorem dX12_about_97 : decode cX12_about 97 = .ok (.iconst 4, 1) := by decide +kernel
theorem dX12_about_98 : decode cX12_about 98 = .ok (.if_icmp .ne 11, 3) := by decide +kernel
theorem dX12_about_101 : decode cX12_about 101 = .ok (.iload 4, 2) := by decide +kernel
theorem dX12_about_103 : decode cX12_about 103 = .ok (.invokestatic 186, 3) := by decide +kernel
theorem dX12_about_106 : decode cX12_about 106 = .ok (.goto 5, 3) := by decide +kernel
theorem dX12_about_109 : decode cX12_about 109 = .ok (.bipush (-2), 2) := by decide +kernel
theorem dX12_about_111 : decode cX12_about 111 = .ok (.ireturn, 1) := by decide +kernel
abbrev dpX12_about : Nat := 2
def fX12_about_78 (k36 : (Nat × Int32 × Int32 × Int32 × Int32 × Int32) → St → Option (Int32 × St)) (a0 : Nat) (x1 : Int32) (x2 : Int32) (x3 : Int32) (x4 : Int32) (x5 : Int32) : St → Option (Int32 × St) :=
 k36 (a0, x1, x2, x3, x4, (x5 + 1))
set_option maxHeartbeats 4000000 in
set_option maxRecDepth 100000 in
theorem sfX12_about_78 {E : Ev} {l : Launch} (k36 : (Nat × Int32 × Int32 × Int32 × Int32 × Int32) → St → Option (Int32 × St)) (hk36 : ∀ p : Nat × Int32 × Int32 × Int32 × Int32 × Int32, Snd E l (dpX12_about, RX12, cX12_about, 6, (some .int), "about") rvI 36 [(0, .ref (E.1 + p.1)), (1, .int p.2.1), (2, .int p.2.2.1), (3, .int p.2.2.2.1), (4, .int p.2.2.2.2.1), (5, .int p.2.2.2.2.2)] [] (k36 p)) (a0 : Nat) (x1 : Int32) (x2 : Int32) (x3 : Int32) (x4 : Int32) (x5 : Int32) : Snd E l (dpX12_about, RX12, cX12_about, 6, (some .int), "about") rvI 78 [(0, .ref (E.1 + a0)), (1, .int x1), (2, .int x2), (3, .int x3), (4, .int x4), (5, .int x5)] [] (fX12_about_78 k36 a0 x1 x2 x3 x4 x5) := by
  unfold fX12_about_78
  refine sn_iinc (pc := 78) (v := x5 + 1) (lv' := [(5, .int (x5 + 1)), (0, .ref (E.1 + a0)), (1, .int x1), (2, .int x2), (3, .int x3), (4, .int x4)]) (j := 5) dX12_about_78 rfl rfl (by decide) rfl ?_
  refine sn_goto (pc := 81) (tgt := 36) dX12_about_81 (by decide) ?_
  exact sn_sub (lv' := [(0, .ref (E.1 + a0)), (1, .int x1), (2, .int x2), (3, .int x3), (4, .int x4), (5, .int (x5 + 1))]) [1, 2, 3, 4, 5, 0] rfl (hk36 (a0, x1, x2, x3, x4, (x5 + 1)))
def fX12_about_36 (k36 : (Nat × Int32 × Int32 × Int32 × Int32 × Int32) → St → Option (Int32 × St)) (a0 : Nat) (x1 : Int32) (x2 : Int32) (x3 : Int32) (x4 : Int32) (x5 : Int32) : St → Option (Int32 × St) :=
 br (24 ≤ x5) (br (x2 = 3) (cl (fX12_ones x3) fun v1002 =>
 rt v1002)
 (br (x2 = 4) (cl (fX12_ones x4) fun v1001 =>
 rt v1001)
 (rt (-2))))
 (ck 13 a0 <| cl (fX12_patternOf a0 x1 (3 + x5)) fun v1003 =>
 br (v1003 = 0) (fX12_about_78 k36 a0 x1 x2 x3 x4 x5)
 (dv 4 <|
 dv 4 <|
 fX12_about_78 k36 a0 x1 x2 (x3 ||| (1 <<< ((x5 / 4) &&& 31))) (x4 ||| (1 <<< ((irm x5 4) &&& 31))) x5))
set_option maxHeartbeats 4000000 in
set_option maxRecDepth 100000 in
theorem sfX12_about_36 {E : Ev} {l : Launch} (k36 : (Nat × Int32 × Int32 × Int32 × Int32 × Int32) → St → Option (Int32 × St)) (hk36 : ∀ p : Nat × Int32 × Int32 × Int32 × Int32 × Int32, Snd E l (dpX12_about, RX12, cX12_about, 6, (some .int), "about") rvI 36 [(0, .ref (E.1 + p.1)), (1, .int p.2.1), (2, .int p.2.2.1), (3, .int p.2.2.2.1), (4, .int p.2.2.2.2.1), (5, .int p.2.2.2.2.2)] [] (k36 p)) (a0 : Nat) (x1 : Int32) (x2 : Int32) (x3 : Int32) (x4 : Int32) (x5 : Int32) : Snd E l (dpX12_about, RX12, cX12_about, 6, (some .int), "about") rvI 36 [(0, .ref (E.1 + a0)), (1, .int x1), (2, .int x2), (3, .int x3), (4, .int x4), (5, .int x5)] [] (fX12_about_36 k36 a0 x1 x2 x3 x4 x5) := by
  unfold fX12_about_36
  refine sn_iload (pc := 36) (j := 5) dX12_about_36 rfl ?_
  refine sn_bipush (pc := 38) (v := 24) dX12_about_38 (by decide) ?_
  refine sn_icmp_ge (pc := 40) (tgt := 84) dX12_about_40 (by decide) ?_ ?_
  · refine sn_iload_n (pc := 84) (j := 2) dX12_about_84 rfl rfl ?_
    refine sn_iconst (pc := 85) (v := 3) dX12_about_85 (by decide) ?_
    refine sn_icmp_ne (pc := 86) (tgt := 96) dX12_about_86 (by decide) ?_ ?_
    · refine sn_iload_n (pc := 96) (j := 2) dX12_about_96 rfl rfl ?_
      refine sn_iconst (pc := 97) (v := 4) dX12_about_97 (by decide) ?_
      refine sn_icmp_ne (pc := 98) (tgt := 109) dX12_about_98 (by decide) ?_ ?_
      · refine sn_bipush (pc := 109) (v := (-2)) dX12_about_109 (by decide) ?_
        exact sn_iret (pc := 111) dX12_about_111 rfl
      · refine sn_iload (pc := 101) (j := 4) dX12_about_101 rfl ?_
        refine sn_callS (pc := 103) dX12_about_103 iX12_ones wt7_6 wt7_5 (mX12_ones x4) (by decide) rfl rfl (Nat.le_of_ble_eq_true rfl) (fun v1001 => ?_)
        refine sn_goto (pc := 106) (tgt := 111) dX12_about_106 (by decide) ?_
        exact sn_iret (pc := 111) dX12_about_111 rfl
    · refine sn_iload_n (pc := 89) (j := 3) dX12_about_89 rfl rfl ?_
      refine sn_callS (pc := 90) dX12_about_90 iX12_ones wt7_6 wt7_5 (mX12_ones x3) (by decide) rfl rfl (Nat.le_of_ble_eq_true rfl) (fun v1002 => ?_)
      refine sn_goto (pc := 93) (tgt := 111) dX12_about_93 (by decide) ?_
      exact sn_iret (pc := 111) dX12_about_111 rfl
  · refine sn_aload_n (pc := 43) (j := 0) dX12_about_43 rfl rfl ?_
    refine sn_iload_n (pc := 44) (j := 1) dX12_about_44 rfl rfl ?_
    refine sn_iconst (pc := 45) (v := 3) dX12_about_45 (by decide) ?_
    refine sn_iload (pc := 46) (j := 5) dX12_about_46 rfl ?_
    refine sn_iadd (pc := 48) dX12_about_48 ?_
    refine sn_callV (ci := 12) (pc := 49) dX12_about_49 iX12_patternOf wt6_239 ws_55 wt6_237 ⟨_, rfl, rfl⟩ (by decide) (mX12_patternOf a0 x1 (3 + x5)) (by decide) rfl rfl (Nat.le_of_ble_eq_true rfl) (fun v1003 => ?_)
    refine sn_if_ne (pc := 52) (tgt := 58) dX12_about_52 (by decide) ?_ ?_
    · refine sn_iload_n (pc := 58) (j := 3) dX12_about_58 rfl rfl ?_
      refine sn_iconst (pc := 59) (v := 1) dX12_about_59 (by decide) ?_
      refine sn_iload (pc := 60) (j := 5) dX12_about_60 rfl ?_
      refine sn_iconst (pc := 62) (v := 4) dX12_about_62 (by decide) ?_
      refine sn_idiv (pc := 63) dX12_about_63 ?_
      refine sn_ishl (pc := 64) dX12_about_64 ?_
      refine sn_ior (pc := 65) dX12_about_65 ?_
      refine sn_istore_n (pc := 66) (i := 3) (lv' := [(3, .int (x3 ||| (1 <<< ((x5 / 4) &&& 31)))), (0, .ref (E.1 + a0)), (1, .int x1), (2, .int x2), (4, .int x4), (5, .int x5)]) dX12_about_66 rfl (by decide) rfl ?_
      refine sn_iload (pc := 67) (j := 4) dX12_about_67 rfl ?_
      refine sn_iconst (pc := 69) (v := 1) dX12_about_69 (by decide) ?_
      refine sn_iload (pc := 70) (j := 5) dX12_about_70 rfl ?_
      refine sn_iconst (pc := 72) (v := 4) dX12_about_72 (by decide) ?_
      refine sn_irem (pc := 73) dX12_about_73 ?_
      refine sn_ishl (pc := 74) dX12_about_74 ?_
      refine sn_ior (pc := 75) dX12_about_75 ?_
      refine sn_istore (pc := 76) (i := 4) (lv' := [(4, .int (x4 ||| (1 <<< ((irm x5 4) &&& 31)))), (3, .int (x3 ||| (1 <<< ((x5 / 4) &&& 31)))), (0, .ref (E.1 + a0)), (1, .int x1), (2, .int x2), (5, .int x5)]) dX12_about_76 (by decide) rfl ?_
      exact sn_sub (lv' := [(0, .ref (E.1 + a0)), (1, .int x1), (2, .int x2), (3, .int (x3 ||| (1 <<< ((x5 / 4) &&& 31)))), (4, .int (x4 ||| (1 <<< ((irm x5 4) &&& 31)))), (5, .int x5)]) [2, 3, 4, 1, 0, 5] rfl (sfX12_about_78 k36 hk36 a0 x1 x2 (x3 ||| (1 <<< ((x5 / 4) &&& 31))) (x4 ||| (1 <<< ((irm x5 4) &&& 31))) x5)
    · refine sn_goto (pc := 55) (tgt := 78) dX12_about_55 (by decide) ?_
      exact sn_sub (lv' := [(0, .ref (E.1 + a0)), (1, .int x1), (2, .int x2), (3, .int x3), (4, .int x4), (5, .int x5)]) [0, 1, 2, 3, 4, 5] rfl (sfX12_about_78 k36 hk36 a0 x1 x2 x3 x4 x5)
def fX12_about (a0 : Nat) (x1 : Int32) (x2 : Int32) : St → Option (Int32 × St) :=
 ck 13 a0 <| cl (fX12_isOf a0 x1 0) fun v1 =>
 br ((bi v1) = 0) (rt (-2))
 (cl (fX12_isIn x2 0 2) fun v2 =>
 br ((bi v2) = 0) (itr (fun k (p : Nat × Int32 × Int32 × Int32 × Int32 × Int32) => fX12_about_36  k p.1 p.2.1 p.2.2.1 p.2.2.2.1 p.2.2.2.2.1 p.2.2.2.2.2) FU (a0, x1, x2, 0, 0, 0))
 (ck 13 a0 <| cl (fX12_patternOf a0 x1 x2) fun v3 =>
 rt v3))
set_option maxHeartbeats 4000000 in
set_option maxRecDepth 100000 in
theorem mX12_about {E : Ev} {l : Launch} (a0 : Nat) (x1 : Int32) (x2 : Int32) : MF E l dpX12_about yX12_about cX12_about 6 (some .int) rvI [.ref (E.1 + a0), .int x1, .int x2] (fX12_about a0 x1 x2) := by
  refine MF.of (lv := [(0, .ref (E.1 + a0)), (1, .int x1), (2, .int x2)]) (by decide) (Nat.le_of_ble_eq_true rfl) rfl ?_
  unfold fX12_about
  refine sn_aload_n (pc := 0) (j := 0) dX12_about_0 rfl rfl ?_
  refine sn_iload_n (pc := 1) (j := 1) dX12_about_1 rfl rfl ?_
  refine sn_iconst (pc := 2) (v := 0) dX12_about_2 (by decide) ?_
  refine sn_callV (ci := 12) (pc := 3) dX12_about_3 iX12_isOf wt6_235 ws_54 wt6_233 ⟨_, rfl, rfl⟩ (by decide) (mX12_isOf a0 x1 0) (by decide) rfl rfl (Nat.le_of_ble_eq_true rfl) (fun v1 => ?_)
  refine sn_if_ne (pc := 6) (tgt := 12) dX12_about_6 (by decide) ?_ ?_
  · refine sn_iload_n (pc := 12) (j := 2) dX12_about_12 rfl rfl ?_
    refine sn_iconst (pc := 13) (v := 0) dX12_about_13 (by decide) ?_
    refine sn_iconst (pc := 14) (v := 2) dX12_about_14 (by decide) ?_
    refine sn_callS (pc := 15) dX12_about_15 iX12_isIn wt6_138 wt6_137 (mX12_isIn x2 0 2) (by decide) rfl rfl (Nat.le_of_ble_eq_true rfl) (fun v2 => ?_)
    refine sn_if_eq (pc := 18) (tgt := 28) dX12_about_18 (by decide) ?_ ?_
    · refine sn_iconst (pc := 28) (v := 0) dX12_about_28 (by decide) ?_
      refine sn_istore_n (pc := 29) (i := 3) (lv' := [(3, .int 0), (0, .ref (E.1 + a0)), (1, .int x1), (2, .int x2)]) dX12_about_29 rfl (by decide) rfl ?_
      refine sn_iconst (pc := 30) (v := 0) dX12_about_30 (by decide) ?_
      refine sn_istore (pc := 31) (i := 4) (lv' := [(4, .int 0), (3, .int 0), (0, .ref (E.1 + a0)), (1, .int x1), (2, .int x2)]) dX12_about_31 (by decide) rfl ?_
      refine sn_iconst (pc := 33) (v := 0) dX12_about_33 (by decide) ?_
      refine sn_istore (pc := 34) (i := 5) (lv' := [(5, .int 0), (4, .int 0), (3, .int 0), (0, .ref (E.1 + a0)), (1, .int x1), (2, .int x2)]) dX12_about_34 (by decide) rfl ?_
      exact sn_sub (lv' := [(0, .ref (E.1 + a0)), (1, .int x1), (2, .int x2), (3, .int 0), (4, .int 0), (5, .int 0)]) [3, 4, 5, 2, 1, 0] rfl (sn_itr (lvf := fun p => [(0, .ref (E.1 + p.1)), (1, .int p.2.1), (2, .int p.2.2.1), (3, .int p.2.2.2.1), (4, .int p.2.2.2.2.1), (5, .int p.2.2.2.2.2)]) (stf := fun p => []) (fun k hk p => sfX12_about_36  k hk p.1 p.2.1 p.2.2.1 p.2.2.2.1 p.2.2.2.2.1 p.2.2.2.2.2) FU (a0, x1, x2, 0, 0, 0))
    · refine sn_aload_n (pc := 21) (j := 0) dX12_about_21 rfl rfl ?_
      refine sn_iload_n (pc := 22) (j := 1) dX12_about_22 rfl rfl ?_
      refine sn_iload_n (pc := 23) (j := 2) dX12_about_23 rfl rfl ?_
      refine sn_callV (ci := 12) (pc := 24) dX12_about_24 iX12_patternOf wt6_239 ws_55 wt6_237 ⟨_, rfl, rfl⟩ (by decide) (mX12_patternOf a0 x1 x2) (by decide) rfl rfl (Nat.le_of_ble_eq_true rfl) (fun v3 => ?_)
      exact sn_iret (pc := 27) dX12_about_27 rfl
  · refine sn_bipush (pc := 9) (v := (-2)) dX12_about_9 (by decide) ?_
    exact sn_iret (pc := 11) dX12_about_11 rfl
theorem iX12_about : MI yX12_about cX12_about 6 (some .int) 2 := ⟨wt1_10, wt7_4, by decide +kernel, by decide⟩
-- NeedleHomesModel aTest()V
theorem dX12_aTest_0 : decode cX12_aTest 0 = .ok (.aload_n 0, 1) := by decide +kernel
theorem dX12_aTest_1 : decode cX12_aTest 1 = .ok (.getfield 33, 3) := by decide +kernel
theorem dX12_aTest_4 : decode cX12_aTest 4 = .ok (.iconst 0, 1) := by decide +kernel
theorem dX12_aTest_5 : decode cX12_aTest 5 = .ok (.aload_n 0, 1) := by decide +kernel
theorem dX12_aTest_6 : decode cX12_aTest 6 = .ok (.bipush 32, 2) := by decide +kernel
theorem dX12_aTest_8 : decode cX12_aTest 8 = .ok (.invokevirtual 149, 3) := by decide +kernel
theorem dX12_aTest_11 : decode cX12_aTest 11 = .ok (.ifCond .eq 7, 3) := by decide +kernel
theorem dX12_aTest_14 : decode cX12_aTest 14 = .ok (.iconst 1, 1) := by decide +kernel
theorem dX12_aTest_15 : decode cX12_aTest 15 = .ok (.goto 4, 3) := by decide +kernel
theorem dX12_aTest_18 : decode cX12_aTest 18 = .ok (.iconst 0, 1) := by decide +kernel
theorem dX12_aTest_19 : decode cX12_aTest 19 = .ok (.iastore, 1) := by decide +kernel
theorem dX12_aTest_20 : decode cX12_aTest 20 = .ok (.aload_n 0, 1) := by decide +kernel
theorem dX12_aTest_21 : decode cX12_aTest 21 = .ok (.getfield 33, 3) := by decide +kernel
theorem dX12_aTest_24 : decode cX12_aTest 24 = .ok (.iconst 1, 1) := by decide +kernel
theorem dX12_aTest_25 : decode cX12_aTest 25 = .ok (.aload_n 0, 1) := by decide +kernel
theorem dX12_aTest_26 : decode cX12_aTest 26 = .ok (.getfield 104, 3) := by decide +kernel
theorem dX12_aTest_29 : decode cX12_aTest 29 = .ok (.iastore, 1) := by decide +kernel
theorem dX12_aTest_30 : decode cX12_aTest 30 = .ok (.aload_n 0, 1) := by decide +kernel
theorem dX12_aTest_31 : decode cX12_aTest 31 = .ok (.getfield 33, 3) := by decide +kernel
theorem dX12_aTest_34 : decode cX12_aTest 34 = .ok (.iconst 2, 1) := by decide +kernel
theorem dX12_aTest_35 : decode cX12_aTest 35 = .ok (.bipush 61, 2) := by decide +kernel
theorem dX12_aTest_37 : decode cX12_aTest 37 = .ok (.iastore, 1) := by decide +kernel
theorem dX12_aTest_38 : decode cX12_aTest 38 = .ok (.aload_n 0, 1) := by decide +kernel
theorem dX12_aTest_39 : decode cX12_aTest 39 = .ok (.getfield 33, 3) := by decide +kernel
theorem dX12_aTest_42 : decode cX12_aTest 42 = .ok (.iconst 3, 1) := by decide +kernel
theorem dX12_aTest_43 : decode cX12_aTest 43 = .ok (.iconst 1, 1) := by decide +kernel
theorem dX12_aTest_44 : decode cX12_aTest 44 = .ok (.iastore, 1) := by decide +kernel
theorem dX12_aTest_45 : decode cX12_aTest 45 = .ok (.aload_n 0, 1) := by decide +kernel
theorem dX12_aTest_46 : decode cX12_aTest 46 = .ok (.getfield 119, 3) := by decide +kernel
theorem dX12_aTest_49 : decode cX12_aTest 49 = .ok (.ifCond .ne 25, 3) := by decide +kernel
theorem dX12_aTest_52 : decode cX12_aTest 52 = .ok (.aload_n 0, 1) := by decide +kernel
theorem dX12_aTest_53 : decode cX12_aTest 53 = .ok (.getfield 93, 3) := by decide +kernel
theorem dX12_aTest_56 : decode cX12_aTest 56 = .ok (.iconst 3, 1) := by decide +kernel
theorem dX12_aTest_57 : decode cX12_aTest 57 = .ok (.if_icmp .ne 17, 3) := by decide +kernel
theorem dX12_aTest_60 : decode cX12_aTest 60 = .ok (.aload_n 0, 1) := by decide +kernel
theorem dX12_aTest_61 : decode cX12_aTest 61 = .ok (.getfield 104, 3) := by decide +kernel
theorem dX12_aTest_64 : decode cX12_aTest 64 = .ok (.bipush 10, 2) := by decide +kernel
theorem dX12_aTest_66 : decode cX12_aTest 66 = .ok (.bipush 17, 2) := by decide +kernel
theorem dX12_aTest_68 : decode cX12_aTest 68 = .ok (.invokestatic 51, 3) := by decide +kernel
theorem dX12_aTest_71 : decode cX12_aTest 71 = .ok (.ifCond .ne 8, 3) := by decide +kernel
theorem dX12_aTest_74 : decode cX12_aTest 74 = .ok (.aload_n 0, 1) := by decide +kernel
theorem dX12_aTest_75 : decode cX12_aTest 75 = .ok (.invokevirtual 129, 3) := by decide +kernel
theorem dX12_aTest_78 : decode cX12_aTest 78 = .ok (.return_, 1) := by decide +kernel
theorem dX12_aTest_79 : decode cX12_aTest 79 = .ok (.aload_n 0, 1) := by decide +kernel
theorem dX12_aTest_80 : decode cX12_aTest 80 = .ok (.invokevirtual 123, 3) := by decide +kernel
theorem dX12_aTest_83 : decode cX12_aTest 83 = .ok (.aload_n 0, 1) := by decide +kernel
theorem dX12_aTest_84 : decode cX12_aTest 84 = .ok (.getfield 33, 3) := by decide +kernel
theorem dX12_aTest_87 : decode cX12_aTest 87 = .ok (.iconst 1, 1) := by decide +kernel
theorem dX12_aTest_88 : decode cX12_aTest 88 = .ok (.iaload, 1) := by decide +kernel
theorem dX12_aTest_89 : decode cX12_aTest 89 = .ok (.bipush 10, 2) := by decide +kernel
theorem dX12_aTest_91 : decode cX12_aTest 91 = .ok (.if_icmp .ne 4, 3) := by decide +kernel
theorem dX12_aTest_94 : decode cX12_aTest 94 = .ok (.return_, 1) := by decide +kernel
theorem dX12_aTest_95 : decode cX12_aTest 95 = .ok (.aload_n 0, 1) := by decide +kernel
theorem dX12_aTest_96 : decode cX12_aTest 96 = .ok (.getfield 33, 3) := by decide +kernel
theorem dX12_aTest_99 : decode cX12_aTest 99 = .ok (.iconst 2, 1) := by decide +kernel
theorem dX12_aTest_100 : decode cX12_aTest 100 = .ok (.aload_n 0, 1) := by decide +kernel
theorem dX12_aTest_101 : decode cX12_aTest 101 = .ok (.getfield 113, 3) := by decide +kernel
theorem dX12_aTest_104 : decode cX12_aTest 104 = .ok (.iastore, 1) := by decide +kernel
theorem dX12_aTest_105 : decode cX12_aTest 105 = .ok (.aload_n 0, 1) := by decide +kernel
theorem dX12_aTest_106 : decode cX12_aTest 106 = .ok (.bipush 60, 2) := by decide +kernel
theorem dX12_aTest_108 : decode cX12_aTest 108 = .ok (.invokevirtual 126, 3) := by decide +kernel
theorem dX12_aTest_111 : decode cX12_aTest 111 = .ok (.ifCond .ne 26, 3) := by decide +kernel
theorem dX12_aTest_114 : decode cX12_aTest 114 = .ok (.aload_n 0, 1) := by decide +kernel
theorem dX12_aTest_115 : decode cX12_aTest 115 = .ok (.bipush 62, 2) := by decide +kernel
theorem dX12_aTest_117 : decode cX12_aTest 117 = .ok (.invokevirtual 126, 3) := by decide +kernel
theorem dX12_aTest_120 : decode cX12_aTest 120 = .ok (.ifCond .ne 17, 3) := by decide +kernel
theorem dX12_aTest_123 : decode cX12_aTest 123 = .ok (.aload_n 0, 1) := by decide +kernel
theorem dX12_aTest_124 : decode cX12_aTest 124 = .ok (.bipush 61, 2) := by decide +kernel
theorem dX12_aTest_126 : decode cX12_aTest 126 = .ok (.invokevirtual 126, 3) := by decide +kernel
theorem dX12_aTest_129 : decode cX12_aTest 129 = .ok (.ifCond .ne 8, 3) := by decide +kernel
theorem dX12_aTest_132 : decode cX12_aTest 132 = .ok (.aload_n 0, 1) := by decide +kernel
theorem dX12_aTest_133 : decode cX12_aTest 133 = .ok (.invokevirtual 129, 3) := by decide +kernel
theorem dX12_aTest_136 : decode cX12_aTest 136 = .ok (.return_, 1) := by decide +kernel
theorem dX12_aTest_137 : decode cX12_aTest 137 = .ok (.aload_n 0, 1) := by decide +kernel
theorem dX12_aTest_138 : decode cX12_aTest 138 = .ok (.invokevirtual 123, 3) := by decide +kernel
theorem dX12_aTest_141 : decode cX12_aTest 141 = .ok (.aload_n 0, 1) := by decide +kernel
theorem dX12_aTest_142 : decode cX12_aTest 142 = .ok (.getfield 33, 3) := by decide +kernel
theorem dX12_aTest_145 : decode cX12_aTest 145 = .ok (.iconst 3, 1) := by decide +kernel
theorem dX12_aTest_146 : decode cX12_aTest 146 = .ok (.aload_n 0, 1) := by decide +kernel
theorem dX12_aTest_147 : decode cX12_aTest 147 = .ok (.invokevirtual 145, 3) := by decide +kernel
theorem dX12_aTest_150 : decode cX12_aTest 150 = .ok (.iastore, 1) := by decide +kernel
theorem dX12_aTest_151 : decode cX12_aTest 151 = .ok (.return_, 1) := by decide +kernel
abbrev dpX12_aTest : Nat := 5
def fX12_aTest_74 (a0 : Nat) : St → Option (Unit × St) :=
 ck 13 a0 <| cl (fX12_stops a0) fun v2001 =>
 rt ()
set_option maxHeartbeats 4000000 in
set_option maxRecDepth 100000 in
theorem sfX12_aTest_74 {E : Ev} {l : Launch} (a0 : Nat) : Snd E l (dpX12_aTest, RX12, cX12_aTest, 1, none, "aTest") rvV 74 [(0, .ref (E.1 + a0))] [] (fX12_aTest_74 a0) := by
  unfold fX12_aTest_74
  refine sn_aload_n (pc := 74) (j := 0) dX12_aTest_74 rfl rfl ?_
  refine sn_callV (ci := 12) (pc := 75) dX12_aTest_75 iX12_stops wt6_198 ws_48 wt6_196 ⟨_, rfl, rfl⟩ (by decide) (mX12_stops a0) (by decide) rfl rfl (Nat.le_of_ble_eq_true rfl) (fun v2001 => ?_)
  exact sn_vret (pc := 78) dX12_aTest_78 rfl
def fX12_aTest_137 (a0 : Nat) : St → Option (Unit × St) :=
 ck 13 a0 <| cl (fX12_step a0) fun v3001 =>
 gR 13 a0 17 fun v3002 =>
 ck 13 a0 <| cl (fX12_numbered a0) fun v3003 =>
 nn v3002 fun a3004 =>
 wI a3004 3 v3003 <|
 rt ()
set_option maxHeartbeats 4000000 in
set_option maxRecDepth 100000 in
theorem sfX12_aTest_137 {E : Ev} {l : Launch} (a0 : Nat) : Snd E l (dpX12_aTest, RX12, cX12_aTest, 1, none, "aTest") rvV 137 [(0, .ref (E.1 + a0))] [] (fX12_aTest_137 a0) := by
  unfold fX12_aTest_137
  refine sn_aload_n (pc := 137) (j := 0) dX12_aTest_137 rfl rfl ?_
  refine sn_callV (ci := 12) (pc := 138) dX12_aTest_138 iX12_step wt6_147 ws_42 wt6_145 ⟨_, rfl, rfl⟩ (by decide) (mX12_step a0) (by decide) rfl rfl (Nat.le_of_ble_eq_true rfl) (fun v3001 => ?_)
  refine sn_aload_n (pc := 141) (j := 0) dX12_aTest_141 rfl rfl ?_
  refine sn_gR (pc := 142) dX12_aTest_142 flX12_33 rfl (fun v3002 => ?_)
  refine sn_iconst (pc := 145) (v := 3) dX12_aTest_145 (by decide) ?_
  refine sn_aload_n (pc := 146) (j := 0) dX12_aTest_146 rfl rfl ?_
  refine sn_callV (ci := 12) (pc := 147) dX12_aTest_147 iX12_numbered wt6_194 ws_47 wt6_192 ⟨_, rfl, rfl⟩ (by decide) (mX12_numbered a0) (by decide) rfl rfl (by simp [rf_some, rf_cat, cat_int, cat_long, cat_ref, rvV, rvI, rvZ, rvR, rvJ]) (fun v3003 => ?_)
  rcases v3002 with _ | a3004
  · exact sn_no
  refine sn_nn ?_
  refine sn_iast (pc := 150) dX12_aTest_150 ?_
  exact sn_vret (pc := 151) dX12_aTest_151 rfl
def fX12_aTest_19 (a0 : Nat) (y0 : Int32) (y1 : Int32) (y2 : Option Nat) : St → Option (Unit × St) :=
 nn y2 fun a1001 =>
 wI a1001 y1 y0 <|
 gR 13 a0 17 fun v1002 =>
 gI 13 a0 8 fun v1003 =>
 nn v1002 fun a1004 =>
 wI a1004 1 v1003 <|
 gR 13 a0 17 fun v1005 =>
 nn v1005 fun a1006 =>
 wI a1006 2 61 <|
 gR 13 a0 17 fun v1007 =>
 nn v1007 fun a1008 =>
 wI a1008 3 1 <|
 gI 13 a0 9 fun v1009 =>
 br (v1009 = 0) (gI 13 a0 5 fun v1010 =>
 br (v1010 = 3) (gI 13 a0 8 fun v1011 =>
 cl (fX12_isIn v1011 10 17) fun v1012 =>
 br ((bi v1012) = 0) (fX12_aTest_74  a0)
 (ck 13 a0 <| cl (fX12_step a0) fun v1013 =>
 gR 13 a0 17 fun v1014 =>
 nn v1014 fun a1016 =>
 aI 15 a1016 1 fun v1015 =>
 br (v1015 = 10) (rt ())
 (gR 13 a0 17 fun v1017 =>
 gI 13 a0 7 fun v1018 =>
 nn v1017 fun a1019 =>
 wI a1019 2 v1018 <|
 ck 13 a0 <| cl (fX12_isSign a0 60) fun v1020 =>
 br ((bi v1020) = 0) (ck 13 a0 <| cl (fX12_isSign a0 62) fun v1021 =>
 br ((bi v1021) = 0) (ck 13 a0 <| cl (fX12_isSign a0 61) fun v1022 =>
 br ((bi v1022) = 0) (ck 13 a0 <| cl (fX12_stops a0) fun v1023 =>
 rt ())
 (fX12_aTest_137  a0))
 (fX12_aTest_137  a0))
 (fX12_aTest_137  a0))))
 (fX12_aTest_74  a0))
 (fX12_aTest_74  a0)
set_option maxHeartbeats 4000000 in
set_option maxRecDepth 100000 in
theorem sfX12_aTest_19 {E : Ev} {l : Launch} (a0 : Nat) (y0 : Int32) (y1 : Int32) (y2 : Option Nat) : Snd E l (dpX12_aTest, RX12, cX12_aTest, 1, none, "aTest") rvV 19 [(0, .ref (E.1 + a0))] [.int y0, .int y1, rf E.1 y2] (fX12_aTest_19 a0 y0 y1 y2) := by
  unfold fX12_aTest_19
  rcases y2 with _ | a1001
  · exact sn_no
  refine sn_nn ?_
  refine sn_iast (pc := 19) dX12_aTest_19 ?_
  refine sn_aload_n (pc := 20) (j := 0) dX12_aTest_20 rfl rfl ?_
  refine sn_gR (pc := 21) dX12_aTest_21 flX12_33 rfl (fun v1002 => ?_)
  refine sn_iconst (pc := 24) (v := 1) dX12_aTest_24 (by decide) ?_
  refine sn_aload_n (pc := 25) (j := 0) dX12_aTest_25 rfl rfl ?_
  refine sn_gI (pc := 26) dX12_aTest_26 flX12_104 rfl (fun v1003 => ?_)
  rcases v1002 with _ | a1004
  · exact sn_no
  refine sn_nn ?_
  refine sn_iast (pc := 29) dX12_aTest_29 ?_
  refine sn_aload_n (pc := 30) (j := 0) dX12_aTest_30 rfl rfl ?_
  refine sn_gR (pc := 31) dX12_aTest_31 flX12_33 rfl (fun v1005 => ?_)
  refine sn_iconst (pc := 34) (v := 2) dX12_aTest_34 (by decide) ?_
  refine sn_bipush (pc := 35) (v := 61) dX12_aTest_35 (by decide) ?_
  rcases v1005 with _ | a1006
  · exact sn_no
  refine sn_nn ?_
  refine sn_iast (pc := 37) dX12_aTest_37 ?_
  refine sn_aload_n (pc := 38) (j := 0) dX12_aTest_38 rfl rfl ?_
  refine sn_gR (pc := 39) dX12_aTest_39 flX12_33 rfl (fun v1007 => ?_)
  refine sn_iconst (pc := 42) (v := 3) dX12_aTest_42 (by decide) ?_
  refine sn_iconst (pc := 43) (v := 1) dX12_aTest_43 (by decide) ?_
  rcases v1007 with _ | a1008
  · exact sn_no
  refine sn_nn ?_
  refine sn_iast (pc := 44) dX12_aTest_44 ?_
  refine sn_aload_n (pc := 45) (j := 0) dX12_aTest_45 rfl rfl ?_
  refine sn_gI (pc := 46) dX12_aTest_46 flX12_119 rfl (fun v1009 => ?_)
  refine sn_if_ne (pc := 49) (tgt := 74) dX12_aTest_49 (by decide) ?_ ?_
  · exact sn_sub (lv' := [(0, .ref (E.1 + a0))]) [0] rfl (sfX12_aTest_74  a0)
  · refine sn_aload_n (pc := 52) (j := 0) dX12_aTest_52 rfl rfl ?_
    refine sn_gI (pc := 53) dX12_aTest_53 flX12_93 rfl (fun v1010 => ?_)
    refine sn_iconst (pc := 56) (v := 3) dX12_aTest_56 (by decide) ?_
    refine sn_icmp_ne (pc := 57) (tgt := 74) dX12_aTest_57 (by decide) ?_ ?_
    · exact sn_sub (lv' := [(0, .ref (E.1 + a0))]) [0] rfl (sfX12_aTest_74  a0)
    · refine sn_aload_n (pc := 60) (j := 0) dX12_aTest_60 rfl rfl ?_
      refine sn_gI (pc := 61) dX12_aTest_61 flX12_104 rfl (fun v1011 => ?_)
      refine sn_bipush (pc := 64) (v := 10) dX12_aTest_64 (by decide) ?_
      refine sn_bipush (pc := 66) (v := 17) dX12_aTest_66 (by decide) ?_
      refine sn_callS (pc := 68) dX12_aTest_68 iX12_isIn wt6_138 wt6_137 (mX12_isIn v1011 10 17) (by decide) rfl rfl (Nat.le_of_ble_eq_true rfl) (fun v1012 => ?_)
      refine sn_if_ne (pc := 71) (tgt := 79) dX12_aTest_71 (by decide) ?_ ?_
      · refine sn_aload_n (pc := 79) (j := 0) dX12_aTest_79 rfl rfl ?_
        refine sn_callV (ci := 12) (pc := 80) dX12_aTest_80 iX12_step wt6_147 ws_42 wt6_145 ⟨_, rfl, rfl⟩ (by decide) (mX12_step a0) (by decide) rfl rfl (Nat.le_of_ble_eq_true rfl) (fun v1013 => ?_)
        refine sn_aload_n (pc := 83) (j := 0) dX12_aTest_83 rfl rfl ?_
        refine sn_gR (pc := 84) dX12_aTest_84 flX12_33 rfl (fun v1014 => ?_)
        refine sn_iconst (pc := 87) (v := 1) dX12_aTest_87 (by decide) ?_
        rcases v1014 with _ | a1016
        · exact sn_no
        refine sn_nn ?_
        refine sn_iald (pc := 88) dX12_aTest_88 (fun v1015 => ?_)
        refine sn_bipush (pc := 89) (v := 10) dX12_aTest_89 (by decide) ?_
        refine sn_icmp_ne (pc := 91) (tgt := 95) dX12_aTest_91 (by decide) ?_ ?_
        · refine sn_aload_n (pc := 95) (j := 0) dX12_aTest_95 rfl rfl ?_
          refine sn_gR (pc := 96) dX12_aTest_96 flX12_33 rfl (fun v1017 => ?_)
          refine sn_iconst (pc := 99) (v := 2) dX12_aTest_99 (by decide) ?_
          refine sn_aload_n (pc := 100) (j := 0) dX12_aTest_100 rfl rfl ?_
          refine sn_gI (pc := 101) dX12_aTest_101 flX12_113 rfl (fun v1018 => ?_)
          rcases v1017 with _ | a1019
          · exact sn_no
          refine sn_nn ?_
          refine sn_iast (pc := 104) dX12_aTest_104 ?_
          refine sn_aload_n (pc := 105) (j := 0) dX12_aTest_105 rfl rfl ?_
          refine sn_bipush (pc := 106) (v := 60) dX12_aTest_106 (by decide) ?_
          refine sn_callV (ci := 12) (pc := 108) dX12_aTest_108 iX12_isSign wt6_186 ws_45 wt6_184 ⟨_, rfl, rfl⟩ (by decide) (mX12_isSign a0 60) (by decide) rfl rfl (Nat.le_of_ble_eq_true rfl) (fun v1020 => ?_)
          refine sn_if_ne (pc := 111) (tgt := 137) dX12_aTest_111 (by decide) ?_ ?_
          · exact sn_sub (lv' := [(0, .ref (E.1 + a0))]) [0] rfl (sfX12_aTest_137  a0)
          · refine sn_aload_n (pc := 114) (j := 0) dX12_aTest_114 rfl rfl ?_
            refine sn_bipush (pc := 115) (v := 62) dX12_aTest_115 (by decide) ?_
            refine sn_callV (ci := 12) (pc := 117) dX12_aTest_117 iX12_isSign wt6_186 ws_45 wt6_184 ⟨_, rfl, rfl⟩ (by decide) (mX12_isSign a0 62) (by decide) rfl rfl (Nat.le_of_ble_eq_true rfl) (fun v1021 => ?_)
            refine sn_if_ne (pc := 120) (tgt := 137) dX12_aTest_120 (by decide) ?_ ?_
            · exact sn_sub (lv' := [(0, .ref (E.1 + a0))]) [0] rfl (sfX12_aTest_137  a0)
            · refine sn_aload_n (pc := 123) (j := 0) dX12_aTest_123 rfl rfl ?_
              refine sn_bipush (pc := 124) (v := 61) dX12_aTest_124 (by decide) ?_
              refine sn_callV (ci := 12) (pc := 126) dX12_aTest_126 iX12_isSign wt6_186 ws_45 wt6_184 ⟨_, rfl, rfl⟩ (by decide) (mX12_isSign a0 61) (by decide) rfl rfl (Nat.le_of_ble_eq_true rfl) (fun v1022 => ?_)
              refine sn_if_ne (pc := 129) (tgt := 137) dX12_aTest_129 (by decide) ?_ ?_
              · exact sn_sub (lv' := [(0, .ref (E.1 + a0))]) [0] rfl (sfX12_aTest_137  a0)
              · refine sn_aload_n (pc := 132) (j := 0) dX12_aTest_132 rfl rfl ?_
                refine sn_callV (ci := 12) (pc := 133) dX12_aTest_133 iX12_stops wt6_198 ws_48 wt6_196 ⟨_, rfl, rfl⟩ (by decide) (mX12_stops a0) (by decide) rfl rfl (Nat.le_of_ble_eq_true rfl) (fun v1023 => ?_)
                exact sn_vret (pc := 136) dX12_aTest_136 rfl
        · exact sn_vret (pc := 94) dX12_aTest_94 rfl
      · exact sn_sub (lv' := [(0, .ref (E.1 + a0))]) [0] rfl (sfX12_aTest_74  a0)
def fX12_aTest (a0 : Nat) : St → Option (Unit × St) :=
 gR 13 a0 17 fun v1 =>
 ck 13 a0 <| cl (fX12_takes a0 32) fun v2 =>
 br ((bi v2) = 0) (fX12_aTest_19  a0 0 0 v1)
 (fX12_aTest_19  a0 1 0 v1)
set_option maxHeartbeats 4000000 in
set_option maxRecDepth 100000 in
theorem mX12_aTest {E : Ev} {l : Launch} (a0 : Nat) : MF E l dpX12_aTest yX12_aTest cX12_aTest 1 none rvV [.ref (E.1 + a0)] (fX12_aTest a0) := by
  refine MF.of (lv := [(0, .ref (E.1 + a0))]) (by decide) (Nat.le_of_ble_eq_true rfl) rfl ?_
  unfold fX12_aTest
  refine sn_aload_n (pc := 0) (j := 0) dX12_aTest_0 rfl rfl ?_
  refine sn_gR (pc := 1) dX12_aTest_1 flX12_33 rfl (fun v1 => ?_)
  refine sn_iconst (pc := 4) (v := 0) dX12_aTest_4 (by decide) ?_
  refine sn_aload_n (pc := 5) (j := 0) dX12_aTest_5 rfl rfl ?_
  refine sn_bipush (pc := 6) (v := 32) dX12_aTest_6 (by decide) ?_
  refine sn_callV (ci := 12) (pc := 8) dX12_aTest_8 iX12_takes wt6_210 ws_50 wt6_208 ⟨_, rfl, rfl⟩ (by decide) (mX12_takes a0 32) (by decide) rfl rfl (by simp [rf_some, rf_cat, cat_int, cat_long, cat_ref, rvV, rvI, rvZ, rvR, rvJ]) (fun v2 => ?_)
  refine sn_if_eq (pc := 11) (tgt := 18) dX12_aTest_11 (by decide) ?_ ?_
  · refine sn_iconst (pc := 18) (v := 0) dX12_aTest_18 (by decide) ?_
    exact sn_sub (lv' := [(0, .ref (E.1 + a0))]) [0] rfl (sfX12_aTest_19  a0 0 0 v1)
  · refine sn_iconst (pc := 14) (v := 1) dX12_aTest_14 (by decide) ?_
    refine sn_goto (pc := 15) (tgt := 19) dX12_aTest_15 (by decide) ?_
    exact sn_sub (lv' := [(0, .ref (E.1 + a0))]) [0] rfl (sfX12_aTest_19  a0 1 0 v1)
theorem iX12_aTest : MI yX12_aTest cX12_aTest 1 none 0 := ⟨wt1_10, wt7_19, by decide +kernel, by decide⟩
-- NeedleHomesModel puts(II)V
theorem dX12_puts_0 : decode cX12_puts 0 = .ok (.aload_n 0, 1) := by decide +kernel
theorem dX12_puts_1 : decode cX12_puts 1 = .ok (.getfield 189, 3) := by decide +kernel
theorem dX12_puts_4 : decode cX12_puts 4 = .ok (.bipush 16, 2) := by decide +kernel
theorem dX12_puts_6 : decode cX12_puts 6 = .ok (.if_icmp .ge 18, 3) := by decide +kernel
theorem dX12_puts_9 : decode cX12_puts 9 = .ok (.aload_n 0, 1) := by decide +kernel
theorem dX12_puts_10 : decode cX12_puts 10 = .ok (.getfield 30, 3) := by decide +kernel
theorem dX12_puts_13 : decode cX12_puts 13 = .ok (.bipush 19, 2) := by decide +kernel
theorem dX12_puts_15 : decode cX12_puts 15 = .ok (.aload_n 0, 1) := by decide +kernel
theorem dX12_puts_16 : decode cX12_puts 16 = .ok (.getfield 189, 3) := by decide +kernel
theorem dX12_puts_19 : decode cX12_puts 19 = .ok (.imul, 1) := by decide +kernel
theorem dX12_puts_20 : decode cX12_puts 20 = .ok (.iload_n 1, 1) := by decide +kernel
theorem dX12_puts_21 : decode cX12_puts 21 = .ok (.iadd, 1) := by decide +kernel
theorem dX12_puts_22 : decode cX12_puts 22 = .ok (.iload_n 2, 1) := by decide +kernel
theorem dX12_puts_23 : decode cX12_puts 23 = .ok (.iastore, 1) := by decide +kernel
theorem dX12_puts_24 : decode cX12_puts 24 = .ok (.return_, 1) := by decide +kernel
abbrev dpX12_puts : Nat := 0
def fX12_puts (a0 : Nat) (x1 : Int32) (x2 : Int32) : St → Option (Unit × St) :=
 gI 13 a0 15 fun v1 =>
 br (16 ≤ v1) (rt ())
 (gR 13 a0 16 fun v2 =>
 gI 13 a0 15 fun v3 =>
 nn v2 fun a4 =>
 wI a4 ((19 * v3) + x1) x2 <|
 rt ())
set_option maxHeartbeats 4000000 in
set_option maxRecDepth 100000 in
theorem mX12_puts {E : Ev} {l : Launch} (a0 : Nat) (x1 : Int32) (x2 : Int32) : MF E l dpX12_puts yX12_puts cX12_puts 3 none rvV [.ref (E.1 + a0), .int x1, .int x2] (fX12_puts a0 x1 x2) := by
  refine MF.of (lv := [(0, .ref (E.1 + a0)), (1, .int x1), (2, .int x2)]) (by decide) (Nat.le_of_ble_eq_true rfl) rfl ?_
  unfold fX12_puts
  refine sn_aload_n (pc := 0) (j := 0) dX12_puts_0 rfl rfl ?_
  refine sn_gI (pc := 1) dX12_puts_1 flX12_189 rfl (fun v1 => ?_)
  refine sn_bipush (pc := 4) (v := 16) dX12_puts_4 (by decide) ?_
  refine sn_icmp_ge (pc := 6) (tgt := 24) dX12_puts_6 (by decide) ?_ ?_
  · exact sn_vret (pc := 24) dX12_puts_24 rfl
  · refine sn_aload_n (pc := 9) (j := 0) dX12_puts_9 rfl rfl ?_
    refine sn_gR (pc := 10) dX12_puts_10 flX12_30 rfl (fun v2 => ?_)
    refine sn_bipush (pc := 13) (v := 19) dX12_puts_13 (by decide) ?_
    refine sn_aload_n (pc := 15) (j := 0) dX12_puts_15 rfl rfl ?_
    refine sn_gI (pc := 16) dX12_puts_16 flX12_189 rfl (fun v3 => ?_)
    refine sn_imul (pc := 19) dX12_puts_19 ?_
    refine sn_iload_n (pc := 20) (j := 1) dX12_puts_20 rfl rfl ?_
    refine sn_iadd (pc := 21) dX12_puts_21 ?_
    refine sn_iload_n (pc := 22) (j := 2) dX12_puts_22 rfl rfl ?_
    rcases v2 with _ | a4
    · exact sn_no
    refine sn_nn ?_
    refine sn_iast (pc := 23) dX12_puts_23 ?_
    exact sn_vret (pc := 24) dX12_puts_24 rfl
theorem iX12_puts : MI yX12_puts cX12_puts 3 none 2 := ⟨wt1_10, wt7_23, by decide +kernel, by decide⟩
-- NeedleHomesModel aLine()V
theorem dX12_aLine_0 : decode cX12_aLine 0 = .ok (.aload_n 0, 1) := by decide +kernel
theorem dX12_aLine_1 : decode cX12_aLine 1 = .ok (.getfield 189, 3) := by decide +kernel
theorem dX12_aLine_4 : decode cX12_aLine 4 = .ok (.bipush 16, 2) := by decide +kernel
theorem dX12_aLine_6 : decode cX12_aLine 6 = .ok (.if_icmp .lt 12, 3) := by decide +kernel
theorem dX12_aLine_9 : decode cX12_aLine 9 = .ok (.aload_n 0, 1) := by decide +kernel
theorem dX12_aLine_10 : decode cX12_aLine 10 = .ok (.iconst 3, 1) := by decide +kernel
theorem dX12_aLine_11 : decode cX12_aLine 11 = .ok (.aload_n 0, 1) := by decide +kernel
theorem dX12_aLine_12 : decode cX12_aLine 12 = .ok (.getfield 90, 3) := by decide +kernel
theorem dX12_aLine_15 : decode cX12_aLine 15 = .ok (.invokevirtual 152, 3) := by decide +kernel
theorem dX12_aLine_18 : decode cX12_aLine 18 = .ok (.aload_n 0, 1) := by decide +kernel
theorem dX12_aLine_19 : decode cX12_aLine 19 = .ok (.getfield 119, 3) := by decide +kernel
theorem dX12_aLine_22 : decode cX12_aLine 22 = .ok (.ifCond .ne 23, 3) := by decide +kernel
theorem dX12_aLine_25 : decode cX12_aLine 25 = .ok (.aload_n 0, 1) := by decide +kernel
theorem dX12_aLine_26 : decode cX12_aLine 26 = .ok (.getfield 93, 3) := by decide +kernel
theorem dX12_aLine_29 : decode cX12_aLine 29 = .ok (.iconst 3, 1) := by decide +kernel
theorem dX12_aLine_30 : decode cX12_aLine 30 = .ok (.if_icmp .ne 15, 3) := by decide +kernel
theorem dX12_aLine_33 : decode cX12_aLine 33 = .ok (.aload_n 0, 1) := by decide +kernel
theorem dX12_aLine_34 : decode cX12_aLine 34 = .ok (.getfield 104, 3) := by decide +kernel
theorem dX12_aLine_37 : decode cX12_aLine 37 = .ok (.iconst 0, 1) := by decide +kernel
theorem dX12_aLine_38 : decode cX12_aLine 38 = .ok (.iconst 5, 1) := by decide +kernel
theorem dX12_aLine_39 : decode cX12_aLine 39 = .ok (.invokestatic 51, 3) := by decide +kernel
theorem dX12_aLine_42 : decode cX12_aLine 42 = .ok (.ifCond .ne 8, 3) := by decide +kernel
theorem dX12_aLine_45 : decode cX12_aLine 45 = .ok (.aload_n 0, 1) := by decide +kernel
theorem dX12_aLine_46 : decode cX12_aLine 46 = .ok (.invokevirtual 129, 3) := by decide +kernel
theorem dX12_aLine_49 : decode cX12_aLine 49 = .ok (.return_, 1) := by decide +kernel
theorem dX12_aLine_50 : decode cX12_aLine 50 = .ok (.aload_n 0, 1) := by decide +kernel
theorem dX12_aLine_51 : decode cX12_aLine 51 = .ok (.getfield 104, 3) := by decide +kernel
theorem dX12_aLine_54 : decode cX12_aLine 54 = .ok (.istore_n 1, 1) := by decide +kernel
theorem dX12_aLine_55 : decode cX12_aLine 55 = .ok (.aload_n 0, 1) := by decide +kernel
theorem dX12_aLine_56 : decode cX12_aLine 56 = .ok (.invokevirtual 123, 3) := by decide +kernel
theorem dX12_aLine_59 : decode cX12_aLine 59 = .ok (.iconst 0, 1) := by decide +kernel
theorem dX12_aLine_60 : decode cX12_aLine 60 = .ok (.istore_n 2, 1) := by decide +kernel
theorem dX12_aLine_61 : decode cX12_aLine 61 = .ok (.aload_n 0, 1) := by decide +kernel
theorem dX12_aLine_62 : decode cX12_aLine 62 = .ok (.bipush 30, 2) := by decide +kernel
theorem dX12_aLine_64 : decode cX12_aLine 64 = .ok (.invokevirtual 149, 3) := by decide +kernel
theorem dX12_aLine_67 : decode cX12_aLine 67 = .ok (.ifCond .eq 79, 3) := by decide +kernel
theorem dX12_aLine_70 : decode cX12_aLine 70 = .ok (.iconst 1, 1) := by decide +kernel
theorem dX12_aLine_71 : decode cX12_aLine 71 = .ok (.istore_n 3, 1) := by decide +kernel
theorem dX12_aLine_72 : decode cX12_aLine 72 = .ok (.iload_n 3, 1) := by decide +kernel
theorem dX12_aLine_73 : decode cX12_aLine 73 = .ok (.ifCond .eq 73, 3) := by decide +kernel
theorem dX12_aLine_76 : decode cX12_aLine 76 = .ok (.iload_n 2, 1) := by decide +kernel
theorem dX12_aLine_77 : decode cX12_aLine 77 = .ok (.iconst 3, 1) := by decide +kernel
theorem dX12_aLine_78 : decode cX12_aLine 78 = .ok (.if_icmp .le 12, 3) := by decide +kernel
theorem dX12_aLine_81 : decode cX12_aLine 81 = .ok (.aload_n 0, 1) := by decide +kernel
theorem dX12_aLine_82 : decode cX12_aLine 82 = .ok (.iconst 3, 1) := by decide +kernel
theorem dX12_aLine_83 : decode cX12_aLine 83 = .ok (.aload_n 0, 1) := by decide +kernel
theorem dX12_aLine_84 : decode cX12_aLine 84 = .ok (.getfield 90, 3) := by decide +kernel
theorem dX12_aLine_87 : decode cX12_aLine 87 = .ok (.invokevirtual 152, 3) := by decide +kernel
theorem dX12_aLine_90 : decode cX12_aLine 90 = .ok (.aload_n 0, 1) := by decide +kernel
theorem dX12_aLine_91 : decode cX12_aLine 91 = .ok (.invokevirtual 192, 3) := by decide +kernel
theorem dX12_aLine_94 : decode cX12_aLine 94 = .ok (.iconst 0, 1) := by decide +kernel
theorem dX12_aLine_95 : decode cX12_aLine 95 = .ok (.istore 4, 2) := by decide +kernel
theorem dX12_aLine_97 : decode cX12_aLine 97 = .ok (.iload 4, 2) := by decide +kernel
theorem dX12_aLine_99 : decode cX12_aLine 99 = .ok (.iconst 4, 1) := by decide +kernel
theorem dX12_aLine_100 : decode cX12_aLine 100 = .ok (.if_icmp .ge 33, 3) := by decide +kernel
theorem dX12_aLine_103 : decode cX12_aLine 103 = .ok (.iload_n 2, 1) := by decide +kernel
theorem dX12_aLine_104 : decode cX12_aLine 104 = .ok (.iconst 4, 1) := by decide +kernel
theorem dX12_aLine_105 : decode cX12_aLine 105 = .ok (.if_icmp .ge 28, 3) := by decide +kernel
theorem dX12_aLine_108 : decode cX12_aLine 108 = .ok (.aload_n 0, 1) := by decide +kernel
theorem dX12_aLine_109 : decode cX12_aLine 109 = .ok (.iconst 2, 1) := by decide +kernel
theorem dX12_aLine_110 : decode cX12_aLine 110 = .ok (.iconst 4, 1) := by decide +kernel
theorem dX12_aLine_111 : decode cX12_aLine 111 = .ok (.iload_n 2, 1) := by decide +kernel
theorem dX12_aLine_112 : decode cX12_aLine 112 = .ok (.imul, 1) := by decide +kernel
theorem dX12_aLine_113 : decode cX12_aLine 113 = .ok (.iadd, 1) := by decide +kernel
theorem dX12_aLine_114 : decode cX12_aLine 114 = .ok (.iload 4, 2) := by decide +kernel
theorem dX12_aLine_116 : decode cX12_aLine 116 = .ok (.iadd, 1) := by decide +kernel
theorem dX12_aLine_117 : decode cX12_aLine 117 = .ok (.aload_n 0, 1) := by decide +kernel
theorem dX12_aLine_118 : decode cX12_aLine 118 = .ok (.getfield 33, 3) := by decide +kernel
theorem dX12_aLine_121 : decode cX12_aLine 121 = .ok (.iload 4, 2) := by decide +kernel
theorem dX12_aLine_123 : decode cX12_aLine 123 = .ok (.iaload, 1) := by decide +kernel
theorem dX12_aLine_124 : decode cX12_aLine 124 = .ok (.invokevirtual 195, 3) := by decide +kernel
theorem dX12_aLine_127 : decode cX12_aLine 127 = .ok (.iinc 4 1, 3) := by decide +kernel
theorem dX12_aLine_130 : decode cX12_aLine 130 = .ok (.goto (-33), 3) := by decide +kernel
theorem dX12_aLine_133 : decode cX12_aLine 133 = .ok (.iinc 2 1, 3) := by decide +kernel
theorem dX12_aLine_136 : decode cX12_aLine 136 = .ok (.aload_n 0, 1) := by decide +kernel
theorem dX12_aLine_137 : decode cX12_aLine 137 = .ok (.bipush 31, 2) := by decide +kernel
theorem dX12_aLine_139 : decode cX12_aLine 139 = .ok (.invokevirtual 149, 3) := by decide +kernel
theorem dX12_aLine_142 : decode cX12_aLine 142 = .ok (.istore_n 3, 1) := by decide +kernel
theorem dX12_aLine_143 : decode cX12_aLine 143 = .ok (.goto (-71), 3) := by decide +kernel
theorem dX12_aLine_146 : decode cX12_aLine 146 = .ok (.aload_n 0, 1) := by decide +kernel
theorem dX12_aLine_147 : decode cX12_aLine 147 = .ok (.bipush 58, 2) := by decide +kernel
theorem dX12_aLine_149 : decode cX12_aLine 149 = .ok (.invokevirtual 156, 3) := by decide +kernel
theorem dX12_aLine_152 : decode cX12_aLine 152 = .ok (.aload_n 0, 1) := by decide +kernel
theorem dX12_aLine_153 : decode cX12_aLine 153 = .ok (.getfield 90, 3) := by decide +kernel
theorem dX12_aLine_156 : decode cX12_aLine 156 = .ok (.istore_n 3, 1) := by decide +kernel
theorem dX12_aLine_157 : decode cX12_aLine 157 = .ok (.aload_n 0, 1) := by decide +kernel
theorem dX12_aLine_158 : decode cX12_aLine 158 = .ok (.invokevirtual 145, 3) := by decide +kernel
theorem dX12_aLine_161 : decode cX12_aLine 161 = .ok (.istore 4, 2) := by decide +kernel
theorem dX12_aLine_163 : decode cX12_aLine 163 = .ok (.iload_n 1, 1) := by decide +kernel
theorem dX12_aLine_164 : decode cX12_aLine 164 = .ok (.iconst 5, 1) := by decide +kernel
theorem dX12_aLine_165 : decode cX12_aLine 165 = .ok (.if_icmp .ne 16, 3) := by decide +kernel
theorem dX12_aLine_168 : decode cX12_aLine 168 = .ok (.iload 4, 2) := by decide +kernel
theorem dX12_aLine_170 : decode cX12_aLine 170 = .ok (.bipush 100, 2) := by decide +kernel
theorem dX12_aLine_172 : decode cX12_aLine 172 = .ok (.if_icmp .le 9, 3) := by decide +kernel
theorem dX12_aLine_175 : decode cX12_aLine 175 = .ok (.aload_n 0, 1) := by decide +kernel
theorem dX12_aLine_176 : decode cX12_aLine 176 = .ok (.iconst 2, 1) := by decide +kernel
theorem dX12_aLine_177 : decode cX12_aLine 177 = .ok (.iload_n 3, 1) := by decide +kernel
theorem dX12_aLine_178 : decode cX12_aLine 178 = .ok (.invokevirtual 152, 3) := by decide +kernel
theorem dX12_aLine_181 : decode cX12_aLine 181 = .ok (.aload_n 0, 1) := by decide +kernel
theorem dX12_aLine_182 : decode cX12_aLine 182 = .ok (.bipush 59, 2) := by decide +kernel
theorem dX12_aLine_184 : decode cX12_aLine 184 = .ok (.invokevirtual 156, 3) := by decide +kernel
theorem dX12_aLine_187 : decode cX12_aLine 187 = .ok (.aload_n 0, 1) := by decide +kernel
theorem dX12_aLine_188 : decode cX12_aLine 188 = .ok (.iconst 0, 1) := by decide +kernel
theorem dX12_aLine_189 : decode cX12_aLine 189 = .ok (.iload_n 1, 1) := by decide +kernel
theorem dX12_aLine_190 : decode cX12_aLine 190 = .ok (.invokevirtual 195, 3) := by decide +kernel
theorem dX12_aLine_193 : decode cX12_aLine 193 = .ok (.aload_n 0, 1) := by decide +kernel
theorem dX12_aLine_194 : decode cX12_aLine 194 = .ok (.iconst 1, 1) := by decide +kernel
theorem dX12_aLine_195 : decode cX12_aLine 195 = .ok (.iload_n 2, 1) := by decide +kernel
theorem dX12_aLine_196 : decode cX12_aLine 196 = .ok (.invokevirtual 195, 3) := by decide +kernel
theorem dX12_aLine_199 : decode cX12_aLine 199 = .ok (.aload_n 0, 1) := by decide +kernel
theorem dX12_aLine_200 : decode cX12_aLine 200 = .ok (.bipush 18, 2) := by decide +kernel
theorem dX12_aLine_202 : decode cX12_aLine 202 = .ok (.iload 4, 2) := by decide +kernel
theorem dX12_aLine_204 : decode cX12_aLine 204 = .ok (.invokevirtual 195, 3) := by decide +kernel
theorem dX12_aLine_207 : decode cX12_aLine 207 = .ok (.aload_n 0, 1) := by decide +kernel
theorem dX12_aLine_208 : decode cX12_aLine 208 = .ok (.dup, 1) := by decide +kernel
theorem dX12_aLine_209 : decode cX12_aLine 209 = .ok (.getfield 189, 3) := by decide +kernel
theorem dX12_aLine_212 : decode cX12_aLine 212 = .ok (.iconst 1, 1) := by decide +kernel
theorem dX12_aLine_213 : decode cX12_aLine 213 = .ok (.iadd, 1) := by decide +kernel
theorem dX12_aLine_214 : decode cX12_aLine 214 = .ok (.putfield 189, 3) := by decide +kernel
theorem dX12_aLine_217 : decode cX12_aLine 217 = .ok (.return_, 1) := by decide +kernel
abbrev dpX12_aLine : Nat := 6
def fX12_aLine_45 (a0 : Nat) : St → Option (Unit × St) :=
 ck 13 a0 <| cl (fX12_stops a0) fun v2001 =>
 rt ()
set_option maxHeartbeats 4000000 in
set_option maxRecDepth 100000 in
theorem sfX12_aLine_45 {E : Ev} {l : Launch} (a0 : Nat) : Snd E l (dpX12_aLine, RX12, cX12_aLine, 5, none, "aLine") rvV 45 [(0, .ref (E.1 + a0))] [] (fX12_aLine_45 a0) := by
  unfold fX12_aLine_45
  refine sn_aload_n (pc := 45) (j := 0) dX12_aLine_45 rfl rfl ?_
  refine sn_callV (ci := 12) (pc := 46) dX12_aLine_46 iX12_stops wt6_198 ws_48 wt6_196 ⟨_, rfl, rfl⟩ (by decide) (mX12_stops a0) (by decide) rfl rfl (Nat.le_of_ble_eq_true rfl) (fun v2001 => ?_)
  exact sn_vret (pc := 49) dX12_aLine_49 rfl
def fX12_aLine_133 (k72 : (Nat × Int32 × Int32 × Int32) → St → Option (Unit × St)) (a0 : Nat) (x1 : Int32) (x2 : Int32) : St → Option (Unit × St) :=
 ck 13 a0 <| cl (fX12_takes a0 31) fun v6001 =>
 k72 (a0, x1, (x2 + 1), (bi v6001))
set_option maxHeartbeats 4000000 in
set_option maxRecDepth 100000 in
theorem sfX12_aLine_133 {E : Ev} {l : Launch} (k72 : (Nat × Int32 × Int32 × Int32) → St → Option (Unit × St)) (hk72 : ∀ p : Nat × Int32 × Int32 × Int32, Snd E l (dpX12_aLine, RX12, cX12_aLine, 5, none, "aLine") rvV 72 [(0, .ref (E.1 + p.1)), (1, .int p.2.1), (2, .int p.2.2.1), (3, .int p.2.2.2)] [] (k72 p)) (a0 : Nat) (x1 : Int32) (x2 : Int32) : Snd E l (dpX12_aLine, RX12, cX12_aLine, 5, none, "aLine") rvV 133 [(0, .ref (E.1 + a0)), (1, .int x1), (2, .int x2)] [] (fX12_aLine_133 k72 a0 x1 x2) := by
  unfold fX12_aLine_133
  refine sn_iinc (pc := 133) (v := x2 + 1) (lv' := [(2, .int (x2 + 1)), (0, .ref (E.1 + a0)), (1, .int x1)]) (j := 2) dX12_aLine_133 rfl rfl (by decide) rfl ?_
  refine sn_aload_n (pc := 136) (j := 1) dX12_aLine_136 rfl rfl ?_
  refine sn_bipush (pc := 137) (v := 31) dX12_aLine_137 (by decide) ?_
  refine sn_callV (ci := 12) (pc := 139) dX12_aLine_139 iX12_takes wt6_210 ws_50 wt6_208 ⟨_, rfl, rfl⟩ (by decide) (mX12_takes a0 31) (by decide) rfl rfl (Nat.le_of_ble_eq_true rfl) (fun v6001 => ?_)
  refine sn_istore_n (pc := 142) (i := 3) (lv' := [(3, .int (bi v6001)), (2, .int (x2 + 1)), (0, .ref (E.1 + a0)), (1, .int x1)]) dX12_aLine_142 rfl (by decide) rfl ?_
  refine sn_goto (pc := 143) (tgt := 72) dX12_aLine_143 (by decide) ?_
  exact sn_sub (lv' := [(0, .ref (E.1 + a0)), (1, .int x1), (2, .int (x2 + 1)), (3, .int (bi v6001))]) [2, 3, 1, 0] rfl (hk72 (a0, x1, (x2 + 1), (bi v6001)))
def fX12_aLine_97 (k72 : (Nat × Int32 × Int32 × Int32) → St → Option (Unit × St)) (k97 : (Nat × Int32 × Int32 × Int32) → St → Option (Unit × St)) (a0 : Nat) (x1 : Int32) (x2 : Int32) (x4 : Int32) : St → Option (Unit × St) :=
 br (4 ≤ x4) (fX12_aLine_133 k72 a0 x1 x2)
 (br (4 ≤ x2) (fX12_aLine_133 k72 a0 x1 x2)
 (gR 13 a0 17 fun v5001 =>
 nn v5001 fun a5003 =>
 aI 15 a5003 x4 fun v5002 =>
 ck 13 a0 <| cl (fX12_puts a0 ((2 + (4 * x2)) + x4) v5002) fun v5004 =>
 k97 (a0, x1, x2, (x4 + 1))))
set_option maxHeartbeats 4000000 in
set_option maxRecDepth 100000 in
theorem sfX12_aLine_97 {E : Ev} {l : Launch} (k72 : (Nat × Int32 × Int32 × Int32) → St → Option (Unit × St)) (hk72 : ∀ p : Nat × Int32 × Int32 × Int32, Snd E l (dpX12_aLine, RX12, cX12_aLine, 5, none, "aLine") rvV 72 [(0, .ref (E.1 + p.1)), (1, .int p.2.1), (2, .int p.2.2.1), (3, .int p.2.2.2)] [] (k72 p)) (k97 : (Nat × Int32 × Int32 × Int32) → St → Option (Unit × St)) (hk97 : ∀ p : Nat × Int32 × Int32 × Int32, Snd E l (dpX12_aLine, RX12, cX12_aLine, 5, none, "aLine") rvV 97 [(0, .ref (E.1 + p.1)), (1, .int p.2.1), (2, .int p.2.2.1), (4, .int p.2.2.2)] [] (k97 p)) (a0 : Nat) (x1 : Int32) (x2 : Int32) (x4 : Int32) : Snd E l (dpX12_aLine, RX12, cX12_aLine, 5, none, "aLine") rvV 97 [(0, .ref (E.1 + a0)), (1, .int x1), (2, .int x2), (4, .int x4)] [] (fX12_aLine_97 k72 k97 a0 x1 x2 x4) := by
  unfold fX12_aLine_97
  refine sn_iload (pc := 97) (j := 3) dX12_aLine_97 rfl ?_
  refine sn_iconst (pc := 99) (v := 4) dX12_aLine_99 (by decide) ?_
  refine sn_icmp_ge (pc := 100) (tgt := 133) dX12_aLine_100 (by decide) ?_ ?_
  · exact sn_sub (lv' := [(0, .ref (E.1 + a0)), (1, .int x1), (2, .int x2)]) [0, 1, 2] rfl (sfX12_aLine_133 k72 hk72 a0 x1 x2)
  · refine sn_iload_n (pc := 103) (j := 2) dX12_aLine_103 rfl rfl ?_
    refine sn_iconst (pc := 104) (v := 4) dX12_aLine_104 (by decide) ?_
    refine sn_icmp_ge (pc := 105) (tgt := 133) dX12_aLine_105 (by decide) ?_ ?_
    · exact sn_sub (lv' := [(0, .ref (E.1 + a0)), (1, .int x1), (2, .int x2)]) [0, 1, 2] rfl (sfX12_aLine_133 k72 hk72 a0 x1 x2)
    · refine sn_aload_n (pc := 108) (j := 0) dX12_aLine_108 rfl rfl ?_
      refine sn_iconst (pc := 109) (v := 2) dX12_aLine_109 (by decide) ?_
      refine sn_iconst (pc := 110) (v := 4) dX12_aLine_110 (by decide) ?_
      refine sn_iload_n (pc := 111) (j := 2) dX12_aLine_111 rfl rfl ?_
      refine sn_imul (pc := 112) dX12_aLine_112 ?_
      refine sn_iadd (pc := 113) dX12_aLine_113 ?_
      refine sn_iload (pc := 114) (j := 3) dX12_aLine_114 rfl ?_
      refine sn_iadd (pc := 116) dX12_aLine_116 ?_
      refine sn_aload_n (pc := 117) (j := 0) dX12_aLine_117 rfl rfl ?_
      refine sn_gR (pc := 118) dX12_aLine_118 flX12_33 rfl (fun v5001 => ?_)
      refine sn_iload (pc := 121) (j := 3) dX12_aLine_121 rfl ?_
      rcases v5001 with _ | a5003
      · exact sn_no
      refine sn_nn ?_
      refine sn_iald (pc := 123) dX12_aLine_123 (fun v5002 => ?_)
      refine sn_callV (ci := 12) (pc := 124) dX12_aLine_124 iX12_puts wt7_22 ws_58 wt7_20 ⟨_, rfl, rfl⟩ (by decide) (mX12_puts a0 ((2 + (4 * x2)) + x4) v5002) (by decide) rfl rfl (Nat.le_of_ble_eq_true rfl) (fun v5004 => ?_)
      refine sn_iinc (pc := 127) (v := x4 + 1) (lv' := [(4, .int (x4 + 1)), (0, .ref (E.1 + a0)), (1, .int x1), (2, .int x2)]) (j := 3) dX12_aLine_127 rfl rfl (by decide) rfl ?_
      refine sn_goto (pc := 130) (tgt := 97) dX12_aLine_130 (by decide) ?_
      exact sn_sub (lv' := [(0, .ref (E.1 + a0)), (1, .int x1), (2, .int x2), (4, .int (x4 + 1))]) [1, 2, 3, 0] rfl (hk97 (a0, x1, x2, (x4 + 1)))
def fX12_aLine_90 (k72 : (Nat × Int32 × Int32 × Int32) → St → Option (Unit × St)) (a0 : Nat) (x1 : Int32) (x2 : Int32) : St → Option (Unit × St) :=
 ck 13 a0 <| cl (fX12_aTest a0) fun v4001 =>
 itr (fun k (p : Nat × Int32 × Int32 × Int32) => fX12_aLine_97 k72 k p.1 p.2.1 p.2.2.1 p.2.2.2) FU (a0, x1, x2, 0)
set_option maxHeartbeats 4000000 in
set_option maxRecDepth 100000 in
theorem sfX12_aLine_90 {E : Ev} {l : Launch} (k72 : (Nat × Int32 × Int32 × Int32) → St → Option (Unit × St)) (hk72 : ∀ p : Nat × Int32 × Int32 × Int32, Snd E l (dpX12_aLine, RX12, cX12_aLine, 5, none, "aLine") rvV 72 [(0, .ref (E.1 + p.1)), (1, .int p.2.1), (2, .int p.2.2.1), (3, .int p.2.2.2)] [] (k72 p)) (a0 : Nat) (x1 : Int32) (x2 : Int32) : Snd E l (dpX12_aLine, RX12, cX12_aLine, 5, none, "aLine") rvV 90 [(0, .ref (E.1 + a0)), (1, .int x1), (2, .int x2)] [] (fX12_aLine_90 k72 a0 x1 x2) := by
  unfold fX12_aLine_90
  refine sn_aload_n (pc := 90) (j := 0) dX12_aLine_90 rfl rfl ?_
  refine sn_callV (ci := 12) (pc := 91) dX12_aLine_91 iX12_aTest wt7_18 ws_57 wt7_16 ⟨_, rfl, rfl⟩ (by decide) (mX12_aTest a0) (by decide) rfl rfl (Nat.le_of_ble_eq_true rfl) (fun v4001 => ?_)
  refine sn_iconst (pc := 94) (v := 0) dX12_aLine_94 (by decide) ?_
  refine sn_istore (pc := 95) (i := 4) (lv' := [(4, .int 0), (0, .ref (E.1 + a0)), (1, .int x1), (2, .int x2)]) dX12_aLine_95 (by decide) rfl ?_
  exact sn_sub (lv' := [(0, .ref (E.1 + a0)), (1, .int x1), (2, .int x2), (4, .int 0)]) [1, 2, 3, 0] rfl (sn_itr (lvf := fun p => [(0, .ref (E.1 + p.1)), (1, .int p.2.1), (2, .int p.2.2.1), (4, .int p.2.2.2)]) (stf := fun p => []) (fun k hk p => sfX12_aLine_97 k72 hk72 k hk p.1 p.2.1 p.2.2.1 p.2.2.2) FU (a0, x1, x2, 0))
def fX12_aLine_181 (a0 : Nat) (x1 : Int32) (x2 : Int32) (x4 : Int32) : St → Option (Unit × St) :=
 ck 13 a0 <| cl (fX12_must a0 59) fun v8001 =>
 ck 13 a0 <| cl (fX12_puts a0 0 x1) fun v8002 =>
 ck 13 a0 <| cl (fX12_puts a0 1 x2) fun v8003 =>
 ck 13 a0 <| cl (fX12_puts a0 18 x4) fun v8004 =>
 gI 13 a0 15 fun v8005 =>
 pI 13 a0 15 (v8005 + 1) <|
 rt ()
set_option maxHeartbeats 4000000 in
set_option maxRecDepth 100000 in
theorem sfX12_aLine_181 {E : Ev} {l : Launch} (a0 : Nat) (x1 : Int32) (x2 : Int32) (x4 : Int32) : Snd E l (dpX12_aLine, RX12, cX12_aLine, 5, none, "aLine") rvV 181 [(0, .ref (E.1 + a0)), (1, .int x1), (2, .int x2), (4, .int x4)] [] (fX12_aLine_181 a0 x1 x2 x4) := by
  unfold fX12_aLine_181
  refine sn_aload_n (pc := 181) (j := 0) dX12_aLine_181 rfl rfl ?_
  refine sn_bipush (pc := 182) (v := 59) dX12_aLine_182 (by decide) ?_
  refine sn_callV (ci := 12) (pc := 184) dX12_aLine_184 iX12_must wt6_218 ws_52 wt6_216 ⟨_, rfl, rfl⟩ (by decide) (mX12_must a0 59) (by decide) rfl rfl (Nat.le_of_ble_eq_true rfl) (fun v8001 => ?_)
  refine sn_aload_n (pc := 187) (j := 0) dX12_aLine_187 rfl rfl ?_
  refine sn_iconst (pc := 188) (v := 0) dX12_aLine_188 (by decide) ?_
  refine sn_iload_n (pc := 189) (j := 1) dX12_aLine_189 rfl rfl ?_
  refine sn_callV (ci := 12) (pc := 190) dX12_aLine_190 iX12_puts wt7_22 ws_58 wt7_20 ⟨_, rfl, rfl⟩ (by decide) (mX12_puts a0 0 x1) (by decide) rfl rfl (Nat.le_of_ble_eq_true rfl) (fun v8002 => ?_)
  refine sn_aload_n (pc := 193) (j := 0) dX12_aLine_193 rfl rfl ?_
  refine sn_iconst (pc := 194) (v := 1) dX12_aLine_194 (by decide) ?_
  refine sn_iload_n (pc := 195) (j := 2) dX12_aLine_195 rfl rfl ?_
  refine sn_callV (ci := 12) (pc := 196) dX12_aLine_196 iX12_puts wt7_22 ws_58 wt7_20 ⟨_, rfl, rfl⟩ (by decide) (mX12_puts a0 1 x2) (by decide) rfl rfl (Nat.le_of_ble_eq_true rfl) (fun v8003 => ?_)
  refine sn_aload_n (pc := 199) (j := 0) dX12_aLine_199 rfl rfl ?_
  refine sn_bipush (pc := 200) (v := 18) dX12_aLine_200 (by decide) ?_
  refine sn_iload (pc := 202) (j := 3) dX12_aLine_202 rfl ?_
  refine sn_callV (ci := 12) (pc := 204) dX12_aLine_204 iX12_puts wt7_22 ws_58 wt7_20 ⟨_, rfl, rfl⟩ (by decide) (mX12_puts a0 18 x4) (by decide) rfl rfl (Nat.le_of_ble_eq_true rfl) (fun v8004 => ?_)
  refine sn_aload_n (pc := 207) (j := 0) dX12_aLine_207 rfl rfl ?_
  refine sn_dup (pc := 208) dX12_aLine_208 rfl ?_
  refine sn_gI (pc := 209) dX12_aLine_209 flX12_189 rfl (fun v8005 => ?_)
  refine sn_iconst (pc := 212) (v := 1) dX12_aLine_212 (by decide) ?_
  refine sn_iadd (pc := 213) dX12_aLine_213 ?_
  refine sn_pI (pc := 214) dX12_aLine_214 flX12_189 rfl rfl (Or.inl rfl) ?_
  exact sn_vret (pc := 217) dX12_aLine_217 rfl
def fX12_aLine_146 (a0 : Nat) (x1 : Int32) (x2 : Int32) : St → Option (Unit × St) :=
 ck 13 a0 <| cl (fX12_must a0 58) fun v7001 =>
 gI 13 a0 4 fun v7002 =>
 ck 13 a0 <| cl (fX12_numbered a0) fun v7003 =>
 br (x1 = 5) (br (v7003 ≤ 100) (fX12_aLine_181  a0 x1 x2 v7003)
 (ck 13 a0 <| cl (fX12_also a0 2 v7002) fun v7004 =>
 fX12_aLine_181  a0 x1 x2 v7003))
 (fX12_aLine_181  a0 x1 x2 v7003)
set_option maxHeartbeats 4000000 in
set_option maxRecDepth 100000 in
theorem sfX12_aLine_146 {E : Ev} {l : Launch} (a0 : Nat) (x1 : Int32) (x2 : Int32) : Snd E l (dpX12_aLine, RX12, cX12_aLine, 5, none, "aLine") rvV 146 [(0, .ref (E.1 + a0)), (1, .int x1), (2, .int x2)] [] (fX12_aLine_146 a0 x1 x2) := by
  unfold fX12_aLine_146
  refine sn_aload_n (pc := 146) (j := 0) dX12_aLine_146 rfl rfl ?_
  refine sn_bipush (pc := 147) (v := 58) dX12_aLine_147 (by decide) ?_
  refine sn_callV (ci := 12) (pc := 149) dX12_aLine_149 iX12_must wt6_218 ws_52 wt6_216 ⟨_, rfl, rfl⟩ (by decide) (mX12_must a0 58) (by decide) rfl rfl (Nat.le_of_ble_eq_true rfl) (fun v7001 => ?_)
  refine sn_aload_n (pc := 152) (j := 0) dX12_aLine_152 rfl rfl ?_
  refine sn_gI (pc := 153) dX12_aLine_153 flX12_90 rfl (fun v7002 => ?_)
  refine sn_istore_n (pc := 156) (i := 3) (lv' := [(3, .int v7002), (0, .ref (E.1 + a0)), (1, .int x1), (2, .int x2)]) dX12_aLine_156 rfl (by decide) rfl ?_
  refine sn_aload_n (pc := 157) (j := 1) dX12_aLine_157 rfl rfl ?_
  refine sn_callV (ci := 12) (pc := 158) dX12_aLine_158 iX12_numbered wt6_194 ws_47 wt6_192 ⟨_, rfl, rfl⟩ (by decide) (mX12_numbered a0) (by decide) rfl rfl (Nat.le_of_ble_eq_true rfl) (fun v7003 => ?_)
  refine sn_istore (pc := 161) (i := 4) (lv' := [(4, .int v7003), (3, .int v7002), (0, .ref (E.1 + a0)), (1, .int x1), (2, .int x2)]) dX12_aLine_161 (by decide) rfl ?_
  refine sn_iload_n (pc := 163) (j := 3) dX12_aLine_163 rfl rfl ?_
  refine sn_iconst (pc := 164) (v := 5) dX12_aLine_164 (by decide) ?_
  refine sn_icmp_ne (pc := 165) (tgt := 181) dX12_aLine_165 (by decide) ?_ ?_
  · exact sn_sub (lv' := [(0, .ref (E.1 + a0)), (1, .int x1), (2, .int x2), (4, .int v7003)]) [2, 3, 4, 0] rfl (sfX12_aLine_181  a0 x1 x2 v7003)
  · refine sn_iload (pc := 168) (j := 0) dX12_aLine_168 rfl ?_
    refine sn_bipush (pc := 170) (v := 100) dX12_aLine_170 (by decide) ?_
    refine sn_icmp_le (pc := 172) (tgt := 181) dX12_aLine_172 (by decide) ?_ ?_
    · exact sn_sub (lv' := [(0, .ref (E.1 + a0)), (1, .int x1), (2, .int x2), (4, .int v7003)]) [2, 3, 4, 0] rfl (sfX12_aLine_181  a0 x1 x2 v7003)
    · refine sn_aload_n (pc := 175) (j := 2) dX12_aLine_175 rfl rfl ?_
      refine sn_iconst (pc := 176) (v := 2) dX12_aLine_176 (by decide) ?_
      refine sn_iload_n (pc := 177) (j := 1) dX12_aLine_177 rfl rfl ?_
      refine sn_callV (ci := 12) (pc := 178) dX12_aLine_178 iX12_also wt6_214 ws_51 wt6_212 ⟨_, rfl, rfl⟩ (by decide) (mX12_also a0 2 v7002) (by decide) rfl rfl (Nat.le_of_ble_eq_true rfl) (fun v7004 => ?_)
      exact sn_sub (lv' := [(0, .ref (E.1 + a0)), (1, .int x1), (2, .int x2), (4, .int v7003)]) [2, 3, 4, 0] rfl (sfX12_aLine_181  a0 x1 x2 v7003)
def fX12_aLine_72 (k72 : (Nat × Int32 × Int32 × Int32) → St → Option (Unit × St)) (a0 : Nat) (x1 : Int32) (x2 : Int32) (x3 : Int32) : St → Option (Unit × St) :=
 br (x3 = 0) (fX12_aLine_146  a0 x1 x2)
 (br (x2 ≤ 3) (fX12_aLine_90 k72 a0 x1 x2)
 (gI 13 a0 4 fun v3001 =>
 ck 13 a0 <| cl (fX12_also a0 3 v3001) fun v3002 =>
 fX12_aLine_90 k72 a0 x1 x2))
set_option maxHeartbeats 4000000 in
set_option maxRecDepth 100000 in
theorem sfX12_aLine_72 {E : Ev} {l : Launch} (k72 : (Nat × Int32 × Int32 × Int32) → St → Option (Unit × St)) (hk72 : ∀ p : Nat × Int32 × Int32 × Int32, Snd E l (dpX12_aLine, RX12, cX12_aLine, 5, none, "aLine") rvV 72 [(0, .ref (E.1 + p.1)), (1, .int p.2.1), (2, .int p.2.2.1), (3, .int p.2.2.2)] [] (k72 p)) (a0 : Nat) (x1 : Int32) (x2 : Int32) (x3 : Int32) : Snd E l (dpX12_aLine, RX12, cX12_aLine, 5, none, "aLine") rvV 72 [(0, .ref (E.1 + a0)), (1, .int x1), (2, .int x2), (3, .int x3)] [] (fX12_aLine_72 k72 a0 x1 x2 x3) := by
  unfold fX12_aLine_72
  refine sn_iload_n (pc := 72) (j := 3) dX12_aLine_72 rfl rfl ?_
  refine sn_if_eq (pc := 73) (tgt := 146) dX12_aLine_73 (by decide) ?_ ?_
  · exact sn_sub (lv' := [(0, .ref (E.1 + a0)), (1, .int x1), (2, .int x2)]) [0, 1, 2] rfl (sfX12_aLine_146  a0 x1 x2)
  · refine sn_iload_n (pc := 76) (j := 2) dX12_aLine_76 rfl rfl ?_
    refine sn_iconst (pc := 77) (v := 3) dX12_aLine_77 (by decide) ?_
    refine sn_icmp_le (pc := 78) (tgt := 90) dX12_aLine_78 (by decide) ?_ ?_
    · exact sn_sub (lv' := [(0, .ref (E.1 + a0)), (1, .int x1), (2, .int x2)]) [0, 1, 2] rfl (sfX12_aLine_90 k72 hk72 a0 x1 x2)
    · refine sn_aload_n (pc := 81) (j := 0) dX12_aLine_81 rfl rfl ?_
      refine sn_iconst (pc := 82) (v := 3) dX12_aLine_82 (by decide) ?_
      refine sn_aload_n (pc := 83) (j := 0) dX12_aLine_83 rfl rfl ?_
      refine sn_gI (pc := 84) dX12_aLine_84 flX12_90 rfl (fun v3001 => ?_)
      refine sn_callV (ci := 12) (pc := 87) dX12_aLine_87 iX12_also wt6_214 ws_51 wt6_212 ⟨_, rfl, rfl⟩ (by decide) (mX12_also a0 3 v3001) (by decide) rfl rfl (Nat.le_of_ble_eq_true rfl) (fun v3002 => ?_)
      exact sn_sub (lv' := [(0, .ref (E.1 + a0)), (1, .int x1), (2, .int x2)]) [0, 1, 2] rfl (sfX12_aLine_90 k72 hk72 a0 x1 x2)
def fX12_aLine_18 (a0 : Nat) : St → Option (Unit × St) :=
 gI 13 a0 9 fun v1001 =>
 br (v1001 = 0) (gI 13 a0 5 fun v1002 =>
 br (v1002 = 3) (gI 13 a0 8 fun v1003 =>
 cl (fX12_isIn v1003 0 5) fun v1004 =>
 br ((bi v1004) = 0) (fX12_aLine_45  a0)
 (gI 13 a0 8 fun v1005 =>
 ck 13 a0 <| cl (fX12_step a0) fun v1006 =>
 ck 13 a0 <| cl (fX12_takes a0 30) fun v1007 =>
 br ((bi v1007) = 0) (fX12_aLine_146  a0 v1005 0)
 (itr (fun k (p : Nat × Int32 × Int32 × Int32) => fX12_aLine_72  k p.1 p.2.1 p.2.2.1 p.2.2.2) FU (a0, v1005, 0, 1))))
 (fX12_aLine_45  a0))
 (fX12_aLine_45  a0)
set_option maxHeartbeats 4000000 in
set_option maxRecDepth 100000 in
theorem sfX12_aLine_18 {E : Ev} {l : Launch} (a0 : Nat) : Snd E l (dpX12_aLine, RX12, cX12_aLine, 5, none, "aLine") rvV 18 [(0, .ref (E.1 + a0))] [] (fX12_aLine_18 a0) := by
  unfold fX12_aLine_18
  refine sn_aload_n (pc := 18) (j := 0) dX12_aLine_18 rfl rfl ?_
  refine sn_gI (pc := 19) dX12_aLine_19 flX12_119 rfl (fun v1001 => ?_)
  refine sn_if_ne (pc := 22) (tgt := 45) dX12_aLine_22 (by decide) ?_ ?_
  · exact sn_sub (lv' := [(0, .ref (E.1 + a0))]) [0] rfl (sfX12_aLine_45  a0)
  · refine sn_aload_n (pc := 25) (j := 0) dX12_aLine_25 rfl rfl ?_
    refine sn_gI (pc := 26) dX12_aLine_26 flX12_93 rfl (fun v1002 => ?_)
    refine sn_iconst (pc := 29) (v := 3) dX12_aLine_29 (by decide) ?_
    refine sn_icmp_ne (pc := 30) (tgt := 45) dX12_aLine_30 (by decide) ?_ ?_
    · exact sn_sub (lv' := [(0, .ref (E.1 + a0))]) [0] rfl (sfX12_aLine_45  a0)
    · refine sn_aload_n (pc := 33) (j := 0) dX12_aLine_33 rfl rfl ?_
      refine sn_gI (pc := 34) dX12_aLine_34 flX12_104 rfl (fun v1003 => ?_)
      refine sn_iconst (pc := 37) (v := 0) dX12_aLine_37 (by decide) ?_
      refine sn_iconst (pc := 38) (v := 5) dX12_aLine_38 (by decide) ?_
      refine sn_callS (pc := 39) dX12_aLine_39 iX12_isIn wt6_138 wt6_137 (mX12_isIn v1003 0 5) (by decide) rfl rfl (Nat.le_of_ble_eq_true rfl) (fun v1004 => ?_)
      refine sn_if_ne (pc := 42) (tgt := 50) dX12_aLine_42 (by decide) ?_ ?_
      · refine sn_aload_n (pc := 50) (j := 0) dX12_aLine_50 rfl rfl ?_
        refine sn_gI (pc := 51) dX12_aLine_51 flX12_104 rfl (fun v1005 => ?_)
        refine sn_istore_n (pc := 54) (i := 1) (lv' := [(1, .int v1005), (0, .ref (E.1 + a0))]) dX12_aLine_54 rfl (by decide) rfl ?_
        refine sn_aload_n (pc := 55) (j := 1) dX12_aLine_55 rfl rfl ?_
        refine sn_callV (ci := 12) (pc := 56) dX12_aLine_56 iX12_step wt6_147 ws_42 wt6_145 ⟨_, rfl, rfl⟩ (by decide) (mX12_step a0) (by decide) rfl rfl (Nat.le_of_ble_eq_true rfl) (fun v1006 => ?_)
        refine sn_iconst (pc := 59) (v := 0) dX12_aLine_59 (by decide) ?_
        refine sn_istore_n (pc := 60) (i := 2) (lv' := [(2, .int 0), (1, .int v1005), (0, .ref (E.1 + a0))]) dX12_aLine_60 rfl (by decide) rfl ?_
        refine sn_aload_n (pc := 61) (j := 2) dX12_aLine_61 rfl rfl ?_
        refine sn_bipush (pc := 62) (v := 30) dX12_aLine_62 (by decide) ?_
        refine sn_callV (ci := 12) (pc := 64) dX12_aLine_64 iX12_takes wt6_210 ws_50 wt6_208 ⟨_, rfl, rfl⟩ (by decide) (mX12_takes a0 30) (by decide) rfl rfl (Nat.le_of_ble_eq_true rfl) (fun v1007 => ?_)
        refine sn_if_eq (pc := 67) (tgt := 146) dX12_aLine_67 (by decide) ?_ ?_
        · exact sn_sub (lv' := [(0, .ref (E.1 + a0)), (1, .int v1005), (2, .int 0)]) [2, 1, 0] rfl (sfX12_aLine_146  a0 v1005 0)
        · refine sn_iconst (pc := 70) (v := 1) dX12_aLine_70 (by decide) ?_
          refine sn_istore_n (pc := 71) (i := 3) (lv' := [(3, .int 1), (2, .int 0), (1, .int v1005), (0, .ref (E.1 + a0))]) dX12_aLine_71 rfl (by decide) rfl ?_
          exact sn_sub (lv' := [(0, .ref (E.1 + a0)), (1, .int v1005), (2, .int 0), (3, .int 1)]) [3, 2, 1, 0] rfl (sn_itr (lvf := fun p => [(0, .ref (E.1 + p.1)), (1, .int p.2.1), (2, .int p.2.2.1), (3, .int p.2.2.2)]) (stf := fun p => []) (fun k hk p => sfX12_aLine_72  k hk p.1 p.2.1 p.2.2.1 p.2.2.2) FU (a0, v1005, 0, 1))
      · exact sn_sub (lv' := [(0, .ref (E.1 + a0))]) [0] rfl (sfX12_aLine_45  a0)
def fX12_aLine (a0 : Nat) : St → Option (Unit × St) :=
 gI 13 a0 15 fun v1 =>
 br (v1 < 16) (fX12_aLine_18  a0)
 (gI 13 a0 4 fun v2 =>
 ck 13 a0 <| cl (fX12_also a0 3 v2) fun v3 =>
 fX12_aLine_18  a0)
set_option maxHeartbeats 4000000 in
set_option maxRecDepth 100000 in
theorem mX12_aLine {E : Ev} {l : Launch} (a0 : Nat) : MF E l dpX12_aLine yX12_aLine cX12_aLine 5 none rvV [.ref (E.1 + a0)] (fX12_aLine a0) := by
  refine MF.of (lv := [(0, .ref (E.1 + a0))]) (by decide) (Nat.le_of_ble_eq_true rfl) rfl ?_
  unfold fX12_aLine
  refine sn_aload_n (pc := 0) (j := 0) dX12_aLine_0 rfl rfl ?_
  refine sn_gI (pc := 1) dX12_aLine_1 flX12_189 rfl (fun v1 => ?_)
  refine sn_bipush (pc := 4) (v := 16) dX12_aLine_4 (by decide) ?_
  refine sn_icmp_lt (pc := 6) (tgt := 18) dX12_aLine_6 (by decide) ?_ ?_
  · exact sn_sub (lv' := [(0, .ref (E.1 + a0))]) [0] rfl (sfX12_aLine_18  a0)
  · refine sn_aload_n (pc := 9) (j := 0) dX12_aLine_9 rfl rfl ?_
    refine sn_iconst (pc := 10) (v := 3) dX12_aLine_10 (by decide) ?_
    refine sn_aload_n (pc := 11) (j := 0) dX12_aLine_11 rfl rfl ?_
    refine sn_gI (pc := 12) dX12_aLine_12 flX12_90 rfl (fun v2 => ?_)
    refine sn_callV (ci := 12) (pc := 15) dX12_aLine_15 iX12_also wt6_214 ws_51 wt6_212 ⟨_, rfl, rfl⟩ (by decide) (mX12_also a0 3 v2) (by decide) rfl rfl (Nat.le_of_ble_eq_true rfl) (fun v3 => ?_)
    exact sn_sub (lv' := [(0, .ref (E.1 + a0))]) [0] rfl (sfX12_aLine_18  a0)
theorem iX12_aLine : MI yX12_aLine cX12_aLine 5 none 0 := ⟨wt1_10, wt7_15, by decide +kernel, by decide⟩
