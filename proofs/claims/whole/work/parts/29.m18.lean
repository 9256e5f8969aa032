-- NeedleHomesModel choices(II)J
theorem dX12_choices_0 : decode cX12_choices 0 = .ok (.iload_n 1, 1) := by decide +kernel
theorem dX12_choices_1 : decode cX12_choices 1 = .ok (.ifCond .lt 8, 3) := by decide +kernel
theorem dX12_choices_4 : decode cX12_choices 4 = .ok (.iload_n 1, 1) := by decide +kernel
theorem dX12_choices_5 : decode cX12_choices 5 = .ok (.iload_n 0, 1) := by decide +kernel
theorem dX12_choices_6 : decode cX12_choices 6 = .ok (.if_icmp .le 5, 3) := by decide +kernel
theorem dX12_choices_9 : decode cX12_choices 9 = .ok (.lconst 0, 1) := by decide +kernel
theorem dX12_choices_10 : decode cX12_choices 10 = .ok (.lreturn, 1) := by decide +kernel
theorem dX12_choices_11 : decode cX12_choices 11 = .ok (.lconst 1, 1) := by decide +kernel
theorem dX12_choices_12 : decode cX12_choices 12 = .ok (.lstore_n 2, 1) := by decide +kernel
theorem dX12_choices_13 : decode cX12_choices 13 = .ok (.iconst 1, 1) := by decide +kernel
theorem dX12_choices_14 : decode cX12_choices 14 = .ok (.istore 4, 2) := by decide +kernel
theorem dX12_choices_16 : decode cX12_choices 16 = .ok (.iload 4, 2) := by decide +kernel
theorem dX12_choices_18 : decode cX12_choices 18 = .ok (.iload_n 1, 1) := by decide +kernel
theorem dX12_choices_19 : decode cX12_choices 19 = .ok (.if_icmp .gt 23, 3) := by decide +kernel
theorem dX12_choices_22 : decode cX12_choices 22 = .ok (.lload_n 2, 1) := by decide +kernel
theorem dX12_choices_23 : decode cX12_choices 23 = .ok (.iload_n 0, 1) := by decide +kernel
theorem dX12_choices_24 : decode cX12_choices 24 = .ok (.iload_n 1, 1) := by decide +kernel
theorem dX12_choices_25 : decode cX12_choices 25 = .ok (.isub, 1) := by decide +kernel
theorem dX12_choices_26 : decode cX12_choices 26 = .ok (.iload 4, 2) := by decide +kernel
theorem dX12_choices_28 : decode cX12_choices 28 = .ok (.iadd, 1) := by decide +kernel
theorem dX12_choices_29 : decode cX12_choices 29 = .ok (.i2l, 1) := by decide +kernel
theorem dX12_choices_30 : decode cX12_choices 30 = .ok (.lmul, 1) := by decide +kernel
theorem dX12_choices_31 : decode cX12_choices 31 = .ok (.iload 4, 2) := by decide +kernel
theorem dX12_choices_33 : decode cX12_choices 33 = .ok (.i2l, 1) := by decide +kernel
theorem dX12_choices_34 : decode cX12_choices 34 = .ok (.ldiv, 1) := by decide +kernel
theorem dX12_choices_35 : decode cX12_choices 35 = .ok (.lstore_n 2, 1) := by decide +kernel
theorem dX12_choices_36 : decode cX12_choices 36 = .ok (.iinc 4 1, 3) := by decide +kernel
theorem dX12_choices_39 : decode cX12_choices 39 = .ok (.goto (-23), 3) := by decide +kernel
theorem dX12_choices_42 : decode cX12_choices 42 = .ok (.lload_n 2, 1) := by decide +kernel
theorem dX12_choices_43 : decode cX12_choices 43 = .ok (.lreturn, 1) := by decide +kernel
abbrev dpX12_choices : Nat := 0
def fX12_choices_16 (k16 : (Int32 × Int32 × Int64 × Int32) → St → Option (Int64 × St)) (x0 : Int32) (x1 : Int32) (x2 : Int64) (x4 : Int32) : St → Option (Int64 × St) :=
 br (x1 < x4) (rt x2)
 (dvJ x4.toInt64 <|
 k16 (x0, x1, ((x2 * (((x0 - x1) + x4).toInt64)) / x4.toInt64), (x4 + 1)))
set_option maxHeartbeats 4000000 in
set_option maxRecDepth 100000 in
theorem sfX12_choices_16 {E : Ev} {l : Launch} (k16 : (Int32 × Int32 × Int64 × Int32) → St → Option (Int64 × St)) (hk16 : ∀ p : Int32 × Int32 × Int64 × Int32, Snd E l (dpX12_choices, RX12, cX12_choices, 5, (some .long), "choices") rvJ 16 [(0, .int p.1), (1, .int p.2.1), (2, .long p.2.2.1), (4, .int p.2.2.2)] [] (k16 p)) (x0 : Int32) (x1 : Int32) (x2 : Int64) (x4 : Int32) : Snd E l (dpX12_choices, RX12, cX12_choices, 5, (some .long), "choices") rvJ 16 [(0, .int x0), (1, .int x1), (2, .long x2), (4, .int x4)] [] (fX12_choices_16 k16 x0 x1 x2 x4) := by
  unfold fX12_choices_16
  refine sn_iload (pc := 16) (j := 3) dX12_choices_16 rfl ?_
  refine sn_iload_n (pc := 18) (j := 1) dX12_choices_18 rfl rfl ?_
  refine sn_icmp_gt (pc := 19) (tgt := 42) dX12_choices_19 (by decide) ?_ ?_
  · refine sn_lload_n (pc := 42) (j := 2) dX12_choices_42 rfl rfl ?_
    exact sn_lret (pc := 43) dX12_choices_43 rfl
  · refine sn_lload_n (pc := 22) (j := 2) dX12_choices_22 rfl rfl ?_
    refine sn_iload_n (pc := 23) (j := 0) dX12_choices_23 rfl rfl ?_
    refine sn_iload_n (pc := 24) (j := 1) dX12_choices_24 rfl rfl ?_
    refine sn_isub (pc := 25) dX12_choices_25 ?_
    refine sn_iload (pc := 26) (j := 3) dX12_choices_26 rfl ?_
    refine sn_iadd (pc := 28) dX12_choices_28 ?_
    refine sn_i2l (pc := 29) dX12_choices_29 ?_
    refine sn_lmul (pc := 30) dX12_choices_30 ?_
    refine sn_iload (pc := 31) (j := 3) dX12_choices_31 rfl ?_
    refine sn_i2l (pc := 33) dX12_choices_33 ?_
    refine sn_ldiv (pc := 34) dX12_choices_34 ?_
    refine sn_lstore_n (pc := 35) (i := 2) (lv' := [(2, .long ((x2 * (((x0 - x1) + x4).toInt64)) / x4.toInt64)), (0, .int x0), (1, .int x1), (4, .int x4)]) dX12_choices_35 rfl (by decide) rfl ?_
    refine sn_iinc (pc := 36) (v := x4 + 1) (lv' := [(4, .int (x4 + 1)), (2, .long ((x2 * (((x0 - x1) + x4).toInt64)) / x4.toInt64)), (0, .int x0), (1, .int x1)]) (j := 3) dX12_choices_36 rfl rfl (by decide) rfl ?_
    refine sn_goto (pc := 39) (tgt := 16) dX12_choices_39 (by decide) ?_
    exact sn_sub (lv' := [(0, .int x0), (1, .int x1), (2, .long ((x2 * (((x0 - x1) + x4).toInt64)) / x4.toInt64)), (4, .int (x4 + 1))]) [2, 3, 1, 0] rfl (hk16 (x0, x1, ((x2 * (((x0 - x1) + x4).toInt64)) / x4.toInt64), (x4 + 1)))
def fX12_choices (x0 : Int32) (x1 : Int32) : St → Option (Int64 × St) :=
 br (x1 < 0) (rt 0)
 (br (x1 ≤ x0) (itr (fun k (p : Int32 × Int32 × Int64 × Int32) => fX12_choices_16  k p.1 p.2.1 p.2.2.1 p.2.2.2) FU (x0, x1, 1, 1))
 (rt 0))
set_option maxHeartbeats 4000000 in
set_option maxRecDepth 100000 in
theorem mX12_choices {E : Ev} {l : Launch} (x0 : Int32) (x1 : Int32) : MF E l dpX12_choices yX12_choices cX12_choices 5 (some .long) rvJ [.int x0, .int x1] (fX12_choices x0 x1) := by
  refine MF.of (lv := [(0, .int x0), (1, .int x1)]) (by decide) (Nat.le_of_ble_eq_true rfl) rfl ?_
  unfold fX12_choices
  refine sn_iload_n (pc := 0) (j := 1) dX12_choices_0 rfl rfl ?_
  refine sn_if_lt (pc := 1) (tgt := 9) dX12_choices_1 (by decide) ?_ ?_
  · refine sn_lconst (pc := 9) (v := 0) dX12_choices_9 (by decide) ?_
    exact sn_lret (pc := 10) dX12_choices_10 rfl
  · refine sn_iload_n (pc := 4) (j := 1) dX12_choices_4 rfl rfl ?_
    refine sn_iload_n (pc := 5) (j := 0) dX12_choices_5 rfl rfl ?_
    refine sn_icmp_le (pc := 6) (tgt := 11) dX12_choices_6 (by decide) ?_ ?_
    · refine sn_lconst (pc := 11) (v := 1) dX12_choices_11 (by decide) ?_
      refine sn_lstore_n (pc := 12) (i := 2) (lv' := [(2, .long 1), (0, .int x0), (1, .int x1)]) dX12_choices_12 rfl (by decide) rfl ?_
      refine sn_iconst (pc := 13) (v := 1) dX12_choices_13 (by decide) ?_
      refine sn_istore (pc := 14) (i := 4) (lv' := [(4, .int 1), (2, .long 1), (0, .int x0), (1, .int x1)]) dX12_choices_14 (by decide) rfl ?_
      exact sn_sub (lv' := [(0, .int x0), (1, .int x1), (2, .long 1), (4, .int 1)]) [2, 3, 1, 0] rfl (sn_itr (lvf := fun p => [(0, .int p.1), (1, .int p.2.1), (2, .long p.2.2.1), (4, .int p.2.2.2)]) (stf := fun p => []) (fun k hk p => sfX12_choices_16  k hk p.1 p.2.1 p.2.2.1 p.2.2.2) FU (x0, x1, 1, 1))
    · refine sn_lconst (pc := 9) (v := 0) dX12_choices_9 (by decide) ?_
      exact sn_lret (pc := 10) dX12_choices_10 rfl
theorem iX12_choices : MI yX12_choices cX12_choices 5 (some .long) 2 := ⟨wt1_10, wt7_188, by decide +kernel, by decide⟩
-- NeedleHomesModel stolen(III)I
theorem dX12_stolen_0 : decode cX12_stolen 0 = .ok (.aload_n 0, 1) := by decide +kernel
theorem dX12_stolen_1 : decode cX12_stolen 1 = .ok (.iload_n 1, 1) := by decide +kernel
theorem dX12_stolen_2 : decode cX12_stolen 2 = .ok (.iconst 0, 1) := by decide +kernel
theorem dX12_stolen_3 : decode cX12_stolen 3 = .ok (.invokevirtual 178, 3) := by decide +kernel
theorem dX12_stolen_6 : decode cX12_stolen 6 = .ok (.ifCond .eq 26, 3) := by decide +kernel
theorem dX12_stolen_9 : decode cX12_stolen 9 = .ok (.aload_n 0, 1) := by decide +kernel
theorem dX12_stolen_10 : decode cX12_stolen 10 = .ok (.iload_n 2, 1) := by decide +kernel
theorem dX12_stolen_11 : decode cX12_stolen 11 = .ok (.iconst 0, 1) := by decide +kernel
theorem dX12_stolen_12 : decode cX12_stolen 12 = .ok (.invokevirtual 178, 3) := by decide +kernel
theorem dX12_stolen_15 : decode cX12_stolen 15 = .ok (.ifCond .eq 17, 3) := by decide +kernel
theorem dX12_stolen_18 : decode cX12_stolen 18 = .ok (.iload_n 1, 1) := by decide +kernel
theorem dX12_stolen_19 : decode cX12_stolen 19 = .ok (.iload_n 2, 1) := by decide +kernel
theorem dX12_stolen_20 : decode cX12_stolen 20 = .ok (.if_icmp .eq 12, 3) := by decide +kernel
theorem dX12_stolen_23 : decode cX12_stolen 23 = .ok (.iload_n 3, 1) := by decide +kernel
theorem dX12_stolen_24 : decode cX12_stolen 24 = .ok (.iconst 0, 1) := by decide +kernel
theorem dX12_stolen_25 : decode cX12_stolen 25 = .ok (.iconst 1, 1) := by decide +kernel
theorem dX12_stolen_26 : decode cX12_stolen 26 = .ok (.invokestatic 51, 3) := by decide +kernel
theorem dX12_stolen_29 : decode cX12_stolen 29 = .ok (.ifCond .ne 5, 3) := by decide +kernel
theorem dX12_stolen_32 : decode cX12_stolen 32 = .ok (.iconst (-1), 1) := by decide +kernel
theorem dX12_stolen_33 : decode cX12_stolen 33 = .ok (.ireturn, 1) := by decide +kernel
theorem dX12_stolen_34 : decode cX12_stolen 34 = .ok (.aload_n 0, 1) := by decide +kernel
theorem dX12_stolen_35 : decode cX12_stolen 35 = .ok (.iload_n 1, 1) := by decide +kernel
theorem dX12_stolen_36 : decode cX12_stolen 36 = .ok (.iconst 1, 1) := by decide +kernel
theorem dX12_stolen_37 : decode cX12_stolen 37 = .ok (.invokevirtual 182, 3) := by decide +kernel
theorem dX12_stolen_40 : decode cX12_stolen 40 = .ok (.invokestatic 186, 3) := by decide +kernel
theorem dX12_stolen_43 : decode cX12_stolen 43 = .ok (.istore 4, 2) := by decide +kernel
theorem dX12_stolen_45 : decode cX12_stolen 45 = .ok (.aload_n 0, 1) := by decide +kernel
theorem dX12_stolen_46 : decode cX12_stolen 46 = .ok (.iload_n 2, 1) := by decide +kernel
theorem dX12_stolen_47 : decode cX12_stolen 47 = .ok (.iconst 1, 1) := by decide +kernel
theorem dX12_stolen_48 : decode cX12_stolen 48 = .ok (.invokevirtual 182, 3) := by decide +kernel
theorem dX12_stolen_51 : decode cX12_stolen 51 = .ok (.invokestatic 186, 3) := by decide +kernel
theorem dX12_stolen_54 : decode cX12_stolen 54 = .ok (.istore 5, 2) := by decide +kernel
theorem dX12_stolen_56 : decode cX12_stolen 56 = .ok (.aload_n 0, 1) := by decide +kernel
theorem dX12_stolen_57 : decode cX12_stolen 57 = .ok (.iload_n 1, 1) := by decide +kernel
theorem dX12_stolen_58 : decode cX12_stolen 58 = .ok (.iconst 1, 1) := by decide +kernel
theorem dX12_stolen_59 : decode cX12_stolen 59 = .ok (.invokevirtual 182, 3) := by decide +kernel
theorem dX12_stolen_62 : decode cX12_stolen 62 = .ok (.aload_n 0, 1) := by decide +kernel
theorem dX12_stolen_63 : decode cX12_stolen 63 = .ok (.iload_n 2, 1) := by decide +kernel
theorem dX12_stolen_64 : decode cX12_stolen 64 = .ok (.iconst 1, 1) := by decide +kernel
theorem dX12_stolen_65 : decode cX12_stolen 65 = .ok (.invokevirtual 182, 3) := by decide +kernel
theorem dX12_stolen_68 : decode cX12_stolen 68 = .ok (.iand, 1) := by decide +kernel
theorem dX12_stolen_69 : decode cX12_stolen 69 = .ok (.invokestatic 186, 3) := by decide +kernel
theorem dX12_stolen_72 : decode cX12_stolen 72 = .ok (.istore 6, 2) := by decide +kernel
theorem dX12_stolen_74 : decode cX12_stolen 74 = .ok (.lconst 0, 1) := by decide +kernel
theorem dX12_stolen_75 : decode cX12_stolen 75 = .ok (.lstore 7, 2) := by decide +kernel
theorem dX12_stolen_77 : decode cX12_stolen 77 = .ok (.iload 6, 2) := by decide +kernel
theorem dX12_stolen_79 : decode cX12_stolen 79 = .ok (.istore 9, 2) := by decide +kernel
theorem dX12_stolen_81 : decode cX12_stolen 81 = .ok (.iload 9, 2) := by decide +kernel
theorem dX12_stolen_83 : decode cX12_stolen 83 = .ok (.iload 5, 2) := by decide +kernel
theorem dX12_stolen_85 : decode cX12_stolen 85 = .ok (.if_icmp .gt 35, 3) := by decide +kernel
theorem dX12_stolen_88 : decode cX12_stolen 88 = .ok (.lload 7, 2) := by decide +kernel
theorem dX12_stolen_90 : decode cX12_stolen 90 = .ok (.iload 4, 2) := by decide +kernel
theorem dX12_stolen_92 : decode cX12_stolen 92 = .ok (.iload 9, 2) := by decide +kernel
theorem dX12_stolen_94 : decode cX12_stolen 94 = .ok (.invokestatic 307, 3) := by decide +kernel
theorem dX12_stolen_97 : decode cX12_stolen 97 = .ok (.bipush 24, 2) := by decide +kernel
theorem dX12_stolen_99 : decode cX12_stolen 99 = .ok (.iload 4, 2) := by decide +kernel
theorem dX12_stolen_101 : decode cX12_stolen 101 = .ok (.isub, 1) := by decide +kernel
theorem dX12_stolen_102 : decode cX12_stolen 102 = .ok (.iload 5, 2) := by decide +kernel
theorem dX12_stolen_104 : decode cX12_stolen 104 = .ok (.iload 9, 2) := by decide +kernel
theorem dX12_stolen_106 : decode cX12_stolen 106 = .ok (.isub, 1) := by decide +kernel
theorem dX12_stolen_107 : decode cX12_stolen 107 = .ok (.invokestatic 307, 3) := by decide +kernel
theorem dX12_stolen_110 : decode cX12_stolen 110 = .ok (.lmul, 1) := by decide +kernel
theorem dX12_stolen_111 : decode cX12_stolen 111 = .ok (.ladd, 1) := by decide +kernel
theorem dX12_stolen_112 : decode cX12_stolen 112 = .ok (.lstore 7, 2) := by decide +kernel
theorem dX12_stolen_114 : decode cX12_stolen 114 = .ok (.iinc 9 1, 3) := by decide +kernel
theorem dX12_stolen_117 : decode cX12_stolen 117 = .ok (.goto (-36), 3) := by decide +kernel
theorem dX12_stolen_120 : decode cX12_stolen 120 = .ok (.iload_n 3, 1) := by decide +kernel
theorem dX12_stolen_121 : decode cX12_stolen 121 = .ok (.ifCond .ne 8, 3) := by decide +kernel
theorem dX12_stolen_124 : decode cX12_stolen 124 = .ok (.iload 6, 2) := by decide +kernel
theorem dX12_stolen_126 : decode cX12_stolen 126 = .ok (.goto 25, 3) := by decide +kernel
theorem dX12_stolen_129 : decode cX12_stolen 129 = .ok (.ldc2_w 311, 3) := by decide +kernel
theorem dX12_stolen_132 : decode cX12_stolen 132 = .ok (.lload 7, 2) := by decide +kernel
theorem dX12_stolen_134 : decode cX12_stolen 134 = .ok (.lmul, 1) := by decide +kernel
theorem dX12_stolen_135 : decode cX12_stolen 135 = .ok (.bipush 24, 2) := by decide +kernel
theorem dX12_stolen_137 : decode cX12_stolen 137 = .ok (.iload 5, 2) := by decide +kernel
theorem dX12_stolen_139 : decode cX12_stolen 139 = .ok (.invokestatic 307, 3) := by decide +kernel
theorem dX12_stolen_142 : decode cX12_stolen 142 = .ok (.lcmp, 1) := by decide +kernel
theorem dX12_stolen_143 : decode cX12_stolen 143 = .ok (.ifCond .ge 7, 3) := by decide +kernel
theorem dX12_stolen_146 : decode cX12_stolen 146 = .ok (.iconst 1, 1) := by decide +kernel
theorem dX12_stolen_147 : decode cX12_stolen 147 = .ok (.goto 4, 3) := by decide +kernel
theorem dX12_stolen_150 : decode cX12_stolen 150 = .ok (.iconst 0, 1) := by decide +kernel
theorem dX12_stolen_151 : decode cX12_stolen 151 = .ok (.ireturn, 1) := by decide +kernel
abbrev dpX12_stolen : Nat := 2
def fX12_stolen_81 (k81 : (Int32 × Int32 × Int32 × Int32 × Int64 × Int32) → St → Option (Int32 × St)) (x3 : Int32) (x4 : Int32) (x5 : Int32) (x6 : Int32) (x7 : Int64) (x9 : Int32) : St → Option (Int32 × St) :=
 br (x5 < x9) (br (x3 = 0) (rt x6)
 (cl (fX12_choices 24 x5) fun v1001 =>
 br (0 ≤ (lg_cmp (1000 * x7) v1001)) (rt 0)
 (rt 1)))
 (cl (fX12_choices x4 x9) fun v1002 =>
 cl (fX12_choices (24 - x4) (x5 - x9)) fun v1003 =>
 k81 (x3, x4, x5, x6, (x7 + (v1002 * v1003)), (x9 + 1)))
set_option maxHeartbeats 4000000 in
set_option maxRecDepth 100000 in
theorem sfX12_stolen_81 {E : Ev} {l : Launch} (k81 : (Int32 × Int32 × Int32 × Int32 × Int64 × Int32) → St → Option (Int32 × St)) (hk81 : ∀ p : Int32 × Int32 × Int32 × Int32 × Int64 × Int32, Snd E l (dpX12_stolen, RX12, cX12_stolen, 10, (some .int), "stolen") rvI 81 [(3, .int p.1), (4, .int p.2.1), (5, .int p.2.2.1), (6, .int p.2.2.2.1), (7, .long p.2.2.2.2.1), (9, .int p.2.2.2.2.2)] [] (k81 p)) (x3 : Int32) (x4 : Int32) (x5 : Int32) (x6 : Int32) (x7 : Int64) (x9 : Int32) : Snd E l (dpX12_stolen, RX12, cX12_stolen, 10, (some .int), "stolen") rvI 81 [(3, .int x3), (4, .int x4), (5, .int x5), (6, .int x6), (7, .long x7), (9, .int x9)] [] (fX12_stolen_81 k81 x3 x4 x5 x6 x7 x9) := by
  unfold fX12_stolen_81
  refine sn_iload (pc := 81) (j := 5) dX12_stolen_81 rfl ?_
  refine sn_iload (pc := 83) (j := 2) dX12_stolen_83 rfl ?_
  refine sn_icmp_gt (pc := 85) (tgt := 120) dX12_stolen_85 (by decide) ?_ ?_
  · refine sn_iload_n (pc := 120) (j := 0) dX12_stolen_120 rfl rfl ?_
    refine sn_if_ne (pc := 121) (tgt := 129) dX12_stolen_121 (by decide) ?_ ?_
    · refine sn_ldc2 (pc := 129) (v := 1000) dX12_stolen_129 wt7_189 ?_
      refine sn_lload (pc := 132) (j := 4) dX12_stolen_132 rfl ?_
      refine sn_lmul (pc := 134) dX12_stolen_134 ?_
      refine sn_bipush (pc := 135) (v := 24) dX12_stolen_135 (by decide) ?_
      refine sn_iload (pc := 137) (j := 2) dX12_stolen_137 rfl ?_
      refine sn_callS (pc := 139) dX12_stolen_139 iX12_choices wt7_187 wt7_186 (mX12_choices 24 x5) (by decide) rfl rfl (Nat.le_of_ble_eq_true rfl) (fun v1001 => ?_)
      refine sn_lcmp (pc := 142) dX12_stolen_142 ?_
      refine sn_if_ge (pc := 143) (tgt := 150) dX12_stolen_143 (by decide) ?_ ?_
      · refine sn_iconst (pc := 150) (v := 0) dX12_stolen_150 (by decide) ?_
        exact sn_iret (pc := 151) dX12_stolen_151 rfl
      · refine sn_iconst (pc := 146) (v := 1) dX12_stolen_146 (by decide) ?_
        refine sn_goto (pc := 147) (tgt := 151) dX12_stolen_147 (by decide) ?_
        exact sn_iret (pc := 151) dX12_stolen_151 rfl
    · refine sn_iload (pc := 124) (j := 3) dX12_stolen_124 rfl ?_
      refine sn_goto (pc := 126) (tgt := 151) dX12_stolen_126 (by decide) ?_
      exact sn_iret (pc := 151) dX12_stolen_151 rfl
  · refine sn_lload (pc := 88) (j := 4) dX12_stolen_88 rfl ?_
    refine sn_iload (pc := 90) (j := 1) dX12_stolen_90 rfl ?_
    refine sn_iload (pc := 92) (j := 5) dX12_stolen_92 rfl ?_
    refine sn_callS (pc := 94) dX12_stolen_94 iX12_choices wt7_187 wt7_186 (mX12_choices x4 x9) (by decide) rfl rfl (Nat.le_of_ble_eq_true rfl) (fun v1002 => ?_)
    refine sn_bipush (pc := 97) (v := 24) dX12_stolen_97 (by decide) ?_
    refine sn_iload (pc := 99) (j := 1) dX12_stolen_99 rfl ?_
    refine sn_isub (pc := 101) dX12_stolen_101 ?_
    refine sn_iload (pc := 102) (j := 2) dX12_stolen_102 rfl ?_
    refine sn_iload (pc := 104) (j := 5) dX12_stolen_104 rfl ?_
    refine sn_isub (pc := 106) dX12_stolen_106 ?_
    refine sn_callS (pc := 107) dX12_stolen_107 iX12_choices wt7_187 wt7_186 (mX12_choices (24 - x4) (x5 - x9)) (by decide) rfl rfl (Nat.le_of_ble_eq_true rfl) (fun v1003 => ?_)
    refine sn_lmul (pc := 110) dX12_stolen_110 ?_
    refine sn_ladd (pc := 111) dX12_stolen_111 ?_
    refine sn_lstore (pc := 112) (i := 7) (lv' := [(7, .long (x7 + (v1002 * v1003))), (3, .int x3), (4, .int x4), (5, .int x5), (6, .int x6), (9, .int x9)]) dX12_stolen_112 (by decide) rfl ?_
    refine sn_iinc (pc := 114) (v := x9 + 1) (lv' := [(9, .int (x9 + 1)), (7, .long (x7 + (v1002 * v1003))), (3, .int x3), (4, .int x4), (5, .int x5), (6, .int x6)]) (j := 5) dX12_stolen_114 rfl rfl (by decide) rfl ?_
    refine sn_goto (pc := 117) (tgt := 81) dX12_stolen_117 (by decide) ?_
    exact sn_sub (lv' := [(3, .int x3), (4, .int x4), (5, .int x5), (6, .int x6), (7, .long (x7 + (v1002 * v1003))), (9, .int (x9 + 1))]) [2, 3, 4, 5, 1, 0] rfl (hk81 (x3, x4, x5, x6, (x7 + (v1002 * v1003)), (x9 + 1)))
def fX12_stolen (a0 : Nat) (x1 : Int32) (x2 : Int32) (x3 : Int32) : St → Option (Int32 × St) :=
 ck 13 a0 <| cl (fX12_isOf a0 x1 0) fun v1 =>
 br ((bi v1) = 0) (rt (-1))
 (ck 13 a0 <| cl (fX12_isOf a0 x2 0) fun v2 =>
 br ((bi v2) = 0) (rt (-1))
 (br (x1 = x2) (rt (-1))
 (cl (fX12_isIn x3 0 1) fun v3 =>
 br ((bi v3) = 0) (rt (-1))
 (ck 13 a0 <| cl (fX12_patternOf a0 x1 1) fun v4 =>
 cl (fX12_ones v4) fun v5 =>
 ck 13 a0 <| cl (fX12_patternOf a0 x2 1) fun v6 =>
 cl (fX12_ones v6) fun v7 =>
 ck 13 a0 <| cl (fX12_patternOf a0 x1 1) fun v8 =>
 ck 13 a0 <| cl (fX12_patternOf a0 x2 1) fun v9 =>
 cl (fX12_ones (v8 &&& v9)) fun v10 =>
 itr (fun k (p : Int32 × Int32 × Int32 × Int32 × Int64 × Int32) => fX12_stolen_81  k p.1 p.2.1 p.2.2.1 p.2.2.2.1 p.2.2.2.2.1 p.2.2.2.2.2) FU (x3, v5, v7, v10, 0, v10)))))
set_option maxHeartbeats 4000000 in
set_option maxRecDepth 100000 in
theorem mX12_stolen {E : Ev} {l : Launch} (a0 : Nat) (x1 : Int32) (x2 : Int32) (x3 : Int32) : MF E l dpX12_stolen yX12_stolen cX12_stolen 10 (some .int) rvI [.ref (E.1 + a0), .int x1, .int x2, .int x3] (fX12_stolen a0 x1 x2 x3) := by
  refine MF.of (lv := [(0, .ref (E.1 + a0)), (1, .int x1), (2, .int x2), (3, .int x3)]) (by decide) (Nat.le_of_ble_eq_true rfl) rfl ?_
  unfold fX12_stolen
  refine sn_aload_n (pc := 0) (j := 0) dX12_stolen_0 rfl rfl ?_
  refine sn_iload_n (pc := 1) (j := 1) dX12_stolen_1 rfl rfl ?_
  refine sn_iconst (pc := 2) (v := 0) dX12_stolen_2 (by decide) ?_
  refine sn_callV (ci := 12) (pc := 3) dX12_stolen_3 iX12_isOf wt6_235 ws_54 wt6_233 ⟨_, rfl, rfl⟩ (by decide) (mX12_isOf a0 x1 0) (by decide) rfl rfl (Nat.le_of_ble_eq_true rfl) (fun v1 => ?_)
  refine sn_if_eq (pc := 6) (tgt := 32) dX12_stolen_6 (by decide) ?_ ?_
  · refine sn_iconst (pc := 32) (v := (-1)) dX12_stolen_32 (by decide) ?_
    exact sn_iret (pc := 33) dX12_stolen_33 rfl
  · refine sn_aload_n (pc := 9) (j := 0) dX12_stolen_9 rfl rfl ?_
    refine sn_iload_n (pc := 10) (j := 2) dX12_stolen_10 rfl rfl ?_
    refine sn_iconst (pc := 11) (v := 0) dX12_stolen_11 (by decide) ?_
    refine sn_callV (ci := 12) (pc := 12) dX12_stolen_12 iX12_isOf wt6_235 ws_54 wt6_233 ⟨_, rfl, rfl⟩ (by decide) (mX12_isOf a0 x2 0) (by decide) rfl rfl (Nat.le_of_ble_eq_true rfl) (fun v2 => ?_)
    refine sn_if_eq (pc := 15) (tgt := 32) dX12_stolen_15 (by decide) ?_ ?_
    · refine sn_iconst (pc := 32) (v := (-1)) dX12_stolen_32 (by decide) ?_
      exact sn_iret (pc := 33) dX12_stolen_33 rfl
    · refine sn_iload_n (pc := 18) (j := 1) dX12_stolen_18 rfl rfl ?_
      refine sn_iload_n (pc := 19) (j := 2) dX12_stolen_19 rfl rfl ?_
      refine sn_icmp_eq (pc := 20) (tgt := 32) dX12_stolen_20 (by decide) ?_ ?_
      · refine sn_iconst (pc := 32) (v := (-1)) dX12_stolen_32 (by decide) ?_
        exact sn_iret (pc := 33) dX12_stolen_33 rfl
      · refine sn_iload_n (pc := 23) (j := 3) dX12_stolen_23 rfl rfl ?_
        refine sn_iconst (pc := 24) (v := 0) dX12_stolen_24 (by decide) ?_
        refine sn_iconst (pc := 25) (v := 1) dX12_stolen_25 (by decide) ?_
        refine sn_callS (pc := 26) dX12_stolen_26 iX12_isIn wt6_138 wt6_137 (mX12_isIn x3 0 1) (by decide) rfl rfl (Nat.le_of_ble_eq_true rfl) (fun v3 => ?_)
        refine sn_if_ne (pc := 29) (tgt := 34) dX12_stolen_29 (by decide) ?_ ?_
        · refine sn_aload_n (pc := 34) (j := 0) dX12_stolen_34 rfl rfl ?_
          refine sn_iload_n (pc := 35) (j := 1) dX12_stolen_35 rfl rfl ?_
          refine sn_iconst (pc := 36) (v := 1) dX12_stolen_36 (by decide) ?_
          refine sn_callV (ci := 12) (pc := 37) dX12_stolen_37 iX12_patternOf wt6_239 ws_55 wt6_237 ⟨_, rfl, rfl⟩ (by decide) (mX12_patternOf a0 x1 1) (by decide) rfl rfl (Nat.le_of_ble_eq_true rfl) (fun v4 => ?_)
          refine sn_callS (pc := 40) dX12_stolen_40 iX12_ones wt7_6 wt7_5 (mX12_ones v4) (by decide) rfl rfl (Nat.le_of_ble_eq_true rfl) (fun v5 => ?_)
          refine sn_istore (pc := 43) (i := 4) (lv' := [(4, .int v5), (0, .ref (E.1 + a0)), (1, .int x1), (2, .int x2), (3, .int x3)]) dX12_stolen_43 (by decide) rfl ?_
          refine sn_aload_n (pc := 45) (j := 1) dX12_stolen_45 rfl rfl ?_
          refine sn_iload_n (pc := 46) (j := 3) dX12_stolen_46 rfl rfl ?_
          refine sn_iconst (pc := 47) (v := 1) dX12_stolen_47 (by decide) ?_
          refine sn_callV (ci := 12) (pc := 48) dX12_stolen_48 iX12_patternOf wt6_239 ws_55 wt6_237 ⟨_, rfl, rfl⟩ (by decide) (mX12_patternOf a0 x2 1) (by decide) rfl rfl (Nat.le_of_ble_eq_true rfl) (fun v6 => ?_)
          refine sn_callS (pc := 51) dX12_stolen_51 iX12_ones wt7_6 wt7_5 (mX12_ones v6) (by decide) rfl rfl (Nat.le_of_ble_eq_true rfl) (fun v7 => ?_)
          refine sn_istore (pc := 54) (i := 5) (lv' := [(5, .int v7), (4, .int v5), (0, .ref (E.1 + a0)), (1, .int x1), (2, .int x2), (3, .int x3)]) dX12_stolen_54 (by decide) rfl ?_
          refine sn_aload_n (pc := 56) (j := 2) dX12_stolen_56 rfl rfl ?_
          refine sn_iload_n (pc := 57) (j := 3) dX12_stolen_57 rfl rfl ?_
          refine sn_iconst (pc := 58) (v := 1) dX12_stolen_58 (by decide) ?_
          refine sn_callV (ci := 12) (pc := 59) dX12_stolen_59 iX12_patternOf wt6_239 ws_55 wt6_237 ⟨_, rfl, rfl⟩ (by decide) (mX12_patternOf a0 x1 1) (by decide) rfl rfl (Nat.le_of_ble_eq_true rfl) (fun v8 => ?_)
          refine sn_aload_n (pc := 62) (j := 2) dX12_stolen_62 rfl rfl ?_
          refine sn_iload_n (pc := 63) (j := 4) dX12_stolen_63 rfl rfl ?_
          refine sn_iconst (pc := 64) (v := 1) dX12_stolen_64 (by decide) ?_
          refine sn_callV (ci := 12) (pc := 65) dX12_stolen_65 iX12_patternOf wt6_239 ws_55 wt6_237 ⟨_, rfl, rfl⟩ (by decide) (mX12_patternOf a0 x2 1) (by decide) rfl rfl (Nat.le_of_ble_eq_true rfl) (fun v9 => ?_)
          refine sn_iand (pc := 68) dX12_stolen_68 ?_
          refine sn_callS (pc := 69) dX12_stolen_69 iX12_ones wt7_6 wt7_5 (mX12_ones (v8 &&& v9)) (by decide) rfl rfl (Nat.le_of_ble_eq_true rfl) (fun v10 => ?_)
          refine sn_istore (pc := 72) (i := 6) (lv' := [(6, .int v10), (5, .int v7), (4, .int v5), (0, .ref (E.1 + a0)), (1, .int x1), (2, .int x2), (3, .int x3)]) dX12_stolen_72 (by decide) rfl ?_
          refine sn_lconst (pc := 74) (v := 0) dX12_stolen_74 (by decide) ?_
          refine sn_lstore (pc := 75) (i := 7) (lv' := [(7, .long 0), (6, .int v10), (5, .int v7), (4, .int v5), (0, .ref (E.1 + a0)), (1, .int x1), (2, .int x2), (3, .int x3)]) dX12_stolen_75 (by decide) rfl ?_
          refine sn_iload (pc := 77) (j := 1) dX12_stolen_77 rfl ?_
          refine sn_istore (pc := 79) (i := 9) (lv' := [(9, .int v10), (7, .long 0), (6, .int v10), (5, .int v7), (4, .int v5), (0, .ref (E.1 + a0)), (1, .int x1), (2, .int x2), (3, .int x3)]) dX12_stolen_79 (by decide) rfl ?_
          exact sn_sub (lv' := [(3, .int x3), (4, .int v5), (5, .int v7), (6, .int v10), (7, .long 0), (9, .int v10)]) [8, 4, 3, 2, 1, 0] rfl (sn_itr (lvf := fun p => [(3, .int p.1), (4, .int p.2.1), (5, .int p.2.2.1), (6, .int p.2.2.2.1), (7, .long p.2.2.2.2.1), (9, .int p.2.2.2.2.2)]) (stf := fun p => []) (fun k hk p => sfX12_stolen_81  k hk p.1 p.2.1 p.2.2.1 p.2.2.2.1 p.2.2.2.2.1 p.2.2.2.2.2) FU (x3, v5, v7, v10, 0, v10))
        · refine sn_iconst (pc := 32) (v := (-1)) dX12_stolen_32 (by decide) ?_
          exact sn_iret (pc := 33) dX12_stolen_33 rfl
theorem iX12_stolen : MI yX12_stolen cX12_stolen 10 (some .int) 3 := ⟨wt1_10, wt7_185, by decide +kernel, by decide⟩
-- NeedleHomesModel time(II)Z
theorem dX12_time_0 : decode cX12_time 0 = .ok (.iload_n 1, 1) := by decide +kernel
theorem dX12_time_1 : decode cX12_time 1 = .ok (.iconst 0, 1) := by decide +kernel
theorem dX12_time_2 : decode cX12_time 2 = .ok (.iconst 5, 1) := by decide +kernel
theorem dX12_time_3 : decode cX12_time 3 = .ok (.invokestatic 51, 3) := by decide +kernel
theorem dX12_time_6 : decode cX12_time 6 = .ok (.ifCond .eq 14, 3) := by decide +kernel
theorem dX12_time_9 : decode cX12_time 9 = .ok (.iload_n 2, 1) := by decide +kernel
theorem dX12_time_10 : decode cX12_time 10 = .ok (.iconst 1, 1) := by decide +kernel
theorem dX12_time_11 : decode cX12_time 11 = .ok (.sipush 9999, 3) := by decide +kernel
theorem dX12_time_14 : decode cX12_time 14 = .ok (.invokestatic 51, 3) := by decide +kernel
theorem dX12_time_17 : decode cX12_time 17 = .ok (.ifCond .ne 5, 3) := by decide +kernel
theorem dX12_time_20 : decode cX12_time 20 = .ok (.iconst 0, 1) := by decide +kernel
theorem dX12_time_21 : decode cX12_time 21 = .ok (.ireturn, 1) := by decide +kernel
theorem dX12_time_22 : decode cX12_time 22 = .ok (.aload_n 0, 1) := by decide +kernel
theorem dX12_time_23 : decode cX12_time 23 = .ok (.getfield 7, 3) := by decide +kernel
theorem dX12_time_26 : decode cX12_time 26 = .ok (.bipush 14, 2) := by decide +kernel
theorem dX12_time_28 : decode cX12_time 28 = .ok (.iload_n 1, 1) := by decide +kernel
theorem dX12_time_29 : decode cX12_time 29 = .ok (.iadd, 1) := by decide +kernel
theorem dX12_time_30 : decode cX12_time 30 = .ok (.iload_n 2, 1) := by decide +kernel
theorem dX12_time_31 : decode cX12_time 31 = .ok (.iastore, 1) := by decide +kernel
theorem dX12_time_32 : decode cX12_time 32 = .ok (.iconst 1, 1) := by decide +kernel
theorem dX12_time_33 : decode cX12_time 33 = .ok (.ireturn, 1) := by decide +kernel
abbrev dpX12_time : Nat := 1
def fX12_time (a0 : Nat) (x1 : Int32) (x2 : Int32) : St → Option (Bool × St) :=
 cl (fX12_isIn x1 0 5) fun v1 =>
 br ((bi v1) = 0) (rtZ 0)
 (cl (fX12_isIn x2 1 9999) fun v2 =>
 br ((bi v2) = 0) (rtZ 0)
 (gR 13 a0 0 fun v3 =>
 nn v3 fun a4 =>
 wI a4 (14 + x1) x2 <|
 rtZ 1))
set_option maxHeartbeats 4000000 in
set_option maxRecDepth 100000 in
theorem mX12_time {E : Ev} {l : Launch} (a0 : Nat) (x1 : Int32) (x2 : Int32) : MF E l dpX12_time yX12_time cX12_time 3 (some .boolean) rvZ [.ref (E.1 + a0), .int x1, .int x2] (fX12_time a0 x1 x2) := by
  refine MF.of (lv := [(0, .ref (E.1 + a0)), (1, .int x1), (2, .int x2)]) (by decide) (Nat.le_of_ble_eq_true rfl) rfl ?_
  unfold fX12_time
  refine sn_iload_n (pc := 0) (j := 1) dX12_time_0 rfl rfl ?_
  refine sn_iconst (pc := 1) (v := 0) dX12_time_1 (by decide) ?_
  refine sn_iconst (pc := 2) (v := 5) dX12_time_2 (by decide) ?_
  refine sn_callS (pc := 3) dX12_time_3 iX12_isIn wt6_138 wt6_137 (mX12_isIn x1 0 5) (by decide) rfl rfl (Nat.le_of_ble_eq_true rfl) (fun v1 => ?_)
  refine sn_if_eq (pc := 6) (tgt := 20) dX12_time_6 (by decide) ?_ ?_
  · refine sn_iconst (pc := 20) (v := 0) dX12_time_20 (by decide) ?_
    exact sn_zret (pc := 21) dX12_time_21 rfl
  · refine sn_iload_n (pc := 9) (j := 2) dX12_time_9 rfl rfl ?_
    refine sn_iconst (pc := 10) (v := 1) dX12_time_10 (by decide) ?_
    refine sn_sipush (pc := 11) (v := 9999) dX12_time_11 (by decide) ?_
    refine sn_callS (pc := 14) dX12_time_14 iX12_isIn wt6_138 wt6_137 (mX12_isIn x2 1 9999) (by decide) rfl rfl (Nat.le_of_ble_eq_true rfl) (fun v2 => ?_)
    refine sn_if_ne (pc := 17) (tgt := 22) dX12_time_17 (by decide) ?_ ?_
    · refine sn_aload_n (pc := 22) (j := 0) dX12_time_22 rfl rfl ?_
      refine sn_gR (pc := 23) dX12_time_23 flX12_7 rfl (fun v3 => ?_)
      refine sn_bipush (pc := 26) (v := 14) dX12_time_26 (by decide) ?_
      refine sn_iload_n (pc := 28) (j := 1) dX12_time_28 rfl rfl ?_
      refine sn_iadd (pc := 29) dX12_time_29 ?_
      refine sn_iload_n (pc := 30) (j := 2) dX12_time_30 rfl rfl ?_
      rcases v3 with _ | a4
      · exact sn_no
      refine sn_nn ?_
      refine sn_iast (pc := 31) dX12_time_31 ?_
      refine sn_iconst (pc := 32) (v := 1) dX12_time_32 (by decide) ?_
      exact sn_zret (pc := 33) dX12_time_33 rfl
    · refine sn_iconst (pc := 20) (v := 0) dX12_time_20 (by decide) ?_
      exact sn_zret (pc := 21) dX12_time_21 rfl
theorem iX12_time : MI yX12_time cX12_time 3 (some .boolean) 2 := ⟨wt1_10, wt7_193, by decide +kernel, by decide⟩
-- NeedleHomesModel changes(II)I
theorem dX12_changes_0 : decode cX12_changes 0 = .ok (.iconst 0, 1) := by decide +kernel
theorem dX12_changes_1 : decode cX12_changes 1 = .ok (.istore_n 3, 1) := by decide +kernel
theorem dX12_changes_2 : decode cX12_changes 2 = .ok (.iconst 0, 1) := by decide +kernel
theorem dX12_changes_3 : decode cX12_changes 3 = .ok (.istore 4, 2) := by decide +kernel
theorem dX12_changes_5 : decode cX12_changes 5 = .ok (.iload 4, 2) := by decide +kernel
theorem dX12_changes_7 : decode cX12_changes 7 = .ok (.bipush 6, 2) := by decide +kernel
theorem dX12_changes_9 : decode cX12_changes 9 = .ok (.if_icmp .ge 179, 3) := by decide +kernel
theorem dX12_changes_12 : decode cX12_changes 12 = .ok (.aload_n 0, 1) := by decide +kernel
theorem dX12_changes_13 : decode cX12_changes 13 = .ok (.getfield 7, 3) := by decide +kernel
theorem dX12_changes_16 : decode cX12_changes 16 = .ok (.bipush 14, 2) := by decide +kernel
theorem dX12_changes_18 : decode cX12_changes 18 = .ok (.iload 4, 2) := by decide +kernel
theorem dX12_changes_20 : decode cX12_changes 20 = .ok (.iadd, 1) := by decide +kernel
theorem dX12_changes_21 : decode cX12_changes 21 = .ok (.iaload, 1) := by decide +kernel
theorem dX12_changes_22 : decode cX12_changes 22 = .ok (.istore 5, 2) := by decide +kernel
theorem dX12_changes_24 : decode cX12_changes 24 = .ok (.iload_n 1, 1) := by decide +kernel
theorem dX12_changes_25 : decode cX12_changes 25 = .ok (.iload 5, 2) := by decide +kernel
theorem dX12_changes_27 : decode cX12_changes 27 = .ok (.imul, 1) := by decide +kernel
theorem dX12_changes_28 : decode cX12_changes 28 = .ok (.sipush 3599, 3) := by decide +kernel
theorem dX12_changes_31 : decode cX12_changes 31 = .ok (.iadd, 1) := by decide +kernel
theorem dX12_changes_32 : decode cX12_changes 32 = .ok (.sipush 3600, 3) := by decide +kernel
theorem dX12_changes_35 : decode cX12_changes 35 = .ok (.idiv, 1) := by decide +kernel
theorem dX12_changes_36 : decode cX12_changes 36 = .ok (.istore 6, 2) := by decide +kernel
theorem dX12_changes_38 : decode cX12_changes 38 = .ok (.iload_n 1, 1) := by decide +kernel
theorem dX12_changes_39 : decode cX12_changes 39 = .ok (.iload_n 2, 1) := by decide +kernel
theorem dX12_changes_40 : decode cX12_changes 40 = .ok (.iadd, 1) := by decide +kernel
theorem dX12_changes_41 : decode cX12_changes 41 = .ok (.iconst 1, 1) := by decide +kernel
theorem dX12_changes_42 : decode cX12_changes 42 = .ok (.iadd, 1) := by decide +kernel
theorem dX12_changes_43 : decode cX12_changes 43 = .ok (.iload 5, 2) := by decide +kernel
theorem dX12_changes_45 : decode cX12_changes 45 = .ok (.imul, 1) := by decide +kernel
theorem dX12_changes_46 : decode cX12_changes 46 = .ok (.iconst 1, 1) := by decide +kernel
theorem dX12_changes_47 : decode cX12_changes 47 = .ok (.isub, 1) := by decide +kernel
theorem dX12_changes_48 : decode cX12_changes 48 = .ok (.sipush 3600, 3) := by decide +kernel
theorem dX12_changes_51 : decode cX12_changes 51 = .ok (.idiv, 1) := by decide +kernel
theorem dX12_changes_52 : decode cX12_changes 52 = .ok (.istore 7, 2) := by decide +kernel
theorem dX12_changes_54 : decode cX12_changes 54 = .ok (.iload 7, 2) := by decide +kernel
theorem dX12_changes_56 : decode cX12_changes 56 = .ok (.sipush 9999, 3) := by decide +kernel
theorem dX12_changes_59 : decode cX12_changes 59 = .ok (.if_icmp .ge 8, 3) := by decide +kernel
theorem dX12_changes_62 : decode cX12_changes 62 = .ok (.iload 7, 2) := by decide +kernel
theorem dX12_changes_64 : decode cX12_changes 64 = .ok (.goto 6, 3) := by decide +kernel
theorem dX12_changes_67 : decode cX12_changes 67 = .ok (.sipush 9999, 3) := by decide +kernel
theorem dX12_changes_70 : decode cX12_changes 70 = .ok (.istore 7, 2) := by decide +kernel
theorem dX12_changes_72 : decode cX12_changes 72 = .ok (.iload 6, 2) := by decide +kernel
theorem dX12_changes_74 : decode cX12_changes 74 = .ok (.iload 7, 2) := by decide +kernel
theorem dX12_changes_76 : decode cX12_changes 76 = .ok (.if_icmp .le 5, 3) := by decide +kernel
theorem dX12_changes_79 : decode cX12_changes 79 = .ok (.iconst (-1), 1) := by decide +kernel
theorem dX12_changes_80 : decode cX12_changes 80 = .ok (.ireturn, 1) := by decide +kernel
theorem dX12_changes_81 : decode cX12_changes 81 = .ok (.aload_n 0, 1) := by decide +kernel
theorem dX12_changes_82 : decode cX12_changes 82 = .ok (.getfield 45, 3) := by decide +kernel
theorem dX12_changes_85 : decode cX12_changes 85 = .ok (.iload 4, 2) := by decide +kernel
theorem dX12_changes_87 : decode cX12_changes 87 = .ok (.aload_n 0, 1) := by decide +kernel
theorem dX12_changes_88 : decode cX12_changes 88 = .ok (.getfield 42, 3) := by decide +kernel
theorem dX12_changes_91 : decode cX12_changes 91 = .ok (.iload 4, 2) := by decide +kernel
theorem dX12_changes_93 : decode cX12_changes 93 = .ok (.iaload, 1) := by decide +kernel
theorem dX12_changes_94 : decode cX12_changes 94 = .ok (.iload 6, 2) := by decide +kernel
theorem dX12_changes_96 : decode cX12_changes 96 = .ok (.if_icmp .ge 8, 3) := by decide +kernel
theorem dX12_changes_99 : decode cX12_changes 99 = .ok (.iload 6, 2) := by decide +kernel
theorem dX12_changes_101 : decode cX12_changes 101 = .ok (.goto 27, 3) := by decide +kernel
theorem dX12_changes_104 : decode cX12_changes 104 = .ok (.aload_n 0, 1) := by decide +kernel
theorem dX12_changes_105 : decode cX12_changes 105 = .ok (.getfield 42, 3) := by decide +kernel
theorem dX12_changes_108 : decode cX12_changes 108 = .ok (.iload 4, 2) := by decide +kernel
theorem dX12_changes_110 : decode cX12_changes 110 = .ok (.iaload, 1) := by decide +kernel
theorem dX12_changes_111 : decode cX12_changes 111 = .ok (.iload 7, 2) := by decide +kernel
theorem dX12_changes_113 : decode cX12_changes 113 = .ok (.if_icmp .le 8, 3) := by decide +kernel
theorem dX12_changes_116 : decode cX12_changes 116 = .ok (.iload 7, 2) := by decide +kernel
theorem dX12_changes_118 : decode cX12_changes 118 = .ok (.goto 10, 3) := by decide +kernel
theorem dX12_changes_121 : decode cX12_changes 121 = .ok (.aload_n 0, 1) := by decide +kernel
theorem dX12_changes_122 : decode cX12_changes 122 = .ok (.getfield 42, 3) := by decide +kernel
theorem dX12_changes_125 : decode cX12_changes 125 = .ok (.iload 4, 2) := by decide +kernel
theorem dX12_changes_127 : decode cX12_changes 127 = .ok (.iaload, 1) := by decide +kernel
theorem dX12_changes_128 : decode cX12_changes 128 = .ok (.iastore, 1) := by decide +kernel
theorem dX12_changes_129 : decode cX12_changes 129 = .ok (.iload_n 3, 1) := by decide +kernel
theorem dX12_changes_130 : decode cX12_changes 130 = .ok (.aload_n 0, 1) := by decide +kernel
theorem dX12_changes_131 : decode cX12_changes 131 = .ok (.getfield 45, 3) := by decide +kernel
theorem dX12_changes_134 : decode cX12_changes 134 = .ok (.iload 4, 2) := by decide +kernel
theorem dX12_changes_136 : decode cX12_changes 136 = .ok (.iaload, 1) := by decide +kernel
theorem dX12_changes_137 : decode cX12_changes 137 = .ok (.aload_n 0, 1) := by decide +kernel
theorem dX12_changes_138 : decode cX12_changes 138 = .ok (.getfield 42, 3) := by decide +kernel
theorem dX12_changes_141 : decode cX12_changes 141 = .ok (.iload 4, 2) := by decide +kernel
theorem dX12_changes_143 : decode cX12_changes 143 = .ok (.iaload, 1) := by decide +kernel
theorem dX12_changes_144 : decode cX12_changes 144 = .ok (.if_icmp .ge 21, 3) := by decide +kernel
theorem dX12_changes_147 : decode cX12_changes 147 = .ok (.aload_n 0, 1) := by decide +kernel
theorem dX12_changes_148 : decode cX12_changes 148 = .ok (.getfield 42, 3) := by decide +kernel
theorem dX12_changes_151 : decode cX12_changes 151 = .ok (.iload 4, 2) := by decide +kernel
theorem dX12_changes_153 : decode cX12_changes 153 = .ok (.iaload, 1) := by decide +kernel
theorem dX12_changes_154 : decode cX12_changes 154 = .ok (.aload_n 0, 1) := by decide +kernel
theorem dX12_changes_155 : decode cX12_changes 155 = .ok (.getfield 45, 3) := by decide +kernel
theorem dX12_changes_158 : decode cX12_changes 158 = .ok (.iload 4, 2) := by decide +kernel
theorem dX12_changes_160 : decode cX12_changes 160 = .ok (.iaload, 1) := by decide +kernel
theorem dX12_changes_161 : decode cX12_changes 161 = .ok (.isub, 1) := by decide +kernel
theorem dX12_changes_162 : decode cX12_changes 162 = .ok (.goto 18, 3) := by decide +kernel
theorem dX12_changes_165 : decode cX12_changes 165 = .ok (.aload_n 0, 1) := by decide +kernel
theorem dX12_changes_166 : decode cX12_changes 166 = .ok (.getfield 45, 3) := by decide +kernel
theorem dX12_changes_169 : decode cX12_changes 169 = .ok (.iload 4, 2) := by decide +kernel
theorem dX12_changes_171 : decode cX12_changes 171 = .ok (.iaload, 1) := by decide +kernel
theorem dX12_changes_172 : decode cX12_changes 172 = .ok (.aload_n 0, 1) := by decide +kernel
theorem dX12_changes_173 : decode cX12_changes 173 = .ok (.getfield 42, 3) := by decide +kernel
theorem dX12_changes_176 : decode cX12_changes 176 = .ok (.iload 4, 2) := by decide +kernel
theorem dX12_changes_178 : decode cX12_changes 178 = .ok (.iaload, 1) := by decide +kernel
theorem dX12_changes_179 : decode cX12_changes 179 = .ok (.isub, 1) := by decide +kernel
theorem dX12_changes_180 : decode cX12_changes 180 = .ok (.iadd, 1) := by decide +kernel
theorem dX12_changes_181 : decode cX12_changes 181 = .ok (.istore_n 3, 1) := by decide +kernel
theorem dX12_changes_182 : decode cX12_changes 182 = .ok (.iinc 4 1, 3) := by decide +kernel
theorem dX12_changes_185 : decode cX12_changes 185 = .ok (.goto (-180), 3) := by decide +kernel
theorem dX12_changes_188 : decode cX12_changes 188 = .ok (.iload_n 3, 1) := by decide +kernel
theorem dX12_changes_189 : decode cX12_changes 189 = .ok (.ireturn, 1) := by decide +kernel
abbrev dpX12_changes : Nat := 0
def fX12_changes_180 (k5 : (Nat × Int32 × Int32 × Int32 × Int32) → St → Option (Int32 × St)) (a0 : Nat) (x1 : Int32) (x2 : Int32) (x4 : Int32) (y0 : Int32) (y1 : Int32) : St → Option (Int32 × St) :=
 k5 (a0, x1, x2, (y1 + y0), (x4 + 1))
set_option maxHeartbeats 4000000 in
set_option maxRecDepth 100000 in
theorem sfX12_changes_180 {E : Ev} {l : Launch} (k5 : (Nat × Int32 × Int32 × Int32 × Int32) → St → Option (Int32 × St)) (hk5 : ∀ p : Nat × Int32 × Int32 × Int32 × Int32, Snd E l (dpX12_changes, RX12, cX12_changes, 8, (some .int), "changes") rvI 5 [(0, .ref (E.1 + p.1)), (1, .int p.2.1), (2, .int p.2.2.1), (3, .int p.2.2.2.1), (4, .int p.2.2.2.2)] [] (k5 p)) (a0 : Nat) (x1 : Int32) (x2 : Int32) (x4 : Int32) (y0 : Int32) (y1 : Int32) : Snd E l (dpX12_changes, RX12, cX12_changes, 8, (some .int), "changes") rvI 180 [(0, .ref (E.1 + a0)), (1, .int x1), (2, .int x2), (4, .int x4)] [.int y0, .int y1] (fX12_changes_180 k5 a0 x1 x2 x4 y0 y1) := by
  unfold fX12_changes_180
  refine sn_iadd (pc := 180) dX12_changes_180 ?_
  refine sn_istore_n (pc := 181) (i := 3) (lv' := [(3, .int (y1 + y0)), (0, .ref (E.1 + a0)), (1, .int x1), (2, .int x2), (4, .int x4)]) dX12_changes_181 rfl (by decide) rfl ?_
  refine sn_iinc (pc := 182) (v := x4 + 1) (lv' := [(4, .int (x4 + 1)), (3, .int (y1 + y0)), (0, .ref (E.1 + a0)), (1, .int x1), (2, .int x2)]) (j := 4) dX12_changes_182 rfl rfl (by decide) rfl ?_
  refine sn_goto (pc := 185) (tgt := 5) dX12_changes_185 (by decide) ?_
  exact sn_sub (lv' := [(0, .ref (E.1 + a0)), (1, .int x1), (2, .int x2), (3, .int (y1 + y0)), (4, .int (x4 + 1))]) [2, 3, 4, 1, 0] rfl (hk5 (a0, x1, x2, (y1 + y0), (x4 + 1)))
def fX12_changes_128 (k5 : (Nat × Int32 × Int32 × Int32 × Int32) → St → Option (Int32 × St)) (a0 : Nat) (x1 : Int32) (x2 : Int32) (x3 : Int32) (x4 : Int32) (y0 : Int32) (y1 : Int32) (y2 : Option Nat) : St → Option (Int32 × St) :=
 nn y2 fun a3001 =>
 wI a3001 y1 y0 <|
 gR 13 a0 36 fun v3002 =>
 nn v3002 fun a3004 =>
 aI 15 a3004 x4 fun v3003 =>
 gR 13 a0 35 fun v3005 =>
 nn v3005 fun a3007 =>
 aI 15 a3007 x4 fun v3006 =>
 br (v3006 ≤ v3003) (gR 13 a0 36 fun v3008 =>
 nn v3008 fun a3010 =>
 aI 15 a3010 x4 fun v3009 =>
 gR 13 a0 35 fun v3011 =>
 nn v3011 fun a3013 =>
 aI 15 a3013 x4 fun v3012 =>
 fX12_changes_180 k5 a0 x1 x2 x4 (v3009 - v3012) x3)
 (gR 13 a0 35 fun v3014 =>
 nn v3014 fun a3016 =>
 aI 15 a3016 x4 fun v3015 =>
 gR 13 a0 36 fun v3017 =>
 nn v3017 fun a3019 =>
 aI 15 a3019 x4 fun v3018 =>
 fX12_changes_180 k5 a0 x1 x2 x4 (v3015 - v3018) x3)
set_option maxHeartbeats 4000000 in
set_option maxRecDepth 100000 in
theorem sfX12_changes_128 {E : Ev} {l : Launch} (k5 : (Nat × Int32 × Int32 × Int32 × Int32) → St → Option (Int32 × St)) (hk5 : ∀ p : Nat × Int32 × Int32 × Int32 × Int32, Snd E l (dpX12_changes, RX12, cX12_changes, 8, (some .int), "changes") rvI 5 [(0, .ref (E.1 + p.1)), (1, .int p.2.1), (2, .int p.2.2.1), (3, .int p.2.2.2.1), (4, .int p.2.2.2.2)] [] (k5 p)) (a0 : Nat) (x1 : Int32) (x2 : Int32) (x3 : Int32) (x4 : Int32) (y0 : Int32) (y1 : Int32) (y2 : Option Nat) : Snd E l (dpX12_changes, RX12, cX12_changes, 8, (some .int), "changes") rvI 128 [(0, .ref (E.1 + a0)), (1, .int x1), (2, .int x2), (3, .int x3), (4, .int x4)] [.int y0, .int y1, rf E.1 y2] (fX12_changes_128 k5 a0 x1 x2 x3 x4 y0 y1 y2) := by
  unfold fX12_changes_128
  rcases y2 with _ | a3001
  · exact sn_no
  refine sn_nn ?_
  refine sn_iast (pc := 128) dX12_changes_128 ?_
  refine sn_iload_n (pc := 129) (j := 3) dX12_changes_129 rfl rfl ?_
  refine sn_aload_n (pc := 130) (j := 0) dX12_changes_130 rfl rfl ?_
  refine sn_gR (pc := 131) dX12_changes_131 flX12_45 rfl (fun v3002 => ?_)
  refine sn_iload (pc := 134) (j := 4) dX12_changes_134 rfl ?_
  rcases v3002 with _ | a3004
  · exact sn_no
  refine sn_nn ?_
  refine sn_iald (pc := 136) dX12_changes_136 (fun v3003 => ?_)
  refine sn_aload_n (pc := 137) (j := 0) dX12_changes_137 rfl rfl ?_
  refine sn_gR (pc := 138) dX12_changes_138 flX12_42 rfl (fun v3005 => ?_)
  refine sn_iload (pc := 141) (j := 4) dX12_changes_141 rfl ?_
  rcases v3005 with _ | a3007
  · exact sn_no
  refine sn_nn ?_
  refine sn_iald (pc := 143) dX12_changes_143 (fun v3006 => ?_)
  refine sn_icmp_ge (pc := 144) (tgt := 165) dX12_changes_144 (by decide) ?_ ?_
  · refine sn_aload_n (pc := 165) (j := 0) dX12_changes_165 rfl rfl ?_
    refine sn_gR (pc := 166) dX12_changes_166 flX12_45 rfl (fun v3008 => ?_)
    refine sn_iload (pc := 169) (j := 4) dX12_changes_169 rfl ?_
    rcases v3008 with _ | a3010
    · exact sn_no
    refine sn_nn ?_
    refine sn_iald (pc := 171) dX12_changes_171 (fun v3009 => ?_)
    refine sn_aload_n (pc := 172) (j := 0) dX12_changes_172 rfl rfl ?_
    refine sn_gR (pc := 173) dX12_changes_173 flX12_42 rfl (fun v3011 => ?_)
    refine sn_iload (pc := 176) (j := 4) dX12_changes_176 rfl ?_
    rcases v3011 with _ | a3013
    · exact sn_no
    refine sn_nn ?_
    refine sn_iald (pc := 178) dX12_changes_178 (fun v3012 => ?_)
    refine sn_isub (pc := 179) dX12_changes_179 ?_
    exact sn_sub (lv' := [(0, .ref (E.1 + a0)), (1, .int x1), (2, .int x2), (4, .int x4)]) [0, 1, 2, 4] rfl (sfX12_changes_180 k5 hk5 a0 x1 x2 x4 (v3009 - v3012) x3)
  · refine sn_aload_n (pc := 147) (j := 0) dX12_changes_147 rfl rfl ?_
    refine sn_gR (pc := 148) dX12_changes_148 flX12_42 rfl (fun v3014 => ?_)
    refine sn_iload (pc := 151) (j := 4) dX12_changes_151 rfl ?_
    rcases v3014 with _ | a3016
    · exact sn_no
    refine sn_nn ?_
    refine sn_iald (pc := 153) dX12_changes_153 (fun v3015 => ?_)
    refine sn_aload_n (pc := 154) (j := 0) dX12_changes_154 rfl rfl ?_
    refine sn_gR (pc := 155) dX12_changes_155 flX12_45 rfl (fun v3017 => ?_)
    refine sn_iload (pc := 158) (j := 4) dX12_changes_158 rfl ?_
    rcases v3017 with _ | a3019
    · exact sn_no
    refine sn_nn ?_
    refine sn_iald (pc := 160) dX12_changes_160 (fun v3018 => ?_)
    refine sn_isub (pc := 161) dX12_changes_161 ?_
    refine sn_goto (pc := 162) (tgt := 180) dX12_changes_162 (by decide) ?_
    exact sn_sub (lv' := [(0, .ref (E.1 + a0)), (1, .int x1), (2, .int x2), (4, .int x4)]) [0, 1, 2, 4] rfl (sfX12_changes_180 k5 hk5 a0 x1 x2 x4 (v3015 - v3018) x3)
def fX12_changes_70 (k5 : (Nat × Int32 × Int32 × Int32 × Int32) → St → Option (Int32 × St)) (a0 : Nat) (x1 : Int32) (x2 : Int32) (x3 : Int32) (x4 : Int32) (x6 : Int32) (y0 : Int32) : St → Option (Int32 × St) :=
 br (x6 ≤ y0) (gR 13 a0 36 fun v2001 =>
 gR 13 a0 35 fun v2002 =>
 nn v2002 fun a2004 =>
 aI 15 a2004 x4 fun v2003 =>
 br (x6 ≤ v2003) (gR 13 a0 35 fun v2005 =>
 nn v2005 fun a2007 =>
 aI 15 a2007 x4 fun v2006 =>
 br (v2006 ≤ y0) (gR 13 a0 35 fun v2008 =>
 nn v2008 fun a2010 =>
 aI 15 a2010 x4 fun v2009 =>
 fX12_changes_128 k5 a0 x1 x2 x3 x4 v2009 x4 v2001)
 (fX12_changes_128 k5 a0 x1 x2 x3 x4 y0 x4 v2001))
 (fX12_changes_128 k5 a0 x1 x2 x3 x4 x6 x4 v2001))
 (rt (-1))
set_option maxHeartbeats 4000000 in
set_option maxRecDepth 100000 in
theorem sfX12_changes_70 {E : Ev} {l : Launch} (k5 : (Nat × Int32 × Int32 × Int32 × Int32) → St → Option (Int32 × St)) (hk5 : ∀ p : Nat × Int32 × Int32 × Int32 × Int32, Snd E l (dpX12_changes, RX12, cX12_changes, 8, (some .int), "changes") rvI 5 [(0, .ref (E.1 + p.1)), (1, .int p.2.1), (2, .int p.2.2.1), (3, .int p.2.2.2.1), (4, .int p.2.2.2.2)] [] (k5 p)) (a0 : Nat) (x1 : Int32) (x2 : Int32) (x3 : Int32) (x4 : Int32) (x6 : Int32) (y0 : Int32) : Snd E l (dpX12_changes, RX12, cX12_changes, 8, (some .int), "changes") rvI 70 [(0, .ref (E.1 + a0)), (1, .int x1), (2, .int x2), (3, .int x3), (4, .int x4), (6, .int x6)] [.int y0] (fX12_changes_70 k5 a0 x1 x2 x3 x4 x6 y0) := by
  unfold fX12_changes_70
  refine sn_istore (pc := 70) (i := 7) (lv' := [(7, .int y0), (0, .ref (E.1 + a0)), (1, .int x1), (2, .int x2), (3, .int x3), (4, .int x4), (6, .int x6)]) dX12_changes_70 (by decide) rfl ?_
  refine sn_iload (pc := 72) (j := 6) dX12_changes_72 rfl ?_
  refine sn_iload (pc := 74) (j := 0) dX12_changes_74 rfl ?_
  refine sn_icmp_le (pc := 76) (tgt := 81) dX12_changes_76 (by decide) ?_ ?_
  · refine sn_aload_n (pc := 81) (j := 1) dX12_changes_81 rfl rfl ?_
    refine sn_gR (pc := 82) dX12_changes_82 flX12_45 rfl (fun v2001 => ?_)
    refine sn_iload (pc := 85) (j := 5) dX12_changes_85 rfl ?_
    refine sn_aload_n (pc := 87) (j := 1) dX12_changes_87 rfl rfl ?_
    refine sn_gR (pc := 88) dX12_changes_88 flX12_42 rfl (fun v2002 => ?_)
    refine sn_iload (pc := 91) (j := 5) dX12_changes_91 rfl ?_
    rcases v2002 with _ | a2004
    · exact sn_no
    refine sn_nn ?_
    refine sn_iald (pc := 93) dX12_changes_93 (fun v2003 => ?_)
    refine sn_iload (pc := 94) (j := 6) dX12_changes_94 rfl ?_
    refine sn_icmp_ge (pc := 96) (tgt := 104) dX12_changes_96 (by decide) ?_ ?_
    · refine sn_aload_n (pc := 104) (j := 1) dX12_changes_104 rfl rfl ?_
      refine sn_gR (pc := 105) dX12_changes_105 flX12_42 rfl (fun v2005 => ?_)
      refine sn_iload (pc := 108) (j := 5) dX12_changes_108 rfl ?_
      rcases v2005 with _ | a2007
      · exact sn_no
      refine sn_nn ?_
      refine sn_iald (pc := 110) dX12_changes_110 (fun v2006 => ?_)
      refine sn_iload (pc := 111) (j := 0) dX12_changes_111 rfl ?_
      refine sn_icmp_le (pc := 113) (tgt := 121) dX12_changes_113 (by decide) ?_ ?_
      · refine sn_aload_n (pc := 121) (j := 1) dX12_changes_121 rfl rfl ?_
        refine sn_gR (pc := 122) dX12_changes_122 flX12_42 rfl (fun v2008 => ?_)
        refine sn_iload (pc := 125) (j := 5) dX12_changes_125 rfl ?_
        rcases v2008 with _ | a2010
        · exact sn_no
        refine sn_nn ?_
        refine sn_iald (pc := 127) dX12_changes_127 (fun v2009 => ?_)
        exact sn_sub (lv' := [(0, .ref (E.1 + a0)), (1, .int x1), (2, .int x2), (3, .int x3), (4, .int x4)]) [1, 2, 3, 4, 5] rfl (sfX12_changes_128 k5 hk5 a0 x1 x2 x3 x4 v2009 x4 v2001)
      · refine sn_iload (pc := 116) (j := 0) dX12_changes_116 rfl ?_
        refine sn_goto (pc := 118) (tgt := 128) dX12_changes_118 (by decide) ?_
        exact sn_sub (lv' := [(0, .ref (E.1 + a0)), (1, .int x1), (2, .int x2), (3, .int x3), (4, .int x4)]) [1, 2, 3, 4, 5] rfl (sfX12_changes_128 k5 hk5 a0 x1 x2 x3 x4 y0 x4 v2001)
    · refine sn_iload (pc := 99) (j := 6) dX12_changes_99 rfl ?_
      refine sn_goto (pc := 101) (tgt := 128) dX12_changes_101 (by decide) ?_
      exact sn_sub (lv' := [(0, .ref (E.1 + a0)), (1, .int x1), (2, .int x2), (3, .int x3), (4, .int x4)]) [1, 2, 3, 4, 5] rfl (sfX12_changes_128 k5 hk5 a0 x1 x2 x3 x4 x6 x4 v2001)
  · refine sn_iconst (pc := 79) (v := (-1)) dX12_changes_79 (by decide) ?_
    exact sn_iret (pc := 80) dX12_changes_80 rfl
def fX12_changes_5 (k5 : (Nat × Int32 × Int32 × Int32 × Int32) → St → Option (Int32 × St)) (a0 : Nat) (x1 : Int32) (x2 : Int32) (x3 : Int32) (x4 : Int32) : St → Option (Int32 × St) :=
 br (6 ≤ x4) (rt x3)
 (gR 13 a0 0 fun v1001 =>
 nn v1001 fun a1003 =>
 aI 15 a1003 (14 + x4) fun v1002 =>
 dv 3600 <|
 dv 3600 <|
 br (9999 ≤ (((((x1 + x2) + 1) * v1002) - 1) / 3600)) (fX12_changes_70 k5 a0 x1 x2 x3 x4 (((x1 * v1002) + 3599) / 3600) 9999)
 (fX12_changes_70 k5 a0 x1 x2 x3 x4 (((x1 * v1002) + 3599) / 3600) (((((x1 + x2) + 1) * v1002) - 1) / 3600)))
set_option maxHeartbeats 4000000 in
set_option maxRecDepth 100000 in
theorem sfX12_changes_5 {E : Ev} {l : Launch} (k5 : (Nat × Int32 × Int32 × Int32 × Int32) → St → Option (Int32 × St)) (hk5 : ∀ p : Nat × Int32 × Int32 × Int32 × Int32, Snd E l (dpX12_changes, RX12, cX12_changes, 8, (some .int), "changes") rvI 5 [(0, .ref (E.1 + p.1)), (1, .int p.2.1), (2, .int p.2.2.1), (3, .int p.2.2.2.1), (4, .int p.2.2.2.2)] [] (k5 p)) (a0 : Nat) (x1 : Int32) (x2 : Int32) (x3 : Int32) (x4 : Int32) : Snd E l (dpX12_changes, RX12, cX12_changes, 8, (some .int), "changes") rvI 5 [(0, .ref (E.1 + a0)), (1, .int x1), (2, .int x2), (3, .int x3), (4, .int x4)] [] (fX12_changes_5 k5 a0 x1 x2 x3 x4) := by
  unfold fX12_changes_5
  refine sn_iload (pc := 5) (j := 4) dX12_changes_5 rfl ?_
  refine sn_bipush (pc := 7) (v := 6) dX12_changes_7 (by decide) ?_
  refine sn_icmp_ge (pc := 9) (tgt := 188) dX12_changes_9 (by decide) ?_ ?_
  · refine sn_iload_n (pc := 188) (j := 3) dX12_changes_188 rfl rfl ?_
    exact sn_iret (pc := 189) dX12_changes_189 rfl
  · refine sn_aload_n (pc := 12) (j := 0) dX12_changes_12 rfl rfl ?_
    refine sn_gR (pc := 13) dX12_changes_13 flX12_7 rfl (fun v1001 => ?_)
    refine sn_bipush (pc := 16) (v := 14) dX12_changes_16 (by decide) ?_
    refine sn_iload (pc := 18) (j := 4) dX12_changes_18 rfl ?_
    refine sn_iadd (pc := 20) dX12_changes_20 ?_
    rcases v1001 with _ | a1003
    · exact sn_no
    refine sn_nn ?_
    refine sn_iald (pc := 21) dX12_changes_21 (fun v1002 => ?_)
    refine sn_istore (pc := 22) (i := 5) (lv' := [(5, .int v1002), (0, .ref (E.1 + a0)), (1, .int x1), (2, .int x2), (3, .int x3), (4, .int x4)]) dX12_changes_22 (by decide) rfl ?_
    refine sn_iload_n (pc := 24) (j := 2) dX12_changes_24 rfl rfl ?_
    refine sn_iload (pc := 25) (j := 0) dX12_changes_25 rfl ?_
    refine sn_imul (pc := 27) dX12_changes_27 ?_
    refine sn_sipush (pc := 28) (v := 3599) dX12_changes_28 (by decide) ?_
    refine sn_iadd (pc := 31) dX12_changes_31 ?_
    refine sn_sipush (pc := 32) (v := 3600) dX12_changes_32 (by decide) ?_
    refine sn_idiv (pc := 35) dX12_changes_35 ?_
    refine sn_istore (pc := 36) (i := 6) (lv' := [(6, .int (((x1 * v1002) + 3599) / 3600)), (5, .int v1002), (0, .ref (E.1 + a0)), (1, .int x1), (2, .int x2), (3, .int x3), (4, .int x4)]) dX12_changes_36 (by decide) rfl ?_
    refine sn_iload_n (pc := 38) (j := 3) dX12_changes_38 rfl rfl ?_
    refine sn_iload_n (pc := 39) (j := 4) dX12_changes_39 rfl rfl ?_
    refine sn_iadd (pc := 40) dX12_changes_40 ?_
    refine sn_iconst (pc := 41) (v := 1) dX12_changes_41 (by decide) ?_
    refine sn_iadd (pc := 42) dX12_changes_42 ?_
    refine sn_iload (pc := 43) (j := 1) dX12_changes_43 rfl ?_
    refine sn_imul (pc := 45) dX12_changes_45 ?_
    refine sn_iconst (pc := 46) (v := 1) dX12_changes_46 (by decide) ?_
    refine sn_isub (pc := 47) dX12_changes_47 ?_
    refine sn_sipush (pc := 48) (v := 3600) dX12_changes_48 (by decide) ?_
    refine sn_idiv (pc := 51) dX12_changes_51 ?_
    refine sn_istore (pc := 52) (i := 7) (lv' := [(7, .int (((((x1 + x2) + 1) * v1002) - 1) / 3600)), (6, .int (((x1 * v1002) + 3599) / 3600)), (5, .int v1002), (0, .ref (E.1 + a0)), (1, .int x1), (2, .int x2), (3, .int x3), (4, .int x4)]) dX12_changes_52 (by decide) rfl ?_
    refine sn_iload (pc := 54) (j := 0) dX12_changes_54 rfl ?_
    refine sn_sipush (pc := 56) (v := 9999) dX12_changes_56 (by decide) ?_
    refine sn_icmp_ge (pc := 59) (tgt := 67) dX12_changes_59 (by decide) ?_ ?_
    · refine sn_sipush (pc := 67) (v := 9999) dX12_changes_67 (by decide) ?_
      exact sn_sub (lv' := [(0, .ref (E.1 + a0)), (1, .int x1), (2, .int x2), (3, .int x3), (4, .int x4), (6, .int (((x1 * v1002) + 3599) / 3600))]) [3, 4, 5, 6, 7, 1] rfl (sfX12_changes_70 k5 hk5 a0 x1 x2 x3 x4 (((x1 * v1002) + 3599) / 3600) 9999)
    · refine sn_iload (pc := 62) (j := 0) dX12_changes_62 rfl ?_
      refine sn_goto (pc := 64) (tgt := 70) dX12_changes_64 (by decide) ?_
      exact sn_sub (lv' := [(0, .ref (E.1 + a0)), (1, .int x1), (2, .int x2), (3, .int x3), (4, .int x4), (6, .int (((x1 * v1002) + 3599) / 3600))]) [3, 4, 5, 6, 7, 1] rfl (sfX12_changes_70 k5 hk5 a0 x1 x2 x3 x4 (((x1 * v1002) + 3599) / 3600) (((((x1 + x2) + 1) * v1002) - 1) / 3600))
def fX12_changes (a0 : Nat) (x1 : Int32) (x2 : Int32) : St → Option (Int32 × St) :=
 itr (fun k (p : Nat × Int32 × Int32 × Int32 × Int32) => fX12_changes_5  k p.1 p.2.1 p.2.2.1 p.2.2.2.1 p.2.2.2.2) FU (a0, x1, x2, 0, 0)
set_option maxHeartbeats 4000000 in
set_option maxRecDepth 100000 in
theorem mX12_changes {E : Ev} {l : Launch} (a0 : Nat) (x1 : Int32) (x2 : Int32) : MF E l dpX12_changes yX12_changes cX12_changes 8 (some .int) rvI [.ref (E.1 + a0), .int x1, .int x2] (fX12_changes a0 x1 x2) := by
  refine MF.of (lv := [(0, .ref (E.1 + a0)), (1, .int x1), (2, .int x2)]) (by decide) (Nat.le_of_ble_eq_true rfl) rfl ?_
  unfold fX12_changes
  refine sn_iconst (pc := 0) (v := 0) dX12_changes_0 (by decide) ?_
  refine sn_istore_n (pc := 1) (i := 3) (lv' := [(3, .int 0), (0, .ref (E.1 + a0)), (1, .int x1), (2, .int x2)]) dX12_changes_1 rfl (by decide) rfl ?_
  refine sn_iconst (pc := 2) (v := 0) dX12_changes_2 (by decide) ?_
  refine sn_istore (pc := 3) (i := 4) (lv' := [(4, .int 0), (3, .int 0), (0, .ref (E.1 + a0)), (1, .int x1), (2, .int x2)]) dX12_changes_3 (by decide) rfl ?_
  exact sn_sub (lv' := [(0, .ref (E.1 + a0)), (1, .int x1), (2, .int x2), (3, .int 0), (4, .int 0)]) [2, 3, 4, 1, 0] rfl (sn_itr (lvf := fun p => [(0, .ref (E.1 + p.1)), (1, .int p.2.1), (2, .int p.2.2.1), (3, .int p.2.2.2.1), (4, .int p.2.2.2.2)]) (stf := fun p => []) (fun k hk p => sfX12_changes_5  k hk p.1 p.2.1 p.2.2.1 p.2.2.2.1 p.2.2.2.2) FU (a0, x1, x2, 0, 0))
theorem iX12_changes : MI yX12_changes cX12_changes 8 (some .int) 2 := ⟨wt1_10, wt7_201, by decide +kernel, by decide⟩
-- NeedleHomesModel even(III)I
theorem dX12_even_0 : decode cX12_even 0 = .ok (.iload_n 1, 1) := by decide +kernel
theorem dX12_even_1 : decode cX12_even 1 = .ok (.iconst 0, 1) := by decide +kernel
theorem dX12_even_2 : decode cX12_even 2 = .ok (.iconst 2, 1) := by decide +kernel
theorem dX12_even_3 : decode cX12_even 3 = .ok (.invokestatic 51, 3) := by decide +kernel
theorem dX12_even_6 : decode cX12_even 6 = .ok (.ifCond .eq 23, 3) := by decide +kernel
theorem dX12_even_9 : decode cX12_even 9 = .ok (.iload_n 2, 1) := by decide +kernel
theorem dX12_even_10 : decode cX12_even 10 = .ok (.iconst 0, 1) := by decide +kernel
theorem dX12_even_11 : decode cX12_even 11 = .ok (.bipush 99, 2) := by decide +kernel
theorem dX12_even_13 : decode cX12_even 13 = .ok (.invokestatic 51, 3) := by decide +kernel
theorem dX12_even_16 : decode cX12_even 16 = .ok (.ifCond .eq 13, 3) := by decide +kernel
theorem dX12_even_19 : decode cX12_even 19 = .ok (.iload_n 3, 1) := by decide +kernel
theorem dX12_even_20 : decode cX12_even 20 = .ok (.iconst 0, 1) := by decide +kernel
theorem dX12_even_21 : decode cX12_even 21 = .ok (.bipush 7, 2) := by decide +kernel
theorem dX12_even_23 : decode cX12_even 23 = .ok (.invokestatic 51, 3) := by decide +kernel
theorem dX12_even_26 : decode cX12_even 26 = .ok (.ifCond .ne 5, 3) := by decide +kernel
theorem dX12_even_29 : decode cX12_even 29 = .ok (.iconst (-1), 1) := by decide +kernel
theorem dX12_even_30 : decode cX12_even 30 = .ok (.ireturn, 1) := by decide +kernel
theorem dX12_even_31 : decode cX12_even 31 = .ok (.aload_n 0, 1) := by decide +kernel
theorem dX12_even_32 : decode cX12_even 32 = .ok (.iload_n 1, 1) := by decide +kernel
theorem dX12_even_33 : decode cX12_even 33 = .ok (.aload_n 0, 1) := by decide +kernel
theorem dX12_even_34 : decode cX12_even 34 = .ok (.invokevirtual 244, 3) := by decide +kernel
theorem dX12_even_37 : decode cX12_even 37 = .ok (.aload_n 0, 1) := by decide +kernel
theorem dX12_even_38 : decode cX12_even 38 = .ok (.getfield 7, 3) := by decide +kernel
theorem dX12_even_41 : decode cX12_even 41 = .ok (.iconst 4, 1) := by decide +kernel
theorem dX12_even_42 : decode cX12_even 42 = .ok (.iaload, 1) := by decide +kernel
theorem dX12_even_43 : decode cX12_even 43 = .ok (.invokevirtual 201, 3) := by decide +kernel
theorem dX12_even_46 : decode cX12_even 46 = .ok (.istore 4, 2) := by decide +kernel
theorem dX12_even_48 : decode cX12_even 48 = .ok (.aload_n 0, 1) := by decide +kernel
theorem dX12_even_49 : decode cX12_even 49 = .ok (.iconst 0, 1) := by decide +kernel
theorem dX12_even_50 : decode cX12_even 50 = .ok (.putfield 205, 3) := by decide +kernel
theorem dX12_even_53 : decode cX12_even 53 = .ok (.aload_n 0, 1) := by decide +kernel
theorem dX12_even_54 : decode cX12_even 54 = .ok (.iconst 0, 1) := by decide +kernel
theorem dX12_even_55 : decode cX12_even 55 = .ok (.putfield 208, 3) := by decide +kernel
theorem dX12_even_58 : decode cX12_even 58 = .ok (.aload_n 0, 1) := by decide +kernel
theorem dX12_even_59 : decode cX12_even 59 = .ok (.bipush 100, 2) := by decide +kernel
theorem dX12_even_61 : decode cX12_even 61 = .ok (.putfield 214, 3) := by decide +kernel
theorem dX12_even_64 : decode cX12_even 64 = .ok (.aload_n 0, 1) := by decide +kernel
theorem dX12_even_65 : decode cX12_even 65 = .ok (.iconst 0, 1) := by decide +kernel
theorem dX12_even_66 : decode cX12_even 66 = .ok (.putfield 217, 3) := by decide +kernel
theorem dX12_even_69 : decode cX12_even 69 = .ok (.aload_n 0, 1) := by decide +kernel
theorem dX12_even_70 : decode cX12_even 70 = .ok (.aload_n 0, 1) := by decide +kernel
theorem dX12_even_71 : decode cX12_even 71 = .ok (.invokevirtual 244, 3) := by decide +kernel
theorem dX12_even_74 : decode cX12_even 74 = .ok (.putfield 220, 3) := by decide +kernel
theorem dX12_even_77 : decode cX12_even 77 = .ok (.aload_n 0, 1) := by decide +kernel
theorem dX12_even_78 : decode cX12_even 78 = .ok (.iconst 0, 1) := by decide +kernel
theorem dX12_even_79 : decode cX12_even 79 = .ok (.putfield 226, 3) := by decide +kernel
theorem dX12_even_82 : decode cX12_even 82 = .ok (.iconst 0, 1) := by decide +kernel
theorem dX12_even_83 : decode cX12_even 83 = .ok (.istore 5, 2) := by decide +kernel
theorem dX12_even_85 : decode cX12_even 85 = .ok (.iload 5, 2) := by decide +kernel
theorem dX12_even_87 : decode cX12_even 87 = .ok (.bipush 6, 2) := by decide +kernel
theorem dX12_even_89 : decode cX12_even 89 = .ok (.if_icmp .ge 26, 3) := by decide +kernel
theorem dX12_even_92 : decode cX12_even 92 = .ok (.aload_n 0, 1) := by decide +kernel
theorem dX12_even_93 : decode cX12_even 93 = .ok (.getfield 42, 3) := by decide +kernel
theorem dX12_even_96 : decode cX12_even 96 = .ok (.iload 5, 2) := by decide +kernel
theorem dX12_even_98 : decode cX12_even 98 = .ok (.aload_n 0, 1) := by decide +kernel
theorem dX12_even_99 : decode cX12_even 99 = .ok (.iload 4, 2) := by decide +kernel
theorem dX12_even_101 : decode cX12_even 101 = .ok (.iconst 0, 1) := by decide +kernel
theorem dX12_even_102 : decode cX12_even 102 = .ok (.iload 5, 2) := by decide +kernel
theorem dX12_even_104 : decode cX12_even 104 = .ok (.iconst 0, 1) := by decide +kernel
theorem dX12_even_105 : decode cX12_even 105 = .ok (.invokevirtual 251, 3) := by decide +kernel
theorem dX12_even_108 : decode cX12_even 108 = .ok (.iastore, 1) := by decide +kernel
theorem dX12_even_109 : decode cX12_even 109 = .ok (.iinc 5 1, 3) := by decide +kernel
theorem dX12_even_112 : decode cX12_even 112 = .ok (.goto (-27), 3) := by decide +kernel
theorem dX12_even_115 : decode cX12_even 115 = .ok (.iconst 0, 1) := by decide +kernel
theorem dX12_even_116 : decode cX12_even 116 = .ok (.istore 5, 2) := by decide +kernel
theorem dX12_even_118 : decode cX12_even 118 = .ok (.iconst (-1), 1) := by decide +kernel
theorem dX12_even_119 : decode cX12_even 119 = .ok (.istore 6, 2) := by decide +kernel
theorem dX12_even_121 : decode cX12_even 121 = .ok (.iconst 1, 1) := by decide +kernel
theorem dX12_even_122 : decode cX12_even 122 = .ok (.istore 7, 2) := by decide +kernel
theorem dX12_even_124 : decode cX12_even 124 = .ok (.iload 7, 2) := by decide +kernel
theorem dX12_even_126 : decode cX12_even 126 = .ok (.sipush 2000, 3) := by decide +kernel
theorem dX12_even_129 : decode cX12_even 129 = .ok (.if_icmp .gt 76, 3) := by decide +kernel
theorem dX12_even_132 : decode cX12_even 132 = .ok (.aload_n 0, 1) := by decide +kernel
theorem dX12_even_133 : decode cX12_even 133 = .ok (.iload 7, 2) := by decide +kernel
theorem dX12_even_135 : decode cX12_even 135 = .ok (.iload_n 2, 1) := by decide +kernel
theorem dX12_even_136 : decode cX12_even 136 = .ok (.invokevirtual 313, 3) := by decide +kernel
theorem dX12_even_139 : decode cX12_even 139 = .ok (.istore 8, 2) := by decide +kernel
theorem dX12_even_141 : decode cX12_even 141 = .ok (.iload 8, 2) := by decide +kernel
theorem dX12_even_143 : decode cX12_even 143 = .ok (.ifCond .lt 56, 3) := by decide +kernel
theorem dX12_even_146 : decode cX12_even 146 = .ok (.iload 6, 2) := by decide +kernel
theorem dX12_even_148 : decode cX12_even 148 = .ok (.ifCond .lt 13, 3) := by decide +kernel
theorem dX12_even_151 : decode cX12_even 151 = .ok (.iload 8, 2) := by decide +kernel
theorem dX12_even_153 : decode cX12_even 153 = .ok (.iload 6, 2) := by decide +kernel
theorem dX12_even_155 : decode cX12_even 155 = .ok (.if_icmp .lt 6, 3) := by decide +kernel
theorem dX12_even_158 : decode cX12_even 158 = .ok (.goto 41, 3) := by decide +kernel
theorem dX12_even_161 : decode cX12_even 161 = .ok (.iload 7, 2) := by decide +kernel
theorem dX12_even_163 : decode cX12_even 163 = .ok (.istore 5, 2) := by decide +kernel
theorem dX12_even_165 : decode cX12_even 165 = .ok (.iload 8, 2) := by decide +kernel
theorem dX12_even_167 : decode cX12_even 167 = .ok (.istore 6, 2) := by decide +kernel
theorem dX12_even_169 : decode cX12_even 169 = .ok (.iconst 0, 1) := by decide +kernel
theorem dX12_even_170 : decode cX12_even 170 = .ok (.istore 9, 2) := by decide +kernel
theorem dX12_even_172 : decode cX12_even 172 = .ok (.iload 9, 2) := by decide +kernel
theorem dX12_even_174 : decode cX12_even 174 = .ok (.bipush 6, 2) := by decide +kernel
theorem dX12_even_176 : decode cX12_even 176 = .ok (.if_icmp .ge 23, 3) := by decide +kernel
theorem dX12_even_179 : decode cX12_even 179 = .ok (.aload_n 0, 1) := by decide +kernel
theorem dX12_even_180 : decode cX12_even 180 = .ok (.getfield 48, 3) := by decide +kernel
theorem dX12_even_183 : decode cX12_even 183 = .ok (.iload 9, 2) := by decide +kernel
theorem dX12_even_185 : decode cX12_even 185 = .ok (.aload_n 0, 1) := by decide +kernel
theorem dX12_even_186 : decode cX12_even 186 = .ok (.getfield 45, 3) := by decide +kernel
theorem dX12_even_189 : decode cX12_even 189 = .ok (.iload 9, 2) := by decide +kernel
theorem dX12_even_191 : decode cX12_even 191 = .ok (.iaload, 1) := by decide +kernel
theorem dX12_even_192 : decode cX12_even 192 = .ok (.iastore, 1) := by decide +kernel
theorem dX12_even_193 : decode cX12_even 193 = .ok (.iinc 9 1, 3) := by decide +kernel
theorem dX12_even_196 : decode cX12_even 196 = .ok (.goto (-24), 3) := by decide +kernel
theorem dX12_even_199 : decode cX12_even 199 = .ok (.iinc 7 1, 3) := by decide +kernel
theorem dX12_even_202 : decode cX12_even 202 = .ok (.goto (-78), 3) := by decide +kernel
theorem dX12_even_205 : decode cX12_even 205 = .ok (.iload 5, 2) := by decide +kernel
theorem dX12_even_207 : decode cX12_even 207 = .ok (.ifCond .ne 7, 3) := by decide +kernel
theorem dX12_even_210 : decode cX12_even 210 = .ok (.iconst (-1), 1) := by decide +kernel
theorem dX12_even_211 : decode cX12_even 211 = .ok (.goto 30, 3) := by decide +kernel
theorem dX12_even_214 : decode cX12_even 214 = .ok (.iload_n 3, 1) := by decide +kernel
theorem dX12_even_215 : decode cX12_even 215 = .ok (.ifCond .ne 8, 3) := by decide +kernel
theorem dX12_even_218 : decode cX12_even 218 = .ok (.iload 5, 2) := by decide +kernel
theorem dX12_even_220 : decode cX12_even 220 = .ok (.goto 21, 3) := by decide +kernel
theorem dX12_even_223 : decode cX12_even 223 = .ok (.iload_n 3, 1) := by decide +kernel
theorem dX12_even_224 : decode cX12_even 224 = .ok (.iconst 1, 1) := by decide +kernel
theorem dX12_even_225 : decode cX12_even 225 = .ok (.if_icmp .ne 8, 3) := by decide +kernel
theorem dX12_even_228 : decode cX12_even 228 = .ok (.iload 6, 2) := by decide +kernel
theorem dX12_even_230 : decode cX12_even 230 = .ok (.goto 11, 3) := by decide +kernel
theorem dX12_even_233 : decode cX12_even 233 = .ok (.aload_n 0, 1) := by decide +kernel
theorem dX12_even_234 : decode cX12_even 234 = .ok (.getfield 48, 3) := by decide +kernel
theorem dX12_even_237 : decode cX12_even 237 = .ok (.iload_n 3, 1) := by decide +kernel
theorem dX12_even_238 : decode cX12_even 238 = .ok (.iconst 2, 1) := by decide +kernel
theorem dX12_even_239 : decode cX12_even 239 = .ok (.isub, 1) := by decide +kernel
theorem dX12_even_240 : decode cX12_even 240 = .ok (.iaload, 1) := by decide +kernel
theorem dX12_even_241 : decode cX12_even 241 = .ok (.ireturn, 1) := by decide +kernel
abbrev dpX12_even : Nat := 3
def fX12_even_199 (k124 : (Nat × Int32 × Int32 × Int32 × Int32 × Int32) → St → Option (Int32 × St)) (a0 : Nat) (x2 : Int32) (x3 : Int32) (x5 : Int32) (x6 : Int32) (x7 : Int32) : St → Option (Int32 × St) :=
 k124 (a0, x2, x3, x5, x6, (x7 + 1))
set_option maxHeartbeats 4000000 in
set_option maxRecDepth 100000 in
theorem sfX12_even_199 {E : Ev} {l : Launch} (k124 : (Nat × Int32 × Int32 × Int32 × Int32 × Int32) → St → Option (Int32 × St)) (hk124 : ∀ p : Nat × Int32 × Int32 × Int32 × Int32 × Int32, Snd E l (dpX12_even, RX12, cX12_even, 10, (some .int), "even") rvI 124 [(0, .ref (E.1 + p.1)), (2, .int p.2.1), (3, .int p.2.2.1), (5, .int p.2.2.2.1), (6, .int p.2.2.2.2.1), (7, .int p.2.2.2.2.2)] [] (k124 p)) (a0 : Nat) (x2 : Int32) (x3 : Int32) (x5 : Int32) (x6 : Int32) (x7 : Int32) : Snd E l (dpX12_even, RX12, cX12_even, 10, (some .int), "even") rvI 199 [(0, .ref (E.1 + a0)), (2, .int x2), (3, .int x3), (5, .int x5), (6, .int x6), (7, .int x7)] [] (fX12_even_199 k124 a0 x2 x3 x5 x6 x7) := by
  unfold fX12_even_199
  refine sn_iinc (pc := 199) (v := x7 + 1) (lv' := [(7, .int (x7 + 1)), (0, .ref (E.1 + a0)), (2, .int x2), (3, .int x3), (5, .int x5), (6, .int x6)]) (j := 5) dX12_even_199 rfl rfl (by decide) rfl ?_
  refine sn_goto (pc := 202) (tgt := 124) dX12_even_202 (by decide) ?_
  exact sn_sub (lv' := [(0, .ref (E.1 + a0)), (2, .int x2), (3, .int x3), (5, .int x5), (6, .int x6), (7, .int (x7 + 1))]) [1, 2, 3, 4, 5, 0] rfl (hk124 (a0, x2, x3, x5, x6, (x7 + 1)))
def fX12_even_172 (k124 : (Nat × Int32 × Int32 × Int32 × Int32 × Int32) → St → Option (Int32 × St)) (k172 : (Nat × Int32 × Int32 × Int32 × Int32 × Int32 × Int32) → St → Option (Int32 × St)) (a0 : Nat) (x2 : Int32) (x3 : Int32) (x5 : Int32) (x6 : Int32) (x7 : Int32) (x9 : Int32) : St → Option (Int32 × St) :=
 br (6 ≤ x9) (fX12_even_199 k124 a0 x2 x3 x5 x6 x7)
 (gR 13 a0 37 fun v4001 =>
 gR 13 a0 36 fun v4002 =>
 nn v4002 fun a4004 =>
 aI 15 a4004 x9 fun v4003 =>
 nn v4001 fun a4005 =>
 wI a4005 x9 v4003 <|
 k172 (a0, x2, x3, x5, x6, x7, (x9 + 1)))
set_option maxHeartbeats 4000000 in
set_option maxRecDepth 100000 in
theorem sfX12_even_172 {E : Ev} {l : Launch} (k124 : (Nat × Int32 × Int32 × Int32 × Int32 × Int32) → St → Option (Int32 × St)) (hk124 : ∀ p : Nat × Int32 × Int32 × Int32 × Int32 × Int32, Snd E l (dpX12_even, RX12, cX12_even, 10, (some .int), "even") rvI 124 [(0, .ref (E.1 + p.1)), (2, .int p.2.1), (3, .int p.2.2.1), (5, .int p.2.2.2.1), (6, .int p.2.2.2.2.1), (7, .int p.2.2.2.2.2)] [] (k124 p)) (k172 : (Nat × Int32 × Int32 × Int32 × Int32 × Int32 × Int32) → St → Option (Int32 × St)) (hk172 : ∀ p : Nat × Int32 × Int32 × Int32 × Int32 × Int32 × Int32, Snd E l (dpX12_even, RX12, cX12_even, 10, (some .int), "even") rvI 172 [(0, .ref (E.1 + p.1)), (2, .int p.2.1), (3, .int p.2.2.1), (5, .int p.2.2.2.1), (6, .int p.2.2.2.2.1), (7, .int p.2.2.2.2.2.1), (9, .int p.2.2.2.2.2.2)] [] (k172 p)) (a0 : Nat) (x2 : Int32) (x3 : Int32) (x5 : Int32) (x6 : Int32) (x7 : Int32) (x9 : Int32) : Snd E l (dpX12_even, RX12, cX12_even, 10, (some .int), "even") rvI 172 [(0, .ref (E.1 + a0)), (2, .int x2), (3, .int x3), (5, .int x5), (6, .int x6), (7, .int x7), (9, .int x9)] [] (fX12_even_172 k124 k172 a0 x2 x3 x5 x6 x7 x9) := by
  unfold fX12_even_172
  refine sn_iload (pc := 172) (j := 6) dX12_even_172 rfl ?_
  refine sn_bipush (pc := 174) (v := 6) dX12_even_174 (by decide) ?_
  refine sn_icmp_ge (pc := 176) (tgt := 199) dX12_even_176 (by decide) ?_ ?_
  · exact sn_sub (lv' := [(0, .ref (E.1 + a0)), (2, .int x2), (3, .int x3), (5, .int x5), (6, .int x6), (7, .int x7)]) [0, 1, 2, 3, 4, 5] rfl (sfX12_even_199 k124 hk124 a0 x2 x3 x5 x6 x7)
  · refine sn_aload_n (pc := 179) (j := 0) dX12_even_179 rfl rfl ?_
    refine sn_gR (pc := 180) dX12_even_180 flX12_48 rfl (fun v4001 => ?_)
    refine sn_iload (pc := 183) (j := 6) dX12_even_183 rfl ?_
    refine sn_aload_n (pc := 185) (j := 0) dX12_even_185 rfl rfl ?_
    refine sn_gR (pc := 186) dX12_even_186 flX12_45 rfl (fun v4002 => ?_)
    refine sn_iload (pc := 189) (j := 6) dX12_even_189 rfl ?_
    rcases v4002 with _ | a4004
    · exact sn_no
    refine sn_nn ?_
    refine sn_iald (pc := 191) dX12_even_191 (fun v4003 => ?_)
    rcases v4001 with _ | a4005
    · exact sn_no
    refine sn_nn ?_
    refine sn_iast (pc := 192) dX12_even_192 ?_
    refine sn_iinc (pc := 193) (v := x9 + 1) (lv' := [(9, .int (x9 + 1)), (0, .ref (E.1 + a0)), (2, .int x2), (3, .int x3), (5, .int x5), (6, .int x6), (7, .int x7)]) (j := 6) dX12_even_193 rfl rfl (by decide) rfl ?_
    refine sn_goto (pc := 196) (tgt := 172) dX12_even_196 (by decide) ?_
    exact sn_sub (lv' := [(0, .ref (E.1 + a0)), (2, .int x2), (3, .int x3), (5, .int x5), (6, .int x6), (7, .int x7), (9, .int (x9 + 1))]) [1, 2, 3, 4, 5, 6, 0] rfl (hk172 (a0, x2, x3, x5, x6, x7, (x9 + 1)))
def fX12_even_161 (k124 : (Nat × Int32 × Int32 × Int32 × Int32 × Int32) → St → Option (Int32 × St)) (a0 : Nat) (x2 : Int32) (x3 : Int32) (x7 : Int32) (x8 : Int32) : St → Option (Int32 × St) :=
 itr (fun k (p : Nat × Int32 × Int32 × Int32 × Int32 × Int32 × Int32) => fX12_even_172 k124 k p.1 p.2.1 p.2.2.1 p.2.2.2.1 p.2.2.2.2.1 p.2.2.2.2.2.1 p.2.2.2.2.2.2) FU (a0, x2, x3, x7, x8, x7, 0)
set_option maxHeartbeats 4000000 in
set_option maxRecDepth 100000 in
theorem sfX12_even_161 {E : Ev} {l : Launch} (k124 : (Nat × Int32 × Int32 × Int32 × Int32 × Int32) → St → Option (Int32 × St)) (hk124 : ∀ p : Nat × Int32 × Int32 × Int32 × Int32 × Int32, Snd E l (dpX12_even, RX12, cX12_even, 10, (some .int), "even") rvI 124 [(0, .ref (E.1 + p.1)), (2, .int p.2.1), (3, .int p.2.2.1), (5, .int p.2.2.2.1), (6, .int p.2.2.2.2.1), (7, .int p.2.2.2.2.2)] [] (k124 p)) (a0 : Nat) (x2 : Int32) (x3 : Int32) (x7 : Int32) (x8 : Int32) : Snd E l (dpX12_even, RX12, cX12_even, 10, (some .int), "even") rvI 161 [(0, .ref (E.1 + a0)), (2, .int x2), (3, .int x3), (7, .int x7), (8, .int x8)] [] (fX12_even_161 k124 a0 x2 x3 x7 x8) := by
  unfold fX12_even_161
  refine sn_iload (pc := 161) (j := 3) dX12_even_161 rfl ?_
  refine sn_istore (pc := 163) (i := 5) (lv' := [(5, .int x7), (0, .ref (E.1 + a0)), (2, .int x2), (3, .int x3), (7, .int x7), (8, .int x8)]) dX12_even_163 (by decide) rfl ?_
  refine sn_iload (pc := 165) (j := 5) dX12_even_165 rfl ?_
  refine sn_istore (pc := 167) (i := 6) (lv' := [(6, .int x8), (5, .int x7), (0, .ref (E.1 + a0)), (2, .int x2), (3, .int x3), (7, .int x7), (8, .int x8)]) dX12_even_167 (by decide) rfl ?_
  refine sn_iconst (pc := 169) (v := 0) dX12_even_169 (by decide) ?_
  refine sn_istore (pc := 170) (i := 9) (lv' := [(9, .int 0), (6, .int x8), (5, .int x7), (0, .ref (E.1 + a0)), (2, .int x2), (3, .int x3), (7, .int x7), (8, .int x8)]) dX12_even_170 (by decide) rfl ?_
  exact sn_sub (lv' := [(0, .ref (E.1 + a0)), (2, .int x2), (3, .int x3), (5, .int x7), (6, .int x8), (7, .int x7), (9, .int 0)]) [3, 4, 5, 2, 1, 6, 0] rfl (sn_itr (lvf := fun p => [(0, .ref (E.1 + p.1)), (2, .int p.2.1), (3, .int p.2.2.1), (5, .int p.2.2.2.1), (6, .int p.2.2.2.2.1), (7, .int p.2.2.2.2.2.1), (9, .int p.2.2.2.2.2.2)]) (stf := fun p => []) (fun k hk p => sfX12_even_172 k124 hk124 k hk p.1 p.2.1 p.2.2.1 p.2.2.2.1 p.2.2.2.2.1 p.2.2.2.2.2.1 p.2.2.2.2.2.2) FU (a0, x2, x3, x7, x8, x7, 0))
def fX12_even_124 (k124 : (Nat × Int32 × Int32 × Int32 × Int32 × Int32) → St → Option (Int32 × St)) (a0 : Nat) (x2 : Int32) (x3 : Int32) (x5 : Int32) (x6 : Int32) (x7 : Int32) : St → Option (Int32 × St) :=
 br (2000 < x7) (br (x5 = 0) (rt (-1))
 (br (x3 = 0) (rt x5)
 (br (x3 = 1) (rt x6)
 (gR 13 a0 37 fun v2001 =>
 nn v2001 fun a2003 =>
 aI 15 a2003 (x3 - 2) fun v2002 =>
 rt v2002))))
 (ck 13 a0 <| cl (fX12_changes a0 x7 x2) fun v2004 =>
 br (v2004 < 0) (fX12_even_199 k124 a0 x2 x3 x5 x6 x7)
 (br (x6 < 0) (fX12_even_161 k124 a0 x2 x3 x7 v2004)
 (br (v2004 < x6) (fX12_even_161 k124 a0 x2 x3 x7 v2004)
 (fX12_even_199 k124 a0 x2 x3 x5 x6 x7))))
set_option maxHeartbeats 4000000 in
set_option maxRecDepth 100000 in
theorem sfX12_even_124 {E : Ev} {l : Launch} (k124 : (Nat × Int32 × Int32 × Int32 × Int32 × Int32) → St → Option (Int32 × St)) (hk124 : ∀ p : Nat × Int32 × Int32 × Int32 × Int32 × Int32, Snd E l (dpX12_even, RX12, cX12_even, 10, (some .int), "even") rvI 124 [(0, .ref (E.1 + p.1)), (2, .int p.2.1), (3, .int p.2.2.1), (5, .int p.2.2.2.1), (6, .int p.2.2.2.2.1), (7, .int p.2.2.2.2.2)] [] (k124 p)) (a0 : Nat) (x2 : Int32) (x3 : Int32) (x5 : Int32) (x6 : Int32) (x7 : Int32) : Snd E l (dpX12_even, RX12, cX12_even, 10, (some .int), "even") rvI 124 [(0, .ref (E.1 + a0)), (2, .int x2), (3, .int x3), (5, .int x5), (6, .int x6), (7, .int x7)] [] (fX12_even_124 k124 a0 x2 x3 x5 x6 x7) := by
  unfold fX12_even_124
  refine sn_iload (pc := 124) (j := 5) dX12_even_124 rfl ?_
  refine sn_sipush (pc := 126) (v := 2000) dX12_even_126 (by decide) ?_
  refine sn_icmp_gt (pc := 129) (tgt := 205) dX12_even_129 (by decide) ?_ ?_
  · refine sn_iload (pc := 205) (j := 3) dX12_even_205 rfl ?_
    refine sn_if_ne (pc := 207) (tgt := 214) dX12_even_207 (by decide) ?_ ?_
    · refine sn_iload_n (pc := 214) (j := 2) dX12_even_214 rfl rfl ?_
      refine sn_if_ne (pc := 215) (tgt := 223) dX12_even_215 (by decide) ?_ ?_
      · refine sn_iload_n (pc := 223) (j := 2) dX12_even_223 rfl rfl ?_
        refine sn_iconst (pc := 224) (v := 1) dX12_even_224 (by decide) ?_
        refine sn_icmp_ne (pc := 225) (tgt := 233) dX12_even_225 (by decide) ?_ ?_
        · refine sn_aload_n (pc := 233) (j := 0) dX12_even_233 rfl rfl ?_
          refine sn_gR (pc := 234) dX12_even_234 flX12_48 rfl (fun v2001 => ?_)
          refine sn_iload_n (pc := 237) (j := 2) dX12_even_237 rfl rfl ?_
          refine sn_iconst (pc := 238) (v := 2) dX12_even_238 (by decide) ?_
          refine sn_isub (pc := 239) dX12_even_239 ?_
          rcases v2001 with _ | a2003
          · exact sn_no
          refine sn_nn ?_
          refine sn_iald (pc := 240) dX12_even_240 (fun v2002 => ?_)
          exact sn_iret (pc := 241) dX12_even_241 rfl
        · refine sn_iload (pc := 228) (j := 4) dX12_even_228 rfl ?_
          refine sn_goto (pc := 230) (tgt := 241) dX12_even_230 (by decide) ?_
          exact sn_iret (pc := 241) dX12_even_241 rfl
      · refine sn_iload (pc := 218) (j := 3) dX12_even_218 rfl ?_
        refine sn_goto (pc := 220) (tgt := 241) dX12_even_220 (by decide) ?_
        exact sn_iret (pc := 241) dX12_even_241 rfl
    · refine sn_iconst (pc := 210) (v := (-1)) dX12_even_210 (by decide) ?_
      refine sn_goto (pc := 211) (tgt := 241) dX12_even_211 (by decide) ?_
      exact sn_iret (pc := 241) dX12_even_241 rfl
  · refine sn_aload_n (pc := 132) (j := 0) dX12_even_132 rfl rfl ?_
    refine sn_iload (pc := 133) (j := 5) dX12_even_133 rfl ?_
    refine sn_iload_n (pc := 135) (j := 1) dX12_even_135 rfl rfl ?_
    refine sn_callV (ci := 12) (pc := 136) dX12_even_136 iX12_changes wt7_200 ws_76 wt7_198 ⟨_, rfl, rfl⟩ (by decide) (mX12_changes a0 x7 x2) (by decide) rfl rfl (Nat.le_of_ble_eq_true rfl) (fun v2004 => ?_)
    refine sn_istore (pc := 139) (i := 8) (lv' := [(8, .int v2004), (0, .ref (E.1 + a0)), (2, .int x2), (3, .int x3), (5, .int x5), (6, .int x6), (7, .int x7)]) dX12_even_139 (by decide) rfl ?_
    refine sn_iload (pc := 141) (j := 0) dX12_even_141 rfl ?_
    refine sn_if_lt (pc := 143) (tgt := 199) dX12_even_143 (by decide) ?_ ?_
    · exact sn_sub (lv' := [(0, .ref (E.1 + a0)), (2, .int x2), (3, .int x3), (5, .int x5), (6, .int x6), (7, .int x7)]) [1, 2, 3, 4, 5, 6] rfl (sfX12_even_199 k124 hk124 a0 x2 x3 x5 x6 x7)
    · refine sn_iload (pc := 146) (j := 5) dX12_even_146 rfl ?_
      refine sn_if_lt (pc := 148) (tgt := 161) dX12_even_148 (by decide) ?_ ?_
      · exact sn_sub (lv' := [(0, .ref (E.1 + a0)), (2, .int x2), (3, .int x3), (7, .int x7), (8, .int v2004)]) [1, 2, 3, 6, 0] rfl (sfX12_even_161 k124 hk124 a0 x2 x3 x7 v2004)
      · refine sn_iload (pc := 151) (j := 0) dX12_even_151 rfl ?_
        refine sn_iload (pc := 153) (j := 5) dX12_even_153 rfl ?_
        refine sn_icmp_lt (pc := 155) (tgt := 161) dX12_even_155 (by decide) ?_ ?_
        · exact sn_sub (lv' := [(0, .ref (E.1 + a0)), (2, .int x2), (3, .int x3), (7, .int x7), (8, .int v2004)]) [1, 2, 3, 6, 0] rfl (sfX12_even_161 k124 hk124 a0 x2 x3 x7 v2004)
        · refine sn_goto (pc := 158) (tgt := 199) dX12_even_158 (by decide) ?_
          exact sn_sub (lv' := [(0, .ref (E.1 + a0)), (2, .int x2), (3, .int x3), (5, .int x5), (6, .int x6), (7, .int x7)]) [1, 2, 3, 4, 5, 6] rfl (sfX12_even_199 k124 hk124 a0 x2 x3 x5 x6 x7)
def fX12_even_85 (k85 : (Nat × Int32 × Int32 × Int32 × Int32) → St → Option (Int32 × St)) (a0 : Nat) (x2 : Int32) (x3 : Int32) (x4 : Int32) (x5 : Int32) : St → Option (Int32 × St) :=
 br (6 ≤ x5) (itr (fun k (p : Nat × Int32 × Int32 × Int32 × Int32 × Int32) => fX12_even_124  k p.1 p.2.1 p.2.2.1 p.2.2.2.1 p.2.2.2.2.1 p.2.2.2.2.2) FU (a0, x2, x3, 0, (-1), 1))
 (gR 13 a0 35 fun v1001 =>
 ck 13 a0 <| cl (fX12_termOf a0 x4 0 x5 0) fun v1002 =>
 nn v1001 fun a1003 =>
 wI a1003 x5 v1002 <|
 k85 (a0, x2, x3, x4, (x5 + 1)))
set_option maxHeartbeats 4000000 in
set_option maxRecDepth 100000 in
theorem sfX12_even_85 {E : Ev} {l : Launch} (k85 : (Nat × Int32 × Int32 × Int32 × Int32) → St → Option (Int32 × St)) (hk85 : ∀ p : Nat × Int32 × Int32 × Int32 × Int32, Snd E l (dpX12_even, RX12, cX12_even, 10, (some .int), "even") rvI 85 [(0, .ref (E.1 + p.1)), (2, .int p.2.1), (3, .int p.2.2.1), (4, .int p.2.2.2.1), (5, .int p.2.2.2.2)] [] (k85 p)) (a0 : Nat) (x2 : Int32) (x3 : Int32) (x4 : Int32) (x5 : Int32) : Snd E l (dpX12_even, RX12, cX12_even, 10, (some .int), "even") rvI 85 [(0, .ref (E.1 + a0)), (2, .int x2), (3, .int x3), (4, .int x4), (5, .int x5)] [] (fX12_even_85 k85 a0 x2 x3 x4 x5) := by
  unfold fX12_even_85
  refine sn_iload (pc := 85) (j := 4) dX12_even_85 rfl ?_
  refine sn_bipush (pc := 87) (v := 6) dX12_even_87 (by decide) ?_
  refine sn_icmp_ge (pc := 89) (tgt := 115) dX12_even_89 (by decide) ?_ ?_
  · refine sn_iconst (pc := 115) (v := 0) dX12_even_115 (by decide) ?_
    refine sn_istore (pc := 116) (i := 5) (lv' := [(5, .int 0), (0, .ref (E.1 + a0)), (2, .int x2), (3, .int x3), (4, .int x4)]) dX12_even_116 (by decide) rfl ?_
    refine sn_iconst (pc := 118) (v := (-1)) dX12_even_118 (by decide) ?_
    refine sn_istore (pc := 119) (i := 6) (lv' := [(6, .int (-1)), (5, .int 0), (0, .ref (E.1 + a0)), (2, .int x2), (3, .int x3), (4, .int x4)]) dX12_even_119 (by decide) rfl ?_
    refine sn_iconst (pc := 121) (v := 1) dX12_even_121 (by decide) ?_
    refine sn_istore (pc := 122) (i := 7) (lv' := [(7, .int 1), (6, .int (-1)), (5, .int 0), (0, .ref (E.1 + a0)), (2, .int x2), (3, .int x3), (4, .int x4)]) dX12_even_122 (by decide) rfl ?_
    exact sn_sub (lv' := [(0, .ref (E.1 + a0)), (2, .int x2), (3, .int x3), (5, .int 0), (6, .int (-1)), (7, .int 1)]) [3, 4, 5, 2, 1, 0] rfl (sn_itr (lvf := fun p => [(0, .ref (E.1 + p.1)), (2, .int p.2.1), (3, .int p.2.2.1), (5, .int p.2.2.2.1), (6, .int p.2.2.2.2.1), (7, .int p.2.2.2.2.2)]) (stf := fun p => []) (fun k hk p => sfX12_even_124  k hk p.1 p.2.1 p.2.2.1 p.2.2.2.1 p.2.2.2.2.1 p.2.2.2.2.2) FU (a0, x2, x3, 0, (-1), 1))
  · refine sn_aload_n (pc := 92) (j := 0) dX12_even_92 rfl rfl ?_
    refine sn_gR (pc := 93) dX12_even_93 flX12_42 rfl (fun v1001 => ?_)
    refine sn_iload (pc := 96) (j := 4) dX12_even_96 rfl ?_
    refine sn_aload_n (pc := 98) (j := 0) dX12_even_98 rfl rfl ?_
    refine sn_iload (pc := 99) (j := 3) dX12_even_99 rfl ?_
    refine sn_iconst (pc := 101) (v := 0) dX12_even_101 (by decide) ?_
    refine sn_iload (pc := 102) (j := 4) dX12_even_102 rfl ?_
    refine sn_iconst (pc := 104) (v := 0) dX12_even_104 (by decide) ?_
    refine sn_callV (ci := 12) (pc := 105) dX12_even_105 iX12_termOf wt7_58 ws_64 wt7_56 ⟨_, rfl, rfl⟩ (by decide) (mX12_termOf a0 x4 0 x5 0) (by decide) rfl rfl (by simp [rf_some, rf_cat, cat_int, cat_long, cat_ref, rvV, rvI, rvZ, rvR, rvJ]) (fun v1002 => ?_)
    rcases v1001 with _ | a1003
    · exact sn_no
    refine sn_nn ?_
    refine sn_iast (pc := 108) dX12_even_108 ?_
    refine sn_iinc (pc := 109) (v := x5 + 1) (lv' := [(5, .int (x5 + 1)), (0, .ref (E.1 + a0)), (2, .int x2), (3, .int x3), (4, .int x4)]) (j := 4) dX12_even_109 rfl rfl (by decide) rfl ?_
    refine sn_goto (pc := 112) (tgt := 85) dX12_even_112 (by decide) ?_
    exact sn_sub (lv' := [(0, .ref (E.1 + a0)), (2, .int x2), (3, .int x3), (4, .int x4), (5, .int (x5 + 1))]) [1, 2, 3, 4, 0] rfl (hk85 (a0, x2, x3, x4, (x5 + 1)))
def fX12_even (a0 : Nat) (x1 : Int32) (x2 : Int32) (x3 : Int32) : St → Option (Int32 × St) :=
 cl (fX12_isIn x1 0 2) fun v1 =>
 br ((bi v1) = 0) (rt (-1))
 (cl (fX12_isIn x2 0 99) fun v2 =>
 br ((bi v2) = 0) (rt (-1))
 (cl (fX12_isIn x3 0 7) fun v3 =>
 br ((bi v3) = 0) (rt (-1))
 (ck 13 a0 <| cl (fX12_week a0) fun v4 =>
 gR 13 a0 0 fun v5 =>
 nn v5 fun a7 =>
 aI 15 a7 4 fun v6 =>
 ck 13 a0 <| cl (fX12_listOf a0 x1 v4 v6) fun v8 =>
 pI 13 a0 20 0 <|
 pI 13 a0 21 0 <|
 pI 13 a0 22 100 <|
 pI 13 a0 23 0 <|
 ck 13 a0 <| cl (fX12_week a0) fun v9 =>
 pI 13 a0 24 v9 <|
 pI 13 a0 25 0 <|
 itr (fun k (p : Nat × Int32 × Int32 × Int32 × Int32) => fX12_even_85  k p.1 p.2.1 p.2.2.1 p.2.2.2.1 p.2.2.2.2) FU (a0, x2, x3, v8, 0))))
set_option maxHeartbeats 4000000 in
set_option maxRecDepth 100000 in
theorem mX12_even {E : Ev} {l : Launch} (a0 : Nat) (x1 : Int32) (x2 : Int32) (x3 : Int32) : MF E l dpX12_even yX12_even cX12_even 10 (some .int) rvI [.ref (E.1 + a0), .int x1, .int x2, .int x3] (fX12_even a0 x1 x2 x3) := by
  refine MF.of (lv := [(0, .ref (E.1 + a0)), (1, .int x1), (2, .int x2), (3, .int x3)]) (by decide) (Nat.le_of_ble_eq_true rfl) rfl ?_
  unfold fX12_even
  refine sn_iload_n (pc := 0) (j := 1) dX12_even_0 rfl rfl ?_
  refine sn_iconst (pc := 1) (v := 0) dX12_even_1 (by decide) ?_
  refine sn_iconst (pc := 2) (v := 2) dX12_even_2 (by decide) ?_
  refine sn_callS (pc := 3) dX12_even_3 iX12_isIn wt6_138 wt6_137 (mX12_isIn x1 0 2) (by decide) rfl rfl (Nat.le_of_ble_eq_true rfl) (fun v1 => ?_)
  refine sn_if_eq (pc := 6) (tgt := 29) dX12_even_6 (by decide) ?_ ?_
  · refine sn_iconst (pc := 29) (v := (-1)) dX12_even_29 (by decide) ?_
    exact sn_iret (pc := 30) dX12_even_30 rfl
  · refine sn_iload_n (pc := 9) (j := 2) dX12_even_9 rfl rfl ?_
    refine sn_iconst (pc := 10) (v := 0) dX12_even_10 (by decide) ?_
    refine sn_bipush (pc := 11) (v := 99) dX12_even_11 (by decide) ?_
    refine sn_callS (pc := 13) dX12_even_13 iX12_isIn wt6_138 wt6_137 (mX12_isIn x2 0 99) (by decide) rfl rfl (Nat.le_of_ble_eq_true rfl) (fun v2 => ?_)
    refine sn_if_eq (pc := 16) (tgt := 29) dX12_even_16 (by decide) ?_ ?_
    · refine sn_iconst (pc := 29) (v := (-1)) dX12_even_29 (by decide) ?_
      exact sn_iret (pc := 30) dX12_even_30 rfl
    · refine sn_iload_n (pc := 19) (j := 3) dX12_even_19 rfl rfl ?_
      refine sn_iconst (pc := 20) (v := 0) dX12_even_20 (by decide) ?_
      refine sn_bipush (pc := 21) (v := 7) dX12_even_21 (by decide) ?_
      refine sn_callS (pc := 23) dX12_even_23 iX12_isIn wt6_138 wt6_137 (mX12_isIn x3 0 7) (by decide) rfl rfl (Nat.le_of_ble_eq_true rfl) (fun v3 => ?_)
      refine sn_if_ne (pc := 26) (tgt := 31) dX12_even_26 (by decide) ?_ ?_
      · refine sn_aload_n (pc := 31) (j := 0) dX12_even_31 rfl rfl ?_
        refine sn_iload_n (pc := 32) (j := 1) dX12_even_32 rfl rfl ?_
        refine sn_aload_n (pc := 33) (j := 0) dX12_even_33 rfl rfl ?_
        refine sn_callV (ci := 12) (pc := 34) dX12_even_34 iX12_week wt7_42 ws_60 wt7_40 ⟨_, rfl, rfl⟩ (by decide) (mX12_week a0) (by decide) rfl rfl (Nat.le_of_ble_eq_true rfl) (fun v4 => ?_)
        refine sn_aload_n (pc := 37) (j := 0) dX12_even_37 rfl rfl ?_
        refine sn_gR (pc := 38) dX12_even_38 flX12_7 rfl (fun v5 => ?_)
        refine sn_iconst (pc := 41) (v := 4) dX12_even_41 (by decide) ?_
        rcases v5 with _ | a7
        · exact sn_no
        refine sn_nn ?_
        refine sn_iald (pc := 42) dX12_even_42 (fun v6 => ?_)
        refine sn_callV (ci := 12) (pc := 43) dX12_even_43 iX12_listOf wt7_30 ws_59 wt7_28 ⟨_, rfl, rfl⟩ (by decide) (mX12_listOf a0 x1 v4 v6) (by decide) rfl rfl (Nat.le_of_ble_eq_true rfl) (fun v8 => ?_)
        refine sn_istore (pc := 46) (i := 4) (lv' := [(4, .int v8), (0, .ref (E.1 + a0)), (1, .int x1), (2, .int x2), (3, .int x3)]) dX12_even_46 (by decide) rfl ?_
        refine sn_aload_n (pc := 48) (j := 1) dX12_even_48 rfl rfl ?_
        refine sn_iconst (pc := 49) (v := 0) dX12_even_49 (by decide) ?_
        refine sn_pI (pc := 50) dX12_even_50 flX12_205 rfl rfl (Or.inl rfl) ?_
        refine sn_aload_n (pc := 53) (j := 1) dX12_even_53 rfl rfl ?_
        refine sn_iconst (pc := 54) (v := 0) dX12_even_54 (by decide) ?_
        refine sn_pI (pc := 55) dX12_even_55 flX12_208 rfl rfl (Or.inl rfl) ?_
        refine sn_aload_n (pc := 58) (j := 1) dX12_even_58 rfl rfl ?_
        refine sn_bipush (pc := 59) (v := 100) dX12_even_59 (by decide) ?_
        refine sn_pI (pc := 61) dX12_even_61 flX12_214 rfl rfl (Or.inl rfl) ?_
        refine sn_aload_n (pc := 64) (j := 1) dX12_even_64 rfl rfl ?_
        refine sn_iconst (pc := 65) (v := 0) dX12_even_65 (by decide) ?_
        refine sn_pI (pc := 66) dX12_even_66 flX12_217 rfl rfl (Or.inl rfl) ?_
        refine sn_aload_n (pc := 69) (j := 1) dX12_even_69 rfl rfl ?_
        refine sn_aload_n (pc := 70) (j := 1) dX12_even_70 rfl rfl ?_
        refine sn_callV (ci := 12) (pc := 71) dX12_even_71 iX12_week wt7_42 ws_60 wt7_40 ⟨_, rfl, rfl⟩ (by decide) (mX12_week a0) (by decide) rfl rfl (Nat.le_of_ble_eq_true rfl) (fun v9 => ?_)
        refine sn_pI (pc := 74) dX12_even_74 flX12_220 rfl rfl (Or.inl rfl) ?_
        refine sn_aload_n (pc := 77) (j := 1) dX12_even_77 rfl rfl ?_
        refine sn_iconst (pc := 78) (v := 0) dX12_even_78 (by decide) ?_
        refine sn_pI (pc := 79) dX12_even_79 flX12_226 rfl rfl (Or.inl rfl) ?_
        refine sn_iconst (pc := 82) (v := 0) dX12_even_82 (by decide) ?_
        refine sn_istore (pc := 83) (i := 5) (lv' := [(5, .int 0), (4, .int v8), (0, .ref (E.1 + a0)), (1, .int x1), (2, .int x2), (3, .int x3)]) dX12_even_83 (by decide) rfl ?_
        exact sn_sub (lv' := [(0, .ref (E.1 + a0)), (2, .int x2), (3, .int x3), (4, .int v8), (5, .int 0)]) [2, 4, 5, 1, 0] rfl (sn_itr (lvf := fun p => [(0, .ref (E.1 + p.1)), (2, .int p.2.1), (3, .int p.2.2.1), (4, .int p.2.2.2.1), (5, .int p.2.2.2.2)]) (stf := fun p => []) (fun k hk p => sfX12_even_85  k hk p.1 p.2.1 p.2.2.1 p.2.2.2.1 p.2.2.2.2) FU (a0, x2, x3, v8, 0))
      · refine sn_iconst (pc := 29) (v := (-1)) dX12_even_29 (by decide) ?_
        exact sn_iret (pc := 30) dX12_even_30 rfl
theorem iX12_even : MI yX12_even cX12_even 10 (some .int) 3 := ⟨wt1_10, wt7_197, by decide +kernel, by decide⟩
-- NeedleHomesModel count(I)I
theorem dX12_count_0 : decode cX12_count 0 = .ok (.iconst 0, 1) := by decide +kernel
theorem dX12_count_1 : decode cX12_count 1 = .ok (.istore_n 2, 1) := by decide +kernel
theorem dX12_count_2 : decode cX12_count 2 = .ok (.iconst 0, 1) := by decide +kernel
theorem dX12_count_3 : decode cX12_count 3 = .ok (.istore_n 3, 1) := by decide +kernel
theorem dX12_count_4 : decode cX12_count 4 = .ok (.iconst 0, 1) := by decide +kernel
theorem dX12_count_5 : decode cX12_count 5 = .ok (.istore 4, 2) := by decide +kernel
theorem dX12_count_7 : decode cX12_count 7 = .ok (.iconst 0, 1) := by decide +kernel
theorem dX12_count_8 : decode cX12_count 8 = .ok (.istore 5, 2) := by decide +kernel
theorem dX12_count_10 : decode cX12_count 10 = .ok (.iconst 0, 1) := by decide +kernel
theorem dX12_count_11 : decode cX12_count 11 = .ok (.istore 6, 2) := by decide +kernel
theorem dX12_count_13 : decode cX12_count 13 = .ok (.iload 6, 2) := by decide +kernel
theorem dX12_count_15 : decode cX12_count 15 = .ok (.aload_n 0, 1) := by decide +kernel
theorem dX12_count_16 : decode cX12_count 16 = .ok (.getfield 7, 3) := by decide +kernel
theorem dX12_count_19 : decode cX12_count 19 = .ok (.iconst 3, 1) := by decide +kernel
theorem dX12_count_20 : decode cX12_count 20 = .ok (.iaload, 1) := by decide +kernel
theorem dX12_count_21 : decode cX12_count 21 = .ok (.if_icmp .ge 44, 3) := by decide +kernel
theorem dX12_count_24 : decode cX12_count 24 = .ok (.iload_n 2, 1) := by decide +kernel
theorem dX12_count_25 : decode cX12_count 25 = .ok (.aload_n 0, 1) := by decide +kernel
theorem dX12_count_26 : decode cX12_count 26 = .ok (.iload 6, 2) := by decide +kernel
theorem dX12_count_28 : decode cX12_count 28 = .ok (.iconst 4, 1) := by decide +kernel
theorem dX12_count_29 : decode cX12_count 29 = .ok (.invokevirtual 256, 3) := by decide +kernel
theorem dX12_count_32 : decode cX12_count 32 = .ok (.ifCond .ge 7, 3) := by decide +kernel
theorem dX12_count_35 : decode cX12_count 35 = .ok (.iconst 1, 1) := by decide +kernel
theorem dX12_count_36 : decode cX12_count 36 = .ok (.goto 4, 3) := by decide +kernel
theorem dX12_count_39 : decode cX12_count 39 = .ok (.iconst 0, 1) := by decide +kernel
theorem dX12_count_40 : decode cX12_count 40 = .ok (.iadd, 1) := by decide +kernel
theorem dX12_count_41 : decode cX12_count 41 = .ok (.istore_n 2, 1) := by decide +kernel
theorem dX12_count_42 : decode cX12_count 42 = .ok (.iload_n 3, 1) := by decide +kernel
theorem dX12_count_43 : decode cX12_count 43 = .ok (.aload_n 0, 1) := by decide +kernel
theorem dX12_count_44 : decode cX12_count 44 = .ok (.iload 6, 2) := by decide +kernel
theorem dX12_count_46 : decode cX12_count 46 = .ok (.invokevirtual 283, 3) := by decide +kernel
theorem dX12_count_49 : decode cX12_count 49 = .ok (.ifCond .eq 7, 3) := by decide +kernel
theorem dX12_count_52 : decode cX12_count 52 = .ok (.iconst 1, 1) := by decide +kernel
theorem dX12_count_53 : decode cX12_count 53 = .ok (.goto 4, 3) := by decide +kernel
theorem dX12_count_56 : decode cX12_count 56 = .ok (.iconst 0, 1) := by decide +kernel
theorem dX12_count_57 : decode cX12_count 57 = .ok (.iadd, 1) := by decide +kernel
theorem dX12_count_58 : decode cX12_count 58 = .ok (.istore_n 3, 1) := by decide +kernel
theorem dX12_count_59 : decode cX12_count 59 = .ok (.iinc 6 1, 3) := by decide +kernel
theorem dX12_count_62 : decode cX12_count 62 = .ok (.goto (-49), 3) := by decide +kernel
theorem dX12_count_65 : decode cX12_count 65 = .ok (.iconst 0, 1) := by decide +kernel
theorem dX12_count_66 : decode cX12_count 66 = .ok (.istore 6, 2) := by decide +kernel
theorem dX12_count_68 : decode cX12_count 68 = .ok (.iload 6, 2) := by decide +kernel
theorem dX12_count_70 : decode cX12_count 70 = .ok (.aload_n 0, 1) := by decide +kernel
theorem dX12_count_71 : decode cX12_count 71 = .ok (.getfield 7, 3) := by decide +kernel
theorem dX12_count_74 : decode cX12_count 74 = .ok (.iconst 2, 1) := by decide +kernel
theorem dX12_count_75 : decode cX12_count 75 = .ok (.iaload, 1) := by decide +kernel
theorem dX12_count_76 : decode cX12_count 76 = .ok (.if_icmp .ge 33, 3) := by decide +kernel
theorem dX12_count_79 : decode cX12_count 79 = .ok (.iload 4, 2) := by decide +kernel
theorem dX12_count_81 : decode cX12_count 81 = .ok (.aload_n 0, 1) := by decide +kernel
theorem dX12_count_82 : decode cX12_count 82 = .ok (.iload 6, 2) := by decide +kernel
theorem dX12_count_84 : decode cX12_count 84 = .ok (.iconst 3, 1) := by decide +kernel
theorem dX12_count_85 : decode cX12_count 85 = .ok (.invokevirtual 211, 3) := by decide +kernel
theorem dX12_count_88 : decode cX12_count 88 = .ok (.iadd, 1) := by decide +kernel
theorem dX12_count_89 : decode cX12_count 89 = .ok (.istore 4, 2) := by decide +kernel
theorem dX12_count_91 : decode cX12_count 91 = .ok (.iload 5, 2) := by decide +kernel
theorem dX12_count_93 : decode cX12_count 93 = .ok (.aload_n 0, 1) := by decide +kernel
theorem dX12_count_94 : decode cX12_count 94 = .ok (.iload 6, 2) := by decide +kernel
theorem dX12_count_96 : decode cX12_count 96 = .ok (.iconst 4, 1) := by decide +kernel
theorem dX12_count_97 : decode cX12_count 97 = .ok (.invokevirtual 211, 3) := by decide +kernel
theorem dX12_count_100 : decode cX12_count 100 = .ok (.iadd, 1) := by decide +kernel
theorem dX12_count_101 : decode cX12_count 101 = .ok (.istore 5, 2) := by decide +kernel
theorem dX12_count_103 : decode cX12_count 103 = .ok (.iinc 6 1, 3) := by decide +kernel
theorem dX12_count_106 : decode cX12_count 106 = .ok (.goto (-38), 3) := by decide +kernel
theorem dX12_count_109 : decode cX12_count 109 = .ok (.iload_n 1, 1) := by decide +kernel
theorem dX12_count_110 : decode cX12_count 110 = .ok (.tableswitch 76 0 9 #[54, 54, 54, 54, 54, 61, 66, 68, 70, 73], 54) := by decide +kernel
theorem dX12_count_164 : decode cX12_count 164 = .ok (.aload_n 0, 1) := by decide +kernel
theorem dX12_count_165 : decode cX12_count 165 = .ok (.getfield 7, 3) := by decide +kernel
theorem dX12_count_168 : decode cX12_count 168 = .ok (.iload_n 1, 1) := by decide +kernel
theorem dX12_count_169 : decode cX12_count 169 = .ok (.iaload, 1) := by decide +kernel
theorem dX12_count_170 : decode cX12_count 170 = .ok (.ireturn, 1) := by decide +kernel
theorem dX12_count_171 : decode cX12_count 171 = .ok (.aload_n 0, 1) := by decide +kernel
theorem dX12_count_172 : decode cX12_count 172 = .ok (.invokevirtual 244, 3) := by decide +kernel
theorem dX12_count_175 : decode cX12_count 175 = .ok (.ireturn, 1) := by decide +kernel
theorem dX12_count_176 : decode cX12_count 176 = .ok (.iload_n 2, 1) := by decide +kernel
theorem dX12_count_177 : decode cX12_count 177 = .ok (.ireturn, 1) := by decide +kernel
theorem dX12_count_178 : decode cX12_count 178 = .ok (.iload_n 3, 1) := by decide +kernel
theorem dX12_count_179 : decode cX12_count 179 = .ok (.ireturn, 1) := by decide +kernel
theorem dX12_count_180 : decode cX12_count 180 = .ok (.iload 4, 2) := by decide +kernel
theorem dX12_count_182 : decode cX12_count 182 = .ok (.ireturn, 1) := by decide +kernel
theorem dX12_count_183 : decode cX12_count 183 = .ok (.iload 5, 2) := by decide +kernel
theorem dX12_count_185 : decode cX12_count 185 = .ok (.ireturn, 1) := by decide +kernel
theorem dX12_count_186 : decode cX12_count 186 = .ok (.iconst (-1), 1) := by decide +kernel
theorem dX12_count_187 : decode cX12_count 187 = .ok (.ireturn, 1) := by decide +kernel
abbrev dpX12_count : Nat := 2
def fX12_count_57 (k13 : (Nat × Int32 × Int32 × Int32 × Int32 × Int32 × Int32) → St → Option (Int32 × St)) (a0 : Nat) (x1 : Int32) (x2 : Int32) (x4 : Int32) (x5 : Int32) (x6 : Int32) (y0 : Int32) (y1 : Int32) : St → Option (Int32 × St) :=
 k13 (a0, x1, x2, (y1 + y0), x4, x5, (x6 + 1))
set_option maxHeartbeats 4000000 in
set_option maxRecDepth 100000 in
theorem sfX12_count_57 {E : Ev} {l : Launch} (k13 : (Nat × Int32 × Int32 × Int32 × Int32 × Int32 × Int32) → St → Option (Int32 × St)) (hk13 : ∀ p : Nat × Int32 × Int32 × Int32 × Int32 × Int32 × Int32, Snd E l (dpX12_count, RX12, cX12_count, 7, (some .int), "count") rvI 13 [(0, .ref (E.1 + p.1)), (1, .int p.2.1), (2, .int p.2.2.1), (3, .int p.2.2.2.1), (4, .int p.2.2.2.2.1), (5, .int p.2.2.2.2.2.1), (6, .int p.2.2.2.2.2.2)] [] (k13 p)) (a0 : Nat) (x1 : Int32) (x2 : Int32) (x4 : Int32) (x5 : Int32) (x6 : Int32) (y0 : Int32) (y1 : Int32) : Snd E l (dpX12_count, RX12, cX12_count, 7, (some .int), "count") rvI 57 [(0, .ref (E.1 + a0)), (1, .int x1), (2, .int x2), (4, .int x4), (5, .int x5), (6, .int x6)] [.int y0, .int y1] (fX12_count_57 k13 a0 x1 x2 x4 x5 x6 y0 y1) := by
  unfold fX12_count_57
  refine sn_iadd (pc := 57) dX12_count_57 ?_
  refine sn_istore_n (pc := 58) (i := 3) (lv' := [(3, .int (y1 + y0)), (0, .ref (E.1 + a0)), (1, .int x1), (2, .int x2), (4, .int x4), (5, .int x5), (6, .int x6)]) dX12_count_58 rfl (by decide) rfl ?_
  refine sn_iinc (pc := 59) (v := x6 + 1) (lv' := [(6, .int (x6 + 1)), (3, .int (y1 + y0)), (0, .ref (E.1 + a0)), (1, .int x1), (2, .int x2), (4, .int x4), (5, .int x5)]) (j := 6) dX12_count_59 rfl rfl (by decide) rfl ?_
  refine sn_goto (pc := 62) (tgt := 13) dX12_count_62 (by decide) ?_
  exact sn_sub (lv' := [(0, .ref (E.1 + a0)), (1, .int x1), (2, .int x2), (3, .int (y1 + y0)), (4, .int x4), (5, .int x5), (6, .int (x6 + 1))]) [2, 3, 4, 1, 5, 6, 0] rfl (hk13 (a0, x1, x2, (y1 + y0), x4, x5, (x6 + 1)))
def fX12_count_40 (k13 : (Nat × Int32 × Int32 × Int32 × Int32 × Int32 × Int32) → St → Option (Int32 × St)) (a0 : Nat) (x1 : Int32) (x3 : Int32) (x4 : Int32) (x5 : Int32) (x6 : Int32) (y0 : Int32) (y1 : Int32) : St → Option (Int32 × St) :=
 ck 13 a0 <| cl (fX12_differs a0 x6) fun v2001 =>
 br (v2001 = 0) (fX12_count_57 k13 a0 x1 (y1 + y0) x4 x5 x6 0 x3)
 (fX12_count_57 k13 a0 x1 (y1 + y0) x4 x5 x6 1 x3)
set_option maxHeartbeats 4000000 in
set_option maxRecDepth 100000 in
theorem sfX12_count_40 {E : Ev} {l : Launch} (k13 : (Nat × Int32 × Int32 × Int32 × Int32 × Int32 × Int32) → St → Option (Int32 × St)) (hk13 : ∀ p : Nat × Int32 × Int32 × Int32 × Int32 × Int32 × Int32, Snd E l (dpX12_count, RX12, cX12_count, 7, (some .int), "count") rvI 13 [(0, .ref (E.1 + p.1)), (1, .int p.2.1), (2, .int p.2.2.1), (3, .int p.2.2.2.1), (4, .int p.2.2.2.2.1), (5, .int p.2.2.2.2.2.1), (6, .int p.2.2.2.2.2.2)] [] (k13 p)) (a0 : Nat) (x1 : Int32) (x3 : Int32) (x4 : Int32) (x5 : Int32) (x6 : Int32) (y0 : Int32) (y1 : Int32) : Snd E l (dpX12_count, RX12, cX12_count, 7, (some .int), "count") rvI 40 [(0, .ref (E.1 + a0)), (1, .int x1), (3, .int x3), (4, .int x4), (5, .int x5), (6, .int x6)] [.int y0, .int y1] (fX12_count_40 k13 a0 x1 x3 x4 x5 x6 y0 y1) := by
  unfold fX12_count_40
  refine sn_iadd (pc := 40) dX12_count_40 ?_
  refine sn_istore_n (pc := 41) (i := 2) (lv' := [(2, .int (y1 + y0)), (0, .ref (E.1 + a0)), (1, .int x1), (3, .int x3), (4, .int x4), (5, .int x5), (6, .int x6)]) dX12_count_41 rfl (by decide) rfl ?_
  refine sn_iload_n (pc := 42) (j := 3) dX12_count_42 rfl rfl ?_
  refine sn_aload_n (pc := 43) (j := 1) dX12_count_43 rfl rfl ?_
  refine sn_iload (pc := 44) (j := 6) dX12_count_44 rfl ?_
  refine sn_callV (ci := 12) (pc := 46) dX12_count_46 iX12_differs wt7_140 ws_70 wt7_138 ⟨_, rfl, rfl⟩ (by decide) (mX12_differs a0 x6) (by decide) rfl rfl (Nat.le_of_ble_eq_true rfl) (fun v2001 => ?_)
  refine sn_if_eq (pc := 49) (tgt := 56) dX12_count_49 (by decide) ?_ ?_
  · refine sn_iconst (pc := 56) (v := 0) dX12_count_56 (by decide) ?_
    exact sn_sub (lv' := [(0, .ref (E.1 + a0)), (1, .int x1), (2, .int (y1 + y0)), (4, .int x4), (5, .int x5), (6, .int x6)]) [1, 2, 0, 4, 5, 6] rfl (sfX12_count_57 k13 hk13 a0 x1 (y1 + y0) x4 x5 x6 0 x3)
  · refine sn_iconst (pc := 52) (v := 1) dX12_count_52 (by decide) ?_
    refine sn_goto (pc := 53) (tgt := 57) dX12_count_53 (by decide) ?_
    exact sn_sub (lv' := [(0, .ref (E.1 + a0)), (1, .int x1), (2, .int (y1 + y0)), (4, .int x4), (5, .int x5), (6, .int x6)]) [1, 2, 0, 4, 5, 6] rfl (sfX12_count_57 k13 hk13 a0 x1 (y1 + y0) x4 x5 x6 1 x3)
def fX12_count_164 (a0 : Nat) (x1 : Int32) : St → Option (Int32 × St) :=
 gR 13 a0 0 fun v5001 =>
 nn v5001 fun a5003 =>
 aI 15 a5003 x1 fun v5002 =>
 rt v5002
set_option maxHeartbeats 4000000 in
set_option maxRecDepth 100000 in
theorem sfX12_count_164 {E : Ev} {l : Launch} (a0 : Nat) (x1 : Int32) : Snd E l (dpX12_count, RX12, cX12_count, 7, (some .int), "count") rvI 164 [(0, .ref (E.1 + a0)), (1, .int x1)] [] (fX12_count_164 a0 x1) := by
  unfold fX12_count_164
  refine sn_aload_n (pc := 164) (j := 0) dX12_count_164 rfl rfl ?_
  refine sn_gR (pc := 165) dX12_count_165 flX12_7 rfl (fun v5001 => ?_)
  refine sn_iload_n (pc := 168) (j := 1) dX12_count_168 rfl rfl ?_
  rcases v5001 with _ | a5003
  · exact sn_no
  refine sn_nn ?_
  refine sn_iald (pc := 169) dX12_count_169 (fun v5002 => ?_)
  exact sn_iret (pc := 170) dX12_count_170 rfl
def fX12_count_68 (k68 : (Nat × Int32 × Int32 × Int32 × Int32 × Int32 × Int32) → St → Option (Int32 × St)) (a0 : Nat) (x1 : Int32) (x2 : Int32) (x3 : Int32) (x4 : Int32) (x5 : Int32) (x6 : Int32) : St → Option (Int32 × St) :=
 gR 13 a0 0 fun v4001 =>
 nn v4001 fun a4003 =>
 aI 15 a4003 2 fun v4002 =>
 br (v4002 ≤ x6) (br (x1 = 0) (fX12_count_164  a0 x1) <|
 br (x1 = 1) (fX12_count_164  a0 x1) <|
 br (x1 = 2) (fX12_count_164  a0 x1) <|
 br (x1 = 3) (fX12_count_164  a0 x1) <|
 br (x1 = 4) (fX12_count_164  a0 x1) <|
 br (x1 = 5) (ck 13 a0 <| cl (fX12_week a0) fun v4004 =>
 rt v4004) <|
 br (x1 = 6) (rt x2) <|
 br (x1 = 7) (rt x3) <|
 br (x1 = 8) (rt x4) <|
 br (x1 = 9) (rt x5) <|
 (rt (-1)))
 (ck 13 a0 <| cl (fX12_handOf a0 x6 3) fun v4005 =>
 ck 13 a0 <| cl (fX12_handOf a0 x6 4) fun v4006 =>
 k68 (a0, x1, x2, x3, (x4 + v4005), (x5 + v4006), (x6 + 1)))
set_option maxHeartbeats 4000000 in
set_option maxRecDepth 100000 in
theorem sfX12_count_68 {E : Ev} {l : Launch} (k68 : (Nat × Int32 × Int32 × Int32 × Int32 × Int32 × Int32) → St → Option (Int32 × St)) (hk68 : ∀ p : Nat × Int32 × Int32 × Int32 × Int32 × Int32 × Int32, Snd E l (dpX12_count, RX12, cX12_count, 7, (some .int), "count") rvI 68 [(0, .ref (E.1 + p.1)), (1, .int p.2.1), (2, .int p.2.2.1), (3, .int p.2.2.2.1), (4, .int p.2.2.2.2.1), (5, .int p.2.2.2.2.2.1), (6, .int p.2.2.2.2.2.2)] [] (k68 p)) (a0 : Nat) (x1 : Int32) (x2 : Int32) (x3 : Int32) (x4 : Int32) (x5 : Int32) (x6 : Int32) : Snd E l (dpX12_count, RX12, cX12_count, 7, (some .int), "count") rvI 68 [(0, .ref (E.1 + a0)), (1, .int x1), (2, .int x2), (3, .int x3), (4, .int x4), (5, .int x5), (6, .int x6)] [] (fX12_count_68 k68 a0 x1 x2 x3 x4 x5 x6) := by
  unfold fX12_count_68
  refine sn_iload (pc := 68) (j := 6) dX12_count_68 rfl ?_
  refine sn_aload_n (pc := 70) (j := 0) dX12_count_70 rfl rfl ?_
  refine sn_gR (pc := 71) dX12_count_71 flX12_7 rfl (fun v4001 => ?_)
  refine sn_iconst (pc := 74) (v := 2) dX12_count_74 (by decide) ?_
  rcases v4001 with _ | a4003
  · exact sn_no
  refine sn_nn ?_
  refine sn_iald (pc := 75) dX12_count_75 (fun v4002 => ?_)
  refine sn_icmp_ge (pc := 76) (tgt := 109) dX12_count_76 (by decide) ?_ ?_
  · refine sn_iload_n (pc := 109) (j := 1) dX12_count_109 rfl rfl ?_
    refine sw_start ?_
    refine sw_case (tgt := 164) 0 dX12_count_110 (by decide) (by decide) rfl (by decide) ?_ ?_
    · exact sn_sub (lv' := [(0, .ref (E.1 + a0)), (1, .int x1)]) [0, 1] rfl (sfX12_count_164  a0 x1)
    refine sw_case (tgt := 164) 1 dX12_count_110 (by decide) (by decide) rfl (by decide) ?_ ?_
    · exact sn_sub (lv' := [(0, .ref (E.1 + a0)), (1, .int x1)]) [0, 1] rfl (sfX12_count_164  a0 x1)
    refine sw_case (tgt := 164) 2 dX12_count_110 (by decide) (by decide) rfl (by decide) ?_ ?_
    · exact sn_sub (lv' := [(0, .ref (E.1 + a0)), (1, .int x1)]) [0, 1] rfl (sfX12_count_164  a0 x1)
    refine sw_case (tgt := 164) 3 dX12_count_110 (by decide) (by decide) rfl (by decide) ?_ ?_
    · exact sn_sub (lv' := [(0, .ref (E.1 + a0)), (1, .int x1)]) [0, 1] rfl (sfX12_count_164  a0 x1)
    refine sw_case (tgt := 164) 4 dX12_count_110 (by decide) (by decide) rfl (by decide) ?_ ?_
    · exact sn_sub (lv' := [(0, .ref (E.1 + a0)), (1, .int x1)]) [0, 1] rfl (sfX12_count_164  a0 x1)
    refine sw_case (tgt := 171) 5 dX12_count_110 (by decide) (by decide) rfl (by decide) ?_ ?_
    · refine sn_aload_n (pc := 171) (j := 0) dX12_count_171 rfl rfl ?_
      refine sn_callV (ci := 12) (pc := 172) dX12_count_172 iX12_week wt7_42 ws_60 wt7_40 ⟨_, rfl, rfl⟩ (by decide) (mX12_week a0) (by decide) rfl rfl (Nat.le_of_ble_eq_true rfl) (fun v4004 => ?_)
      exact sn_iret (pc := 175) dX12_count_175 rfl
    refine sw_case (tgt := 176) 6 dX12_count_110 (by decide) (by decide) rfl (by decide) ?_ ?_
    · refine sn_iload_n (pc := 176) (j := 2) dX12_count_176 rfl rfl ?_
      exact sn_iret (pc := 177) dX12_count_177 rfl
    refine sw_case (tgt := 178) 7 dX12_count_110 (by decide) (by decide) rfl (by decide) ?_ ?_
    · refine sn_iload_n (pc := 178) (j := 3) dX12_count_178 rfl rfl ?_
      exact sn_iret (pc := 179) dX12_count_179 rfl
    refine sw_case (tgt := 180) 8 dX12_count_110 (by decide) (by decide) rfl (by decide) ?_ ?_
    · refine sn_iload (pc := 180) (j := 4) dX12_count_180 rfl ?_
      exact sn_iret (pc := 182) dX12_count_182 rfl
    refine sw_case (tgt := 183) 9 dX12_count_110 (by decide) (by decide) rfl (by decide) ?_ ?_
    · refine sn_iload (pc := 183) (j := 5) dX12_count_183 rfl ?_
      exact sn_iret (pc := 185) dX12_count_185 rfl
    refine sw_dflt (tgt := 186) dX12_count_110 (fun hc => ?_) (by decide) ?_
    · obtain ⟨⟨⟨⟨⟨⟨⟨⟨⟨⟨-, q0⟩, q1⟩, q2⟩, q3⟩, q4⟩, q5⟩, q6⟩, q7⟩, q8⟩, q9⟩ := hc
      have q0 := ne_toInt q0
      have q1 := ne_toInt q1
      have q2 := ne_toInt q2
      have q3 := ne_toInt q3
      have q4 := ne_toInt q4
      have q5 := ne_toInt q5
      have q6 := ne_toInt q6
      have q7 := ne_toInt q7
      have q8 := ne_toInt q8
      have q9 := ne_toInt q9
      have e0 : (0 : Int32).toInt = 0 := by decide
      have e1 : (1 : Int32).toInt = 1 := by decide
      have e2 : (2 : Int32).toInt = 2 := by decide
      have e3 : (3 : Int32).toInt = 3 := by decide
      have e4 : (4 : Int32).toInt = 4 := by decide
      have e5 : (5 : Int32).toInt = 5 := by decide
      have e6 : (6 : Int32).toInt = 6 := by decide
      have e7 : (7 : Int32).toInt = 7 := by decide
      have e8 : (8 : Int32).toInt = 8 := by decide
      have e9 : (9 : Int32).toInt = 9 := by decide
      rw [e0] at q0
      rw [e1] at q1
      rw [e2] at q2
      rw [e3] at q3
      rw [e4] at q4
      rw [e5] at q5
      rw [e6] at q6
      rw [e7] at q7
      rw [e8] at q8
      rw [e9] at q9
      omega
    · refine sn_iconst (pc := 186) (v := (-1)) dX12_count_186 (by decide) ?_
      exact sn_iret (pc := 187) dX12_count_187 rfl
  · refine sn_iload (pc := 79) (j := 4) dX12_count_79 rfl ?_
    refine sn_aload_n (pc := 81) (j := 0) dX12_count_81 rfl rfl ?_
    refine sn_iload (pc := 82) (j := 6) dX12_count_82 rfl ?_
    refine sn_iconst (pc := 84) (v := 3) dX12_count_84 (by decide) ?_
    refine sn_callV (ci := 12) (pc := 85) dX12_count_85 iX12_handOf wt7_50 ws_62 wt7_48 ⟨_, rfl, rfl⟩ (by decide) (mX12_handOf a0 x6 3) (by decide) rfl rfl (Nat.le_of_ble_eq_true rfl) (fun v4005 => ?_)
    refine sn_iadd (pc := 88) dX12_count_88 ?_
    refine sn_istore (pc := 89) (i := 4) (lv' := [(4, .int (x4 + v4005)), (0, .ref (E.1 + a0)), (1, .int x1), (2, .int x2), (3, .int x3), (5, .int x5), (6, .int x6)]) dX12_count_89 (by decide) rfl ?_
    refine sn_iload (pc := 91) (j := 5) dX12_count_91 rfl ?_
    refine sn_aload_n (pc := 93) (j := 1) dX12_count_93 rfl rfl ?_
    refine sn_iload (pc := 94) (j := 6) dX12_count_94 rfl ?_
    refine sn_iconst (pc := 96) (v := 4) dX12_count_96 (by decide) ?_
    refine sn_callV (ci := 12) (pc := 97) dX12_count_97 iX12_handOf wt7_50 ws_62 wt7_48 ⟨_, rfl, rfl⟩ (by decide) (mX12_handOf a0 x6 4) (by decide) rfl rfl (Nat.le_of_ble_eq_true rfl) (fun v4006 => ?_)
    refine sn_iadd (pc := 100) dX12_count_100 ?_
    refine sn_istore (pc := 101) (i := 5) (lv' := [(5, .int (x5 + v4006)), (4, .int (x4 + v4005)), (0, .ref (E.1 + a0)), (1, .int x1), (2, .int x2), (3, .int x3), (6, .int x6)]) dX12_count_101 (by decide) rfl ?_
    refine sn_iinc (pc := 103) (v := x6 + 1) (lv' := [(6, .int (x6 + 1)), (5, .int (x5 + v4006)), (4, .int (x4 + v4005)), (0, .ref (E.1 + a0)), (1, .int x1), (2, .int x2), (3, .int x3)]) (j := 6) dX12_count_103 rfl rfl (by decide) rfl ?_
    refine sn_goto (pc := 106) (tgt := 68) dX12_count_106 (by decide) ?_
    exact sn_sub (lv' := [(0, .ref (E.1 + a0)), (1, .int x1), (2, .int x2), (3, .int x3), (4, .int (x4 + v4005)), (5, .int (x5 + v4006)), (6, .int (x6 + 1))]) [3, 4, 5, 6, 2, 1, 0] rfl (hk68 (a0, x1, x2, x3, (x4 + v4005), (x5 + v4006), (x6 + 1)))
def fX12_count_13 (k13 : (Nat × Int32 × Int32 × Int32 × Int32 × Int32 × Int32) → St → Option (Int32 × St)) (a0 : Nat) (x1 : Int32) (x2 : Int32) (x3 : Int32) (x4 : Int32) (x5 : Int32) (x6 : Int32) : St → Option (Int32 × St) :=
 gR 13 a0 0 fun v1001 =>
 nn v1001 fun a1003 =>
 aI 15 a1003 3 fun v1002 =>
 br (v1002 ≤ x6) (itr (fun k (p : Nat × Int32 × Int32 × Int32 × Int32 × Int32 × Int32) => fX12_count_68  k p.1 p.2.1 p.2.2.1 p.2.2.2.1 p.2.2.2.2.1 p.2.2.2.2.2.1 p.2.2.2.2.2.2) FU (a0, x1, x2, x3, x4, x5, 0))
 (ck 13 a0 <| cl (fX12_pieceOf a0 x6 4) fun v1004 =>
 br (0 ≤ v1004) (fX12_count_40 k13 a0 x1 x3 x4 x5 x6 0 x2)
 (fX12_count_40 k13 a0 x1 x3 x4 x5 x6 1 x2))
set_option maxHeartbeats 4000000 in
set_option maxRecDepth 100000 in
theorem sfX12_count_13 {E : Ev} {l : Launch} (k13 : (Nat × Int32 × Int32 × Int32 × Int32 × Int32 × Int32) → St → Option (Int32 × St)) (hk13 : ∀ p : Nat × Int32 × Int32 × Int32 × Int32 × Int32 × Int32, Snd E l (dpX12_count, RX12, cX12_count, 7, (some .int), "count") rvI 13 [(0, .ref (E.1 + p.1)), (1, .int p.2.1), (2, .int p.2.2.1), (3, .int p.2.2.2.1), (4, .int p.2.2.2.2.1), (5, .int p.2.2.2.2.2.1), (6, .int p.2.2.2.2.2.2)] [] (k13 p)) (a0 : Nat) (x1 : Int32) (x2 : Int32) (x3 : Int32) (x4 : Int32) (x5 : Int32) (x6 : Int32) : Snd E l (dpX12_count, RX12, cX12_count, 7, (some .int), "count") rvI 13 [(0, .ref (E.1 + a0)), (1, .int x1), (2, .int x2), (3, .int x3), (4, .int x4), (5, .int x5), (6, .int x6)] [] (fX12_count_13 k13 a0 x1 x2 x3 x4 x5 x6) := by
  unfold fX12_count_13
  refine sn_iload (pc := 13) (j := 6) dX12_count_13 rfl ?_
  refine sn_aload_n (pc := 15) (j := 0) dX12_count_15 rfl rfl ?_
  refine sn_gR (pc := 16) dX12_count_16 flX12_7 rfl (fun v1001 => ?_)
  refine sn_iconst (pc := 19) (v := 3) dX12_count_19 (by decide) ?_
  rcases v1001 with _ | a1003
  · exact sn_no
  refine sn_nn ?_
  refine sn_iald (pc := 20) dX12_count_20 (fun v1002 => ?_)
  refine sn_icmp_ge (pc := 21) (tgt := 65) dX12_count_21 (by decide) ?_ ?_
  · refine sn_iconst (pc := 65) (v := 0) dX12_count_65 (by decide) ?_
    refine sn_istore (pc := 66) (i := 6) (lv' := [(6, .int 0), (0, .ref (E.1 + a0)), (1, .int x1), (2, .int x2), (3, .int x3), (4, .int x4), (5, .int x5)]) dX12_count_66 (by decide) rfl ?_
    exact sn_sub (lv' := [(0, .ref (E.1 + a0)), (1, .int x1), (2, .int x2), (3, .int x3), (4, .int x4), (5, .int x5), (6, .int 0)]) [1, 2, 3, 4, 5, 6, 0] rfl (sn_itr (lvf := fun p => [(0, .ref (E.1 + p.1)), (1, .int p.2.1), (2, .int p.2.2.1), (3, .int p.2.2.2.1), (4, .int p.2.2.2.2.1), (5, .int p.2.2.2.2.2.1), (6, .int p.2.2.2.2.2.2)]) (stf := fun p => []) (fun k hk p => sfX12_count_68  k hk p.1 p.2.1 p.2.2.1 p.2.2.2.1 p.2.2.2.2.1 p.2.2.2.2.2.1 p.2.2.2.2.2.2) FU (a0, x1, x2, x3, x4, x5, 0))
  · refine sn_iload_n (pc := 24) (j := 2) dX12_count_24 rfl rfl ?_
    refine sn_aload_n (pc := 25) (j := 0) dX12_count_25 rfl rfl ?_
    refine sn_iload (pc := 26) (j := 6) dX12_count_26 rfl ?_
    refine sn_iconst (pc := 28) (v := 4) dX12_count_28 (by decide) ?_
    refine sn_callV (ci := 12) (pc := 29) dX12_count_29 iX12_pieceOf wt7_94 ws_67 wt7_92 ⟨_, rfl, rfl⟩ (by decide) (mX12_pieceOf a0 x6 4) (by decide) rfl rfl (Nat.le_of_ble_eq_true rfl) (fun v1004 => ?_)
    refine sn_if_ge (pc := 32) (tgt := 39) dX12_count_32 (by decide) ?_ ?_
    · refine sn_iconst (pc := 39) (v := 0) dX12_count_39 (by decide) ?_
      exact sn_sub (lv' := [(0, .ref (E.1 + a0)), (1, .int x1), (3, .int x3), (4, .int x4), (5, .int x5), (6, .int x6)]) [0, 1, 3, 4, 5, 6] rfl (sfX12_count_40 k13 hk13 a0 x1 x3 x4 x5 x6 0 x2)
    · refine sn_iconst (pc := 35) (v := 1) dX12_count_35 (by decide) ?_
      refine sn_goto (pc := 36) (tgt := 40) dX12_count_36 (by decide) ?_
      exact sn_sub (lv' := [(0, .ref (E.1 + a0)), (1, .int x1), (3, .int x3), (4, .int x4), (5, .int x5), (6, .int x6)]) [0, 1, 3, 4, 5, 6] rfl (sfX12_count_40 k13 hk13 a0 x1 x3 x4 x5 x6 1 x2)
def fX12_count (a0 : Nat) (x1 : Int32) : St → Option (Int32 × St) :=
 itr (fun k (p : Nat × Int32 × Int32 × Int32 × Int32 × Int32 × Int32) => fX12_count_13  k p.1 p.2.1 p.2.2.1 p.2.2.2.1 p.2.2.2.2.1 p.2.2.2.2.2.1 p.2.2.2.2.2.2) FU (a0, x1, 0, 0, 0, 0, 0)
set_option maxHeartbeats 4000000 in
set_option maxRecDepth 100000 in
theorem mX12_count {E : Ev} {l : Launch} (a0 : Nat) (x1 : Int32) : MF E l dpX12_count yX12_count cX12_count 7 (some .int) rvI [.ref (E.1 + a0), .int x1] (fX12_count a0 x1) := by
  refine MF.of (lv := [(0, .ref (E.1 + a0)), (1, .int x1)]) (by decide) (Nat.le_of_ble_eq_true rfl) rfl ?_
  unfold fX12_count
  refine sn_iconst (pc := 0) (v := 0) dX12_count_0 (by decide) ?_
  refine sn_istore_n (pc := 1) (i := 2) (lv' := [(2, .int 0), (0, .ref (E.1 + a0)), (1, .int x1)]) dX12_count_1 rfl (by decide) rfl ?_
  refine sn_iconst (pc := 2) (v := 0) dX12_count_2 (by decide) ?_
  refine sn_istore_n (pc := 3) (i := 3) (lv' := [(3, .int 0), (2, .int 0), (0, .ref (E.1 + a0)), (1, .int x1)]) dX12_count_3 rfl (by decide) rfl ?_
  refine sn_iconst (pc := 4) (v := 0) dX12_count_4 (by decide) ?_
  refine sn_istore (pc := 5) (i := 4) (lv' := [(4, .int 0), (3, .int 0), (2, .int 0), (0, .ref (E.1 + a0)), (1, .int x1)]) dX12_count_5 (by decide) rfl ?_
  refine sn_iconst (pc := 7) (v := 0) dX12_count_7 (by decide) ?_
  refine sn_istore (pc := 8) (i := 5) (lv' := [(5, .int 0), (4, .int 0), (3, .int 0), (2, .int 0), (0, .ref (E.1 + a0)), (1, .int x1)]) dX12_count_8 (by decide) rfl ?_
  refine sn_iconst (pc := 10) (v := 0) dX12_count_10 (by decide) ?_
  refine sn_istore (pc := 11) (i := 6) (lv' := [(6, .int 0), (5, .int 0), (4, .int 0), (3, .int 0), (2, .int 0), (0, .ref (E.1 + a0)), (1, .int x1)]) dX12_count_11 (by decide) rfl ?_
  exact sn_sub (lv' := [(0, .ref (E.1 + a0)), (1, .int x1), (2, .int 0), (3, .int 0), (4, .int 0), (5, .int 0), (6, .int 0)]) [5, 6, 4, 3, 2, 1, 0] rfl (sn_itr (lvf := fun p => [(0, .ref (E.1 + p.1)), (1, .int p.2.1), (2, .int p.2.2.1), (3, .int p.2.2.2.1), (4, .int p.2.2.2.2.1), (5, .int p.2.2.2.2.2.1), (6, .int p.2.2.2.2.2.2)]) (stf := fun p => []) (fun k hk p => sfX12_count_13  k hk p.1 p.2.1 p.2.2.1 p.2.2.2.1 p.2.2.2.2.1 p.2.2.2.2.2.1 p.2.2.2.2.2.2) FU (a0, x1, 0, 0, 0, 0, 0))
theorem iX12_count : MI yX12_count cX12_count 7 (some .int) 1 := ⟨wt1_10, wt7_205, by decide +kernel, by decide⟩
-- NeedleHomesModel image(I)Z
theorem dX12_image_0 : decode cX12_image 0 = .ok (.iload_n 1, 1) := by decide +kernel
theorem dX12_image_1 : decode cX12_image 1 = .ok (.iconst 0, 1) := by decide +kernel
theorem dX12_image_2 : decode cX12_image 2 = .ok (.iconst 2, 1) := by decide +kernel
theorem dX12_image_3 : decode cX12_image 3 = .ok (.invokestatic 51, 3) := by decide +kernel
theorem dX12_image_6 : decode cX12_image 6 = .ok (.ifCond .ne 5, 3) := by decide +kernel
theorem dX12_image_9 : decode cX12_image 9 = .ok (.iconst 0, 1) := by decide +kernel
theorem dX12_image_10 : decode cX12_image 10 = .ok (.ireturn, 1) := by decide +kernel
theorem dX12_image_11 : decode cX12_image 11 = .ok (.aload_n 0, 1) := by decide +kernel
theorem dX12_image_12 : decode cX12_image 12 = .ok (.getfield 13, 3) := by decide +kernel
theorem dX12_image_15 : decode cX12_image 15 = .ok (.iload_n 1, 1) := by decide +kernel
theorem dX12_image_16 : decode cX12_image 16 = .ok (.iconst 1, 1) := by decide +kernel
theorem dX12_image_17 : decode cX12_image 17 = .ok (.bastore, 1) := by decide +kernel
theorem dX12_image_18 : decode cX12_image 18 = .ok (.iconst 0, 1) := by decide +kernel
theorem dX12_image_19 : decode cX12_image 19 = .ok (.istore_n 2, 1) := by decide +kernel
theorem dX12_image_20 : decode cX12_image 20 = .ok (.iload_n 2, 1) := by decide +kernel
theorem dX12_image_21 : decode cX12_image 21 = .ok (.sipush 7440, 3) := by decide +kernel
theorem dX12_image_24 : decode cX12_image 24 = .ok (.if_icmp .ge 29, 3) := by decide +kernel
theorem dX12_image_27 : decode cX12_image 27 = .ok (.aload_n 0, 1) := by decide +kernel
theorem dX12_image_28 : decode cX12_image 28 = .ok (.getfield 7, 3) := by decide +kernel
theorem dX12_image_31 : decode cX12_image 31 = .ok (.sipush 7440, 3) := by decide +kernel
theorem dX12_image_34 : decode cX12_image 34 = .ok (.iload_n 1, 1) := by decide +kernel
theorem dX12_image_35 : decode cX12_image 35 = .ok (.iconst 1, 1) := by decide +kernel
theorem dX12_image_36 : decode cX12_image 36 = .ok (.iadd, 1) := by decide +kernel
theorem dX12_image_37 : decode cX12_image 37 = .ok (.imul, 1) := by decide +kernel
theorem dX12_image_38 : decode cX12_image 38 = .ok (.iload_n 2, 1) := by decide +kernel
theorem dX12_image_39 : decode cX12_image 39 = .ok (.iadd, 1) := by decide +kernel
theorem dX12_image_40 : decode cX12_image 40 = .ok (.aload_n 0, 1) := by decide +kernel
theorem dX12_image_41 : decode cX12_image 41 = .ok (.getfield 7, 3) := by decide +kernel
theorem dX12_image_44 : decode cX12_image 44 = .ok (.iload_n 2, 1) := by decide +kernel
theorem dX12_image_45 : decode cX12_image 45 = .ok (.iaload, 1) := by decide +kernel
theorem dX12_image_46 : decode cX12_image 46 = .ok (.iastore, 1) := by decide +kernel
theorem dX12_image_47 : decode cX12_image 47 = .ok (.iinc 2 1, 3) := by decide +kernel
theorem dX12_image_50 : decode cX12_image 50 = .ok (.goto (-30), 3) := by decide +kernel
theorem dX12_image_53 : decode cX12_image 53 = .ok (.iconst 1, 1) := by decide +kernel
theorem dX12_image_54 : decode cX12_image 54 = .ok (.ireturn, 1) := by decide +kernel
abbrev dpX12_image : Nat := 1
def fX12_image_20 (k20 : (Nat × Int32 × Int32) → St → Option (Bool × St)) (a0 : Nat) (x1 : Int32) (x2 : Int32) : St → Option (Bool × St) :=
 br (7440 ≤ x2) (rtZ 1)
 (gR 13 a0 0 fun v1001 =>
 gR 13 a0 0 fun v1002 =>
 nn v1002 fun a1004 =>
 aI 15 a1004 x2 fun v1003 =>
 nn v1001 fun a1005 =>
 wI a1005 ((7440 * (x1 + 1)) + x2) v1003 <|
 k20 (a0, x1, (x2 + 1)))
set_option maxHeartbeats 4000000 in
set_option maxRecDepth 100000 in
theorem sfX12_image_20 {E : Ev} {l : Launch} (k20 : (Nat × Int32 × Int32) → St → Option (Bool × St)) (hk20 : ∀ p : Nat × Int32 × Int32, Snd E l (dpX12_image, RX12, cX12_image, 3, (some .boolean), "image") rvZ 20 [(0, .ref (E.1 + p.1)), (1, .int p.2.1), (2, .int p.2.2)] [] (k20 p)) (a0 : Nat) (x1 : Int32) (x2 : Int32) : Snd E l (dpX12_image, RX12, cX12_image, 3, (some .boolean), "image") rvZ 20 [(0, .ref (E.1 + a0)), (1, .int x1), (2, .int x2)] [] (fX12_image_20 k20 a0 x1 x2) := by
  unfold fX12_image_20
  refine sn_iload_n (pc := 20) (j := 2) dX12_image_20 rfl rfl ?_
  refine sn_sipush (pc := 21) (v := 7440) dX12_image_21 (by decide) ?_
  refine sn_icmp_ge (pc := 24) (tgt := 53) dX12_image_24 (by decide) ?_ ?_
  · refine sn_iconst (pc := 53) (v := 1) dX12_image_53 (by decide) ?_
    exact sn_zret (pc := 54) dX12_image_54 rfl
  · refine sn_aload_n (pc := 27) (j := 0) dX12_image_27 rfl rfl ?_
    refine sn_gR (pc := 28) dX12_image_28 flX12_7 rfl (fun v1001 => ?_)
    refine sn_sipush (pc := 31) (v := 7440) dX12_image_31 (by decide) ?_
    refine sn_iload_n (pc := 34) (j := 1) dX12_image_34 rfl rfl ?_
    refine sn_iconst (pc := 35) (v := 1) dX12_image_35 (by decide) ?_
    refine sn_iadd (pc := 36) dX12_image_36 ?_
    refine sn_imul (pc := 37) dX12_image_37 ?_
    refine sn_iload_n (pc := 38) (j := 2) dX12_image_38 rfl rfl ?_
    refine sn_iadd (pc := 39) dX12_image_39 ?_
    refine sn_aload_n (pc := 40) (j := 0) dX12_image_40 rfl rfl ?_
    refine sn_gR (pc := 41) dX12_image_41 flX12_7 rfl (fun v1002 => ?_)
    refine sn_iload_n (pc := 44) (j := 2) dX12_image_44 rfl rfl ?_
    rcases v1002 with _ | a1004
    · exact sn_no
    refine sn_nn ?_
    refine sn_iald (pc := 45) dX12_image_45 (fun v1003 => ?_)
    rcases v1001 with _ | a1005
    · exact sn_no
    refine sn_nn ?_
    refine sn_iast (pc := 46) dX12_image_46 ?_
    refine sn_iinc (pc := 47) (v := x2 + 1) (lv' := [(2, .int (x2 + 1)), (0, .ref (E.1 + a0)), (1, .int x1)]) (j := 2) dX12_image_47 rfl rfl (by decide) rfl ?_
    refine sn_goto (pc := 50) (tgt := 20) dX12_image_50 (by decide) ?_
    exact sn_sub (lv' := [(0, .ref (E.1 + a0)), (1, .int x1), (2, .int (x2 + 1))]) [1, 2, 0] rfl (hk20 (a0, x1, (x2 + 1)))
def fX12_image (a0 : Nat) (x1 : Int32) : St → Option (Bool × St) :=
 cl (fX12_isIn x1 0 2) fun v1 =>
 br ((bi v1) = 0) (rtZ 0)
 (gR 13 a0 1 fun v2 =>
 nn v2 fun a3 =>
 wZ a3 x1 1 <|
 itr (fun k (p : Nat × Int32 × Int32) => fX12_image_20  k p.1 p.2.1 p.2.2) FU (a0, x1, 0))
set_option maxHeartbeats 4000000 in
set_option maxRecDepth 100000 in
theorem mX12_image {E : Ev} {l : Launch} (a0 : Nat) (x1 : Int32) : MF E l dpX12_image yX12_image cX12_image 3 (some .boolean) rvZ [.ref (E.1 + a0), .int x1] (fX12_image a0 x1) := by
  refine MF.of (lv := [(0, .ref (E.1 + a0)), (1, .int x1)]) (by decide) (Nat.le_of_ble_eq_true rfl) rfl ?_
  unfold fX12_image
  refine sn_iload_n (pc := 0) (j := 1) dX12_image_0 rfl rfl ?_
  refine sn_iconst (pc := 1) (v := 0) dX12_image_1 (by decide) ?_
  refine sn_iconst (pc := 2) (v := 2) dX12_image_2 (by decide) ?_
  refine sn_callS (pc := 3) dX12_image_3 iX12_isIn wt6_138 wt6_137 (mX12_isIn x1 0 2) (by decide) rfl rfl (Nat.le_of_ble_eq_true rfl) (fun v1 => ?_)
  refine sn_if_ne (pc := 6) (tgt := 11) dX12_image_6 (by decide) ?_ ?_
  · refine sn_aload_n (pc := 11) (j := 0) dX12_image_11 rfl rfl ?_
    refine sn_gR (pc := 12) dX12_image_12 flX12_13 rfl (fun v2 => ?_)
    refine sn_iload_n (pc := 15) (j := 1) dX12_image_15 rfl rfl ?_
    refine sn_iconst (pc := 16) (v := 1) dX12_image_16 (by decide) ?_
    rcases v2 with _ | a3
    · exact sn_no
    refine sn_nn ?_
    refine sn_zast (pc := 17) dX12_image_17 ?_
    refine sn_iconst (pc := 18) (v := 0) dX12_image_18 (by decide) ?_
    refine sn_istore_n (pc := 19) (i := 2) (lv' := [(2, .int 0), (0, .ref (E.1 + a0)), (1, .int x1)]) dX12_image_19 rfl (by decide) rfl ?_
    exact sn_sub (lv' := [(0, .ref (E.1 + a0)), (1, .int x1), (2, .int 0)]) [1, 2, 0] rfl (sn_itr (lvf := fun p => [(0, .ref (E.1 + p.1)), (1, .int p.2.1), (2, .int p.2.2)]) (stf := fun p => []) (fun k hk p => sfX12_image_20  k hk p.1 p.2.1 p.2.2) FU (a0, x1, 0))
  · refine sn_iconst (pc := 9) (v := 0) dX12_image_9 (by decide) ?_
    exact sn_zret (pc := 10) dX12_image_10 rfl
theorem iX12_image : MI yX12_image cX12_image 3 (some .boolean) 1 := ⟨wt1_10, wt7_209, by decide +kernel, by decide⟩
