-- NeedleHomes$PatternReader stitchesInAll()I
theorem dX6_stitchesInAll_0 : decode cX6_stitchesInAll 0 = .ok (.iconst 0, 1) := by decide +kernel
theorem dX6_stitchesInAll_1 : decode cX6_stitchesInAll 1 = .ok (.istore_n 1, 1) := by decide +kernel
theorem dX6_stitchesInAll_2 : decode cX6_stitchesInAll 2 = .ok (.iconst 0, 1) := by decide +kernel
theorem dX6_stitchesInAll_3 : decode cX6_stitchesInAll 3 = .ok (.istore_n 2, 1) := by decide +kernel
theorem dX6_stitchesInAll_4 : decode cX6_stitchesInAll 4 = .ok (.iload_n 2, 1) := by decide +kernel
theorem dX6_stitchesInAll_5 : decode cX6_stitchesInAll 5 = .ok (.bipush 6, 2) := by decide +kernel
theorem dX6_stitchesInAll_7 : decode cX6_stitchesInAll 7 = .ok (.if_icmp .ge 32, 3) := by decide +kernel
theorem dX6_stitchesInAll_10 : decode cX6_stitchesInAll 10 = .ok (.iconst 0, 1) := by decide +kernel
theorem dX6_stitchesInAll_11 : decode cX6_stitchesInAll 11 = .ok (.istore_n 3, 1) := by decide +kernel
theorem dX6_stitchesInAll_12 : decode cX6_stitchesInAll 12 = .ok (.iload_n 3, 1) := by decide +kernel
theorem dX6_stitchesInAll_13 : decode cX6_stitchesInAll 13 = .ok (.iconst 4, 1) := by decide +kernel
theorem dX6_stitchesInAll_14 : decode cX6_stitchesInAll 14 = .ok (.if_icmp .ge 19, 3) := by decide +kernel
theorem dX6_stitchesInAll_17 : decode cX6_stitchesInAll 17 = .ok (.iload_n 1, 1) := by decide +kernel
theorem dX6_stitchesInAll_18 : decode cX6_stitchesInAll 18 = .ok (.aload_n 0, 1) := by decide +kernel
theorem dX6_stitchesInAll_19 : decode cX6_stitchesInAll 19 = .ok (.iconst 0, 1) := by decide +kernel
theorem dX6_stitchesInAll_20 : decode cX6_stitchesInAll 20 = .ok (.iload_n 2, 1) := by decide +kernel
theorem dX6_stitchesInAll_21 : decode cX6_stitchesInAll 21 = .ok (.iload_n 3, 1) := by decide +kernel
theorem dX6_stitchesInAll_22 : decode cX6_stitchesInAll 22 = .ok (.invokevirtual 111, 3) := by decide +kernel
theorem dX6_stitchesInAll_25 : decode cX6_stitchesInAll 25 = .ok (.iadd, 1) := by decide +kernel
theorem dX6_stitchesInAll_26 : decode cX6_stitchesInAll 26 = .ok (.istore_n 1, 1) := by decide +kernel
theorem dX6_stitchesInAll_27 : decode cX6_stitchesInAll 27 = .ok (.iinc 3 1, 3) := by decide +kernel
theorem dX6_stitchesInAll_30 : decode cX6_stitchesInAll 30 = .ok (.goto (-18), 3) := by decide +kernel
theorem dX6_stitchesInAll_33 : decode cX6_stitchesInAll 33 = .ok (.iinc 2 1, 3) := by decide +kernel
theorem dX6_stitchesInAll_36 : decode cX6_stitchesInAll 36 = .ok (.goto (-32), 3) := by decide +kernel
theorem dX6_stitchesInAll_39 : decode cX6_stitchesInAll 39 = .ok (.iload_n 1, 1) := by decide +kernel
theorem dX6_stitchesInAll_40 : decode cX6_stitchesInAll 40 = .ok (.ireturn, 1) := by decide +kernel
abbrev dpX6_stitchesInAll : Nat := 2
def fX6_stitchesInAll_12 (k4 : (Nat × Int32 × Int32) → St → Option (Int32 × St)) (k12 : (Nat × Int32 × Int32 × Int32) → St → Option (Int32 × St)) (a0 : Nat) (x1 : Int32) (x2 : Int32) (x3 : Int32) : St → Option (Int32 × St) :=
 br (4 ≤ x3) (k4 (a0, x1, (x2 + 1)))
 (ck 7 a0 <| cl (fX6_countAt a0 0 x2 x3) fun v2001 =>
 k12 (a0, (x1 + v2001), x2, (x3 + 1)))
set_option maxHeartbeats 4000000 in
set_option maxRecDepth 100000 in
theorem sfX6_stitchesInAll_12 {E : Ev} {l : Launch} (k4 : (Nat × Int32 × Int32) → St → Option (Int32 × St)) (hk4 : ∀ p : Nat × Int32 × Int32, Snd E l (dpX6_stitchesInAll, RX6, cX6_stitchesInAll, 4, (some .int), "stitchesInAll") rvI 4 [(0, .ref (E.1 + p.1)), (1, .int p.2.1), (2, .int p.2.2)] [] (k4 p)) (k12 : (Nat × Int32 × Int32 × Int32) → St → Option (Int32 × St)) (hk12 : ∀ p : Nat × Int32 × Int32 × Int32, Snd E l (dpX6_stitchesInAll, RX6, cX6_stitchesInAll, 4, (some .int), "stitchesInAll") rvI 12 [(0, .ref (E.1 + p.1)), (1, .int p.2.1), (2, .int p.2.2.1), (3, .int p.2.2.2)] [] (k12 p)) (a0 : Nat) (x1 : Int32) (x2 : Int32) (x3 : Int32) : Snd E l (dpX6_stitchesInAll, RX6, cX6_stitchesInAll, 4, (some .int), "stitchesInAll") rvI 12 [(0, .ref (E.1 + a0)), (1, .int x1), (2, .int x2), (3, .int x3)] [] (fX6_stitchesInAll_12 k4 k12 a0 x1 x2 x3) := by
  unfold fX6_stitchesInAll_12
  refine sn_iload_n (pc := 12) (j := 3) dX6_stitchesInAll_12 rfl rfl ?_
  refine sn_iconst (pc := 13) (v := 4) dX6_stitchesInAll_13 (by decide) ?_
  refine sn_icmp_ge (pc := 14) (tgt := 33) dX6_stitchesInAll_14 (by decide) ?_ ?_
  · refine sn_iinc (pc := 33) (v := x2 + 1) (lv' := [(2, .int (x2 + 1)), (0, .ref (E.1 + a0)), (1, .int x1), (3, .int x3)]) (j := 2) dX6_stitchesInAll_33 rfl rfl (by decide) rfl ?_
    refine sn_goto (pc := 36) (tgt := 4) dX6_stitchesInAll_36 (by decide) ?_
    exact sn_sub (lv' := [(0, .ref (E.1 + a0)), (1, .int x1), (2, .int (x2 + 1))]) [1, 2, 0] rfl (hk4 (a0, x1, (x2 + 1)))
  · refine sn_iload_n (pc := 17) (j := 1) dX6_stitchesInAll_17 rfl rfl ?_
    refine sn_aload_n (pc := 18) (j := 0) dX6_stitchesInAll_18 rfl rfl ?_
    refine sn_iconst (pc := 19) (v := 0) dX6_stitchesInAll_19 (by decide) ?_
    refine sn_iload_n (pc := 20) (j := 2) dX6_stitchesInAll_20 rfl rfl ?_
    refine sn_iload_n (pc := 21) (j := 3) dX6_stitchesInAll_21 rfl rfl ?_
    refine sn_callV (ci := 6) (pc := 22) dX6_stitchesInAll_22 iX6_countAt wt2_211 wt2_212 wt2_210 ⟨_, rfl, rfl⟩ (by decide) (mX6_countAt a0 0 x2 x3) (by decide) rfl rfl (Nat.le_of_ble_eq_true rfl) (fun v2001 => ?_)
    refine sn_iadd (pc := 25) dX6_stitchesInAll_25 ?_
    refine sn_istore_n (pc := 26) (i := 1) (lv' := [(1, .int (x1 + v2001)), (0, .ref (E.1 + a0)), (2, .int x2), (3, .int x3)]) dX6_stitchesInAll_26 rfl (by decide) rfl ?_
    refine sn_iinc (pc := 27) (v := x3 + 1) (lv' := [(3, .int (x3 + 1)), (1, .int (x1 + v2001)), (0, .ref (E.1 + a0)), (2, .int x2)]) (j := 3) dX6_stitchesInAll_27 rfl rfl (by decide) rfl ?_
    refine sn_goto (pc := 30) (tgt := 12) dX6_stitchesInAll_30 (by decide) ?_
    exact sn_sub (lv' := [(0, .ref (E.1 + a0)), (1, .int (x1 + v2001)), (2, .int x2), (3, .int (x3 + 1))]) [2, 1, 3, 0] rfl (hk12 (a0, (x1 + v2001), x2, (x3 + 1)))
def fX6_stitchesInAll_4 (k4 : (Nat × Int32 × Int32) → St → Option (Int32 × St)) (a0 : Nat) (x1 : Int32) (x2 : Int32) : St → Option (Int32 × St) :=
 br (6 ≤ x2) (rt x1)
 (itr (fun k (p : Nat × Int32 × Int32 × Int32) => fX6_stitchesInAll_12 k4 k p.1 p.2.1 p.2.2.1 p.2.2.2) FU (a0, x1, x2, 0))
set_option maxHeartbeats 4000000 in
set_option maxRecDepth 100000 in
theorem sfX6_stitchesInAll_4 {E : Ev} {l : Launch} (k4 : (Nat × Int32 × Int32) → St → Option (Int32 × St)) (hk4 : ∀ p : Nat × Int32 × Int32, Snd E l (dpX6_stitchesInAll, RX6, cX6_stitchesInAll, 4, (some .int), "stitchesInAll") rvI 4 [(0, .ref (E.1 + p.1)), (1, .int p.2.1), (2, .int p.2.2)] [] (k4 p)) (a0 : Nat) (x1 : Int32) (x2 : Int32) : Snd E l (dpX6_stitchesInAll, RX6, cX6_stitchesInAll, 4, (some .int), "stitchesInAll") rvI 4 [(0, .ref (E.1 + a0)), (1, .int x1), (2, .int x2)] [] (fX6_stitchesInAll_4 k4 a0 x1 x2) := by
  unfold fX6_stitchesInAll_4
  refine sn_iload_n (pc := 4) (j := 2) dX6_stitchesInAll_4 rfl rfl ?_
  refine sn_bipush (pc := 5) (v := 6) dX6_stitchesInAll_5 (by decide) ?_
  refine sn_icmp_ge (pc := 7) (tgt := 39) dX6_stitchesInAll_7 (by decide) ?_ ?_
  · refine sn_iload_n (pc := 39) (j := 1) dX6_stitchesInAll_39 rfl rfl ?_
    exact sn_iret (pc := 40) dX6_stitchesInAll_40 rfl
  · refine sn_iconst (pc := 10) (v := 0) dX6_stitchesInAll_10 (by decide) ?_
    refine sn_istore_n (pc := 11) (i := 3) (lv' := [(3, .int 0), (0, .ref (E.1 + a0)), (1, .int x1), (2, .int x2)]) dX6_stitchesInAll_11 rfl (by decide) rfl ?_
    exact sn_sub (lv' := [(0, .ref (E.1 + a0)), (1, .int x1), (2, .int x2), (3, .int 0)]) [1, 2, 3, 0] rfl (sn_itr (lvf := fun p => [(0, .ref (E.1 + p.1)), (1, .int p.2.1), (2, .int p.2.2.1), (3, .int p.2.2.2)]) (stf := fun p => []) (fun k hk p => sfX6_stitchesInAll_12 k4 hk4 k hk p.1 p.2.1 p.2.2.1 p.2.2.2) FU (a0, x1, x2, 0))
def fX6_stitchesInAll (a0 : Nat) : St → Option (Int32 × St) :=
 itr (fun k (p : Nat × Int32 × Int32) => fX6_stitchesInAll_4  k p.1 p.2.1 p.2.2) FU (a0, 0, 0)
set_option maxHeartbeats 4000000 in
set_option maxRecDepth 100000 in
theorem mX6_stitchesInAll {E : Ev} {l : Launch} (a0 : Nat) : MF E l dpX6_stitchesInAll yX6_stitchesInAll cX6_stitchesInAll 4 (some .int) rvI [.ref (E.1 + a0)] (fX6_stitchesInAll a0) := by
  refine MF.of (lv := [(0, .ref (E.1 + a0))]) (by decide) (Nat.le_of_ble_eq_true rfl) rfl ?_
  unfold fX6_stitchesInAll
  refine sn_iconst (pc := 0) (v := 0) dX6_stitchesInAll_0 (by decide) ?_
  refine sn_istore_n (pc := 1) (i := 1) (lv' := [(1, .int 0), (0, .ref (E.1 + a0))]) dX6_stitchesInAll_1 rfl (by decide) rfl ?_
  refine sn_iconst (pc := 2) (v := 0) dX6_stitchesInAll_2 (by decide) ?_
  refine sn_istore_n (pc := 3) (i := 2) (lv' := [(2, .int 0), (1, .int 0), (0, .ref (E.1 + a0))]) dX6_stitchesInAll_3 rfl (by decide) rfl ?_
  exact sn_sub (lv' := [(0, .ref (E.1 + a0)), (1, .int 0), (2, .int 0)]) [2, 1, 0] rfl (sn_itr (lvf := fun p => [(0, .ref (E.1 + p.1)), (1, .int p.2.1), (2, .int p.2.2)]) (stf := fun p => []) (fun k hk p => sfX6_stitchesInAll_4  k hk p.1 p.2.1 p.2.2) FU (a0, 0, 0))
theorem iX6_stitchesInAll : MI yX6_stitchesInAll cX6_stitchesInAll 4 (some .int) 0 := ⟨wt1_4, wt2_217, by decide +kernel, by decide⟩
-- NeedleHomes$PatternReader read([BI)V
theorem dX6_read_0 : decode cX6_read 0 = .ok (.aload_n 0, 1) := by decide +kernel
theorem dX6_read_1 : decode cX6_read 1 = .ok (.getfield 14, 3) := by decide +kernel
theorem dX6_read_4 : decode cX6_read 4 = .ok (.aload_n 1, 1) := by decide +kernel
theorem dX6_read_5 : decode cX6_read 5 = .ok (.iload_n 2, 1) := by decide +kernel
theorem dX6_read_6 : decode cX6_read 6 = .ok (.invokevirtual 28, 3) := by decide +kernel
theorem dX6_read_9 : decode cX6_read 9 = .ok (.aload_n 0, 1) := by decide +kernel
theorem dX6_read_10 : decode cX6_read 10 = .ok (.iconst 0, 1) := by decide +kernel
theorem dX6_read_11 : decode cX6_read 11 = .ok (.putfield 32, 3) := by decide +kernel
theorem dX6_read_14 : decode cX6_read 14 = .ok (.aload_n 0, 1) := by decide +kernel
theorem dX6_read_15 : decode cX6_read 15 = .ok (.iconst 0, 1) := by decide +kernel
theorem dX6_read_16 : decode cX6_read 16 = .ok (.invokevirtual 36, 3) := by decide +kernel
theorem dX6_read_19 : decode cX6_read 19 = .ok (.aload_n 0, 1) := by decide +kernel
theorem dX6_read_20 : decode cX6_read 20 = .ok (.getfield 22, 3) := by decide +kernel
theorem dX6_read_23 : decode cX6_read 23 = .ok (.iconst 0, 1) := by decide +kernel
theorem dX6_read_24 : decode cX6_read 24 = .ok (.iconst 0, 1) := by decide +kernel
theorem dX6_read_25 : decode cX6_read 25 = .ok (.iastore, 1) := by decide +kernel
theorem dX6_read_26 : decode cX6_read 26 = .ok (.iconst 1, 1) := by decide +kernel
theorem dX6_read_27 : decode cX6_read 27 = .ok (.istore_n 3, 1) := by decide +kernel
theorem dX6_read_28 : decode cX6_read 28 = .ok (.iconst 0, 1) := by decide +kernel
theorem dX6_read_29 : decode cX6_read 29 = .ok (.istore 4, 2) := by decide +kernel
theorem dX6_read_31 : decode cX6_read 31 = .ok (.iload 4, 2) := by decide +kernel
theorem dX6_read_33 : decode cX6_read 33 = .ok (.sipush 400, 3) := by decide +kernel
theorem dX6_read_36 : decode cX6_read 36 = .ok (.if_icmp .gt 43, 3) := by decide +kernel
theorem dX6_read_39 : decode cX6_read 39 = .ok (.iload_n 3, 1) := by decide +kernel
theorem dX6_read_40 : decode cX6_read 40 = .ok (.ifCond .eq 39, 3) := by decide +kernel
theorem dX6_read_43 : decode cX6_read 43 = .ok (.aload_n 0, 1) := by decide +kernel
theorem dX6_read_44 : decode cX6_read 44 = .ok (.getfield 14, 3) := by decide +kernel
theorem dX6_read_47 : decode cX6_read 47 = .ok (.getfield 40, 3) := by decide +kernel
theorem dX6_read_50 : decode cX6_read 50 = .ok (.ifCond .ne 10, 3) := by decide +kernel
theorem dX6_read_53 : decode cX6_read 53 = .ok (.aload_n 0, 1) := by decide +kernel
theorem dX6_read_54 : decode cX6_read 54 = .ok (.getfield 32, 3) := by decide +kernel
theorem dX6_read_57 : decode cX6_read 57 = .ok (.ifCond .le 14, 3) := by decide +kernel
theorem dX6_read_60 : decode cX6_read 60 = .ok (.aload_n 0, 1) := by decide +kernel
theorem dX6_read_61 : decode cX6_read 61 = .ok (.invokevirtual 43, 3) := by decide +kernel
theorem dX6_read_64 : decode cX6_read 64 = .ok (.ifCond .eq 7, 3) := by decide +kernel
theorem dX6_read_67 : decode cX6_read 67 = .ok (.iconst 1, 1) := by decide +kernel
theorem dX6_read_68 : decode cX6_read 68 = .ok (.goto 4, 3) := by decide +kernel
theorem dX6_read_71 : decode cX6_read 71 = .ok (.iconst 0, 1) := by decide +kernel
theorem dX6_read_72 : decode cX6_read 72 = .ok (.istore_n 3, 1) := by decide +kernel
theorem dX6_read_73 : decode cX6_read 73 = .ok (.iinc 4 1, 3) := by decide +kernel
theorem dX6_read_76 : decode cX6_read 76 = .ok (.goto (-45), 3) := by decide +kernel
theorem dX6_read_79 : decode cX6_read 79 = .ok (.aload_n 0, 1) := by decide +kernel
theorem dX6_read_80 : decode cX6_read 80 = .ok (.invokevirtual 47, 3) := by decide +kernel
theorem dX6_read_83 : decode cX6_read 83 = .ok (.ldc 51, 2) := by decide +kernel
theorem dX6_read_85 : decode cX6_read 85 = .ok (.if_icmp .le 12, 3) := by decide +kernel
theorem dX6_read_88 : decode cX6_read 88 = .ok (.aload_n 0, 1) := by decide +kernel
theorem dX6_read_89 : decode cX6_read 89 = .ok (.getfield 14, 3) := by decide +kernel
theorem dX6_read_92 : decode cX6_read 92 = .ok (.iconst 4, 1) := by decide +kernel
theorem dX6_read_93 : decode cX6_read 93 = .ok (.iconst 0, 1) := by decide +kernel
theorem dX6_read_94 : decode cX6_read 94 = .ok (.invokevirtual 52, 3) := by decide +kernel
theorem dX6_read_97 : decode cX6_read 97 = .ok (.return_, 1) := by decide +kernel
abbrev dpX6_read : Nat := 5
def fX6_read_72 (k31 : (Nat × Int32 × Int32) → St → Option (Unit × St)) (a0 : Nat) (x4 : Int32) (y0 : Int32) : St → Option (Unit × St) :=
 k31 (a0, y0, (x4 + 1))
set_option maxHeartbeats 4000000 in
set_option maxRecDepth 100000 in
theorem sfX6_read_72 {E : Ev} {l : Launch} (k31 : (Nat × Int32 × Int32) → St → Option (Unit × St)) (hk31 : ∀ p : Nat × Int32 × Int32, Snd E l (dpX6_read, RX6, cX6_read, 5, none, "read") rvV 31 [(0, .ref (E.1 + p.1)), (3, .int p.2.1), (4, .int p.2.2)] [] (k31 p)) (a0 : Nat) (x4 : Int32) (y0 : Int32) : Snd E l (dpX6_read, RX6, cX6_read, 5, none, "read") rvV 72 [(0, .ref (E.1 + a0)), (4, .int x4)] [.int y0] (fX6_read_72 k31 a0 x4 y0) := by
  unfold fX6_read_72
  refine sn_istore_n (pc := 72) (i := 3) (lv' := [(3, .int y0), (0, .ref (E.1 + a0)), (4, .int x4)]) dX6_read_72 rfl (by decide) rfl ?_
  refine sn_iinc (pc := 73) (v := x4 + 1) (lv' := [(4, .int (x4 + 1)), (3, .int y0), (0, .ref (E.1 + a0))]) (j := 2) dX6_read_73 rfl rfl (by decide) rfl ?_
  refine sn_goto (pc := 76) (tgt := 31) dX6_read_76 (by decide) ?_
  exact sn_sub (lv' := [(0, .ref (E.1 + a0)), (3, .int y0), (4, .int (x4 + 1))]) [2, 1, 0] rfl (hk31 (a0, y0, (x4 + 1)))
def fX6_read_71 (k31 : (Nat × Int32 × Int32) → St → Option (Unit × St)) (a0 : Nat) (x4 : Int32) : St → Option (Unit × St) :=
 fX6_read_72 k31 a0 x4 0
set_option maxHeartbeats 4000000 in
set_option maxRecDepth 100000 in
theorem sfX6_read_71 {E : Ev} {l : Launch} (k31 : (Nat × Int32 × Int32) → St → Option (Unit × St)) (hk31 : ∀ p : Nat × Int32 × Int32, Snd E l (dpX6_read, RX6, cX6_read, 5, none, "read") rvV 31 [(0, .ref (E.1 + p.1)), (3, .int p.2.1), (4, .int p.2.2)] [] (k31 p)) (a0 : Nat) (x4 : Int32) : Snd E l (dpX6_read, RX6, cX6_read, 5, none, "read") rvV 71 [(0, .ref (E.1 + a0)), (4, .int x4)] [] (fX6_read_71 k31 a0 x4) := by
  unfold fX6_read_71
  refine sn_iconst (pc := 71) (v := 0) dX6_read_71 (by decide) ?_
  exact sn_sub (lv' := [(0, .ref (E.1 + a0)), (4, .int x4)]) [0, 1] rfl (sfX6_read_72 k31 hk31 a0 x4 0)
def fX6_read_60 (k31 : (Nat × Int32 × Int32) → St → Option (Unit × St)) (a0 : Nat) (x4 : Int32) : St → Option (Unit × St) :=
 ck 7 a0 <| cl (fX6_readItem a0) fun v2001 =>
 br ((bi v2001) = 0) (fX6_read_71 k31 a0 x4)
 (fX6_read_72 k31 a0 x4 1)
set_option maxHeartbeats 4000000 in
set_option maxRecDepth 100000 in
theorem sfX6_read_60 {E : Ev} {l : Launch} (k31 : (Nat × Int32 × Int32) → St → Option (Unit × St)) (hk31 : ∀ p : Nat × Int32 × Int32, Snd E l (dpX6_read, RX6, cX6_read, 5, none, "read") rvV 31 [(0, .ref (E.1 + p.1)), (3, .int p.2.1), (4, .int p.2.2)] [] (k31 p)) (a0 : Nat) (x4 : Int32) : Snd E l (dpX6_read, RX6, cX6_read, 5, none, "read") rvV 60 [(0, .ref (E.1 + a0)), (4, .int x4)] [] (fX6_read_60 k31 a0 x4) := by
  unfold fX6_read_60
  refine sn_aload_n (pc := 60) (j := 0) dX6_read_60 rfl rfl ?_
  refine sn_callV (ci := 6) (pc := 61) dX6_read_61 iX6_readItem wt2_149 ws_3 wt2_147 ⟨_, rfl, rfl⟩ (by decide) (mX6_readItem a0) (by decide) rfl rfl (Nat.le_of_ble_eq_true rfl) (fun v2001 => ?_)
  refine sn_if_eq (pc := 64) (tgt := 71) dX6_read_64 (by decide) ?_ ?_
  · exact sn_sub (lv' := [(0, .ref (E.1 + a0)), (4, .int x4)]) [0, 1] rfl (sfX6_read_71 k31 hk31 a0 x4)
  · refine sn_iconst (pc := 67) (v := 1) dX6_read_67 (by decide) ?_
    refine sn_goto (pc := 68) (tgt := 72) dX6_read_68 (by decide) ?_
    exact sn_sub (lv' := [(0, .ref (E.1 + a0)), (4, .int x4)]) [0, 1] rfl (sfX6_read_72 k31 hk31 a0 x4 1)
def fX6_read_79 (a0 : Nat) : St → Option (Unit × St) :=
 ck 7 a0 <| cl (fX6_stitchesInAll a0) fun v5001 =>
 br (v5001 ≤ 1000000) (rt ())
 (gR 7 a0 0 fun v5002 =>
 nn v5002 fun a5003 =>
 ck 9 a5003 <| cl (fX8_noteFault a5003 4 0) fun v5004 =>
 rt ())
set_option maxHeartbeats 4000000 in
set_option maxRecDepth 100000 in
theorem sfX6_read_79 {E : Ev} {l : Launch} (a0 : Nat) : Snd E l (dpX6_read, RX6, cX6_read, 5, none, "read") rvV 79 [(0, .ref (E.1 + a0))] [] (fX6_read_79 a0) := by
  unfold fX6_read_79
  refine sn_aload_n (pc := 79) (j := 0) dX6_read_79 rfl rfl ?_
  refine sn_callV (ci := 6) (pc := 80) dX6_read_80 iX6_stitchesInAll wt2_216 ws_12 wt2_214 ⟨_, rfl, rfl⟩ (by decide) (mX6_stitchesInAll a0) (by decide) rfl rfl (Nat.le_of_ble_eq_true rfl) (fun v5001 => ?_)
  refine sn_ldc (pc := 83) (v := 1000000) dX6_read_83 wt2_218 ?_
  refine sn_icmp_le (pc := 85) (tgt := 97) dX6_read_85 (by decide) ?_ ?_
  · exact sn_vret (pc := 97) dX6_read_97 rfl
  · refine sn_aload_n (pc := 88) (j := 0) dX6_read_88 rfl rfl ?_
    refine sn_gR (pc := 89) dX6_read_89 flX6_14 rfl (fun v5002 => ?_)
    refine sn_iconst (pc := 92) (v := 4) dX6_read_92 (by decide) ?_
    refine sn_iconst (pc := 93) (v := 0) dX6_read_93 (by decide) ?_
    rcases v5002 with _ | a5003
    · exact sn_no
    refine sn_nn ?_
    refine sn_callV (ci := 8) (pc := 94) dX6_read_94 iX8_noteFault wt2_168 wt2_169 wt2_167 ⟨_, rfl, rfl⟩ (by decide) (mX8_noteFault a5003 4 0) (by decide) rfl rfl (Nat.le_of_ble_eq_true rfl) (fun v5004 => ?_)
    exact sn_vret (pc := 97) dX6_read_97 rfl
def fX6_read_31 (k31 : (Nat × Int32 × Int32) → St → Option (Unit × St)) (a0 : Nat) (x3 : Int32) (x4 : Int32) : St → Option (Unit × St) :=
 br (400 < x4) (fX6_read_79  a0)
 (br (x3 = 0) (fX6_read_79  a0)
 (gR 7 a0 0 fun v1001 =>
 nn v1001 fun a1003 =>
 gI 9 a1003 0 fun v1002 =>
 br (v1002 = 0) (gI 7 a0 1 fun v1004 =>
 br (v1004 ≤ 0) (fX6_read_71 k31 a0 x4)
 (fX6_read_60 k31 a0 x4))
 (fX6_read_60 k31 a0 x4)))
set_option maxHeartbeats 4000000 in
set_option maxRecDepth 100000 in
theorem sfX6_read_31 {E : Ev} {l : Launch} (k31 : (Nat × Int32 × Int32) → St → Option (Unit × St)) (hk31 : ∀ p : Nat × Int32 × Int32, Snd E l (dpX6_read, RX6, cX6_read, 5, none, "read") rvV 31 [(0, .ref (E.1 + p.1)), (3, .int p.2.1), (4, .int p.2.2)] [] (k31 p)) (a0 : Nat) (x3 : Int32) (x4 : Int32) : Snd E l (dpX6_read, RX6, cX6_read, 5, none, "read") rvV 31 [(0, .ref (E.1 + a0)), (3, .int x3), (4, .int x4)] [] (fX6_read_31 k31 a0 x3 x4) := by
  unfold fX6_read_31
  refine sn_iload (pc := 31) (j := 2) dX6_read_31 rfl ?_
  refine sn_sipush (pc := 33) (v := 400) dX6_read_33 (by decide) ?_
  refine sn_icmp_gt (pc := 36) (tgt := 79) dX6_read_36 (by decide) ?_ ?_
  · exact sn_sub (lv' := [(0, .ref (E.1 + a0))]) [0] rfl (sfX6_read_79  a0)
  · refine sn_iload_n (pc := 39) (j := 1) dX6_read_39 rfl rfl ?_
    refine sn_if_eq (pc := 40) (tgt := 79) dX6_read_40 (by decide) ?_ ?_
    · exact sn_sub (lv' := [(0, .ref (E.1 + a0))]) [0] rfl (sfX6_read_79  a0)
    · refine sn_aload_n (pc := 43) (j := 0) dX6_read_43 rfl rfl ?_
      refine sn_gR (pc := 44) dX6_read_44 flX6_14 rfl (fun v1001 => ?_)
      rcases v1001 with _ | a1003
      · exact sn_no
      refine sn_nn ?_
      refine sn_gI (pc := 47) dX6_read_47 flX6_40 rfl (fun v1002 => ?_)
      refine sn_if_ne (pc := 50) (tgt := 60) dX6_read_50 (by decide) ?_ ?_
      · exact sn_sub (lv' := [(0, .ref (E.1 + a0)), (4, .int x4)]) [0, 2] rfl (sfX6_read_60 k31 hk31 a0 x4)
      · refine sn_aload_n (pc := 53) (j := 0) dX6_read_53 rfl rfl ?_
        refine sn_gI (pc := 54) dX6_read_54 flX6_32 rfl (fun v1004 => ?_)
        refine sn_if_le (pc := 57) (tgt := 71) dX6_read_57 (by decide) ?_ ?_
        · exact sn_sub (lv' := [(0, .ref (E.1 + a0)), (4, .int x4)]) [0, 2] rfl (sfX6_read_71 k31 hk31 a0 x4)
        · exact sn_sub (lv' := [(0, .ref (E.1 + a0)), (4, .int x4)]) [0, 2] rfl (sfX6_read_60 k31 hk31 a0 x4)
def fX6_read (a0 : Nat) (x1 : Option Nat) (x2 : Int32) : St → Option (Unit × St) :=
 gR 7 a0 0 fun v1 =>
 nn v1 fun a2 =>
 ck 9 a2 <| cl (fX8_start a2 x1 x2) fun v3 =>
 pI 7 a0 1 0 <|
 ck 7 a0 <| cl (fX6_clearLevel a0 0) fun v4 =>
 gR 7 a0 3 fun v5 =>
 nn v5 fun a6 =>
 wI a6 0 0 <|
 itr (fun k (p : Nat × Int32 × Int32) => fX6_read_31  k p.1 p.2.1 p.2.2) FU (a0, 1, 0)
set_option maxHeartbeats 4000000 in
set_option maxRecDepth 100000 in
theorem mX6_read {E : Ev} {l : Launch} (a0 : Nat) (x1 : Option Nat) (x2 : Int32) : MF E l dpX6_read yX6_read cX6_read 5 none rvV [.ref (E.1 + a0), rf E.1 x1, .int x2] (fX6_read a0 x1 x2) := by
  refine MF.of (lv := [(0, .ref (E.1 + a0)), (1, rf E.1 x1), (2, .int x2)]) (by decide) (by simp [lg_sl, rf_cat, cat_int, cat_long, cat_ref]) (by simp [lv_args, rf_cat, cat_int, cat_long, cat_ref]) ?_
  unfold fX6_read
  refine sn_aload_n (pc := 0) (j := 0) dX6_read_0 rfl rfl ?_
  refine sn_gR (pc := 1) dX6_read_1 flX6_14 rfl (fun v1 => ?_)
  refine sn_aloadR_n (pc := 4) (r := x1) (j := 1) dX6_read_4 rfl rfl ?_
  refine sn_iload_n (pc := 5) (j := 2) dX6_read_5 rfl rfl ?_
  rcases v1 with _ | a2
  · exact sn_no
  refine sn_nn ?_
  refine sn_callV (ci := 8) (pc := 6) dX6_read_6 iX8_start wt2_112 wt2_113 wt2_111 ⟨_, rfl, rfl⟩ (by decide) (mX8_start a2 x1 x2) (by decide) rfl rfl (Nat.le_of_ble_eq_true rfl) (fun v3 => ?_)
  refine sn_aload_n (pc := 9) (j := 0) dX6_read_9 rfl rfl ?_
  refine sn_iconst (pc := 10) (v := 0) dX6_read_10 (by decide) ?_
  refine sn_pI (pc := 11) dX6_read_11 flX6_32 rfl rfl (Or.inl rfl) ?_
  refine sn_aload_n (pc := 14) (j := 0) dX6_read_14 rfl rfl ?_
  refine sn_iconst (pc := 15) (v := 0) dX6_read_15 (by decide) ?_
  refine sn_callV (ci := 6) (pc := 16) dX6_read_16 iX6_clearLevel wt2_144 ws_2 wt2_142 ⟨_, rfl, rfl⟩ (by decide) (mX6_clearLevel a0 0) (by decide) rfl rfl (Nat.le_of_ble_eq_true rfl) (fun v4 => ?_)
  refine sn_aload_n (pc := 19) (j := 0) dX6_read_19 rfl rfl ?_
  refine sn_gR (pc := 20) dX6_read_20 flX6_22 rfl (fun v5 => ?_)
  refine sn_iconst (pc := 23) (v := 0) dX6_read_23 (by decide) ?_
  refine sn_iconst (pc := 24) (v := 0) dX6_read_24 (by decide) ?_
  rcases v5 with _ | a6
  · exact sn_no
  refine sn_nn ?_
  refine sn_iast (pc := 25) dX6_read_25 ?_
  refine sn_iconst (pc := 26) (v := 1) dX6_read_26 (by decide) ?_
  refine sn_istore_n (pc := 27) (i := 3) (lv' := [(3, .int 1), (0, .ref (E.1 + a0)), (1, rf E.1 x1), (2, .int x2)]) dX6_read_27 rfl (by decide) rfl ?_
  refine sn_iconst (pc := 28) (v := 0) dX6_read_28 (by decide) ?_
  refine sn_istore (pc := 29) (i := 4) (lv' := [(4, .int 0), (3, .int 1), (0, .ref (E.1 + a0)), (1, rf E.1 x1), (2, .int x2)]) dX6_read_29 (by decide) rfl ?_
  exact sn_sub (lv' := [(0, .ref (E.1 + a0)), (3, .int 1), (4, .int 0)]) [2, 1, 0] rfl (sn_itr (lvf := fun p => [(0, .ref (E.1 + p.1)), (3, .int p.2.1), (4, .int p.2.2)]) (stf := fun p => []) (fun k hk p => sfX6_read_31  k hk p.1 p.2.1 p.2.2) FU (a0, 1, 0))
theorem iX6_read : MI yX6_read cX6_read 5 none 2 := ⟨wt1_4, wt2_110, by decide +kernel, by decide⟩
-- NeedleHomes$Piece <init>(IIII)V
theorem dX7_init_0 : decode cX7_init 0 = .ok (.aload_n 0, 1) := by decide +kernel
theorem dX7_init_1 : decode cX7_init 1 = .ok (.invokespecial 3, 3) := by decide +kernel
theorem dX7_init_4 : decode cX7_init 4 = .ok (.aload_n 0, 1) := by decide +kernel
theorem dX7_init_5 : decode cX7_init 5 = .ok (.iconst (-1), 1) := by decide +kernel
theorem dX7_init_6 : decode cX7_init 6 = .ok (.putfield 9, 3) := by decide +kernel
theorem dX7_init_9 : decode cX7_init 9 = .ok (.aload_n 0, 1) := by decide +kernel
theorem dX7_init_10 : decode cX7_init 10 = .ok (.bipush 6, 2) := by decide +kernel
theorem dX7_init_12 : decode cX7_init 12 = .ok (.newarray .int, 2) := by decide +kernel
theorem dX7_init_14 : decode cX7_init 14 = .ok (.putfield 15, 3) := by decide +kernel
theorem dX7_init_17 : decode cX7_init 17 = .ok (.aload_n 0, 1) := by decide +kernel
theorem dX7_init_18 : decode cX7_init 18 = .ok (.bipush 6, 2) := by decide +kernel
theorem dX7_init_20 : decode cX7_init 20 = .ok (.newarray .int, 2) := by decide +kernel
theorem dX7_init_22 : decode cX7_init 22 = .ok (.putfield 19, 3) := by decide +kernel
theorem dX7_init_25 : decode cX7_init 25 = .ok (.aload_n 0, 1) := by decide +kernel
theorem dX7_init_26 : decode cX7_init 26 = .ok (.bipush 6, 2) := by decide +kernel
theorem dX7_init_28 : decode cX7_init 28 = .ok (.newarray .int, 2) := by decide +kernel
theorem dX7_init_30 : decode cX7_init 30 = .ok (.putfield 22, 3) := by decide +kernel
theorem dX7_init_33 : decode cX7_init 33 = .ok (.aload_n 0, 1) := by decide +kernel
theorem dX7_init_34 : decode cX7_init 34 = .ok (.iload_n 1, 1) := by decide +kernel
theorem dX7_init_35 : decode cX7_init 35 = .ok (.putfield 25, 3) := by decide +kernel
theorem dX7_init_38 : decode cX7_init 38 = .ok (.aload_n 0, 1) := by decide +kernel
theorem dX7_init_39 : decode cX7_init 39 = .ok (.iload_n 2, 1) := by decide +kernel
theorem dX7_init_40 : decode cX7_init 40 = .ok (.putfield 28, 3) := by decide +kernel
theorem dX7_init_43 : decode cX7_init 43 = .ok (.aload_n 0, 1) := by decide +kernel
theorem dX7_init_44 : decode cX7_init 44 = .ok (.iload_n 3, 1) := by decide +kernel
theorem dX7_init_45 : decode cX7_init 45 = .ok (.putfield 31, 3) := by decide +kernel
theorem dX7_init_48 : decode cX7_init 48 = .ok (.aload_n 0, 1) := by decide +kernel
theorem dX7_init_49 : decode cX7_init 49 = .ok (.iload 4, 2) := by decide +kernel
theorem dX7_init_51 : decode cX7_init 51 = .ok (.putfield 34, 3) := by decide +kernel
theorem dX7_init_54 : decode cX7_init 54 = .ok (.aload_n 0, 1) := by decide +kernel
theorem dX7_init_55 : decode cX7_init 55 = .ok (.getfield 15, 3) := by decide +kernel
theorem dX7_init_58 : decode cX7_init 58 = .ok (.iconst (-1), 1) := by decide +kernel
theorem dX7_init_59 : decode cX7_init 59 = .ok (.invokestatic 37, 3) := by decide +kernel
theorem dX7_init_62 : decode cX7_init 62 = .ok (.return_, 1) := by decide +kernel
abbrev dpX7_init : Nat := 1
def fX7_init (a0 : Nat) (x1 : Int32) (x2 : Int32) (x3 : Int32) (x4 : Int32) : St → Option (Unit × St) :=
 pI 8 a0 4 (-1) <|
 nA 15 6 fun a1 =>
 pR 8 a0 9 (some a1) <|
 nA 15 6 fun a2 =>
 pR 8 a0 10 (some a2) <|
 nA 15 6 fun a3 =>
 pR 8 a0 11 (some a3) <|
 pI 8 a0 0 x1 <|
 pI 8 a0 1 x2 <|
 pI 8 a0 2 x3 <|
 pI 8 a0 3 x4 <|
 gR 8 a0 9 fun v4 =>
 cl (fJ7_fill_53178 v4 (-1)) fun v5 =>
 rt ()
set_option maxHeartbeats 4000000 in
set_option maxRecDepth 100000 in
theorem mX7_init {E : Ev} {l : Launch} (a0 : Nat) (x1 : Int32) (x2 : Int32) (x3 : Int32) (x4 : Int32) : MF E l dpX7_init yX7_init cX7_init 5 none rvV [.ref (E.1 + a0), .int x1, .int x2, .int x3, .int x4] (fX7_init a0 x1 x2 x3 x4) := by
  refine MF.of (lv := [(0, .ref (E.1 + a0)), (1, .int x1), (2, .int x2), (3, .int x3), (4, .int x4)]) (by decide) (Nat.le_of_ble_eq_true rfl) rfl ?_
  unfold fX7_init
  refine sn_aload_n (pc := 0) (j := 0) dX7_init_0 rfl rfl ?_
  refine sn_objInit (pc := 1) dX7_init_1 wt4_135 w_oi w_oc (by decide) (Nat.le_of_ble_eq_true rfl) ?_
  refine sn_aload_n (pc := 4) (j := 0) dX7_init_4 rfl rfl ?_
  refine sn_iconst (pc := 5) (v := (-1)) dX7_init_5 (by decide) ?_
  refine sn_pI (pc := 6) dX7_init_6 flX7_9 rfl rfl (Or.inl rfl) ?_
  refine sn_aload_n (pc := 9) (j := 0) dX7_init_9 rfl rfl ?_
  refine sn_bipush (pc := 10) (v := 6) dX7_init_10 (by decide) ?_
  refine sn_newI (pc := 12) dX7_init_12 wt1_109 (fun a1 => ?_)
  refine sn_pR (pc := 14) (v := (some a1)) dX7_init_14 flX7_15 rfl (Or.inr ⟨_, rfl⟩) (Or.inr ⟨rfl, rfl, rfl⟩) ?_
  refine sn_aload_n (pc := 17) (j := 0) dX7_init_17 rfl rfl ?_
  refine sn_bipush (pc := 18) (v := 6) dX7_init_18 (by decide) ?_
  refine sn_newI (pc := 20) dX7_init_20 wt1_109 (fun a2 => ?_)
  refine sn_pR (pc := 22) (v := (some a2)) dX7_init_22 flX7_19 rfl (Or.inr ⟨_, rfl⟩) (Or.inr ⟨rfl, rfl, rfl⟩) ?_
  refine sn_aload_n (pc := 25) (j := 0) dX7_init_25 rfl rfl ?_
  refine sn_bipush (pc := 26) (v := 6) dX7_init_26 (by decide) ?_
  refine sn_newI (pc := 28) dX7_init_28 wt1_109 (fun a3 => ?_)
  refine sn_pR (pc := 30) (v := (some a3)) dX7_init_30 flX7_22 rfl (Or.inr ⟨_, rfl⟩) (Or.inr ⟨rfl, rfl, rfl⟩) ?_
  refine sn_aload_n (pc := 33) (j := 0) dX7_init_33 rfl rfl ?_
  refine sn_iload_n (pc := 34) (j := 1) dX7_init_34 rfl rfl ?_
  refine sn_pI (pc := 35) dX7_init_35 flX7_25 rfl rfl (Or.inl rfl) ?_
  refine sn_aload_n (pc := 38) (j := 0) dX7_init_38 rfl rfl ?_
  refine sn_iload_n (pc := 39) (j := 2) dX7_init_39 rfl rfl ?_
  refine sn_pI (pc := 40) dX7_init_40 flX7_28 rfl rfl (Or.inl rfl) ?_
  refine sn_aload_n (pc := 43) (j := 0) dX7_init_43 rfl rfl ?_
  refine sn_iload_n (pc := 44) (j := 3) dX7_init_44 rfl rfl ?_
  refine sn_pI (pc := 45) dX7_init_45 flX7_31 rfl rfl (Or.inl rfl) ?_
  refine sn_aload_n (pc := 48) (j := 0) dX7_init_48 rfl rfl ?_
  refine sn_iload (pc := 49) (j := 4) dX7_init_49 rfl ?_
  refine sn_pI (pc := 51) dX7_init_51 flX7_34 rfl rfl (Or.inl rfl) ?_
  refine sn_aload_n (pc := 54) (j := 0) dX7_init_54 rfl rfl ?_
  refine sn_gR (pc := 55) dX7_init_55 flX7_15 rfl (fun v4 => ?_)
  refine sn_iconst (pc := 58) (v := (-1)) dX7_init_58 (by decide) ?_
  refine sn_callS (pc := 59) dX7_init_59 iJ7_fill_53178 wt1_45 wt4_136 (mJ7_fill_53178 v4 (-1)) (by decide) rfl rfl (Nat.le_of_ble_eq_true rfl) (fun v5 => ?_)
  exact sn_vret (pc := 62) dX7_init_62 rfl
theorem iX7_init : MI yX7_init cX7_init 5 none 4 := ⟨wt1_20, wt4_134, by decide +kernel, by decide⟩
-- NeedleHomes$Piece copyFrom(LNeedleHomes$Piece;)V
theorem dX7_copyFrom_0 : decode cX7_copyFrom 0 = .ok (.aload_n 0, 1) := by decide +kernel
theorem dX7_copyFrom_1 : decode cX7_copyFrom 1 = .ok (.aload_n 1, 1) := by decide +kernel
theorem dX7_copyFrom_2 : decode cX7_copyFrom 2 = .ok (.getfield 25, 3) := by decide +kernel
theorem dX7_copyFrom_5 : decode cX7_copyFrom 5 = .ok (.putfield 25, 3) := by decide +kernel
theorem dX7_copyFrom_8 : decode cX7_copyFrom 8 = .ok (.aload_n 0, 1) := by decide +kernel
theorem dX7_copyFrom_9 : decode cX7_copyFrom 9 = .ok (.aload_n 1, 1) := by decide +kernel
theorem dX7_copyFrom_10 : decode cX7_copyFrom 10 = .ok (.getfield 28, 3) := by decide +kernel
theorem dX7_copyFrom_13 : decode cX7_copyFrom 13 = .ok (.putfield 28, 3) := by decide +kernel
theorem dX7_copyFrom_16 : decode cX7_copyFrom 16 = .ok (.aload_n 0, 1) := by decide +kernel
theorem dX7_copyFrom_17 : decode cX7_copyFrom 17 = .ok (.aload_n 1, 1) := by decide +kernel
theorem dX7_copyFrom_18 : decode cX7_copyFrom 18 = .ok (.getfield 31, 3) := by decide +kernel
theorem dX7_copyFrom_21 : decode cX7_copyFrom 21 = .ok (.putfield 31, 3) := by decide +kernel
theorem dX7_copyFrom_24 : decode cX7_copyFrom 24 = .ok (.aload_n 0, 1) := by decide +kernel
theorem dX7_copyFrom_25 : decode cX7_copyFrom 25 = .ok (.aload_n 1, 1) := by decide +kernel
theorem dX7_copyFrom_26 : decode cX7_copyFrom 26 = .ok (.getfield 34, 3) := by decide +kernel
theorem dX7_copyFrom_29 : decode cX7_copyFrom 29 = .ok (.putfield 34, 3) := by decide +kernel
theorem dX7_copyFrom_32 : decode cX7_copyFrom 32 = .ok (.aload_n 0, 1) := by decide +kernel
theorem dX7_copyFrom_33 : decode cX7_copyFrom 33 = .ok (.aload_n 1, 1) := by decide +kernel
theorem dX7_copyFrom_34 : decode cX7_copyFrom 34 = .ok (.getfield 9, 3) := by decide +kernel
theorem dX7_copyFrom_37 : decode cX7_copyFrom 37 = .ok (.putfield 9, 3) := by decide +kernel
theorem dX7_copyFrom_40 : decode cX7_copyFrom 40 = .ok (.aload_n 0, 1) := by decide +kernel
theorem dX7_copyFrom_41 : decode cX7_copyFrom 41 = .ok (.aload_n 1, 1) := by decide +kernel
theorem dX7_copyFrom_42 : decode cX7_copyFrom 42 = .ok (.getfield 43, 3) := by decide +kernel
theorem dX7_copyFrom_45 : decode cX7_copyFrom 45 = .ok (.putfield 43, 3) := by decide +kernel
theorem dX7_copyFrom_48 : decode cX7_copyFrom 48 = .ok (.aload_n 0, 1) := by decide +kernel
theorem dX7_copyFrom_49 : decode cX7_copyFrom 49 = .ok (.aload_n 1, 1) := by decide +kernel
theorem dX7_copyFrom_50 : decode cX7_copyFrom 50 = .ok (.getfield 46, 3) := by decide +kernel
theorem dX7_copyFrom_53 : decode cX7_copyFrom 53 = .ok (.putfield 46, 3) := by decide +kernel
theorem dX7_copyFrom_56 : decode cX7_copyFrom 56 = .ok (.aload_n 0, 1) := by decide +kernel
theorem dX7_copyFrom_57 : decode cX7_copyFrom 57 = .ok (.aload_n 1, 1) := by decide +kernel
theorem dX7_copyFrom_58 : decode cX7_copyFrom 58 = .ok (.getfield 49, 3) := by decide +kernel
theorem dX7_copyFrom_61 : decode cX7_copyFrom 61 = .ok (.putfield 49, 3) := by decide +kernel
theorem dX7_copyFrom_64 : decode cX7_copyFrom 64 = .ok (.aload_n 0, 1) := by decide +kernel
theorem dX7_copyFrom_65 : decode cX7_copyFrom 65 = .ok (.aload_n 1, 1) := by decide +kernel
theorem dX7_copyFrom_66 : decode cX7_copyFrom 66 = .ok (.getfield 52, 3) := by decide +kernel
theorem dX7_copyFrom_69 : decode cX7_copyFrom 69 = .ok (.putfield 52, 3) := by decide +kernel
theorem dX7_copyFrom_72 : decode cX7_copyFrom 72 = .ok (.aload_n 1, 1) := by decide +kernel
theorem dX7_copyFrom_73 : decode cX7_copyFrom 73 = .ok (.getfield 15, 3) := by decide +kernel
theorem dX7_copyFrom_76 : decode cX7_copyFrom 76 = .ok (.iconst 0, 1) := by decide +kernel
theorem dX7_copyFrom_77 : decode cX7_copyFrom 77 = .ok (.aload_n 0, 1) := by decide +kernel
theorem dX7_copyFrom_78 : decode cX7_copyFrom 78 = .ok (.getfield 15, 3) := by decide +kernel
theorem dX7_copyFrom_81 : decode cX7_copyFrom 81 = .ok (.iconst 0, 1) := by decide +kernel
theorem dX7_copyFrom_82 : decode cX7_copyFrom 82 = .ok (.bipush 6, 2) := by decide +kernel
theorem dX7_copyFrom_84 : decode cX7_copyFrom 84 = .ok (.invokestatic 55, 3) := by decide +kernel
theorem dX7_copyFrom_87 : decode cX7_copyFrom 87 = .ok (.aload_n 1, 1) := by decide +kernel
theorem dX7_copyFrom_88 : decode cX7_copyFrom 88 = .ok (.getfield 19, 3) := by decide +kernel
theorem dX7_copyFrom_91 : decode cX7_copyFrom 91 = .ok (.iconst 0, 1) := by decide +kernel
theorem dX7_copyFrom_92 : decode cX7_copyFrom 92 = .ok (.aload_n 0, 1) := by decide +kernel
theorem dX7_copyFrom_93 : decode cX7_copyFrom 93 = .ok (.getfield 19, 3) := by decide +kernel
theorem dX7_copyFrom_96 : decode cX7_copyFrom 96 = .ok (.iconst 0, 1) := by decide +kernel
theorem dX7_copyFrom_97 : decode cX7_copyFrom 97 = .ok (.bipush 6, 2) := by decide +kernel
theorem dX7_copyFrom_99 : decode cX7_copyFrom 99 = .ok (.invokestatic 55, 3) := by decide +kernel
theorem dX7_copyFrom_102 : decode cX7_copyFrom 102 = .ok (.aload_n 1, 1) := by decide +kernel
theorem dX7_copyFrom_103 : decode cX7_copyFrom 103 = .ok (.getfield 22, 3) := by decide +kernel
theorem dX7_copyFrom_106 : decode cX7_copyFrom 106 = .ok (.iconst 0, 1) := by decide +kernel
theorem dX7_copyFrom_107 : decode cX7_copyFrom 107 = .ok (.aload_n 0, 1) := by decide +kernel
theorem dX7_copyFrom_108 : decode cX7_copyFrom 108 = .ok (.getfield 22, 3) := by decide +kernel
theorem dX7_copyFrom_111 : decode cX7_copyFrom 111 = .ok (.iconst 0, 1) := by decide +kernel
theorem dX7_copyFrom_112 : decode cX7_copyFrom 112 = .ok (.bipush 6, 2) := by decide +kernel
theorem dX7_copyFrom_114 : decode cX7_copyFrom 114 = .ok (.invokestatic 55, 3) := by decide +kernel
theorem dX7_copyFrom_117 : decode cX7_copyFrom 117 = .ok (.return_, 1) := by decide +kernel
abbrev dpX7_copyFrom : Nat := 1
def fX7_copyFrom (a0 : Nat) (x1 : Option Nat) : St → Option (Unit × St) :=
 nn x1 fun a2 =>
 gI 8 a2 0 fun v1 =>
 pI 8 a0 0 v1 <|
 gI 8 a2 1 fun v3 =>
 pI 8 a0 1 v3 <|
 gI 8 a2 2 fun v4 =>
 pI 8 a0 2 v4 <|
 gI 8 a2 3 fun v5 =>
 pI 8 a0 3 v5 <|
 gI 8 a2 4 fun v6 =>
 pI 8 a0 4 v6 <|
 gI 8 a2 5 fun v7 =>
 pI 8 a0 5 v7 <|
 gI 8 a2 6 fun v8 =>
 pI 8 a0 6 v8 <|
 gI 8 a2 7 fun v9 =>
 pI 8 a0 7 v9 <|
 gI 8 a2 8 fun v10 =>
 pI 8 a0 8 v10 <|
 gR 8 a2 9 fun v11 =>
 gR 8 a0 9 fun v12 =>
 nn v12 fun a13 =>
 nn v11 fun a14 =>
 cp 15 a14 0 a13 0 6 <|
 gR 8 a2 10 fun v15 =>
 gR 8 a0 10 fun v16 =>
 nn v16 fun a17 =>
 nn v15 fun a18 =>
 cp 15 a18 0 a17 0 6 <|
 gR 8 a2 11 fun v19 =>
 gR 8 a0 11 fun v20 =>
 nn v20 fun a21 =>
 nn v19 fun a22 =>
 cp 15 a22 0 a21 0 6 <|
 rt ()
set_option maxHeartbeats 4000000 in
set_option maxRecDepth 100000 in
theorem mX7_copyFrom {E : Ev} {l : Launch} (a0 : Nat) (x1 : Option Nat) : MF E l dpX7_copyFrom yX7_copyFrom cX7_copyFrom 2 none rvV [.ref (E.1 + a0), rf E.1 x1] (fX7_copyFrom a0 x1) := by
  refine MF.of (lv := [(0, .ref (E.1 + a0)), (1, rf E.1 x1)]) (by decide) (by simp [lg_sl, rf_cat, cat_int, cat_long, cat_ref]) (by simp [lv_args, rf_cat, cat_int, cat_long, cat_ref]) ?_
  unfold fX7_copyFrom
  refine sn_aload_n (pc := 0) (j := 0) dX7_copyFrom_0 rfl rfl ?_
  refine sn_aloadR_n (pc := 1) (r := x1) (j := 1) dX7_copyFrom_1 rfl rfl ?_
  rcases x1 with _ | a2
  · exact sn_no
  refine sn_nn ?_
  refine sn_gI (pc := 2) dX7_copyFrom_2 flX7_25 rfl (fun v1 => ?_)
  refine sn_pI (pc := 5) dX7_copyFrom_5 flX7_25 rfl rfl (Or.inl rfl) ?_
  refine sn_aload_n (pc := 8) (j := 0) dX7_copyFrom_8 rfl rfl ?_
  refine sn_aload_n (pc := 9) (j := 1) dX7_copyFrom_9 rfl rfl ?_
  refine sn_gI (pc := 10) dX7_copyFrom_10 flX7_28 rfl (fun v3 => ?_)
  refine sn_pI (pc := 13) dX7_copyFrom_13 flX7_28 rfl rfl (Or.inl rfl) ?_
  refine sn_aload_n (pc := 16) (j := 0) dX7_copyFrom_16 rfl rfl ?_
  refine sn_aload_n (pc := 17) (j := 1) dX7_copyFrom_17 rfl rfl ?_
  refine sn_gI (pc := 18) dX7_copyFrom_18 flX7_31 rfl (fun v4 => ?_)
  refine sn_pI (pc := 21) dX7_copyFrom_21 flX7_31 rfl rfl (Or.inl rfl) ?_
  refine sn_aload_n (pc := 24) (j := 0) dX7_copyFrom_24 rfl rfl ?_
  refine sn_aload_n (pc := 25) (j := 1) dX7_copyFrom_25 rfl rfl ?_
  refine sn_gI (pc := 26) dX7_copyFrom_26 flX7_34 rfl (fun v5 => ?_)
  refine sn_pI (pc := 29) dX7_copyFrom_29 flX7_34 rfl rfl (Or.inl rfl) ?_
  refine sn_aload_n (pc := 32) (j := 0) dX7_copyFrom_32 rfl rfl ?_
  refine sn_aload_n (pc := 33) (j := 1) dX7_copyFrom_33 rfl rfl ?_
  refine sn_gI (pc := 34) dX7_copyFrom_34 flX7_9 rfl (fun v6 => ?_)
  refine sn_pI (pc := 37) dX7_copyFrom_37 flX7_9 rfl rfl (Or.inl rfl) ?_
  refine sn_aload_n (pc := 40) (j := 0) dX7_copyFrom_40 rfl rfl ?_
  refine sn_aload_n (pc := 41) (j := 1) dX7_copyFrom_41 rfl rfl ?_
  refine sn_gI (pc := 42) dX7_copyFrom_42 flX7_43 rfl (fun v7 => ?_)
  refine sn_pI (pc := 45) dX7_copyFrom_45 flX7_43 rfl rfl (Or.inl rfl) ?_
  refine sn_aload_n (pc := 48) (j := 0) dX7_copyFrom_48 rfl rfl ?_
  refine sn_aload_n (pc := 49) (j := 1) dX7_copyFrom_49 rfl rfl ?_
  refine sn_gI (pc := 50) dX7_copyFrom_50 flX7_46 rfl (fun v8 => ?_)
  refine sn_pI (pc := 53) dX7_copyFrom_53 flX7_46 rfl rfl (Or.inl rfl) ?_
  refine sn_aload_n (pc := 56) (j := 0) dX7_copyFrom_56 rfl rfl ?_
  refine sn_aload_n (pc := 57) (j := 1) dX7_copyFrom_57 rfl rfl ?_
  refine sn_gI (pc := 58) dX7_copyFrom_58 flX7_49 rfl (fun v9 => ?_)
  refine sn_pI (pc := 61) dX7_copyFrom_61 flX7_49 rfl rfl (Or.inl rfl) ?_
  refine sn_aload_n (pc := 64) (j := 0) dX7_copyFrom_64 rfl rfl ?_
  refine sn_aload_n (pc := 65) (j := 1) dX7_copyFrom_65 rfl rfl ?_
  refine sn_gI (pc := 66) dX7_copyFrom_66 flX7_52 rfl (fun v10 => ?_)
  refine sn_pI (pc := 69) dX7_copyFrom_69 flX7_52 rfl rfl (Or.inl rfl) ?_
  refine sn_aload_n (pc := 72) (j := 1) dX7_copyFrom_72 rfl rfl ?_
  refine sn_gR (pc := 73) dX7_copyFrom_73 flX7_15 rfl (fun v11 => ?_)
  refine sn_iconst (pc := 76) (v := 0) dX7_copyFrom_76 (by decide) ?_
  refine sn_aload_n (pc := 77) (j := 0) dX7_copyFrom_77 rfl rfl ?_
  refine sn_gR (pc := 78) dX7_copyFrom_78 flX7_15 rfl (fun v12 => ?_)
  refine sn_iconst (pc := 81) (v := 0) dX7_copyFrom_81 (by decide) ?_
  refine sn_bipush (pc := 82) (v := 6) dX7_copyFrom_82 (by decide) ?_
  rcases v12 with _ | a13
  · exact sn_no
  refine sn_nn ?_
  rcases v11 with _ | a14
  · exact sn_no
  refine sn_nn ?_
  refine sn_copy (t := 1) (pc := 84) dX7_copyFrom_84 wt5_233 w_an w_as w_ai rfl (by decide) (by decide) (Nat.le_of_ble_eq_true rfl) ?_
  refine sn_aload_n (pc := 87) (j := 1) dX7_copyFrom_87 rfl rfl ?_
  refine sn_gR (pc := 88) dX7_copyFrom_88 flX7_19 rfl (fun v15 => ?_)
  refine sn_iconst (pc := 91) (v := 0) dX7_copyFrom_91 (by decide) ?_
  refine sn_aload_n (pc := 92) (j := 0) dX7_copyFrom_92 rfl rfl ?_
  refine sn_gR (pc := 93) dX7_copyFrom_93 flX7_19 rfl (fun v16 => ?_)
  refine sn_iconst (pc := 96) (v := 0) dX7_copyFrom_96 (by decide) ?_
  refine sn_bipush (pc := 97) (v := 6) dX7_copyFrom_97 (by decide) ?_
  rcases v16 with _ | a17
  · exact sn_no
  refine sn_nn ?_
  rcases v15 with _ | a18
  · exact sn_no
  refine sn_nn ?_
  refine sn_copy (t := 1) (pc := 99) dX7_copyFrom_99 wt5_233 w_an w_as w_ai rfl (by decide) (by decide) (Nat.le_of_ble_eq_true rfl) ?_
  refine sn_aload_n (pc := 102) (j := 1) dX7_copyFrom_102 rfl rfl ?_
  refine sn_gR (pc := 103) dX7_copyFrom_103 flX7_22 rfl (fun v19 => ?_)
  refine sn_iconst (pc := 106) (v := 0) dX7_copyFrom_106 (by decide) ?_
  refine sn_aload_n (pc := 107) (j := 0) dX7_copyFrom_107 rfl rfl ?_
  refine sn_gR (pc := 108) dX7_copyFrom_108 flX7_22 rfl (fun v20 => ?_)
  refine sn_iconst (pc := 111) (v := 0) dX7_copyFrom_111 (by decide) ?_
  refine sn_bipush (pc := 112) (v := 6) dX7_copyFrom_112 (by decide) ?_
  rcases v20 with _ | a21
  · exact sn_no
  refine sn_nn ?_
  rcases v19 with _ | a22
  · exact sn_no
  refine sn_nn ?_
  refine sn_copy (t := 1) (pc := 114) dX7_copyFrom_114 wt5_233 w_an w_as w_ai rfl (by decide) (by decide) (Nat.le_of_ble_eq_true rfl) ?_
  exact sn_vret (pc := 117) dX7_copyFrom_117 rfl
theorem iX7_copyFrom : MI yX7_copyFrom cX7_copyFrom 2 none 1 := ⟨wt1_20, wt5_232, by decide +kernel, by decide⟩
-- NeedleHomes$Piece bringIn(III)V
theorem dX7_bringIn_0 : decode cX7_bringIn 0 = .ok (.aload_n 0, 1) := by decide +kernel
theorem dX7_bringIn_1 : decode cX7_bringIn 1 = .ok (.iload_n 1, 1) := by decide +kernel
theorem dX7_bringIn_2 : decode cX7_bringIn 2 = .ok (.putfield 9, 3) := by decide +kernel
theorem dX7_bringIn_5 : decode cX7_bringIn 5 = .ok (.aload_n 0, 1) := by decide +kernel
theorem dX7_bringIn_6 : decode cX7_bringIn 6 = .ok (.iload_n 2, 1) := by decide +kernel
theorem dX7_bringIn_7 : decode cX7_bringIn 7 = .ok (.putfield 43, 3) := by decide +kernel
theorem dX7_bringIn_10 : decode cX7_bringIn 10 = .ok (.aload_n 0, 1) := by decide +kernel
theorem dX7_bringIn_11 : decode cX7_bringIn 11 = .ok (.iload_n 3, 1) := by decide +kernel
theorem dX7_bringIn_12 : decode cX7_bringIn 12 = .ok (.putfield 46, 3) := by decide +kernel
theorem dX7_bringIn_15 : decode cX7_bringIn 15 = .ok (.return_, 1) := by decide +kernel
abbrev dpX7_bringIn : Nat := 0
def fX7_bringIn (a0 : Nat) (x1 : Int32) (x2 : Int32) (x3 : Int32) : St → Option (Unit × St) :=
 pI 8 a0 4 x1 <|
 pI 8 a0 5 x2 <|
 pI 8 a0 6 x3 <|
 rt ()
set_option maxHeartbeats 4000000 in
set_option maxRecDepth 100000 in
theorem mX7_bringIn {E : Ev} {l : Launch} (a0 : Nat) (x1 : Int32) (x2 : Int32) (x3 : Int32) : MF E l dpX7_bringIn yX7_bringIn cX7_bringIn 4 none rvV [.ref (E.1 + a0), .int x1, .int x2, .int x3] (fX7_bringIn a0 x1 x2 x3) := by
  refine MF.of (lv := [(0, .ref (E.1 + a0)), (1, .int x1), (2, .int x2), (3, .int x3)]) (by decide) (Nat.le_of_ble_eq_true rfl) rfl ?_
  unfold fX7_bringIn
  refine sn_aload_n (pc := 0) (j := 0) dX7_bringIn_0 rfl rfl ?_
  refine sn_iload_n (pc := 1) (j := 1) dX7_bringIn_1 rfl rfl ?_
  refine sn_pI (pc := 2) dX7_bringIn_2 flX7_9 rfl rfl (Or.inl rfl) ?_
  refine sn_aload_n (pc := 5) (j := 0) dX7_bringIn_5 rfl rfl ?_
  refine sn_iload_n (pc := 6) (j := 2) dX7_bringIn_6 rfl rfl ?_
  refine sn_pI (pc := 7) dX7_bringIn_7 flX7_43 rfl rfl (Or.inl rfl) ?_
  refine sn_aload_n (pc := 10) (j := 0) dX7_bringIn_10 rfl rfl ?_
  refine sn_iload_n (pc := 11) (j := 3) dX7_bringIn_11 rfl rfl ?_
  refine sn_pI (pc := 12) dX7_bringIn_12 flX7_46 rfl rfl (Or.inl rfl) ?_
  exact sn_vret (pc := 15) dX7_bringIn_15 rfl
theorem iX7_bringIn : MI yX7_bringIn cX7_bringIn 4 none 3 := ⟨wt1_20, wt4_233, by decide +kernel, by decide⟩
-- NeedleHomes$Piece differences()I
theorem dX7_differences_0 : decode cX7_differences 0 = .ok (.iconst 0, 1) := by decide +kernel
theorem dX7_differences_1 : decode cX7_differences 1 = .ok (.istore_n 1, 1) := by decide +kernel
theorem dX7_differences_2 : decode cX7_differences 2 = .ok (.iconst 0, 1) := by decide +kernel
theorem dX7_differences_3 : decode cX7_differences 3 = .ok (.istore_n 2, 1) := by decide +kernel
theorem dX7_differences_4 : decode cX7_differences 4 = .ok (.iload_n 2, 1) := by decide +kernel
theorem dX7_differences_5 : decode cX7_differences 5 = .ok (.iconst 3, 1) := by decide +kernel
theorem dX7_differences_6 : decode cX7_differences 6 = .ok (.if_icmp .ge 49, 3) := by decide +kernel
theorem dX7_differences_9 : decode cX7_differences 9 = .ok (.aload_n 0, 1) := by decide +kernel
theorem dX7_differences_10 : decode cX7_differences 10 = .ok (.getfield 15, 3) := by decide +kernel
theorem dX7_differences_13 : decode cX7_differences 13 = .ok (.iload_n 2, 1) := by decide +kernel
theorem dX7_differences_14 : decode cX7_differences 14 = .ok (.iaload, 1) := by decide +kernel
theorem dX7_differences_15 : decode cX7_differences 15 = .ok (.istore_n 3, 1) := by decide +kernel
theorem dX7_differences_16 : decode cX7_differences 16 = .ok (.aload_n 0, 1) := by decide +kernel
theorem dX7_differences_17 : decode cX7_differences 17 = .ok (.getfield 15, 3) := by decide +kernel
theorem dX7_differences_20 : decode cX7_differences 20 = .ok (.iconst 3, 1) := by decide +kernel
theorem dX7_differences_21 : decode cX7_differences 21 = .ok (.iload_n 2, 1) := by decide +kernel
theorem dX7_differences_22 : decode cX7_differences 22 = .ok (.iadd, 1) := by decide +kernel
theorem dX7_differences_23 : decode cX7_differences 23 = .ok (.iaload, 1) := by decide +kernel
theorem dX7_differences_24 : decode cX7_differences 24 = .ok (.istore 4, 2) := by decide +kernel
theorem dX7_differences_26 : decode cX7_differences 26 = .ok (.iload_n 3, 1) := by decide +kernel
theorem dX7_differences_27 : decode cX7_differences 27 = .ok (.iconst (-1), 1) := by decide +kernel
theorem dX7_differences_28 : decode cX7_differences 28 = .ok (.if_icmp .eq 21, 3) := by decide +kernel
theorem dX7_differences_31 : decode cX7_differences 31 = .ok (.iload 4, 2) := by decide +kernel
theorem dX7_differences_33 : decode cX7_differences 33 = .ok (.iconst (-1), 1) := by decide +kernel
theorem dX7_differences_34 : decode cX7_differences 34 = .ok (.if_icmp .eq 15, 3) := by decide +kernel
theorem dX7_differences_37 : decode cX7_differences 37 = .ok (.iload_n 3, 1) := by decide +kernel
theorem dX7_differences_38 : decode cX7_differences 38 = .ok (.iload 4, 2) := by decide +kernel
theorem dX7_differences_40 : decode cX7_differences 40 = .ok (.if_icmp .eq 9, 3) := by decide +kernel
theorem dX7_differences_43 : decode cX7_differences 43 = .ok (.iload_n 1, 1) := by decide +kernel
theorem dX7_differences_44 : decode cX7_differences 44 = .ok (.iconst 1, 1) := by decide +kernel
theorem dX7_differences_45 : decode cX7_differences 45 = .ok (.iload_n 2, 1) := by decide +kernel
theorem dX7_differences_46 : decode cX7_differences 46 = .ok (.ishl, 1) := by decide +kernel
theorem dX7_differences_47 : decode cX7_differences 47 = .ok (.ior, 1) := by decide +kernel
theorem dX7_differences_48 : decode cX7_differences 48 = .ok (.istore_n 1, 1) := by decide +kernel
theorem dX7_differences_49 : decode cX7_differences 49 = .ok (.iinc 2 1, 3) := by decide +kernel
theorem dX7_differences_52 : decode cX7_differences 52 = .ok (.goto (-48), 3) := by decide +kernel
theorem dX7_differences_55 : decode cX7_differences 55 = .ok (.iload_n 1, 1) := by decide +kernel
theorem dX7_differences_56 : decode cX7_differences 56 = .ok (.ireturn, 1) := by decide +kernel
abbrev dpX7_differences : Nat := 0
def fX7_differences_49 (k4 : (Nat × Int32 × Int32) → St → Option (Int32 × St)) (a0 : Nat) (x1 : Int32) (x2 : Int32) : St → Option (Int32 × St) :=
 k4 (a0, x1, (x2 + 1))
set_option maxHeartbeats 4000000 in
set_option maxRecDepth 100000 in
theorem sfX7_differences_49 {E : Ev} {l : Launch} (k4 : (Nat × Int32 × Int32) → St → Option (Int32 × St)) (hk4 : ∀ p : Nat × Int32 × Int32, Snd E l (dpX7_differences, RX7, cX7_differences, 5, (some .int), "differences") rvI 4 [(0, .ref (E.1 + p.1)), (1, .int p.2.1), (2, .int p.2.2)] [] (k4 p)) (a0 : Nat) (x1 : Int32) (x2 : Int32) : Snd E l (dpX7_differences, RX7, cX7_differences, 5, (some .int), "differences") rvI 49 [(0, .ref (E.1 + a0)), (1, .int x1), (2, .int x2)] [] (fX7_differences_49 k4 a0 x1 x2) := by
  unfold fX7_differences_49
  refine sn_iinc (pc := 49) (v := x2 + 1) (lv' := [(2, .int (x2 + 1)), (0, .ref (E.1 + a0)), (1, .int x1)]) (j := 2) dX7_differences_49 rfl rfl (by decide) rfl ?_
  refine sn_goto (pc := 52) (tgt := 4) dX7_differences_52 (by decide) ?_
  exact sn_sub (lv' := [(0, .ref (E.1 + a0)), (1, .int x1), (2, .int (x2 + 1))]) [1, 2, 0] rfl (hk4 (a0, x1, (x2 + 1)))
def fX7_differences_4 (k4 : (Nat × Int32 × Int32) → St → Option (Int32 × St)) (a0 : Nat) (x1 : Int32) (x2 : Int32) : St → Option (Int32 × St) :=
 br (3 ≤ x2) (rt x1)
 (gR 8 a0 9 fun v1001 =>
 nn v1001 fun a1003 =>
 aI 15 a1003 x2 fun v1002 =>
 gR 8 a0 9 fun v1004 =>
 nn v1004 fun a1006 =>
 aI 15 a1006 (3 + x2) fun v1005 =>
 br (v1002 = (-1)) (fX7_differences_49 k4 a0 x1 x2)
 (br (v1005 = (-1)) (fX7_differences_49 k4 a0 x1 x2)
 (br (v1002 = v1005) (fX7_differences_49 k4 a0 x1 x2)
 (fX7_differences_49 k4 a0 (x1 ||| (1 <<< (x2 &&& 31))) x2))))
set_option maxHeartbeats 4000000 in
set_option maxRecDepth 100000 in
theorem sfX7_differences_4 {E : Ev} {l : Launch} (k4 : (Nat × Int32 × Int32) → St → Option (Int32 × St)) (hk4 : ∀ p : Nat × Int32 × Int32, Snd E l (dpX7_differences, RX7, cX7_differences, 5, (some .int), "differences") rvI 4 [(0, .ref (E.1 + p.1)), (1, .int p.2.1), (2, .int p.2.2)] [] (k4 p)) (a0 : Nat) (x1 : Int32) (x2 : Int32) : Snd E l (dpX7_differences, RX7, cX7_differences, 5, (some .int), "differences") rvI 4 [(0, .ref (E.1 + a0)), (1, .int x1), (2, .int x2)] [] (fX7_differences_4 k4 a0 x1 x2) := by
  unfold fX7_differences_4
  refine sn_iload_n (pc := 4) (j := 2) dX7_differences_4 rfl rfl ?_
  refine sn_iconst (pc := 5) (v := 3) dX7_differences_5 (by decide) ?_
  refine sn_icmp_ge (pc := 6) (tgt := 55) dX7_differences_6 (by decide) ?_ ?_
  · refine sn_iload_n (pc := 55) (j := 1) dX7_differences_55 rfl rfl ?_
    exact sn_iret (pc := 56) dX7_differences_56 rfl
  · refine sn_aload_n (pc := 9) (j := 0) dX7_differences_9 rfl rfl ?_
    refine sn_gR (pc := 10) dX7_differences_10 flX7_15 rfl (fun v1001 => ?_)
    refine sn_iload_n (pc := 13) (j := 2) dX7_differences_13 rfl rfl ?_
    rcases v1001 with _ | a1003
    · exact sn_no
    refine sn_nn ?_
    refine sn_iald (pc := 14) dX7_differences_14 (fun v1002 => ?_)
    refine sn_istore_n (pc := 15) (i := 3) (lv' := [(3, .int v1002), (0, .ref (E.1 + a0)), (1, .int x1), (2, .int x2)]) dX7_differences_15 rfl (by decide) rfl ?_
    refine sn_aload_n (pc := 16) (j := 1) dX7_differences_16 rfl rfl ?_
    refine sn_gR (pc := 17) dX7_differences_17 flX7_15 rfl (fun v1004 => ?_)
    refine sn_iconst (pc := 20) (v := 3) dX7_differences_20 (by decide) ?_
    refine sn_iload_n (pc := 21) (j := 3) dX7_differences_21 rfl rfl ?_
    refine sn_iadd (pc := 22) dX7_differences_22 ?_
    rcases v1004 with _ | a1006
    · exact sn_no
    refine sn_nn ?_
    refine sn_iald (pc := 23) dX7_differences_23 (fun v1005 => ?_)
    refine sn_istore (pc := 24) (i := 4) (lv' := [(4, .int v1005), (3, .int v1002), (0, .ref (E.1 + a0)), (1, .int x1), (2, .int x2)]) dX7_differences_24 (by decide) rfl ?_
    refine sn_iload_n (pc := 26) (j := 1) dX7_differences_26 rfl rfl ?_
    refine sn_iconst (pc := 27) (v := (-1)) dX7_differences_27 (by decide) ?_
    refine sn_icmp_eq (pc := 28) (tgt := 49) dX7_differences_28 (by decide) ?_ ?_
    · exact sn_sub (lv' := [(0, .ref (E.1 + a0)), (1, .int x1), (2, .int x2)]) [2, 3, 4] rfl (sfX7_differences_49 k4 hk4 a0 x1 x2)
    · refine sn_iload (pc := 31) (j := 0) dX7_differences_31 rfl ?_
      refine sn_iconst (pc := 33) (v := (-1)) dX7_differences_33 (by decide) ?_
      refine sn_icmp_eq (pc := 34) (tgt := 49) dX7_differences_34 (by decide) ?_ ?_
      · exact sn_sub (lv' := [(0, .ref (E.1 + a0)), (1, .int x1), (2, .int x2)]) [2, 3, 4] rfl (sfX7_differences_49 k4 hk4 a0 x1 x2)
      · refine sn_iload_n (pc := 37) (j := 1) dX7_differences_37 rfl rfl ?_
        refine sn_iload (pc := 38) (j := 0) dX7_differences_38 rfl ?_
        refine sn_icmp_eq (pc := 40) (tgt := 49) dX7_differences_40 (by decide) ?_ ?_
        · exact sn_sub (lv' := [(0, .ref (E.1 + a0)), (1, .int x1), (2, .int x2)]) [2, 3, 4] rfl (sfX7_differences_49 k4 hk4 a0 x1 x2)
        · refine sn_iload_n (pc := 43) (j := 3) dX7_differences_43 rfl rfl ?_
          refine sn_iconst (pc := 44) (v := 1) dX7_differences_44 (by decide) ?_
          refine sn_iload_n (pc := 45) (j := 4) dX7_differences_45 rfl rfl ?_
          refine sn_ishl (pc := 46) dX7_differences_46 ?_
          refine sn_ior (pc := 47) dX7_differences_47 ?_
          refine sn_istore_n (pc := 48) (i := 1) (lv' := [(1, .int (x1 ||| (1 <<< (x2 &&& 31)))), (4, .int v1005), (3, .int v1002), (0, .ref (E.1 + a0)), (2, .int x2)]) dX7_differences_48 rfl (by decide) rfl ?_
          exact sn_sub (lv' := [(0, .ref (E.1 + a0)), (1, .int (x1 ||| (1 <<< (x2 &&& 31)))), (2, .int x2)]) [3, 0, 4] rfl (sfX7_differences_49 k4 hk4 a0 (x1 ||| (1 <<< (x2 &&& 31))) x2)
def fX7_differences (a0 : Nat) : St → Option (Int32 × St) :=
 itr (fun k (p : Nat × Int32 × Int32) => fX7_differences_4  k p.1 p.2.1 p.2.2) FU (a0, 0, 0)
set_option maxHeartbeats 4000000 in
set_option maxRecDepth 100000 in
theorem mX7_differences {E : Ev} {l : Launch} (a0 : Nat) : MF E l dpX7_differences yX7_differences cX7_differences 5 (some .int) rvI [.ref (E.1 + a0)] (fX7_differences a0) := by
  refine MF.of (lv := [(0, .ref (E.1 + a0))]) (by decide) (Nat.le_of_ble_eq_true rfl) rfl ?_
  unfold fX7_differences
  refine sn_iconst (pc := 0) (v := 0) dX7_differences_0 (by decide) ?_
  refine sn_istore_n (pc := 1) (i := 1) (lv' := [(1, .int 0), (0, .ref (E.1 + a0))]) dX7_differences_1 rfl (by decide) rfl ?_
  refine sn_iconst (pc := 2) (v := 0) dX7_differences_2 (by decide) ?_
  refine sn_istore_n (pc := 3) (i := 2) (lv' := [(2, .int 0), (1, .int 0), (0, .ref (E.1 + a0))]) dX7_differences_3 rfl (by decide) rfl ?_
  exact sn_sub (lv' := [(0, .ref (E.1 + a0)), (1, .int 0), (2, .int 0)]) [2, 1, 0] rfl (sn_itr (lvf := fun p => [(0, .ref (E.1 + p.1)), (1, .int p.2.1), (2, .int p.2.2)]) (stf := fun p => []) (fun k hk p => sfX7_differences_4  k hk p.1 p.2.1 p.2.2) FU (a0, 0, 0))
theorem iX7_differences : MI yX7_differences cX7_differences 5 (some .int) 0 := ⟨wt1_20, wt5_34, by decide +kernel, by decide⟩
-- NeedleHomes$Piece isLookedAt()Z
theorem dX7_isLookedAt_0 : decode cX7_isLookedAt 0 = .ok (.iconst 0, 1) := by decide +kernel
theorem dX7_isLookedAt_1 : decode cX7_isLookedAt 1 = .ok (.istore_n 1, 1) := by decide +kernel
theorem dX7_isLookedAt_2 : decode cX7_isLookedAt 2 = .ok (.iload_n 1, 1) := by decide +kernel
theorem dX7_isLookedAt_3 : decode cX7_isLookedAt 3 = .ok (.bipush 6, 2) := by decide +kernel
theorem dX7_isLookedAt_5 : decode cX7_isLookedAt 5 = .ok (.if_icmp .ge 20, 3) := by decide +kernel
theorem dX7_isLookedAt_8 : decode cX7_isLookedAt 8 = .ok (.aload_n 0, 1) := by decide +kernel
theorem dX7_isLookedAt_9 : decode cX7_isLookedAt 9 = .ok (.getfield 19, 3) := by decide +kernel
theorem dX7_isLookedAt_12 : decode cX7_isLookedAt 12 = .ok (.iload_n 1, 1) := by decide +kernel
theorem dX7_isLookedAt_13 : decode cX7_isLookedAt 13 = .ok (.iaload, 1) := by decide +kernel
theorem dX7_isLookedAt_14 : decode cX7_isLookedAt 14 = .ok (.ifCond .le 5, 3) := by decide +kernel
theorem dX7_isLookedAt_17 : decode cX7_isLookedAt 17 = .ok (.iconst 1, 1) := by decide +kernel
theorem dX7_isLookedAt_18 : decode cX7_isLookedAt 18 = .ok (.ireturn, 1) := by decide +kernel
theorem dX7_isLookedAt_19 : decode cX7_isLookedAt 19 = .ok (.iinc 1 1, 3) := by decide +kernel
theorem dX7_isLookedAt_22 : decode cX7_isLookedAt 22 = .ok (.goto (-20), 3) := by decide +kernel
theorem dX7_isLookedAt_25 : decode cX7_isLookedAt 25 = .ok (.iconst 0, 1) := by decide +kernel
theorem dX7_isLookedAt_26 : decode cX7_isLookedAt 26 = .ok (.ireturn, 1) := by decide +kernel
abbrev dpX7_isLookedAt : Nat := 0
def fX7_isLookedAt_2 (k2 : (Nat × Int32) → St → Option (Bool × St)) (a0 : Nat) (x1 : Int32) : St → Option (Bool × St) :=
 br (6 ≤ x1) (rtZ 0)
 (gR 8 a0 10 fun v1001 =>
 nn v1001 fun a1003 =>
 aI 15 a1003 x1 fun v1002 =>
 br (v1002 ≤ 0) (k2 (a0, (x1 + 1)))
 (rtZ 1))
set_option maxHeartbeats 4000000 in
set_option maxRecDepth 100000 in
theorem sfX7_isLookedAt_2 {E : Ev} {l : Launch} (k2 : (Nat × Int32) → St → Option (Bool × St)) (hk2 : ∀ p : Nat × Int32, Snd E l (dpX7_isLookedAt, RX7, cX7_isLookedAt, 2, (some .boolean), "isLookedAt") rvZ 2 [(0, .ref (E.1 + p.1)), (1, .int p.2)] [] (k2 p)) (a0 : Nat) (x1 : Int32) : Snd E l (dpX7_isLookedAt, RX7, cX7_isLookedAt, 2, (some .boolean), "isLookedAt") rvZ 2 [(0, .ref (E.1 + a0)), (1, .int x1)] [] (fX7_isLookedAt_2 k2 a0 x1) := by
  unfold fX7_isLookedAt_2
  refine sn_iload_n (pc := 2) (j := 1) dX7_isLookedAt_2 rfl rfl ?_
  refine sn_bipush (pc := 3) (v := 6) dX7_isLookedAt_3 (by decide) ?_
  refine sn_icmp_ge (pc := 5) (tgt := 25) dX7_isLookedAt_5 (by decide) ?_ ?_
  · refine sn_iconst (pc := 25) (v := 0) dX7_isLookedAt_25 (by decide) ?_
    exact sn_zret (pc := 26) dX7_isLookedAt_26 rfl
  · refine sn_aload_n (pc := 8) (j := 0) dX7_isLookedAt_8 rfl rfl ?_
    refine sn_gR (pc := 9) dX7_isLookedAt_9 flX7_19 rfl (fun v1001 => ?_)
    refine sn_iload_n (pc := 12) (j := 1) dX7_isLookedAt_12 rfl rfl ?_
    rcases v1001 with _ | a1003
    · exact sn_no
    refine sn_nn ?_
    refine sn_iald (pc := 13) dX7_isLookedAt_13 (fun v1002 => ?_)
    refine sn_if_le (pc := 14) (tgt := 19) dX7_isLookedAt_14 (by decide) ?_ ?_
    · refine sn_iinc (pc := 19) (v := x1 + 1) (lv' := [(1, .int (x1 + 1)), (0, .ref (E.1 + a0))]) (j := 1) dX7_isLookedAt_19 rfl rfl (by decide) rfl ?_
      refine sn_goto (pc := 22) (tgt := 2) dX7_isLookedAt_22 (by decide) ?_
      exact sn_sub (lv' := [(0, .ref (E.1 + a0)), (1, .int (x1 + 1))]) [1, 0] rfl (hk2 (a0, (x1 + 1)))
    · refine sn_iconst (pc := 17) (v := 1) dX7_isLookedAt_17 (by decide) ?_
      exact sn_zret (pc := 18) dX7_isLookedAt_18 rfl
def fX7_isLookedAt (a0 : Nat) : St → Option (Bool × St) :=
 itr (fun k (p : Nat × Int32) => fX7_isLookedAt_2  k p.1 p.2) FU (a0, 0)
set_option maxHeartbeats 4000000 in
set_option maxRecDepth 100000 in
theorem mX7_isLookedAt {E : Ev} {l : Launch} (a0 : Nat) : MF E l dpX7_isLookedAt yX7_isLookedAt cX7_isLookedAt 2 (some .boolean) rvZ [.ref (E.1 + a0)] (fX7_isLookedAt a0) := by
  refine MF.of (lv := [(0, .ref (E.1 + a0))]) (by decide) (Nat.le_of_ble_eq_true rfl) rfl ?_
  unfold fX7_isLookedAt
  refine sn_iconst (pc := 0) (v := 0) dX7_isLookedAt_0 (by decide) ?_
  refine sn_istore_n (pc := 1) (i := 1) (lv' := [(1, .int 0), (0, .ref (E.1 + a0))]) dX7_isLookedAt_1 rfl (by decide) rfl ?_
  exact sn_sub (lv' := [(0, .ref (E.1 + a0)), (1, .int 0)]) [1, 0] rfl (sn_itr (lvf := fun p => [(0, .ref (E.1 + p.1)), (1, .int p.2)]) (stf := fun p => []) (fun k hk p => sfX7_isLookedAt_2  k hk p.1 p.2) FU (a0, 0))
theorem iX7_isLookedAt : MI yX7_isLookedAt cX7_isLookedAt 2 (some .boolean) 0 := ⟨wt1_20, wt5_121, by decide +kernel, by decide⟩
-- NeedleHomes$Piece unlikenessOf(LNeedleHomes$Hand;)I
theorem dX7_unlikenessOf_0 : decode cX7_unlikenessOf 0 = .ok (.iconst 0, 1) := by decide +kernel
theorem dX7_unlikenessOf_1 : decode cX7_unlikenessOf 1 = .ok (.istore_n 2, 1) := by decide +kernel
theorem dX7_unlikenessOf_2 : decode cX7_unlikenessOf 2 = .ok (.iconst 0, 1) := by decide +kernel
theorem dX7_unlikenessOf_3 : decode cX7_unlikenessOf 3 = .ok (.istore_n 3, 1) := by decide +kernel
theorem dX7_unlikenessOf_4 : decode cX7_unlikenessOf 4 = .ok (.iload_n 3, 1) := by decide +kernel
theorem dX7_unlikenessOf_5 : decode cX7_unlikenessOf 5 = .ok (.bipush 6, 2) := by decide +kernel
theorem dX7_unlikenessOf_7 : decode cX7_unlikenessOf 7 = .ok (.if_icmp .ge 38, 3) := by decide +kernel
theorem dX7_unlikenessOf_10 : decode cX7_unlikenessOf 10 = .ok (.iload_n 2, 1) := by decide +kernel
theorem dX7_unlikenessOf_11 : decode cX7_unlikenessOf 11 = .ok (.bipush 100, 2) := by decide +kernel
theorem dX7_unlikenessOf_13 : decode cX7_unlikenessOf 13 = .ok (.aload_n 0, 1) := by decide +kernel
theorem dX7_unlikenessOf_14 : decode cX7_unlikenessOf 14 = .ok (.getfield 22, 3) := by decide +kernel
theorem dX7_unlikenessOf_17 : decode cX7_unlikenessOf 17 = .ok (.iload_n 3, 1) := by decide +kernel
theorem dX7_unlikenessOf_18 : decode cX7_unlikenessOf 18 = .ok (.iaload, 1) := by decide +kernel
theorem dX7_unlikenessOf_19 : decode cX7_unlikenessOf 19 = .ok (.imul, 1) := by decide +kernel
theorem dX7_unlikenessOf_20 : decode cX7_unlikenessOf 20 = .ok (.aload_n 1, 1) := by decide +kernel
theorem dX7_unlikenessOf_21 : decode cX7_unlikenessOf 21 = .ok (.getfield 61, 3) := by decide +kernel
theorem dX7_unlikenessOf_24 : decode cX7_unlikenessOf 24 = .ok (.iload_n 3, 1) := by decide +kernel
theorem dX7_unlikenessOf_25 : decode cX7_unlikenessOf 25 = .ok (.iaload, 1) := by decide +kernel
theorem dX7_unlikenessOf_26 : decode cX7_unlikenessOf 26 = .ok (.aload_n 0, 1) := by decide +kernel
theorem dX7_unlikenessOf_27 : decode cX7_unlikenessOf 27 = .ok (.getfield 19, 3) := by decide +kernel
theorem dX7_unlikenessOf_30 : decode cX7_unlikenessOf 30 = .ok (.iload_n 3, 1) := by decide +kernel
theorem dX7_unlikenessOf_31 : decode cX7_unlikenessOf 31 = .ok (.iaload, 1) := by decide +kernel
theorem dX7_unlikenessOf_32 : decode cX7_unlikenessOf 32 = .ok (.imul, 1) := by decide +kernel
theorem dX7_unlikenessOf_33 : decode cX7_unlikenessOf 33 = .ok (.isub, 1) := by decide +kernel
theorem dX7_unlikenessOf_34 : decode cX7_unlikenessOf 34 = .ok (.invokestatic 66, 3) := by decide +kernel
theorem dX7_unlikenessOf_37 : decode cX7_unlikenessOf 37 = .ok (.iadd, 1) := by decide +kernel
theorem dX7_unlikenessOf_38 : decode cX7_unlikenessOf 38 = .ok (.istore_n 2, 1) := by decide +kernel
theorem dX7_unlikenessOf_39 : decode cX7_unlikenessOf 39 = .ok (.iinc 3 1, 3) := by decide +kernel
theorem dX7_unlikenessOf_42 : decode cX7_unlikenessOf 42 = .ok (.goto (-38), 3) := by decide +kernel
theorem dX7_unlikenessOf_45 : decode cX7_unlikenessOf 45 = .ok (.iload_n 2, 1) := by decide +kernel
theorem dX7_unlikenessOf_46 : decode cX7_unlikenessOf 46 = .ok (.ireturn, 1) := by decide +kernel
abbrev dpX7_unlikenessOf : Nat := 1
def fX7_unlikenessOf_4 (k4 : (Nat × Option Nat × Int32 × Int32) → St → Option (Int32 × St)) (a0 : Nat) (x1 : Option Nat) (x2 : Int32) (x3 : Int32) : St → Option (Int32 × St) :=
 br (6 ≤ x3) (rt x2)
 (gR 8 a0 11 fun v1001 =>
 nn v1001 fun a1003 =>
 aI 15 a1003 x3 fun v1002 =>
 nn x1 fun a1005 =>
 gR 3 a1005 5 fun v1004 =>
 nn v1004 fun a1007 =>
 aI 15 a1007 x3 fun v1006 =>
 gR 8 a0 10 fun v1008 =>
 nn v1008 fun a1010 =>
 aI 15 a1010 x3 fun v1009 =>
 k4 (a0, (some a1005), (x2 + (abI ((100 * v1002) - (v1006 * v1009)))), (x3 + 1)))
set_option maxHeartbeats 4000000 in
set_option maxRecDepth 100000 in
theorem sfX7_unlikenessOf_4 {E : Ev} {l : Launch} (k4 : (Nat × Option Nat × Int32 × Int32) → St → Option (Int32 × St)) (hk4 : ∀ p : Nat × Option Nat × Int32 × Int32, Snd E l (dpX7_unlikenessOf, RX7, cX7_unlikenessOf, 4, (some .int), "unlikenessOf") rvI 4 [(0, .ref (E.1 + p.1)), (1, rf E.1 p.2.1), (2, .int p.2.2.1), (3, .int p.2.2.2)] [] (k4 p)) (a0 : Nat) (x1 : Option Nat) (x2 : Int32) (x3 : Int32) : Snd E l (dpX7_unlikenessOf, RX7, cX7_unlikenessOf, 4, (some .int), "unlikenessOf") rvI 4 [(0, .ref (E.1 + a0)), (1, rf E.1 x1), (2, .int x2), (3, .int x3)] [] (fX7_unlikenessOf_4 k4 a0 x1 x2 x3) := by
  unfold fX7_unlikenessOf_4
  refine sn_iload_n (pc := 4) (j := 3) dX7_unlikenessOf_4 rfl rfl ?_
  refine sn_bipush (pc := 5) (v := 6) dX7_unlikenessOf_5 (by decide) ?_
  refine sn_icmp_ge (pc := 7) (tgt := 45) dX7_unlikenessOf_7 (by decide) ?_ ?_
  · refine sn_iload_n (pc := 45) (j := 2) dX7_unlikenessOf_45 rfl rfl ?_
    exact sn_iret (pc := 46) dX7_unlikenessOf_46 rfl
  · refine sn_iload_n (pc := 10) (j := 2) dX7_unlikenessOf_10 rfl rfl ?_
    refine sn_bipush (pc := 11) (v := 100) dX7_unlikenessOf_11 (by decide) ?_
    refine sn_aload_n (pc := 13) (j := 0) dX7_unlikenessOf_13 rfl rfl ?_
    refine sn_gR (pc := 14) dX7_unlikenessOf_14 flX7_22 rfl (fun v1001 => ?_)
    refine sn_iload_n (pc := 17) (j := 3) dX7_unlikenessOf_17 rfl rfl ?_
    rcases v1001 with _ | a1003
    · exact sn_no
    refine sn_nn ?_
    refine sn_iald (pc := 18) dX7_unlikenessOf_18 (fun v1002 => ?_)
    refine sn_imul (pc := 19) dX7_unlikenessOf_19 ?_
    refine sn_aloadR_n (pc := 20) (r := x1) (j := 1) dX7_unlikenessOf_20 rfl rfl ?_
    rcases x1 with _ | a1005
    · exact sn_no
    refine sn_nn ?_
    refine sn_gR (pc := 21) dX7_unlikenessOf_21 flX7_61 rfl (fun v1004 => ?_)
    refine sn_iload_n (pc := 24) (j := 3) dX7_unlikenessOf_24 rfl rfl ?_
    rcases v1004 with _ | a1007
    · exact sn_no
    refine sn_nn ?_
    refine sn_iald (pc := 25) dX7_unlikenessOf_25 (fun v1006 => ?_)
    refine sn_aload_n (pc := 26) (j := 0) dX7_unlikenessOf_26 rfl rfl ?_
    refine sn_gR (pc := 27) dX7_unlikenessOf_27 flX7_19 rfl (fun v1008 => ?_)
    refine sn_iload_n (pc := 30) (j := 3) dX7_unlikenessOf_30 rfl rfl ?_
    rcases v1008 with _ | a1010
    · exact sn_no
    refine sn_nn ?_
    refine sn_iald (pc := 31) dX7_unlikenessOf_31 (fun v1009 => ?_)
    refine sn_imul (pc := 32) dX7_unlikenessOf_32 ?_
    refine sn_isub (pc := 33) dX7_unlikenessOf_33 ?_
    refine sn_mabs (pc := 34) dX7_unlikenessOf_34 wt5_111 wt5_112 wt1_11 wt5_113 (by decide) (Nat.le_of_ble_eq_true rfl) ?_
    refine sn_iadd (pc := 37) dX7_unlikenessOf_37 ?_
    refine sn_istore_n (pc := 38) (i := 2) (lv' := [(2, .int (x2 + (abI ((100 * v1002) - (v1006 * v1009))))), (0, .ref (E.1 + a0)), (1, .ref (E.1 + a1005)), (3, .int x3)]) dX7_unlikenessOf_38 rfl (by decide) rfl ?_
    refine sn_iinc (pc := 39) (v := x3 + 1) (lv' := [(3, .int (x3 + 1)), (2, .int (x2 + (abI ((100 * v1002) - (v1006 * v1009))))), (0, .ref (E.1 + a0)), (1, .ref (E.1 + a1005))]) (j := 3) dX7_unlikenessOf_39 rfl rfl (by decide) rfl ?_
    refine sn_goto (pc := 42) (tgt := 4) dX7_unlikenessOf_42 (by decide) ?_
    exact sn_sub (lv' := [(0, .ref (E.1 + a0)), (1, .ref (E.1 + a1005)), (2, .int (x2 + (abI ((100 * v1002) - (v1006 * v1009))))), (3, .int (x3 + 1))]) [2, 3, 1, 0] rfl (hk4 (a0, (some a1005), (x2 + (abI ((100 * v1002) - (v1006 * v1009)))), (x3 + 1)))
def fX7_unlikenessOf (a0 : Nat) (x1 : Option Nat) : St → Option (Int32 × St) :=
 itr (fun k (p : Nat × Option Nat × Int32 × Int32) => fX7_unlikenessOf_4  k p.1 p.2.1 p.2.2.1 p.2.2.2) FU (a0, x1, 0, 0)
set_option maxHeartbeats 4000000 in
set_option maxRecDepth 100000 in
theorem mX7_unlikenessOf {E : Ev} {l : Launch} (a0 : Nat) (x1 : Option Nat) : MF E l dpX7_unlikenessOf yX7_unlikenessOf cX7_unlikenessOf 4 (some .int) rvI [.ref (E.1 + a0), rf E.1 x1] (fX7_unlikenessOf a0 x1) := by
  refine MF.of (lv := [(0, .ref (E.1 + a0)), (1, rf E.1 x1)]) (by decide) (by simp [lg_sl, rf_cat, cat_int, cat_long, cat_ref]) (by simp [lv_args, rf_cat, cat_int, cat_long, cat_ref]) ?_
  unfold fX7_unlikenessOf
  refine sn_iconst (pc := 0) (v := 0) dX7_unlikenessOf_0 (by decide) ?_
  refine sn_istore_n (pc := 1) (i := 2) (lv' := [(2, .int 0), (0, .ref (E.1 + a0)), (1, rf E.1 x1)]) dX7_unlikenessOf_1 rfl (by decide) (by simp [rf_some, rf_cat, cat_int, cat_long, cat_ref]) ?_
  refine sn_iconst (pc := 2) (v := 0) dX7_unlikenessOf_2 (by decide) ?_
  refine sn_istore_n (pc := 3) (i := 3) (lv' := [(3, .int 0), (2, .int 0), (0, .ref (E.1 + a0)), (1, rf E.1 x1)]) dX7_unlikenessOf_3 rfl (by decide) rfl ?_
  exact sn_sub (lv' := [(0, .ref (E.1 + a0)), (1, rf E.1 x1), (2, .int 0), (3, .int 0)]) [2, 3, 1, 0] rfl (sn_itr (lvf := fun p => [(0, .ref (E.1 + p.1)), (1, rf E.1 p.2.1), (2, .int p.2.2.1), (3, .int p.2.2.2)]) (stf := fun p => []) (fun k hk p => sfX7_unlikenessOf_4  k hk p.1 p.2.1 p.2.2.1 p.2.2.2) FU (a0, x1, 0, 0))
theorem iX7_unlikenessOf : MI yX7_unlikenessOf cX7_unlikenessOf 4 (some .int) 1 := ⟨wt1_20, wt5_110, by decide +kernel, by decide⟩
-- java/util/Arrays copyOf([II)[I
theorem dJ7_copyOf_59c91_0 : decode cJ7_copyOf_59c91 0 = .ok (.iload_n 1, 1) := by decide +kernel
theorem dJ7_copyOf_59c91_1 : decode cJ7_copyOf_59c91 1 = .ok (.aload_n 0, 1) := by decide +kernel
theorem dJ7_copyOf_59c91_2 : decode cJ7_copyOf_59c91 2 = .ok (.arraylength, 1) := by decide +kernel
theorem dJ7_copyOf_59c91_3 : decode cJ7_copyOf_59c91 3 = .ok (.if_icmp .ne 11, 3) := by decide +kernel
theorem dJ7_copyOf_59c91_6 : decode cJ7_copyOf_59c91 6 = .ok (.aload_n 0, 1) := by decide +kernel
theorem dJ7_copyOf_59c91_7 : decode cJ7_copyOf_59c91 7 = .ok (.invokevirtual 316, 3) := by decide +kernel
theorem dJ7_copyOf_59c91_10 : decode cJ7_copyOf_59c91 10 = .ok (.checkcast 317, 3) := by decide +kernel
theorem dJ7_copyOf_59c91_13 : decode cJ7_copyOf_59c91 13 = .ok (.areturn, 1) := by decide +kernel
theorem dJ7_copyOf_59c91_14 : decode cJ7_copyOf_59c91 14 = .ok (.iload_n 1, 1) := by decide +kernel
theorem dJ7_copyOf_59c91_15 : decode cJ7_copyOf_59c91 15 = .ok (.newarray .int, 2) := by decide +kernel
theorem dJ7_copyOf_59c91_17 : decode cJ7_copyOf_59c91 17 = .ok (.astore_n 2, 1) := by decide +kernel
theorem dJ7_copyOf_59c91_18 : decode cJ7_copyOf_59c91 18 = .ok (.aload_n 0, 1) := by decide +kernel
theorem dJ7_copyOf_59c91_19 : decode cJ7_copyOf_59c91 19 = .ok (.iconst 0, 1) := by decide +kernel
theorem dJ7_copyOf_59c91_20 : decode cJ7_copyOf_59c91 20 = .ok (.aload_n 2, 1) := by decide +kernel
theorem dJ7_copyOf_59c91_21 : decode cJ7_copyOf_59c91 21 = .ok (.iconst 0, 1) := by decide +kernel
theorem dJ7_copyOf_59c91_22 : decode cJ7_copyOf_59c91 22 = .ok (.aload_n 0, 1) := by decide +kernel
theorem dJ7_copyOf_59c91_23 : decode cJ7_copyOf_59c91 23 = .ok (.arraylength, 1) := by decide +kernel
theorem dJ7_copyOf_59c91_24 : decode cJ7_copyOf_59c91 24 = .ok (.iload_n 1, 1) := by decide +kernel
theorem dJ7_copyOf_59c91_25 : decode cJ7_copyOf_59c91 25 = .ok (.invokestatic 304, 3) := by decide +kernel
theorem dJ7_copyOf_59c91_28 : decode cJ7_copyOf_59c91 28 = .ok (.invokestatic 150, 3) := by decide +kernel
theorem dJ7_copyOf_59c91_31 : decode cJ7_copyOf_59c91 31 = .ok (.aload_n 2, 1) := by decide +kernel
theorem dJ7_copyOf_59c91_32 : decode cJ7_copyOf_59c91 32 = .ok (.areturn, 1) := by decide +kernel
abbrev dpJ7_copyOf_59c91 : Nat := 1
def fJ7_copyOf_59c91 (x0 : Option Nat) (x1 : Int32) : St → Option ((Option Nat) × St) :=
 nn x0 fun a2 =>
 aL 15 a2 fun v1 =>
 br (x1 = v1) (cn a2 fun a5 =>
 ck 15 a5 <|
 rt (some a5))
 (nA 15 x1 fun a3 =>
 aL 15 a2 fun v4 =>
 cp 15 a2 0 a3 0 (mnI v4 x1) <|
 rt (some a3))
set_option maxHeartbeats 4000000 in
set_option maxRecDepth 100000 in
theorem mJ7_copyOf_59c91 {E : Ev} {l : Launch} (x0 : Option Nat) (x1 : Int32) : MF E l dpJ7_copyOf_59c91 yJ7_copyOf_59c91 cJ7_copyOf_59c91 3 (some (.array .int)) (rvR E.1) [rf E.1 x0, .int x1] (fJ7_copyOf_59c91 x0 x1) := by
  refine MF.of (lv := [(0, rf E.1 x0), (1, .int x1)]) (by decide) (by simp [lg_sl, rf_cat, cat_int, cat_long, cat_ref]) (by simp [lv_args, rf_cat, cat_int, cat_long, cat_ref]) ?_
  unfold fJ7_copyOf_59c91
  refine sn_iload_n (pc := 0) (j := 1) dJ7_copyOf_59c91_0 rfl rfl ?_
  refine sn_aloadR_n (pc := 1) (r := x0) (j := 0) dJ7_copyOf_59c91_1 rfl rfl ?_
  rcases x0 with _ | a2
  · exact sn_no
  refine sn_nn ?_
  refine sn_alen (t := 1) (pc := 2) dJ7_copyOf_59c91_2 rfl (fun v1 => ?_)
  refine sn_icmp_ne (pc := 3) (tgt := 14) dJ7_copyOf_59c91_3 (by decide) ?_ ?_
  · refine sn_iload_n (pc := 14) (j := 1) dJ7_copyOf_59c91_14 rfl rfl ?_
    refine sn_newI (pc := 15) dJ7_copyOf_59c91_15 wt1_109 (fun a3 => ?_)
    refine sn_astore_n (pc := 17) (i := 2) (lv' := [(2, .ref (E.1 + a3)), (0, .ref (E.1 + a2)), (1, .int x1)]) dJ7_copyOf_59c91_17 rfl (by decide) rfl ?_
    refine sn_aload_n (pc := 18) (j := 1) dJ7_copyOf_59c91_18 rfl rfl ?_
    refine sn_iconst (pc := 19) (v := 0) dJ7_copyOf_59c91_19 (by decide) ?_
    refine sn_aload_n (pc := 20) (j := 0) dJ7_copyOf_59c91_20 rfl rfl ?_
    refine sn_iconst (pc := 21) (v := 0) dJ7_copyOf_59c91_21 (by decide) ?_
    refine sn_aload_n (pc := 22) (j := 1) dJ7_copyOf_59c91_22 rfl rfl ?_
    refine sn_alen (t := 1) (pc := 23) dJ7_copyOf_59c91_23 rfl (fun v4 => ?_)
    refine sn_iload_n (pc := 24) (j := 2) dJ7_copyOf_59c91_24 rfl rfl ?_
    refine sn_mmin (pc := 25) dJ7_copyOf_59c91_25 wt3_148 wt2_116 wt1_11 wt2_117 (by decide) (Nat.le_of_ble_eq_true rfl) ?_
    refine sn_copy (t := 1) (pc := 28) dJ7_copyOf_59c91_28 wt3_149 w_an w_as w_ai rfl (by decide) (by decide) (Nat.le_of_ble_eq_true rfl) ?_
    refine sn_aload_n (pc := 31) (j := 0) dJ7_copyOf_59c91_31 rfl rfl ?_
    exact sn_aret (pc := 32) (v := (some a3)) dJ7_copyOf_59c91_32 rfl (Or.inr ⟨_, rfl⟩)
  · refine sn_aload_n (pc := 6) (j := 0) dJ7_copyOf_59c91_6 rfl rfl ?_
    refine sn_clone (pc := 7) dJ7_copyOf_59c91_7 wt3_141 w_c0 w_c1 w_c2 w_c3 (by decide) (Nat.le_of_ble_eq_true rfl) (fun a5 => ?_)
    refine sn_castI (pc := 10) dJ7_copyOf_59c91_10 wt3_147 ?_
    exact sn_aret (pc := 13) (v := (some a5)) dJ7_copyOf_59c91_13 rfl (Or.inr ⟨_, rfl⟩)
theorem iJ7_copyOf_59c91 : MI yJ7_copyOf_59c91 cJ7_copyOf_59c91 3 (some (.array .int)) 2 := ⟨wt1_3, wt3_140, by decide +kernel, by decide⟩
-- NeedleHomes$TermList <init>(IIILNeedleHomes$ListReader;)V
theorem dX9_init_0 : decode cX9_init 0 = .ok (.aload_n 0, 1) := by decide +kernel
theorem dX9_init_1 : decode cX9_init 1 = .ok (.invokespecial 5, 3) := by decide +kernel
theorem dX9_init_4 : decode cX9_init 4 = .ok (.aload_n 0, 1) := by decide +kernel
theorem dX9_init_5 : decode cX9_init 5 = .ok (.iload_n 1, 1) := by decide +kernel
theorem dX9_init_6 : decode cX9_init 6 = .ok (.putfield 11, 3) := by decide +kernel
theorem dX9_init_9 : decode cX9_init 9 = .ok (.aload_n 0, 1) := by decide +kernel
theorem dX9_init_10 : decode cX9_init 10 = .ok (.iload_n 2, 1) := by decide +kernel
theorem dX9_init_11 : decode cX9_init 11 = .ok (.putfield 15, 3) := by decide +kernel
theorem dX9_init_14 : decode cX9_init 14 = .ok (.aload_n 0, 1) := by decide +kernel
theorem dX9_init_15 : decode cX9_init 15 = .ok (.iload_n 3, 1) := by decide +kernel
theorem dX9_init_16 : decode cX9_init 16 = .ok (.putfield 18, 3) := by decide +kernel
theorem dX9_init_19 : decode cX9_init 19 = .ok (.aload_n 0, 1) := by decide +kernel
theorem dX9_init_20 : decode cX9_init 20 = .ok (.iconst 0, 1) := by decide +kernel
theorem dX9_init_21 : decode cX9_init 21 = .ok (.aload 4, 2) := by decide +kernel
theorem dX9_init_23 : decode cX9_init 23 = .ok (.getfield 21, 3) := by decide +kernel
theorem dX9_init_26 : decode cX9_init 26 = .ok (.bipush 16, 2) := by decide +kernel
theorem dX9_init_28 : decode cX9_init 28 = .ok (.invokestatic 26, 3) := by decide +kernel
theorem dX9_init_31 : decode cX9_init 31 = .ok (.invokestatic 32, 3) := by decide +kernel
theorem dX9_init_34 : decode cX9_init 34 = .ok (.putfield 35, 3) := by decide +kernel
theorem dX9_init_37 : decode cX9_init 37 = .ok (.aload_n 0, 1) := by decide +kernel
theorem dX9_init_38 : decode cX9_init 38 = .ok (.aload 4, 2) := by decide +kernel
theorem dX9_init_40 : decode cX9_init 40 = .ok (.getfield 36, 3) := by decide +kernel
theorem dX9_init_43 : decode cX9_init 43 = .ok (.aload_n 0, 1) := by decide +kernel
theorem dX9_init_44 : decode cX9_init 44 = .ok (.getfield 35, 3) := by decide +kernel
theorem dX9_init_47 : decode cX9_init 47 = .ok (.invokestatic 40, 3) := by decide +kernel
theorem dX9_init_50 : decode cX9_init 50 = .ok (.putfield 46, 3) := by decide +kernel
theorem dX9_init_53 : decode cX9_init 53 = .ok (.aload_n 0, 1) := by decide +kernel
theorem dX9_init_54 : decode cX9_init 54 = .ok (.aload 4, 2) := by decide +kernel
theorem dX9_init_56 : decode cX9_init 56 = .ok (.getfield 47, 3) := by decide +kernel
theorem dX9_init_59 : decode cX9_init 59 = .ok (.aload_n 0, 1) := by decide +kernel
theorem dX9_init_60 : decode cX9_init 60 = .ok (.getfield 35, 3) := by decide +kernel
theorem dX9_init_63 : decode cX9_init 63 = .ok (.invokestatic 40, 3) := by decide +kernel
theorem dX9_init_66 : decode cX9_init 66 = .ok (.putfield 50, 3) := by decide +kernel
theorem dX9_init_69 : decode cX9_init 69 = .ok (.aload_n 0, 1) := by decide +kernel
theorem dX9_init_70 : decode cX9_init 70 = .ok (.aload 4, 2) := by decide +kernel
theorem dX9_init_72 : decode cX9_init 72 = .ok (.getfield 51, 3) := by decide +kernel
theorem dX9_init_75 : decode cX9_init 75 = .ok (.aload_n 0, 1) := by decide +kernel
theorem dX9_init_76 : decode cX9_init 76 = .ok (.getfield 35, 3) := by decide +kernel
theorem dX9_init_79 : decode cX9_init 79 = .ok (.invokestatic 40, 3) := by decide +kernel
theorem dX9_init_82 : decode cX9_init 82 = .ok (.putfield 54, 3) := by decide +kernel
theorem dX9_init_85 : decode cX9_init 85 = .ok (.aload_n 0, 1) := by decide +kernel
theorem dX9_init_86 : decode cX9_init 86 = .ok (.aload 4, 2) := by decide +kernel
theorem dX9_init_88 : decode cX9_init 88 = .ok (.getfield 55, 3) := by decide +kernel
theorem dX9_init_91 : decode cX9_init 91 = .ok (.aload_n 0, 1) := by decide +kernel
theorem dX9_init_92 : decode cX9_init 92 = .ok (.getfield 35, 3) := by decide +kernel
theorem dX9_init_95 : decode cX9_init 95 = .ok (.bipush 16, 2) := by decide +kernel
theorem dX9_init_97 : decode cX9_init 97 = .ok (.imul, 1) := by decide +kernel
theorem dX9_init_98 : decode cX9_init 98 = .ok (.invokestatic 40, 3) := by decide +kernel
theorem dX9_init_101 : decode cX9_init 101 = .ok (.putfield 58, 3) := by decide +kernel
theorem dX9_init_104 : decode cX9_init 104 = .ok (.return_, 1) := by decide +kernel
abbrev dpX9_init : Nat := 2
def fX9_init (a0 : Nat) (x1 : Int32) (x2 : Int32) (x3 : Int32) (x4 : Option Nat) : St → Option (Unit × St) :=
 pI 10 a0 0 x1 <|
 pI 10 a0 1 x2 <|
 pI 10 a0 2 x3 <|
 nn x4 fun a2 =>
 gI 4 a2 1 fun v1 =>
 pI 10 a0 3 (mxI 0 (mnI v1 16)) <|
 gR 4 a2 2 fun v3 =>
 gI 10 a0 3 fun v4 =>
 cl (fJ7_copyOf_59c91 v3 v4) fun v5 =>
 pR 10 a0 4 v5 <|
 gR 4 a2 3 fun v6 =>
 gI 10 a0 3 fun v7 =>
 cl (fJ7_copyOf_59c91 v6 v7) fun v8 =>
 pR 10 a0 5 v8 <|
 gR 4 a2 4 fun v9 =>
 gI 10 a0 3 fun v10 =>
 cl (fJ7_copyOf_59c91 v9 v10) fun v11 =>
 pR 10 a0 6 v11 <|
 gR 4 a2 5 fun v12 =>
 gI 10 a0 3 fun v13 =>
 cl (fJ7_copyOf_59c91 v12 (v13 * 16)) fun v14 =>
 pR 10 a0 7 v14 <|
 rt ()
set_option maxHeartbeats 4000000 in
set_option maxRecDepth 100000 in
theorem mX9_init {E : Ev} {l : Launch} (a0 : Nat) (x1 : Int32) (x2 : Int32) (x3 : Int32) (x4 : Option Nat) : MF E l dpX9_init yX9_init cX9_init 5 none rvV [.ref (E.1 + a0), .int x1, .int x2, .int x3, rf E.1 x4] (fX9_init a0 x1 x2 x3 x4) := by
  refine MF.of (lv := [(0, .ref (E.1 + a0)), (1, .int x1), (2, .int x2), (3, .int x3), (4, rf E.1 x4)]) (by decide) (by simp [lg_sl, rf_cat, cat_int, cat_long, cat_ref]) (by simp [lv_args, rf_cat, cat_int, cat_long, cat_ref]) ?_
  unfold fX9_init
  refine sn_aload_n (pc := 0) (j := 0) dX9_init_0 rfl rfl ?_
  refine sn_objInit (pc := 1) dX9_init_1 wt3_135 w_oi w_oc (by decide) (Nat.le_of_ble_eq_true rfl) ?_
  refine sn_aload_n (pc := 4) (j := 0) dX9_init_4 rfl rfl ?_
  refine sn_iload_n (pc := 5) (j := 1) dX9_init_5 rfl rfl ?_
  refine sn_pI (pc := 6) dX9_init_6 flX9_11 rfl rfl (Or.inr ⟨rfl, rfl, rfl⟩) ?_
  refine sn_aload_n (pc := 9) (j := 0) dX9_init_9 rfl rfl ?_
  refine sn_iload_n (pc := 10) (j := 2) dX9_init_10 rfl rfl ?_
  refine sn_pI (pc := 11) dX9_init_11 flX9_15 rfl rfl (Or.inr ⟨rfl, rfl, rfl⟩) ?_
  refine sn_aload_n (pc := 14) (j := 0) dX9_init_14 rfl rfl ?_
  refine sn_iload_n (pc := 15) (j := 3) dX9_init_15 rfl rfl ?_
  refine sn_pI (pc := 16) dX9_init_16 flX9_18 rfl rfl (Or.inr ⟨rfl, rfl, rfl⟩) ?_
  refine sn_aload_n (pc := 19) (j := 0) dX9_init_19 rfl rfl ?_
  refine sn_iconst (pc := 20) (v := 0) dX9_init_20 (by decide) ?_
  refine sn_aloadR (pc := 21) (r := x4) (j := 4) dX9_init_21 rfl ?_
  rcases x4 with _ | a2
  · exact sn_no
  refine sn_nn ?_
  refine sn_gI (pc := 23) dX9_init_23 flX9_21 rfl (fun v1 => ?_)
  refine sn_bipush (pc := 26) (v := 16) dX9_init_26 (by decide) ?_
  refine sn_mmin (pc := 28) dX9_init_28 wt3_136 wt2_116 wt1_11 wt2_117 (by decide) (Nat.le_of_ble_eq_true rfl) ?_
  refine sn_mmax (pc := 31) dX9_init_31 wt3_137 wt2_119 wt1_11 wt2_120 (by decide) (Nat.le_of_ble_eq_true rfl) ?_
  refine sn_pI (pc := 34) dX9_init_34 flX9_35 rfl rfl (Or.inr ⟨rfl, rfl, rfl⟩) ?_
  refine sn_aload_n (pc := 37) (j := 0) dX9_init_37 rfl rfl ?_
  refine sn_aload (pc := 38) (j := 4) dX9_init_38 rfl ?_
  refine sn_gR (pc := 40) dX9_init_40 flX9_36 rfl (fun v3 => ?_)
  refine sn_aload_n (pc := 43) (j := 0) dX9_init_43 rfl rfl ?_
  refine sn_gI (pc := 44) dX9_init_44 flX9_35 rfl (fun v4 => ?_)
  refine sn_callS (pc := 47) dX9_init_47 iJ7_copyOf_59c91 wt3_139 wt3_138 (mJ7_copyOf_59c91 v3 v4) (by decide) rfl rfl (Nat.le_of_ble_eq_true rfl) (fun v5 => ?_)
  refine sn_pR (pc := 50) (v := v5) dX9_init_50 flX9_46 rfl (Or.inr ⟨_, rfl⟩) (Or.inr ⟨rfl, rfl, rfl⟩) ?_
  refine sn_aload_n (pc := 53) (j := 0) dX9_init_53 rfl rfl ?_
  refine sn_aload (pc := 54) (j := 4) dX9_init_54 rfl ?_
  refine sn_gR (pc := 56) dX9_init_56 flX9_47 rfl (fun v6 => ?_)
  refine sn_aload_n (pc := 59) (j := 0) dX9_init_59 rfl rfl ?_
  refine sn_gI (pc := 60) dX9_init_60 flX9_35 rfl (fun v7 => ?_)
  refine sn_callS (pc := 63) dX9_init_63 iJ7_copyOf_59c91 wt3_139 wt3_138 (mJ7_copyOf_59c91 v6 v7) (by decide) rfl rfl (Nat.le_of_ble_eq_true rfl) (fun v8 => ?_)
  refine sn_pR (pc := 66) (v := v8) dX9_init_66 flX9_50 rfl (Or.inr ⟨_, rfl⟩) (Or.inr ⟨rfl, rfl, rfl⟩) ?_
  refine sn_aload_n (pc := 69) (j := 0) dX9_init_69 rfl rfl ?_
  refine sn_aload (pc := 70) (j := 4) dX9_init_70 rfl ?_
  refine sn_gR (pc := 72) dX9_init_72 flX9_51 rfl (fun v9 => ?_)
  refine sn_aload_n (pc := 75) (j := 0) dX9_init_75 rfl rfl ?_
  refine sn_gI (pc := 76) dX9_init_76 flX9_35 rfl (fun v10 => ?_)
  refine sn_callS (pc := 79) dX9_init_79 iJ7_copyOf_59c91 wt3_139 wt3_138 (mJ7_copyOf_59c91 v9 v10) (by decide) rfl rfl (Nat.le_of_ble_eq_true rfl) (fun v11 => ?_)
  refine sn_pR (pc := 82) (v := v11) dX9_init_82 flX9_54 rfl (Or.inr ⟨_, rfl⟩) (Or.inr ⟨rfl, rfl, rfl⟩) ?_
  refine sn_aload_n (pc := 85) (j := 0) dX9_init_85 rfl rfl ?_
  refine sn_aload (pc := 86) (j := 4) dX9_init_86 rfl ?_
  refine sn_gR (pc := 88) dX9_init_88 flX9_55 rfl (fun v12 => ?_)
  refine sn_aload_n (pc := 91) (j := 0) dX9_init_91 rfl rfl ?_
  refine sn_gI (pc := 92) dX9_init_92 flX9_35 rfl (fun v13 => ?_)
  refine sn_bipush (pc := 95) (v := 16) dX9_init_95 (by decide) ?_
  refine sn_imul (pc := 97) dX9_init_97 ?_
  refine sn_callS (pc := 98) dX9_init_98 iJ7_copyOf_59c91 wt3_139 wt3_138 (mJ7_copyOf_59c91 v12 (v13 * 16)) (by decide) rfl rfl (Nat.le_of_ble_eq_true rfl) (fun v14 => ?_)
  refine sn_pR (pc := 101) (v := v14) dX9_init_101 flX9_58 rfl (Or.inr ⟨_, rfl⟩) (Or.inr ⟨rfl, rfl, rfl⟩) ?_
  exact sn_vret (pc := 104) dX9_init_104 rfl
theorem iX9_init : MI yX9_init cX9_init 5 none 4 := ⟨wt1_17, wt3_134, by decide +kernel, by decide⟩
-- NeedleHomes$World <init>()V
theorem dX10_init_0 : decode cX10_init 0 = .ok (.aload_n 0, 1) := by decide +kernel
theorem dX10_init_1 : decode cX10_init 1 = .ok (.invokespecial 3, 3) := by decide +kernel
theorem dX10_init_4 : decode cX10_init 4 = .ok (.aload_n 0, 1) := by decide +kernel
theorem dX10_init_5 : decode cX10_init 5 = .ok (.sipush 400, 3) := by decide +kernel
theorem dX10_init_8 : decode cX10_init 8 = .ok (.newarray .byte, 2) := by decide +kernel
theorem dX10_init_10 : decode cX10_init 10 = .ok (.putfield 9, 3) := by decide +kernel
theorem dX10_init_13 : decode cX10_init 13 = .ok (.aload_n 0, 1) := by decide +kernel
theorem dX10_init_14 : decode cX10_init 14 = .ok (.iconst (-1), 1) := by decide +kernel
theorem dX10_init_15 : decode cX10_init 15 = .ok (.putfield 15, 3) := by decide +kernel
theorem dX10_init_18 : decode cX10_init 18 = .ok (.aload_n 0, 1) := by decide +kernel
theorem dX10_init_19 : decode cX10_init 19 = .ok (.bipush 8, 2) := by decide +kernel
theorem dX10_init_21 : decode cX10_init 21 = .ok (.anewarray 19, 3) := by decide +kernel
theorem dX10_init_24 : decode cX10_init 24 = .ok (.putfield 21, 3) := by decide +kernel
theorem dX10_init_27 : decode cX10_init 27 = .ok (.aload_n 0, 1) := by decide +kernel
theorem dX10_init_28 : decode cX10_init 28 = .ok (.bipush 10, 2) := by decide +kernel
theorem dX10_init_30 : decode cX10_init 30 = .ok (.anewarray 25, 3) := by decide +kernel
theorem dX10_init_33 : decode cX10_init 33 = .ok (.putfield 27, 3) := by decide +kernel
theorem dX10_init_36 : decode cX10_init 36 = .ok (.aload_n 0, 1) := by decide +kernel
theorem dX10_init_37 : decode cX10_init 37 = .ok (.bipush 12, 2) := by decide +kernel
theorem dX10_init_39 : decode cX10_init 39 = .ok (.anewarray 31, 3) := by decide +kernel
theorem dX10_init_42 : decode cX10_init 42 = .ok (.putfield 33, 3) := by decide +kernel
theorem dX10_init_45 : decode cX10_init 45 = .ok (.aload_n 0, 1) := by decide +kernel
theorem dX10_init_46 : decode cX10_init 46 = .ok (.bipush 60, 2) := by decide +kernel
theorem dX10_init_48 : decode cX10_init 48 = .ok (.anewarray 37, 3) := by decide +kernel
theorem dX10_init_51 : decode cX10_init 51 = .ok (.putfield 39, 3) := by decide +kernel
theorem dX10_init_54 : decode cX10_init 54 = .ok (.aload_n 0, 1) := by decide +kernel
theorem dX10_init_55 : decode cX10_init 55 = .ok (.bipush 6, 2) := by decide +kernel
theorem dX10_init_57 : decode cX10_init 57 = .ok (.newarray .int, 2) := by decide +kernel
theorem dX10_init_59 : decode cX10_init 59 = .ok (.putfield 43, 3) := by decide +kernel
theorem dX10_init_62 : decode cX10_init 62 = .ok (.aload_n 0, 1) := by decide +kernel
theorem dX10_init_63 : decode cX10_init 63 = .ok (.iconst 3, 1) := by decide +kernel
theorem dX10_init_64 : decode cX10_init 64 = .ok (.newarray .int, 2) := by decide +kernel
theorem dX10_init_66 : decode cX10_init 66 = .ok (.putfield 47, 3) := by decide +kernel
theorem dX10_init_69 : decode cX10_init 69 = .ok (.aload_n 0, 1) := by decide +kernel
theorem dX10_init_70 : decode cX10_init 70 = .ok (.getfield 43, 3) := by decide +kernel
theorem dX10_init_73 : decode cX10_init 73 = .ok (.sipush 360, 3) := by decide +kernel
theorem dX10_init_76 : decode cX10_init 76 = .ok (.invokestatic 50, 3) := by decide +kernel
theorem dX10_init_79 : decode cX10_init 79 = .ok (.return_, 1) := by decide +kernel
abbrev dpX10_init : Nat := 1
def fX10_init (a0 : Nat) : St → Option (Unit × St) :=
 nA 14 400 fun a1 =>
 pR 11 a0 0 (some a1) <|
 pI 11 a0 3 (-1) <|
 nA 19 8 fun a2 =>
 pR 11 a0 5 (some a2) <|
 nA 21 10 fun a3 =>
 pR 11 a0 7 (some a3) <|
 nA 18 12 fun a4 =>
 pR 11 a0 9 (some a4) <|
 nA 20 60 fun a5 =>
 pR 11 a0 11 (some a5) <|
 nA 15 6 fun a6 =>
 pR 11 a0 13 (some a6) <|
 nA 15 3 fun a7 =>
 pR 11 a0 14 (some a7) <|
 gR 11 a0 13 fun v8 =>
 cl (fJ7_fill_53178 v8 360) fun v9 =>
 rt ()
set_option maxHeartbeats 4000000 in
set_option maxRecDepth 100000 in
theorem mX10_init {E : Ev} {l : Launch} (a0 : Nat) : MF E l dpX10_init yX10_init cX10_init 1 none rvV [.ref (E.1 + a0)] (fX10_init a0) := by
  refine MF.of (lv := [(0, .ref (E.1 + a0))]) (by decide) (Nat.le_of_ble_eq_true rfl) rfl ?_
  unfold fX10_init
  refine sn_aload_n (pc := 0) (j := 0) dX10_init_0 rfl rfl ?_
  refine sn_objInit (pc := 1) dX10_init_1 wt1_35 w_oi w_oc (by decide) (Nat.le_of_ble_eq_true rfl) ?_
  refine sn_aload_n (pc := 4) (j := 0) dX10_init_4 rfl rfl ?_
  refine sn_sipush (pc := 5) (v := 400) dX10_init_5 (by decide) ?_
  refine sn_newB (pc := 8) dX10_init_8 wt1_108 (fun a1 => ?_)
  refine sn_pR (pc := 10) (v := (some a1)) dX10_init_10 flX10_9 rfl (Or.inr ⟨_, rfl⟩) (Or.inr ⟨rfl, rfl, rfl⟩) ?_
  refine sn_aload_n (pc := 13) (j := 0) dX10_init_13 rfl rfl ?_
  refine sn_iconst (pc := 14) (v := (-1)) dX10_init_14 (by decide) ?_
  refine sn_pI (pc := 15) dX10_init_15 flX10_15 rfl rfl (Or.inl rfl) ?_
  refine sn_aload_n (pc := 18) (j := 0) dX10_init_18 rfl rfl ?_
  refine sn_bipush (pc := 19) (v := 8) dX10_init_19 (by decide) ?_
  refine sn_newq (t := 5) (pc := 21) dX10_init_21 wt1_36 (by decide) (by decide) rfl (fun a2 => ?_)
  refine sn_pR (pc := 24) (v := (some a2)) dX10_init_24 flX10_21 rfl (Or.inr ⟨_, rfl⟩) (Or.inr ⟨rfl, rfl, rfl⟩) ?_
  refine sn_aload_n (pc := 27) (j := 0) dX10_init_27 rfl rfl ?_
  refine sn_bipush (pc := 28) (v := 10) dX10_init_28 (by decide) ?_
  refine sn_newq (t := 7) (pc := 30) dX10_init_30 wt1_38 (by decide) (by decide) rfl (fun a3 => ?_)
  refine sn_pR (pc := 33) (v := (some a3)) dX10_init_33 flX10_27 rfl (Or.inr ⟨_, rfl⟩) (Or.inr ⟨rfl, rfl, rfl⟩) ?_
  refine sn_aload_n (pc := 36) (j := 0) dX10_init_36 rfl rfl ?_
  refine sn_bipush (pc := 37) (v := 12) dX10_init_37 (by decide) ?_
  refine sn_newq (t := 4) (pc := 39) dX10_init_39 wt1_40 (by decide) (by decide) rfl (fun a4 => ?_)
  refine sn_pR (pc := 42) (v := (some a4)) dX10_init_42 flX10_33 rfl (Or.inr ⟨_, rfl⟩) (Or.inr ⟨rfl, rfl, rfl⟩) ?_
  refine sn_aload_n (pc := 45) (j := 0) dX10_init_45 rfl rfl ?_
  refine sn_bipush (pc := 46) (v := 60) dX10_init_46 (by decide) ?_
  refine sn_newq (t := 6) (pc := 48) dX10_init_48 wt1_42 (by decide) (by decide) rfl (fun a5 => ?_)
  refine sn_pR (pc := 51) (v := (some a5)) dX10_init_51 flX10_39 rfl (Or.inr ⟨_, rfl⟩) (Or.inr ⟨rfl, rfl, rfl⟩) ?_
  refine sn_aload_n (pc := 54) (j := 0) dX10_init_54 rfl rfl ?_
  refine sn_bipush (pc := 55) (v := 6) dX10_init_55 (by decide) ?_
  refine sn_newI (pc := 57) dX10_init_57 wt1_109 (fun a6 => ?_)
  refine sn_pR (pc := 59) (v := (some a6)) dX10_init_59 flX10_43 rfl (Or.inr ⟨_, rfl⟩) (Or.inr ⟨rfl, rfl, rfl⟩) ?_
  refine sn_aload_n (pc := 62) (j := 0) dX10_init_62 rfl rfl ?_
  refine sn_iconst (pc := 63) (v := 3) dX10_init_63 (by decide) ?_
  refine sn_newI (pc := 64) dX10_init_64 wt1_109 (fun a7 => ?_)
  refine sn_pR (pc := 66) (v := (some a7)) dX10_init_66 flX10_47 rfl (Or.inr ⟨_, rfl⟩) (Or.inr ⟨rfl, rfl, rfl⟩) ?_
  refine sn_aload_n (pc := 69) (j := 0) dX10_init_69 rfl rfl ?_
  refine sn_gR (pc := 70) dX10_init_70 flX10_43 rfl (fun v8 => ?_)
  refine sn_sipush (pc := 73) (v := 360) dX10_init_73 (by decide) ?_
  refine sn_callS (pc := 76) dX10_init_76 iJ7_fill_53178 wt1_45 wt1_44 (mJ7_fill_53178 v8 360) (by decide) rfl rfl (Nat.le_of_ble_eq_true rfl) (fun v9 => ?_)
  exact sn_vret (pc := 79) dX10_init_79 rfl
theorem iX10_init : MI yX10_init cX10_init 1 none 0 := ⟨wt1_2, wt1_34, by decide +kernel, by decide⟩
-- NeedleHomes$World copyHands(LNeedleHomes$World;)V
theorem dX10_copyHands_0 : decode cX10_copyHands 0 = .ok (.aload_n 0, 1) := by decide +kernel
theorem dX10_copyHands_1 : decode cX10_copyHands 1 = .ok (.aload_n 1, 1) := by decide +kernel
theorem dX10_copyHands_2 : decode cX10_copyHands 2 = .ok (.getfield 87, 3) := by decide +kernel
theorem dX10_copyHands_5 : decode cX10_copyHands 5 = .ok (.putfield 87, 3) := by decide +kernel
theorem dX10_copyHands_8 : decode cX10_copyHands 8 = .ok (.iconst 0, 1) := by decide +kernel
theorem dX10_copyHands_9 : decode cX10_copyHands 9 = .ok (.istore_n 2, 1) := by decide +kernel
theorem dX10_copyHands_10 : decode cX10_copyHands 10 = .ok (.iload_n 2, 1) := by decide +kernel
theorem dX10_copyHands_11 : decode cX10_copyHands 11 = .ok (.bipush 12, 2) := by decide +kernel
theorem dX10_copyHands_13 : decode cX10_copyHands 13 = .ok (.if_icmp .ge 63, 3) := by decide +kernel
theorem dX10_copyHands_16 : decode cX10_copyHands 16 = .ok (.aload_n 1, 1) := by decide +kernel
theorem dX10_copyHands_17 : decode cX10_copyHands 17 = .ok (.iload_n 2, 1) := by decide +kernel
theorem dX10_copyHands_18 : decode cX10_copyHands 18 = .ok (.invokevirtual 90, 3) := by decide +kernel
theorem dX10_copyHands_21 : decode cX10_copyHands 21 = .ok (.astore_n 3, 1) := by decide +kernel
theorem dX10_copyHands_22 : decode cX10_copyHands 22 = .ok (.aload_n 3, 1) := by decide +kernel
theorem dX10_copyHands_23 : decode cX10_copyHands 23 = .ok (.ifnull 47, 3) := by decide +kernel
theorem dX10_copyHands_26 : decode cX10_copyHands 26 = .ok (.aload_n 0, 1) := by decide +kernel
theorem dX10_copyHands_27 : decode cX10_copyHands 27 = .ok (.getfield 33, 3) := by decide +kernel
theorem dX10_copyHands_30 : decode cX10_copyHands 30 = .ok (.iload_n 2, 1) := by decide +kernel
theorem dX10_copyHands_31 : decode cX10_copyHands 31 = .ok (.aaload, 1) := by decide +kernel
theorem dX10_copyHands_32 : decode cX10_copyHands 32 = .ok (.ifnonnull 28, 3) := by decide +kernel
theorem dX10_copyHands_35 : decode cX10_copyHands 35 = .ok (.aload_n 0, 1) := by decide +kernel
theorem dX10_copyHands_36 : decode cX10_copyHands 36 = .ok (.getfield 33, 3) := by decide +kernel
theorem dX10_copyHands_39 : decode cX10_copyHands 39 = .ok (.iload_n 2, 1) := by decide +kernel
theorem dX10_copyHands_40 : decode cX10_copyHands 40 = .ok (.new 31, 3) := by decide +kernel
theorem dX10_copyHands_43 : decode cX10_copyHands 43 = .ok (.dup, 1) := by decide +kernel
theorem dX10_copyHands_44 : decode cX10_copyHands 44 = .ok (.aload_n 3, 1) := by decide +kernel
theorem dX10_copyHands_45 : decode cX10_copyHands 45 = .ok (.getfield 94, 3) := by decide +kernel
theorem dX10_copyHands_48 : decode cX10_copyHands 48 = .ok (.aload_n 3, 1) := by decide +kernel
theorem dX10_copyHands_49 : decode cX10_copyHands 49 = .ok (.getfield 97, 3) := by decide +kernel
theorem dX10_copyHands_52 : decode cX10_copyHands 52 = .ok (.aload_n 3, 1) := by decide +kernel
theorem dX10_copyHands_53 : decode cX10_copyHands 53 = .ok (.getfield 100, 3) := by decide +kernel
theorem dX10_copyHands_56 : decode cX10_copyHands 56 = .ok (.invokespecial 103, 3) := by decide +kernel
theorem dX10_copyHands_59 : decode cX10_copyHands 59 = .ok (.aastore, 1) := by decide +kernel
theorem dX10_copyHands_60 : decode cX10_copyHands 60 = .ok (.aload_n 0, 1) := by decide +kernel
theorem dX10_copyHands_61 : decode cX10_copyHands 61 = .ok (.getfield 33, 3) := by decide +kernel
theorem dX10_copyHands_64 : decode cX10_copyHands 64 = .ok (.iload_n 2, 1) := by decide +kernel
theorem dX10_copyHands_65 : decode cX10_copyHands 65 = .ok (.aaload, 1) := by decide +kernel
theorem dX10_copyHands_66 : decode cX10_copyHands 66 = .ok (.aload_n 3, 1) := by decide +kernel
theorem dX10_copyHands_67 : decode cX10_copyHands 67 = .ok (.invokevirtual 106, 3) := by decide +kernel
theorem dX10_copyHands_70 : decode cX10_copyHands 70 = .ok (.iinc 2 1, 3) := by decide +kernel
theorem dX10_copyHands_73 : decode cX10_copyHands 73 = .ok (.goto (-63), 3) := by decide +kernel
theorem dX10_copyHands_76 : decode cX10_copyHands 76 = .ok (.return_, 1) := by decide +kernel
abbrev dpX10_copyHands : Nat := 2
def fX10_copyHands_70 (k10 : (Nat × Option Nat × Int32) → St → Option (Unit × St)) (a0 : Nat) (x1 : Option Nat) (x2 : Int32) : St → Option (Unit × St) :=
 k10 (a0, x1, (x2 + 1))
set_option maxHeartbeats 4000000 in
set_option maxRecDepth 100000 in
theorem sfX10_copyHands_70 {E : Ev} {l : Launch} (k10 : (Nat × Option Nat × Int32) → St → Option (Unit × St)) (hk10 : ∀ p : Nat × Option Nat × Int32, Snd E l (dpX10_copyHands, RX10, cX10_copyHands, 4, none, "copyHands") rvV 10 [(0, .ref (E.1 + p.1)), (1, rf E.1 p.2.1), (2, .int p.2.2)] [] (k10 p)) (a0 : Nat) (x1 : Option Nat) (x2 : Int32) : Snd E l (dpX10_copyHands, RX10, cX10_copyHands, 4, none, "copyHands") rvV 70 [(0, .ref (E.1 + a0)), (1, rf E.1 x1), (2, .int x2)] [] (fX10_copyHands_70 k10 a0 x1 x2) := by
  unfold fX10_copyHands_70
  refine sn_iinc (pc := 70) (v := x2 + 1) (lv' := [(2, .int (x2 + 1)), (0, .ref (E.1 + a0)), (1, rf E.1 x1)]) (j := 2) dX10_copyHands_70 rfl rfl (by decide) (by simp [rf_some, rf_cat, cat_int, cat_long, cat_ref]) ?_
  refine sn_goto (pc := 73) (tgt := 10) dX10_copyHands_73 (by decide) ?_
  exact sn_sub (lv' := [(0, .ref (E.1 + a0)), (1, rf E.1 x1), (2, .int (x2 + 1))]) [1, 2, 0] rfl (hk10 (a0, x1, (x2 + 1)))
def fX10_copyHands_60 (k10 : (Nat × Option Nat × Int32) → St → Option (Unit × St)) (a0 : Nat) (x1 : Option Nat) (x2 : Int32) (x3 : Option Nat) : St → Option (Unit × St) :=
 gR 11 a0 9 fun v2001 =>
 nn v2001 fun a2003 =>
 aR 18 a2003 x2 fun v2002 =>
 nn v2002 fun a2004 =>
 ck 3 a2004 <| cl (fX2_copyFrom a2004 x3) fun v2005 =>
 fX10_copyHands_70 k10 a0 x1 x2
set_option maxHeartbeats 4000000 in
set_option maxRecDepth 100000 in
theorem sfX10_copyHands_60 {E : Ev} {l : Launch} (k10 : (Nat × Option Nat × Int32) → St → Option (Unit × St)) (hk10 : ∀ p : Nat × Option Nat × Int32, Snd E l (dpX10_copyHands, RX10, cX10_copyHands, 4, none, "copyHands") rvV 10 [(0, .ref (E.1 + p.1)), (1, rf E.1 p.2.1), (2, .int p.2.2)] [] (k10 p)) (a0 : Nat) (x1 : Option Nat) (x2 : Int32) (x3 : Option Nat) : Snd E l (dpX10_copyHands, RX10, cX10_copyHands, 4, none, "copyHands") rvV 60 [(0, .ref (E.1 + a0)), (1, rf E.1 x1), (2, .int x2), (3, rf E.1 x3)] [] (fX10_copyHands_60 k10 a0 x1 x2 x3) := by
  unfold fX10_copyHands_60
  refine sn_aload_n (pc := 60) (j := 0) dX10_copyHands_60 rfl rfl ?_
  refine sn_gR (pc := 61) dX10_copyHands_61 flX10_33 rfl (fun v2001 => ?_)
  refine sn_iload_n (pc := 64) (j := 2) dX10_copyHands_64 rfl rfl ?_
  rcases v2001 with _ | a2003
  · exact sn_no
  refine sn_nn ?_
  refine sn_aald (t := 4) (pc := 65) dX10_copyHands_65 (by decide) rfl (fun v2002 => ?_)
  refine sn_aloadR_n (pc := 66) (r := x3) (j := 3) dX10_copyHands_66 rfl rfl ?_
  rcases v2002 with _ | a2004
  · exact sn_no
  refine sn_nn ?_
  refine sn_callV (ci := 2) (pc := 67) dX10_copyHands_67 iX2_copyFrom wt5_220 wt5_221 wt5_219 ⟨_, rfl, rfl⟩ (by decide) (mX2_copyFrom a2004 x3) (by decide) rfl rfl (Nat.le_of_ble_eq_true rfl) (fun v2005 => ?_)
  exact sn_sub (lv' := [(0, .ref (E.1 + a0)), (1, rf E.1 x1), (2, .int x2)]) [0, 1, 2] rfl (sfX10_copyHands_70 k10 hk10 a0 x1 x2)
def fX10_copyHands_10 (k10 : (Nat × Option Nat × Int32) → St → Option (Unit × St)) (a0 : Nat) (x1 : Option Nat) (x2 : Int32) : St → Option (Unit × St) :=
 br (12 ≤ x2) (rt ())
 (nn x1 fun a1001 =>
 ck 11 a1001 <| cl (fX10_handAt a1001 x2) fun v1002 =>
 on v1002 (fX10_copyHands_70 k10 a0 (some a1001) x2)
 fun a1003 => gR 11 a0 9 fun v1004 =>
 nn v1004 fun a1006 =>
 aR 18 a1006 x2 fun v1005 =>
 on v1005 (gR 11 a0 9 fun v1008 =>
 nO 3 7 fun a1009 =>
 gI 3 a1003 0 fun v1010 =>
 gI 3 a1003 1 fun v1011 =>
 gI 3 a1003 2 fun v1012 =>
 cl (fX2_init a1009 v1010 v1011 v1012) fun v1013 =>
 nn v1008 fun a1014 =>
 wR 18 3 a1014 x2 (some a1009) <|
 fX10_copyHands_60 k10 a0 (some a1001) x2 (some a1003))
 fun a1007 => fX10_copyHands_60 k10 a0 (some a1001) x2 (some a1003))
set_option maxHeartbeats 4000000 in
set_option maxRecDepth 100000 in
theorem sfX10_copyHands_10 {E : Ev} {l : Launch} (k10 : (Nat × Option Nat × Int32) → St → Option (Unit × St)) (hk10 : ∀ p : Nat × Option Nat × Int32, Snd E l (dpX10_copyHands, RX10, cX10_copyHands, 4, none, "copyHands") rvV 10 [(0, .ref (E.1 + p.1)), (1, rf E.1 p.2.1), (2, .int p.2.2)] [] (k10 p)) (a0 : Nat) (x1 : Option Nat) (x2 : Int32) : Snd E l (dpX10_copyHands, RX10, cX10_copyHands, 4, none, "copyHands") rvV 10 [(0, .ref (E.1 + a0)), (1, rf E.1 x1), (2, .int x2)] [] (fX10_copyHands_10 k10 a0 x1 x2) := by
  unfold fX10_copyHands_10
  refine sn_iload_n (pc := 10) (j := 2) dX10_copyHands_10 rfl rfl ?_
  refine sn_bipush (pc := 11) (v := 12) dX10_copyHands_11 (by decide) ?_
  refine sn_icmp_ge (pc := 13) (tgt := 76) dX10_copyHands_13 (by decide) ?_ ?_
  · exact sn_vret (pc := 76) dX10_copyHands_76 rfl
  · refine sn_aloadR_n (pc := 16) (r := x1) (j := 1) dX10_copyHands_16 rfl rfl ?_
    refine sn_iload_n (pc := 17) (j := 2) dX10_copyHands_17 rfl rfl ?_
    rcases x1 with _ | a1001
    · exact sn_no
    refine sn_nn ?_
    refine sn_callV (ci := 10) (pc := 18) dX10_copyHands_18 iX10_handAt wt4_54 wt4_55 wt5_126 ⟨_, rfl, rfl⟩ (by decide) (mX10_handAt a1001 x2) (by decide) rfl rfl (Nat.le_of_ble_eq_true rfl) (fun v1002 => ?_)
    refine sn_astoreR_n (pc := 21) (r := v1002) (i := 3) (lv' := [(3, rf E.1 v1002), (0, .ref (E.1 + a0)), (1, .ref (E.1 + a1001)), (2, .int x2)]) dX10_copyHands_21 rfl (by decide) rfl ?_
    refine sn_aloadR_n (pc := 22) (r := v1002) (j := 0) dX10_copyHands_22 rfl rfl ?_
    rcases v1002 with _ | a1003
    · refine sn_onN ?_
      refine sn_ifnull_n (pc := 23) (tgt := 70) dX10_copyHands_23 (by decide) ?_
      exact sn_sub (lv' := [(0, .ref (E.1 + a0)), (1, .ref (E.1 + a1001)), (2, .int x2)]) [1, 2, 3] rfl (sfX10_copyHands_70 k10 hk10 a0 (some a1001) x2)
    · refine sn_onS ?_
      refine sn_ifnull_s (pc := 23) dX10_copyHands_23 ?_
      refine sn_aload_n (pc := 26) (j := 1) dX10_copyHands_26 rfl rfl ?_
      refine sn_gR (pc := 27) dX10_copyHands_27 flX10_33 rfl (fun v1004 => ?_)
      refine sn_iload_n (pc := 30) (j := 3) dX10_copyHands_30 rfl rfl ?_
      rcases v1004 with _ | a1006
      · exact sn_no
      refine sn_nn ?_
      refine sn_aald (t := 4) (pc := 31) dX10_copyHands_31 (by decide) rfl (fun v1005 => ?_)
      rcases v1005 with _ | a1007
      · refine sn_onN ?_
        refine sn_ifnonnull_n (pc := 32) dX10_copyHands_32 ?_
        refine sn_aload_n (pc := 35) (j := 1) dX10_copyHands_35 rfl rfl ?_
        refine sn_gR (pc := 36) dX10_copyHands_36 flX10_33 rfl (fun v1008 => ?_)
        refine sn_iload_n (pc := 39) (j := 3) dX10_copyHands_39 rfl rfl ?_
        refine sn_new (pc := 40) dX10_copyHands_40 ci_X2 wt1_40 (fun a1009 => ?_)
        refine sn_dup (pc := 43) dX10_copyHands_43 rfl ?_
        refine sn_aload_n (pc := 44) (j := 0) dX10_copyHands_44 rfl rfl ?_
        refine sn_gI (pc := 45) dX10_copyHands_45 flX10_94 rfl (fun v1010 => ?_)
        refine sn_aload_n (pc := 48) (j := 0) dX10_copyHands_48 rfl rfl ?_
        refine sn_gI (pc := 49) dX10_copyHands_49 flX10_97 rfl (fun v1011 => ?_)
        refine sn_aload_n (pc := 52) (j := 0) dX10_copyHands_52 rfl rfl ?_
        refine sn_gI (pc := 53) dX10_copyHands_53 flX10_100 rfl (fun v1012 => ?_)
        refine sn_callI (pc := 56) dX10_copyHands_56 iX2_init rfl rfl wt4_6 wt5_218 (mX2_init a1009 v1010 v1011 v1012) (by decide) rfl rfl (by simp [rf_some, rf_cat, cat_int, cat_long, cat_ref, rvV, rvI, rvZ, rvR, rvJ]) (fun v1013 => ?_)
        rcases v1008 with _ | a1014
        · exact sn_no
        refine sn_nn ?_
        refine sn_aast (ix := 0) (t := 4) (v := (some a1009)) (pc := 59) dX10_copyHands_59 ci_X2 (by decide) rfl ?_
        exact sn_sub (lv' := [(0, .ref (E.1 + a0)), (1, .ref (E.1 + a1001)), (2, .int x2), (3, .ref (E.1 + a1003))]) [1, 2, 3, 0] rfl (sfX10_copyHands_60 k10 hk10 a0 (some a1001) x2 (some a1003))
      · refine sn_onS ?_
        refine sn_ifnonnull_s (pc := 32) (tgt := 60) dX10_copyHands_32 (by decide) ?_
        exact sn_sub (lv' := [(0, .ref (E.1 + a0)), (1, .ref (E.1 + a1001)), (2, .int x2), (3, .ref (E.1 + a1003))]) [1, 2, 3, 0] rfl (sfX10_copyHands_60 k10 hk10 a0 (some a1001) x2 (some a1003))
def fX10_copyHands (a0 : Nat) (x1 : Option Nat) : St → Option (Unit × St) :=
 nn x1 fun a2 =>
 gI 11 a2 10 fun v1 =>
 pI 11 a0 10 v1 <|
 itr (fun k (p : Nat × Option Nat × Int32) => fX10_copyHands_10  k p.1 p.2.1 p.2.2) FU (a0, (some a2), 0)
set_option maxHeartbeats 4000000 in
set_option maxRecDepth 100000 in
theorem mX10_copyHands {E : Ev} {l : Launch} (a0 : Nat) (x1 : Option Nat) : MF E l dpX10_copyHands yX10_copyHands cX10_copyHands 4 none rvV [.ref (E.1 + a0), rf E.1 x1] (fX10_copyHands a0 x1) := by
  refine MF.of (lv := [(0, .ref (E.1 + a0)), (1, rf E.1 x1)]) (by decide) (by simp [lg_sl, rf_cat, cat_int, cat_long, cat_ref]) (by simp [lv_args, rf_cat, cat_int, cat_long, cat_ref]) ?_
  unfold fX10_copyHands
  refine sn_aload_n (pc := 0) (j := 0) dX10_copyHands_0 rfl rfl ?_
  refine sn_aloadR_n (pc := 1) (r := x1) (j := 1) dX10_copyHands_1 rfl rfl ?_
  rcases x1 with _ | a2
  · exact sn_no
  refine sn_nn ?_
  refine sn_gI (pc := 2) dX10_copyHands_2 flX10_87 rfl (fun v1 => ?_)
  refine sn_pI (pc := 5) dX10_copyHands_5 flX10_87 rfl rfl (Or.inl rfl) ?_
  refine sn_iconst (pc := 8) (v := 0) dX10_copyHands_8 (by decide) ?_
  refine sn_istore_n (pc := 9) (i := 2) (lv' := [(2, .int 0), (0, .ref (E.1 + a0)), (1, .ref (E.1 + a2))]) dX10_copyHands_9 rfl (by decide) rfl ?_
  exact sn_sub (lv' := [(0, .ref (E.1 + a0)), (1, .ref (E.1 + a2)), (2, .int 0)]) [1, 2, 0] rfl (sn_itr (lvf := fun p => [(0, .ref (E.1 + p.1)), (1, rf E.1 p.2.1), (2, .int p.2.2)]) (stf := fun p => []) (fun k hk p => sfX10_copyHands_10  k hk p.1 p.2.1 p.2.2) FU (a0, (some a2), 0))
theorem iX10_copyHands : MI yX10_copyHands cX10_copyHands 4 none 1 := ⟨wt1_2, wt5_217, by decide +kernel, by decide⟩
-- NeedleHomes$World pieceAt(I)LNeedleHomes$Piece;
theorem dX10_pieceAt_0 : decode cX10_pieceAt 0 = .ok (.iload_n 1, 1) := by decide +kernel
theorem dX10_pieceAt_1 : decode cX10_pieceAt 1 = .ok (.iconst 0, 1) := by decide +kernel
theorem dX10_pieceAt_2 : decode cX10_pieceAt 2 = .ok (.aload_n 0, 1) := by decide +kernel
theorem dX10_pieceAt_3 : decode cX10_pieceAt 3 = .ok (.getfield 110, 3) := by decide +kernel
theorem dX10_pieceAt_6 : decode cX10_pieceAt 6 = .ok (.iconst 1, 1) := by decide +kernel
theorem dX10_pieceAt_7 : decode cX10_pieceAt 7 = .ok (.isub, 1) := by decide +kernel
theorem dX10_pieceAt_8 : decode cX10_pieceAt 8 = .ok (.invokestatic 139, 3) := by decide +kernel
theorem dX10_pieceAt_11 : decode cX10_pieceAt 11 = .ok (.ifCond .eq 18, 3) := by decide +kernel
theorem dX10_pieceAt_14 : decode cX10_pieceAt 14 = .ok (.iload_n 1, 1) := by decide +kernel
theorem dX10_pieceAt_15 : decode cX10_pieceAt 15 = .ok (.bipush 60, 2) := by decide +kernel
theorem dX10_pieceAt_17 : decode cX10_pieceAt 17 = .ok (.if_icmp .ge 12, 3) := by decide +kernel
theorem dX10_pieceAt_20 : decode cX10_pieceAt 20 = .ok (.aload_n 0, 1) := by decide +kernel
theorem dX10_pieceAt_21 : decode cX10_pieceAt 21 = .ok (.getfield 39, 3) := by decide +kernel
theorem dX10_pieceAt_24 : decode cX10_pieceAt 24 = .ok (.iload_n 1, 1) := by decide +kernel
theorem dX10_pieceAt_25 : decode cX10_pieceAt 25 = .ok (.aaload, 1) := by decide +kernel
theorem dX10_pieceAt_26 : decode cX10_pieceAt 26 = .ok (.goto 4, 3) := by decide +kernel
theorem dX10_pieceAt_29 : decode cX10_pieceAt 29 = .ok (.aconst_null, 1) := by decide +kernel
theorem dX10_pieceAt_30 : decode cX10_pieceAt 30 = .ok (.areturn, 1) := by decide +kernel
abbrev dpX10_pieceAt : Nat := 1
def fX10_pieceAt (a0 : Nat) (x1 : Int32) : St → Option ((Option Nat) × St) :=
 gI 11 a0 12 fun v1 =>
 cl (fX11_within x1 0 (v1 - 1)) fun v2 =>
 br ((bi v2) = 0) (rt none)
 (br (60 ≤ x1) (rt none)
 (gR 11 a0 11 fun v3 =>
 nn v3 fun a5 =>
 aR 20 a5 x1 fun v4 =>
 rt v4))
set_option maxHeartbeats 4000000 in
set_option maxRecDepth 100000 in
theorem mX10_pieceAt {E : Ev} {l : Launch} (a0 : Nat) (x1 : Int32) : MF E l dpX10_pieceAt yX10_pieceAt cX10_pieceAt 2 (some (.object "NeedleHomes$Piece")) (rvR E.1) [.ref (E.1 + a0), .int x1] (fX10_pieceAt a0 x1) := by
  refine MF.of (lv := [(0, .ref (E.1 + a0)), (1, .int x1)]) (by decide) (Nat.le_of_ble_eq_true rfl) rfl ?_
  unfold fX10_pieceAt
  refine sn_iload_n (pc := 0) (j := 1) dX10_pieceAt_0 rfl rfl ?_
  refine sn_iconst (pc := 1) (v := 0) dX10_pieceAt_1 (by decide) ?_
  refine sn_aload_n (pc := 2) (j := 0) dX10_pieceAt_2 rfl rfl ?_
  refine sn_gI (pc := 3) dX10_pieceAt_3 flX10_110 rfl (fun v1 => ?_)
  refine sn_iconst (pc := 6) (v := 1) dX10_pieceAt_6 (by decide) ?_
  refine sn_isub (pc := 7) dX10_pieceAt_7 ?_
  refine sn_callSN (pc := 8) dX10_pieceAt_8 iX11_within wt2_96 (List.mem_of_getElem? (i := 9) rfl) (mX11_within x1 0 (v1 - 1)) (by decide) rfl rfl (Nat.le_of_ble_eq_true rfl) (fun v2 => ?_)
  refine sn_if_eq (pc := 11) (tgt := 29) dX10_pieceAt_11 (by decide) ?_ ?_
  · refine sn_null (pc := 29) dX10_pieceAt_29 ?_
    exact sn_aret (pc := 30) (v := none) dX10_pieceAt_30 rfl (Or.inl ⟨_, rfl⟩)
  · refine sn_iload_n (pc := 14) (j := 1) dX10_pieceAt_14 rfl rfl ?_
    refine sn_bipush (pc := 15) (v := 60) dX10_pieceAt_15 (by decide) ?_
    refine sn_icmp_ge (pc := 17) (tgt := 29) dX10_pieceAt_17 (by decide) ?_ ?_
    · refine sn_null (pc := 29) dX10_pieceAt_29 ?_
      exact sn_aret (pc := 30) (v := none) dX10_pieceAt_30 rfl (Or.inl ⟨_, rfl⟩)
    · refine sn_aload_n (pc := 20) (j := 0) dX10_pieceAt_20 rfl rfl ?_
      refine sn_gR (pc := 21) dX10_pieceAt_21 flX10_39 rfl (fun v3 => ?_)
      refine sn_iload_n (pc := 24) (j := 1) dX10_pieceAt_24 rfl rfl ?_
      rcases v3 with _ | a5
      · exact sn_no
      refine sn_nn ?_
      refine sn_aald (t := 6) (pc := 25) dX10_pieceAt_25 (by decide) rfl (fun v4 => ?_)
      refine sn_goto (pc := 26) (tgt := 30) dX10_pieceAt_26 (by decide) ?_
      exact sn_aret (pc := 30) (v := v4) dX10_pieceAt_30 rfl (Or.inl ⟨_, rfl⟩)
theorem iX10_pieceAt : MI yX10_pieceAt cX10_pieceAt 2 (some (.object "NeedleHomes$Piece")) 1 := ⟨wt1_2, wt4_82, by decide +kernel, by decide⟩
-- NeedleHomes$World copyPieces(LNeedleHomes$World;)V
theorem dX10_copyPieces_0 : decode cX10_copyPieces 0 = .ok (.aload_n 0, 1) := by decide +kernel
theorem dX10_copyPieces_1 : decode cX10_copyPieces 1 = .ok (.aload_n 1, 1) := by decide +kernel
theorem dX10_copyPieces_2 : decode cX10_copyPieces 2 = .ok (.getfield 110, 3) := by decide +kernel
theorem dX10_copyPieces_5 : decode cX10_copyPieces 5 = .ok (.putfield 110, 3) := by decide +kernel
theorem dX10_copyPieces_8 : decode cX10_copyPieces 8 = .ok (.iconst 0, 1) := by decide +kernel
theorem dX10_copyPieces_9 : decode cX10_copyPieces 9 = .ok (.istore_n 2, 1) := by decide +kernel
theorem dX10_copyPieces_10 : decode cX10_copyPieces 10 = .ok (.iload_n 2, 1) := by decide +kernel
theorem dX10_copyPieces_11 : decode cX10_copyPieces 11 = .ok (.bipush 60, 2) := by decide +kernel
theorem dX10_copyPieces_13 : decode cX10_copyPieces 13 = .ok (.if_icmp .ge 67, 3) := by decide +kernel
theorem dX10_copyPieces_16 : decode cX10_copyPieces 16 = .ok (.aload_n 1, 1) := by decide +kernel
theorem dX10_copyPieces_17 : decode cX10_copyPieces 17 = .ok (.iload_n 2, 1) := by decide +kernel
theorem dX10_copyPieces_18 : decode cX10_copyPieces 18 = .ok (.invokevirtual 113, 3) := by decide +kernel
theorem dX10_copyPieces_21 : decode cX10_copyPieces 21 = .ok (.astore_n 3, 1) := by decide +kernel
theorem dX10_copyPieces_22 : decode cX10_copyPieces 22 = .ok (.aload_n 3, 1) := by decide +kernel
theorem dX10_copyPieces_23 : decode cX10_copyPieces 23 = .ok (.ifnull 51, 3) := by decide +kernel
theorem dX10_copyPieces_26 : decode cX10_copyPieces 26 = .ok (.aload_n 0, 1) := by decide +kernel
theorem dX10_copyPieces_27 : decode cX10_copyPieces 27 = .ok (.getfield 39, 3) := by decide +kernel
theorem dX10_copyPieces_30 : decode cX10_copyPieces 30 = .ok (.iload_n 2, 1) := by decide +kernel
theorem dX10_copyPieces_31 : decode cX10_copyPieces 31 = .ok (.aaload, 1) := by decide +kernel
theorem dX10_copyPieces_32 : decode cX10_copyPieces 32 = .ok (.ifnonnull 32, 3) := by decide +kernel
theorem dX10_copyPieces_35 : decode cX10_copyPieces 35 = .ok (.aload_n 0, 1) := by decide +kernel
theorem dX10_copyPieces_36 : decode cX10_copyPieces 36 = .ok (.getfield 39, 3) := by decide +kernel
theorem dX10_copyPieces_39 : decode cX10_copyPieces 39 = .ok (.iload_n 2, 1) := by decide +kernel
theorem dX10_copyPieces_40 : decode cX10_copyPieces 40 = .ok (.new 37, 3) := by decide +kernel
theorem dX10_copyPieces_43 : decode cX10_copyPieces 43 = .ok (.dup, 1) := by decide +kernel
theorem dX10_copyPieces_44 : decode cX10_copyPieces 44 = .ok (.aload_n 3, 1) := by decide +kernel
theorem dX10_copyPieces_45 : decode cX10_copyPieces 45 = .ok (.getfield 117, 3) := by decide +kernel
theorem dX10_copyPieces_48 : decode cX10_copyPieces 48 = .ok (.aload_n 3, 1) := by decide +kernel
theorem dX10_copyPieces_49 : decode cX10_copyPieces 49 = .ok (.getfield 120, 3) := by decide +kernel
theorem dX10_copyPieces_52 : decode cX10_copyPieces 52 = .ok (.aload_n 3, 1) := by decide +kernel
theorem dX10_copyPieces_53 : decode cX10_copyPieces 53 = .ok (.getfield 123, 3) := by decide +kernel
theorem dX10_copyPieces_56 : decode cX10_copyPieces 56 = .ok (.aload_n 3, 1) := by decide +kernel
theorem dX10_copyPieces_57 : decode cX10_copyPieces 57 = .ok (.getfield 126, 3) := by decide +kernel
theorem dX10_copyPieces_60 : decode cX10_copyPieces 60 = .ok (.invokespecial 129, 3) := by decide +kernel
theorem dX10_copyPieces_63 : decode cX10_copyPieces 63 = .ok (.aastore, 1) := by decide +kernel
theorem dX10_copyPieces_64 : decode cX10_copyPieces 64 = .ok (.aload_n 0, 1) := by decide +kernel
theorem dX10_copyPieces_65 : decode cX10_copyPieces 65 = .ok (.getfield 39, 3) := by decide +kernel
theorem dX10_copyPieces_68 : decode cX10_copyPieces 68 = .ok (.iload_n 2, 1) := by decide +kernel
theorem dX10_copyPieces_69 : decode cX10_copyPieces 69 = .ok (.aaload, 1) := by decide +kernel
theorem dX10_copyPieces_70 : decode cX10_copyPieces 70 = .ok (.aload_n 3, 1) := by decide +kernel
theorem dX10_copyPieces_71 : decode cX10_copyPieces 71 = .ok (.invokevirtual 132, 3) := by decide +kernel
theorem dX10_copyPieces_74 : decode cX10_copyPieces 74 = .ok (.iinc 2 1, 3) := by decide +kernel
theorem dX10_copyPieces_77 : decode cX10_copyPieces 77 = .ok (.goto (-67), 3) := by decide +kernel
theorem dX10_copyPieces_80 : decode cX10_copyPieces 80 = .ok (.return_, 1) := by decide +kernel
abbrev dpX10_copyPieces : Nat := 2
def fX10_copyPieces_74 (k10 : (Nat × Option Nat × Int32) → St → Option (Unit × St)) (a0 : Nat) (x1 : Option Nat) (x2 : Int32) : St → Option (Unit × St) :=
 k10 (a0, x1, (x2 + 1))
set_option maxHeartbeats 4000000 in
set_option maxRecDepth 100000 in
theorem sfX10_copyPieces_74 {E : Ev} {l : Launch} (k10 : (Nat × Option Nat × Int32) → St → Option (Unit × St)) (hk10 : ∀ p : Nat × Option Nat × Int32, Snd E l (dpX10_copyPieces, RX10, cX10_copyPieces, 4, none, "copyPieces") rvV 10 [(0, .ref (E.1 + p.1)), (1, rf E.1 p.2.1), (2, .int p.2.2)] [] (k10 p)) (a0 : Nat) (x1 : Option Nat) (x2 : Int32) : Snd E l (dpX10_copyPieces, RX10, cX10_copyPieces, 4, none, "copyPieces") rvV 74 [(0, .ref (E.1 + a0)), (1, rf E.1 x1), (2, .int x2)] [] (fX10_copyPieces_74 k10 a0 x1 x2) := by
  unfold fX10_copyPieces_74
  refine sn_iinc (pc := 74) (v := x2 + 1) (lv' := [(2, .int (x2 + 1)), (0, .ref (E.1 + a0)), (1, rf E.1 x1)]) (j := 2) dX10_copyPieces_74 rfl rfl (by decide) (by simp [rf_some, rf_cat, cat_int, cat_long, cat_ref]) ?_
  refine sn_goto (pc := 77) (tgt := 10) dX10_copyPieces_77 (by decide) ?_
  exact sn_sub (lv' := [(0, .ref (E.1 + a0)), (1, rf E.1 x1), (2, .int (x2 + 1))]) [1, 2, 0] rfl (hk10 (a0, x1, (x2 + 1)))
def fX10_copyPieces_64 (k10 : (Nat × Option Nat × Int32) → St → Option (Unit × St)) (a0 : Nat) (x1 : Option Nat) (x2 : Int32) (x3 : Option Nat) : St → Option (Unit × St) :=
 gR 11 a0 11 fun v2001 =>
 nn v2001 fun a2003 =>
 aR 20 a2003 x2 fun v2002 =>
 nn v2002 fun a2004 =>
 ck 8 a2004 <| cl (fX7_copyFrom a2004 x3) fun v2005 =>
 fX10_copyPieces_74 k10 a0 x1 x2
set_option maxHeartbeats 4000000 in
set_option maxRecDepth 100000 in
theorem sfX10_copyPieces_64 {E : Ev} {l : Launch} (k10 : (Nat × Option Nat × Int32) → St → Option (Unit × St)) (hk10 : ∀ p : Nat × Option Nat × Int32, Snd E l (dpX10_copyPieces, RX10, cX10_copyPieces, 4, none, "copyPieces") rvV 10 [(0, .ref (E.1 + p.1)), (1, rf E.1 p.2.1), (2, .int p.2.2)] [] (k10 p)) (a0 : Nat) (x1 : Option Nat) (x2 : Int32) (x3 : Option Nat) : Snd E l (dpX10_copyPieces, RX10, cX10_copyPieces, 4, none, "copyPieces") rvV 64 [(0, .ref (E.1 + a0)), (1, rf E.1 x1), (2, .int x2), (3, rf E.1 x3)] [] (fX10_copyPieces_64 k10 a0 x1 x2 x3) := by
  unfold fX10_copyPieces_64
  refine sn_aload_n (pc := 64) (j := 0) dX10_copyPieces_64 rfl rfl ?_
  refine sn_gR (pc := 65) dX10_copyPieces_65 flX10_39 rfl (fun v2001 => ?_)
  refine sn_iload_n (pc := 68) (j := 2) dX10_copyPieces_68 rfl rfl ?_
  rcases v2001 with _ | a2003
  · exact sn_no
  refine sn_nn ?_
  refine sn_aald (t := 6) (pc := 69) dX10_copyPieces_69 (by decide) rfl (fun v2002 => ?_)
  refine sn_aloadR_n (pc := 70) (r := x3) (j := 3) dX10_copyPieces_70 rfl rfl ?_
  rcases v2002 with _ | a2004
  · exact sn_no
  refine sn_nn ?_
  refine sn_callV (ci := 7) (pc := 71) dX10_copyPieces_71 iX7_copyFrom wt5_230 wt5_231 wt5_229 ⟨_, rfl, rfl⟩ (by decide) (mX7_copyFrom a2004 x3) (by decide) rfl rfl (Nat.le_of_ble_eq_true rfl) (fun v2005 => ?_)
  exact sn_sub (lv' := [(0, .ref (E.1 + a0)), (1, rf E.1 x1), (2, .int x2)]) [0, 1, 2] rfl (sfX10_copyPieces_74 k10 hk10 a0 x1 x2)
def fX10_copyPieces_10 (k10 : (Nat × Option Nat × Int32) → St → Option (Unit × St)) (a0 : Nat) (x1 : Option Nat) (x2 : Int32) : St → Option (Unit × St) :=
 br (60 ≤ x2) (rt ())
 (nn x1 fun a1001 =>
 ck 11 a1001 <| cl (fX10_pieceAt a1001 x2) fun v1002 =>
 on v1002 (fX10_copyPieces_74 k10 a0 (some a1001) x2)
 fun a1003 => gR 11 a0 11 fun v1004 =>
 nn v1004 fun a1006 =>
 aR 20 a1006 x2 fun v1005 =>
 on v1005 (gR 11 a0 11 fun v1008 =>
 nO 8 12 fun a1009 =>
 gI 8 a1003 0 fun v1010 =>
 gI 8 a1003 1 fun v1011 =>
 gI 8 a1003 2 fun v1012 =>
 gI 8 a1003 3 fun v1013 =>
 cl (fX7_init a1009 v1010 v1011 v1012 v1013) fun v1014 =>
 nn v1008 fun a1015 =>
 wR 20 8 a1015 x2 (some a1009) <|
 fX10_copyPieces_64 k10 a0 (some a1001) x2 (some a1003))
 fun a1007 => fX10_copyPieces_64 k10 a0 (some a1001) x2 (some a1003))
set_option maxHeartbeats 4000000 in
set_option maxRecDepth 100000 in
theorem sfX10_copyPieces_10 {E : Ev} {l : Launch} (k10 : (Nat × Option Nat × Int32) → St → Option (Unit × St)) (hk10 : ∀ p : Nat × Option Nat × Int32, Snd E l (dpX10_copyPieces, RX10, cX10_copyPieces, 4, none, "copyPieces") rvV 10 [(0, .ref (E.1 + p.1)), (1, rf E.1 p.2.1), (2, .int p.2.2)] [] (k10 p)) (a0 : Nat) (x1 : Option Nat) (x2 : Int32) : Snd E l (dpX10_copyPieces, RX10, cX10_copyPieces, 4, none, "copyPieces") rvV 10 [(0, .ref (E.1 + a0)), (1, rf E.1 x1), (2, .int x2)] [] (fX10_copyPieces_10 k10 a0 x1 x2) := by
  unfold fX10_copyPieces_10
  refine sn_iload_n (pc := 10) (j := 2) dX10_copyPieces_10 rfl rfl ?_
  refine sn_bipush (pc := 11) (v := 60) dX10_copyPieces_11 (by decide) ?_
  refine sn_icmp_ge (pc := 13) (tgt := 80) dX10_copyPieces_13 (by decide) ?_ ?_
  · exact sn_vret (pc := 80) dX10_copyPieces_80 rfl
  · refine sn_aloadR_n (pc := 16) (r := x1) (j := 1) dX10_copyPieces_16 rfl rfl ?_
    refine sn_iload_n (pc := 17) (j := 2) dX10_copyPieces_17 rfl rfl ?_
    rcases x1 with _ | a1001
    · exact sn_no
    refine sn_nn ?_
    refine sn_callV (ci := 10) (pc := 18) dX10_copyPieces_18 iX10_pieceAt wt4_80 wt4_81 wt4_79 ⟨_, rfl, rfl⟩ (by decide) (mX10_pieceAt a1001 x2) (by decide) rfl rfl (Nat.le_of_ble_eq_true rfl) (fun v1002 => ?_)
    refine sn_astoreR_n (pc := 21) (r := v1002) (i := 3) (lv' := [(3, rf E.1 v1002), (0, .ref (E.1 + a0)), (1, .ref (E.1 + a1001)), (2, .int x2)]) dX10_copyPieces_21 rfl (by decide) rfl ?_
    refine sn_aloadR_n (pc := 22) (r := v1002) (j := 0) dX10_copyPieces_22 rfl rfl ?_
    rcases v1002 with _ | a1003
    · refine sn_onN ?_
      refine sn_ifnull_n (pc := 23) (tgt := 74) dX10_copyPieces_23 (by decide) ?_
      exact sn_sub (lv' := [(0, .ref (E.1 + a0)), (1, .ref (E.1 + a1001)), (2, .int x2)]) [1, 2, 3] rfl (sfX10_copyPieces_74 k10 hk10 a0 (some a1001) x2)
    · refine sn_onS ?_
      refine sn_ifnull_s (pc := 23) dX10_copyPieces_23 ?_
      refine sn_aload_n (pc := 26) (j := 1) dX10_copyPieces_26 rfl rfl ?_
      refine sn_gR (pc := 27) dX10_copyPieces_27 flX10_39 rfl (fun v1004 => ?_)
      refine sn_iload_n (pc := 30) (j := 3) dX10_copyPieces_30 rfl rfl ?_
      rcases v1004 with _ | a1006
      · exact sn_no
      refine sn_nn ?_
      refine sn_aald (t := 6) (pc := 31) dX10_copyPieces_31 (by decide) rfl (fun v1005 => ?_)
      rcases v1005 with _ | a1007
      · refine sn_onN ?_
        refine sn_ifnonnull_n (pc := 32) dX10_copyPieces_32 ?_
        refine sn_aload_n (pc := 35) (j := 1) dX10_copyPieces_35 rfl rfl ?_
        refine sn_gR (pc := 36) dX10_copyPieces_36 flX10_39 rfl (fun v1008 => ?_)
        refine sn_iload_n (pc := 39) (j := 3) dX10_copyPieces_39 rfl rfl ?_
        refine sn_new (pc := 40) dX10_copyPieces_40 ci_X7 wt1_42 (fun a1009 => ?_)
        refine sn_dup (pc := 43) dX10_copyPieces_43 rfl ?_
        refine sn_aload_n (pc := 44) (j := 0) dX10_copyPieces_44 rfl rfl ?_
        refine sn_gI (pc := 45) dX10_copyPieces_45 flX10_117 rfl (fun v1010 => ?_)
        refine sn_aload_n (pc := 48) (j := 0) dX10_copyPieces_48 rfl rfl ?_
        refine sn_gI (pc := 49) dX10_copyPieces_49 flX10_120 rfl (fun v1011 => ?_)
        refine sn_aload_n (pc := 52) (j := 0) dX10_copyPieces_52 rfl rfl ?_
        refine sn_gI (pc := 53) dX10_copyPieces_53 flX10_123 rfl (fun v1012 => ?_)
        refine sn_aload_n (pc := 56) (j := 0) dX10_copyPieces_56 rfl rfl ?_
        refine sn_gI (pc := 57) dX10_copyPieces_57 flX10_126 rfl (fun v1013 => ?_)
        refine sn_callI (pc := 60) dX10_copyPieces_60 iX7_init rfl rfl wt4_133 wt5_228 (mX7_init a1009 v1010 v1011 v1012 v1013) (by decide) rfl rfl (by simp [rf_some, rf_cat, cat_int, cat_long, cat_ref, rvV, rvI, rvZ, rvR, rvJ]) (fun v1014 => ?_)
        rcases v1008 with _ | a1015
        · exact sn_no
        refine sn_nn ?_
        refine sn_aast (ix := 0) (t := 6) (v := (some a1009)) (pc := 63) dX10_copyPieces_63 ci_X7 (by decide) rfl ?_
        exact sn_sub (lv' := [(0, .ref (E.1 + a0)), (1, .ref (E.1 + a1001)), (2, .int x2), (3, .ref (E.1 + a1003))]) [1, 2, 3, 0] rfl (sfX10_copyPieces_64 k10 hk10 a0 (some a1001) x2 (some a1003))
      · refine sn_onS ?_
        refine sn_ifnonnull_s (pc := 32) (tgt := 64) dX10_copyPieces_32 (by decide) ?_
        exact sn_sub (lv' := [(0, .ref (E.1 + a0)), (1, .ref (E.1 + a1001)), (2, .int x2), (3, .ref (E.1 + a1003))]) [1, 2, 3, 0] rfl (sfX10_copyPieces_64 k10 hk10 a0 (some a1001) x2 (some a1003))
def fX10_copyPieces (a0 : Nat) (x1 : Option Nat) : St → Option (Unit × St) :=
 nn x1 fun a2 =>
 gI 11 a2 12 fun v1 =>
 pI 11 a0 12 v1 <|
 itr (fun k (p : Nat × Option Nat × Int32) => fX10_copyPieces_10  k p.1 p.2.1 p.2.2) FU (a0, (some a2), 0)
set_option maxHeartbeats 4000000 in
set_option maxRecDepth 100000 in
theorem mX10_copyPieces {E : Ev} {l : Launch} (a0 : Nat) (x1 : Option Nat) : MF E l dpX10_copyPieces yX10_copyPieces cX10_copyPieces 4 none rvV [.ref (E.1 + a0), rf E.1 x1] (fX10_copyPieces a0 x1) := by
  refine MF.of (lv := [(0, .ref (E.1 + a0)), (1, rf E.1 x1)]) (by decide) (by simp [lg_sl, rf_cat, cat_int, cat_long, cat_ref]) (by simp [lv_args, rf_cat, cat_int, cat_long, cat_ref]) ?_
  unfold fX10_copyPieces
  refine sn_aload_n (pc := 0) (j := 0) dX10_copyPieces_0 rfl rfl ?_
  refine sn_aloadR_n (pc := 1) (r := x1) (j := 1) dX10_copyPieces_1 rfl rfl ?_
  rcases x1 with _ | a2
  · exact sn_no
  refine sn_nn ?_
  refine sn_gI (pc := 2) dX10_copyPieces_2 flX10_110 rfl (fun v1 => ?_)
  refine sn_pI (pc := 5) dX10_copyPieces_5 flX10_110 rfl rfl (Or.inl rfl) ?_
  refine sn_iconst (pc := 8) (v := 0) dX10_copyPieces_8 (by decide) ?_
  refine sn_istore_n (pc := 9) (i := 2) (lv' := [(2, .int 0), (0, .ref (E.1 + a0)), (1, .ref (E.1 + a2))]) dX10_copyPieces_9 rfl (by decide) rfl ?_
  exact sn_sub (lv' := [(0, .ref (E.1 + a0)), (1, .ref (E.1 + a2)), (2, .int 0)]) [1, 2, 0] rfl (sn_itr (lvf := fun p => [(0, .ref (E.1 + p.1)), (1, rf E.1 p.2.1), (2, .int p.2.2)]) (stf := fun p => []) (fun k hk p => sfX10_copyPieces_10  k hk p.1 p.2.1 p.2.2) FU (a0, (some a2), 0))
theorem iX10_copyPieces : MI yX10_copyPieces cX10_copyPieces 4 none 1 := ⟨wt1_2, wt5_227, by decide +kernel, by decide⟩
