-- NeedleHomes$Pattern kindsOfStitches()I
theorem dX5_kindsOfStitches_0 : decode cX5_kindsOfStitches 0 = .ok (.iconst 0, 1) := by decide +kernel
theorem dX5_kindsOfStitches_1 : decode cX5_kindsOfStitches 1 = .ok (.istore_n 1, 1) := by decide +kernel
theorem dX5_kindsOfStitches_2 : decode cX5_kindsOfStitches 2 = .ok (.iconst 0, 1) := by decide +kernel
theorem dX5_kindsOfStitches_3 : decode cX5_kindsOfStitches 3 = .ok (.istore_n 2, 1) := by decide +kernel
theorem dX5_kindsOfStitches_4 : decode cX5_kindsOfStitches 4 = .ok (.iload_n 2, 1) := by decide +kernel
theorem dX5_kindsOfStitches_5 : decode cX5_kindsOfStitches 5 = .ok (.bipush 6, 2) := by decide +kernel
theorem dX5_kindsOfStitches_7 : decode cX5_kindsOfStitches 7 = .ok (.if_icmp .ge 48, 3) := by decide +kernel
theorem dX5_kindsOfStitches_10 : decode cX5_kindsOfStitches 10 = .ok (.iconst 0, 1) := by decide +kernel
theorem dX5_kindsOfStitches_11 : decode cX5_kindsOfStitches 11 = .ok (.istore_n 3, 1) := by decide +kernel
theorem dX5_kindsOfStitches_12 : decode cX5_kindsOfStitches 12 = .ok (.iconst 0, 1) := by decide +kernel
theorem dX5_kindsOfStitches_13 : decode cX5_kindsOfStitches 13 = .ok (.istore 4, 2) := by decide +kernel
theorem dX5_kindsOfStitches_15 : decode cX5_kindsOfStitches 15 = .ok (.iload 4, 2) := by decide +kernel
theorem dX5_kindsOfStitches_17 : decode cX5_kindsOfStitches 17 = .ok (.iconst 4, 1) := by decide +kernel
theorem dX5_kindsOfStitches_18 : decode cX5_kindsOfStitches 18 = .ok (.if_icmp .ge 19, 3) := by decide +kernel
theorem dX5_kindsOfStitches_21 : decode cX5_kindsOfStitches 21 = .ok (.iload_n 3, 1) := by decide +kernel
theorem dX5_kindsOfStitches_22 : decode cX5_kindsOfStitches 22 = .ok (.aload_n 0, 1) := by decide +kernel
theorem dX5_kindsOfStitches_23 : decode cX5_kindsOfStitches 23 = .ok (.iload_n 2, 1) := by decide +kernel
theorem dX5_kindsOfStitches_24 : decode cX5_kindsOfStitches 24 = .ok (.iload 4, 2) := by decide +kernel
theorem dX5_kindsOfStitches_26 : decode cX5_kindsOfStitches 26 = .ok (.invokevirtual 38, 3) := by decide +kernel
theorem dX5_kindsOfStitches_29 : decode cX5_kindsOfStitches 29 = .ok (.iadd, 1) := by decide +kernel
theorem dX5_kindsOfStitches_30 : decode cX5_kindsOfStitches 30 = .ok (.istore_n 3, 1) := by decide +kernel
theorem dX5_kindsOfStitches_31 : decode cX5_kindsOfStitches 31 = .ok (.iinc 4 1, 3) := by decide +kernel
theorem dX5_kindsOfStitches_34 : decode cX5_kindsOfStitches 34 = .ok (.goto (-19), 3) := by decide +kernel
theorem dX5_kindsOfStitches_37 : decode cX5_kindsOfStitches 37 = .ok (.iload_n 1, 1) := by decide +kernel
theorem dX5_kindsOfStitches_38 : decode cX5_kindsOfStitches 38 = .ok (.iload_n 3, 1) := by decide +kernel
theorem dX5_kindsOfStitches_39 : decode cX5_kindsOfStitches 39 = .ok (.ifCond .le 7, 3) := by decide +kernel
theorem dX5_kindsOfStitches_42 : decode cX5_kindsOfStitches 42 = .ok (.iconst 1, 1) := by decide +kernel
theorem dX5_kindsOfStitches_43 : decode cX5_kindsOfStitches 43 = .ok (.goto 4, 3) := by decide +kernel
theorem dX5_kindsOfStitches_46 : decode cX5_kindsOfStitches 46 = .ok (.iconst 0, 1) := by decide +kernel
theorem dX5_kindsOfStitches_47 : decode cX5_kindsOfStitches 47 = .ok (.iadd, 1) := by decide +kernel
theorem dX5_kindsOfStitches_48 : decode cX5_kindsOfStitches 48 = .ok (.istore_n 1, 1) := by decide +kernel
theorem dX5_kindsOfStitches_49 : decode cX5_kindsOfStitches 49 = .ok (.iinc 2 1, 3) := by decide +kernel
theorem dX5_kindsOfStitches_52 : decode cX5_kindsOfStitches 52 = .ok (.goto (-48), 3) := by decide +kernel
theorem dX5_kindsOfStitches_55 : decode cX5_kindsOfStitches 55 = .ok (.iload_n 1, 1) := by decide +kernel
theorem dX5_kindsOfStitches_56 : decode cX5_kindsOfStitches 56 = .ok (.ireturn, 1) := by decide +kernel
abbrev dpX5_kindsOfStitches : Nat := 3
def fX5_kindsOfStitches_47 (k4 : (Nat × Int32 × Int32) → St → Option (Int32 × St)) (a0 : Nat) (x2 : Int32) (y0 : Int32) (y1 : Int32) : St → Option (Int32 × St) :=
 k4 (a0, (y1 + y0), (x2 + 1))
set_option maxHeartbeats 4000000 in
set_option maxRecDepth 100000 in
theorem sfX5_kindsOfStitches_47 {E : Ev} {l : Launch} (k4 : (Nat × Int32 × Int32) → St → Option (Int32 × St)) (hk4 : ∀ p : Nat × Int32 × Int32, Snd E l (dpX5_kindsOfStitches, RX5, cX5_kindsOfStitches, 5, (some .int), "kindsOfStitches") rvI 4 [(0, .ref (E.1 + p.1)), (1, .int p.2.1), (2, .int p.2.2)] [] (k4 p)) (a0 : Nat) (x2 : Int32) (y0 : Int32) (y1 : Int32) : Snd E l (dpX5_kindsOfStitches, RX5, cX5_kindsOfStitches, 5, (some .int), "kindsOfStitches") rvI 47 [(0, .ref (E.1 + a0)), (2, .int x2)] [.int y0, .int y1] (fX5_kindsOfStitches_47 k4 a0 x2 y0 y1) := by
  unfold fX5_kindsOfStitches_47
  refine sn_iadd (pc := 47) dX5_kindsOfStitches_47 ?_
  refine sn_istore_n (pc := 48) (i := 1) (lv' := [(1, .int (y1 + y0)), (0, .ref (E.1 + a0)), (2, .int x2)]) dX5_kindsOfStitches_48 rfl (by decide) rfl ?_
  refine sn_iinc (pc := 49) (v := x2 + 1) (lv' := [(2, .int (x2 + 1)), (1, .int (y1 + y0)), (0, .ref (E.1 + a0))]) (j := 2) dX5_kindsOfStitches_49 rfl rfl (by decide) rfl ?_
  refine sn_goto (pc := 52) (tgt := 4) dX5_kindsOfStitches_52 (by decide) ?_
  exact sn_sub (lv' := [(0, .ref (E.1 + a0)), (1, .int (y1 + y0)), (2, .int (x2 + 1))]) [2, 1, 0] rfl (hk4 (a0, (y1 + y0), (x2 + 1)))
def fX5_kindsOfStitches_15 (k4 : (Nat × Int32 × Int32) → St → Option (Int32 × St)) (k15 : (Nat × Int32 × Int32 × Int32 × Int32) → St → Option (Int32 × St)) (a0 : Nat) (x1 : Int32) (x2 : Int32) (x3 : Int32) (x4 : Int32) : St → Option (Int32 × St) :=
 br (4 ≤ x4) (br (x3 ≤ 0) (fX5_kindsOfStitches_47 k4 a0 x2 0 x1)
 (fX5_kindsOfStitches_47 k4 a0 x2 1 x1))
 (ck 6 a0 <| cl (fX5_countOf a0 x2 x4) fun v2001 =>
 k15 (a0, x1, x2, (x3 + v2001), (x4 + 1)))
set_option maxHeartbeats 4000000 in
set_option maxRecDepth 100000 in
theorem sfX5_kindsOfStitches_15 {E : Ev} {l : Launch} (k4 : (Nat × Int32 × Int32) → St → Option (Int32 × St)) (hk4 : ∀ p : Nat × Int32 × Int32, Snd E l (dpX5_kindsOfStitches, RX5, cX5_kindsOfStitches, 5, (some .int), "kindsOfStitches") rvI 4 [(0, .ref (E.1 + p.1)), (1, .int p.2.1), (2, .int p.2.2)] [] (k4 p)) (k15 : (Nat × Int32 × Int32 × Int32 × Int32) → St → Option (Int32 × St)) (hk15 : ∀ p : Nat × Int32 × Int32 × Int32 × Int32, Snd E l (dpX5_kindsOfStitches, RX5, cX5_kindsOfStitches, 5, (some .int), "kindsOfStitches") rvI 15 [(0, .ref (E.1 + p.1)), (1, .int p.2.1), (2, .int p.2.2.1), (3, .int p.2.2.2.1), (4, .int p.2.2.2.2)] [] (k15 p)) (a0 : Nat) (x1 : Int32) (x2 : Int32) (x3 : Int32) (x4 : Int32) : Snd E l (dpX5_kindsOfStitches, RX5, cX5_kindsOfStitches, 5, (some .int), "kindsOfStitches") rvI 15 [(0, .ref (E.1 + a0)), (1, .int x1), (2, .int x2), (3, .int x3), (4, .int x4)] [] (fX5_kindsOfStitches_15 k4 k15 a0 x1 x2 x3 x4) := by
  unfold fX5_kindsOfStitches_15
  refine sn_iload (pc := 15) (j := 4) dX5_kindsOfStitches_15 rfl ?_
  refine sn_iconst (pc := 17) (v := 4) dX5_kindsOfStitches_17 (by decide) ?_
  refine sn_icmp_ge (pc := 18) (tgt := 37) dX5_kindsOfStitches_18 (by decide) ?_ ?_
  · refine sn_iload_n (pc := 37) (j := 1) dX5_kindsOfStitches_37 rfl rfl ?_
    refine sn_iload_n (pc := 38) (j := 3) dX5_kindsOfStitches_38 rfl rfl ?_
    refine sn_if_le (pc := 39) (tgt := 46) dX5_kindsOfStitches_39 (by decide) ?_ ?_
    · refine sn_iconst (pc := 46) (v := 0) dX5_kindsOfStitches_46 (by decide) ?_
      exact sn_sub (lv' := [(0, .ref (E.1 + a0)), (2, .int x2)]) [0, 2] rfl (sfX5_kindsOfStitches_47 k4 hk4 a0 x2 0 x1)
    · refine sn_iconst (pc := 42) (v := 1) dX5_kindsOfStitches_42 (by decide) ?_
      refine sn_goto (pc := 43) (tgt := 47) dX5_kindsOfStitches_43 (by decide) ?_
      exact sn_sub (lv' := [(0, .ref (E.1 + a0)), (2, .int x2)]) [0, 2] rfl (sfX5_kindsOfStitches_47 k4 hk4 a0 x2 1 x1)
  · refine sn_iload_n (pc := 21) (j := 3) dX5_kindsOfStitches_21 rfl rfl ?_
    refine sn_aload_n (pc := 22) (j := 0) dX5_kindsOfStitches_22 rfl rfl ?_
    refine sn_iload_n (pc := 23) (j := 2) dX5_kindsOfStitches_23 rfl rfl ?_
    refine sn_iload (pc := 24) (j := 4) dX5_kindsOfStitches_24 rfl ?_
    refine sn_callV (ci := 5) (pc := 26) dX5_kindsOfStitches_26 iX5_countOf wt3_201 wt3_202 wt3_214 ⟨_, rfl, rfl⟩ (by decide) (mX5_countOf a0 x2 x4) (by decide) rfl rfl (Nat.le_of_ble_eq_true rfl) (fun v2001 => ?_)
    refine sn_iadd (pc := 29) dX5_kindsOfStitches_29 ?_
    refine sn_istore_n (pc := 30) (i := 3) (lv' := [(3, .int (x3 + v2001)), (0, .ref (E.1 + a0)), (1, .int x1), (2, .int x2), (4, .int x4)]) dX5_kindsOfStitches_30 rfl (by decide) rfl ?_
    refine sn_iinc (pc := 31) (v := x4 + 1) (lv' := [(4, .int (x4 + 1)), (3, .int (x3 + v2001)), (0, .ref (E.1 + a0)), (1, .int x1), (2, .int x2)]) (j := 4) dX5_kindsOfStitches_31 rfl rfl (by decide) rfl ?_
    refine sn_goto (pc := 34) (tgt := 15) dX5_kindsOfStitches_34 (by decide) ?_
    exact sn_sub (lv' := [(0, .ref (E.1 + a0)), (1, .int x1), (2, .int x2), (3, .int (x3 + v2001)), (4, .int (x4 + 1))]) [2, 3, 4, 1, 0] rfl (hk15 (a0, x1, x2, (x3 + v2001), (x4 + 1)))
def fX5_kindsOfStitches_4 (k4 : (Nat × Int32 × Int32) → St → Option (Int32 × St)) (a0 : Nat) (x1 : Int32) (x2 : Int32) : St → Option (Int32 × St) :=
 br (6 ≤ x2) (rt x1)
 (itr (fun k (p : Nat × Int32 × Int32 × Int32 × Int32) => fX5_kindsOfStitches_15 k4 k p.1 p.2.1 p.2.2.1 p.2.2.2.1 p.2.2.2.2) FU (a0, x1, x2, 0, 0))
set_option maxHeartbeats 4000000 in
set_option maxRecDepth 100000 in
theorem sfX5_kindsOfStitches_4 {E : Ev} {l : Launch} (k4 : (Nat × Int32 × Int32) → St → Option (Int32 × St)) (hk4 : ∀ p : Nat × Int32 × Int32, Snd E l (dpX5_kindsOfStitches, RX5, cX5_kindsOfStitches, 5, (some .int), "kindsOfStitches") rvI 4 [(0, .ref (E.1 + p.1)), (1, .int p.2.1), (2, .int p.2.2)] [] (k4 p)) (a0 : Nat) (x1 : Int32) (x2 : Int32) : Snd E l (dpX5_kindsOfStitches, RX5, cX5_kindsOfStitches, 5, (some .int), "kindsOfStitches") rvI 4 [(0, .ref (E.1 + a0)), (1, .int x1), (2, .int x2)] [] (fX5_kindsOfStitches_4 k4 a0 x1 x2) := by
  unfold fX5_kindsOfStitches_4
  refine sn_iload_n (pc := 4) (j := 2) dX5_kindsOfStitches_4 rfl rfl ?_
  refine sn_bipush (pc := 5) (v := 6) dX5_kindsOfStitches_5 (by decide) ?_
  refine sn_icmp_ge (pc := 7) (tgt := 55) dX5_kindsOfStitches_7 (by decide) ?_ ?_
  · refine sn_iload_n (pc := 55) (j := 1) dX5_kindsOfStitches_55 rfl rfl ?_
    exact sn_iret (pc := 56) dX5_kindsOfStitches_56 rfl
  · refine sn_iconst (pc := 10) (v := 0) dX5_kindsOfStitches_10 (by decide) ?_
    refine sn_istore_n (pc := 11) (i := 3) (lv' := [(3, .int 0), (0, .ref (E.1 + a0)), (1, .int x1), (2, .int x2)]) dX5_kindsOfStitches_11 rfl (by decide) rfl ?_
    refine sn_iconst (pc := 12) (v := 0) dX5_kindsOfStitches_12 (by decide) ?_
    refine sn_istore (pc := 13) (i := 4) (lv' := [(4, .int 0), (3, .int 0), (0, .ref (E.1 + a0)), (1, .int x1), (2, .int x2)]) dX5_kindsOfStitches_13 (by decide) rfl ?_
    exact sn_sub (lv' := [(0, .ref (E.1 + a0)), (1, .int x1), (2, .int x2), (3, .int 0), (4, .int 0)]) [2, 3, 4, 1, 0] rfl (sn_itr (lvf := fun p => [(0, .ref (E.1 + p.1)), (1, .int p.2.1), (2, .int p.2.2.1), (3, .int p.2.2.2.1), (4, .int p.2.2.2.2)]) (stf := fun p => []) (fun k hk p => sfX5_kindsOfStitches_15 k4 hk4 k hk p.1 p.2.1 p.2.2.1 p.2.2.2.1 p.2.2.2.2) FU (a0, x1, x2, 0, 0))
def fX5_kindsOfStitches (a0 : Nat) : St → Option (Int32 × St) :=
 itr (fun k (p : Nat × Int32 × Int32) => fX5_kindsOfStitches_4  k p.1 p.2.1 p.2.2) FU (a0, 0, 0)
set_option maxHeartbeats 4000000 in
set_option maxRecDepth 100000 in
theorem mX5_kindsOfStitches {E : Ev} {l : Launch} (a0 : Nat) : MF E l dpX5_kindsOfStitches yX5_kindsOfStitches cX5_kindsOfStitches 5 (some .int) rvI [.ref (E.1 + a0)] (fX5_kindsOfStitches a0) := by
  refine MF.of (lv := [(0, .ref (E.1 + a0))]) (by decide) (Nat.le_of_ble_eq_true rfl) rfl ?_
  unfold fX5_kindsOfStitches
  refine sn_iconst (pc := 0) (v := 0) dX5_kindsOfStitches_0 (by decide) ?_
  refine sn_istore_n (pc := 1) (i := 1) (lv' := [(1, .int 0), (0, .ref (E.1 + a0))]) dX5_kindsOfStitches_1 rfl (by decide) rfl ?_
  refine sn_iconst (pc := 2) (v := 0) dX5_kindsOfStitches_2 (by decide) ?_
  refine sn_istore_n (pc := 3) (i := 2) (lv' := [(2, .int 0), (1, .int 0), (0, .ref (E.1 + a0))]) dX5_kindsOfStitches_3 rfl (by decide) rfl ?_
  exact sn_sub (lv' := [(0, .ref (E.1 + a0)), (1, .int 0), (2, .int 0)]) [2, 1, 0] rfl (sn_itr (lvf := fun p => [(0, .ref (E.1 + p.1)), (1, .int p.2.1), (2, .int p.2.2)]) (stf := fun p => []) (fun k hk p => sfX5_kindsOfStitches_4  k hk p.1 p.2.1 p.2.2) FU (a0, 0, 0))
theorem iX5_kindsOfStitches : MI yX5_kindsOfStitches cX5_kindsOfStitches 5 (some .int) 0 := ⟨wt1_12, wt3_213, by decide +kernel, by decide⟩
-- NeedleHomes$Pattern coloursUsed()I
theorem dX5_coloursUsed_0 : decode cX5_coloursUsed 0 = .ok (.iconst 0, 1) := by decide +kernel
theorem dX5_coloursUsed_1 : decode cX5_coloursUsed 1 = .ok (.istore_n 1, 1) := by decide +kernel
theorem dX5_coloursUsed_2 : decode cX5_coloursUsed 2 = .ok (.iconst 0, 1) := by decide +kernel
theorem dX5_coloursUsed_3 : decode cX5_coloursUsed 3 = .ok (.istore_n 2, 1) := by decide +kernel
theorem dX5_coloursUsed_4 : decode cX5_coloursUsed 4 = .ok (.iload_n 2, 1) := by decide +kernel
theorem dX5_coloursUsed_5 : decode cX5_coloursUsed 5 = .ok (.iconst 4, 1) := by decide +kernel
theorem dX5_coloursUsed_6 : decode cX5_coloursUsed 6 = .ok (.if_icmp .ge 49, 3) := by decide +kernel
theorem dX5_coloursUsed_9 : decode cX5_coloursUsed 9 = .ok (.iconst 0, 1) := by decide +kernel
theorem dX5_coloursUsed_10 : decode cX5_coloursUsed 10 = .ok (.istore_n 3, 1) := by decide +kernel
theorem dX5_coloursUsed_11 : decode cX5_coloursUsed 11 = .ok (.iconst 0, 1) := by decide +kernel
theorem dX5_coloursUsed_12 : decode cX5_coloursUsed 12 = .ok (.istore 4, 2) := by decide +kernel
theorem dX5_coloursUsed_14 : decode cX5_coloursUsed 14 = .ok (.iload 4, 2) := by decide +kernel
theorem dX5_coloursUsed_16 : decode cX5_coloursUsed 16 = .ok (.bipush 6, 2) := by decide +kernel
theorem dX5_coloursUsed_18 : decode cX5_coloursUsed 18 = .ok (.if_icmp .ge 19, 3) := by decide +kernel
theorem dX5_coloursUsed_21 : decode cX5_coloursUsed 21 = .ok (.iload_n 3, 1) := by decide +kernel
theorem dX5_coloursUsed_22 : decode cX5_coloursUsed 22 = .ok (.aload_n 0, 1) := by decide +kernel
theorem dX5_coloursUsed_23 : decode cX5_coloursUsed 23 = .ok (.iload 4, 2) := by decide +kernel
theorem dX5_coloursUsed_25 : decode cX5_coloursUsed 25 = .ok (.iload_n 2, 1) := by decide +kernel
theorem dX5_coloursUsed_26 : decode cX5_coloursUsed 26 = .ok (.invokevirtual 38, 3) := by decide +kernel
theorem dX5_coloursUsed_29 : decode cX5_coloursUsed 29 = .ok (.iadd, 1) := by decide +kernel
theorem dX5_coloursUsed_30 : decode cX5_coloursUsed 30 = .ok (.istore_n 3, 1) := by decide +kernel
theorem dX5_coloursUsed_31 : decode cX5_coloursUsed 31 = .ok (.iinc 4 1, 3) := by decide +kernel
theorem dX5_coloursUsed_34 : decode cX5_coloursUsed 34 = .ok (.goto (-20), 3) := by decide +kernel
theorem dX5_coloursUsed_37 : decode cX5_coloursUsed 37 = .ok (.iload_n 1, 1) := by decide +kernel
theorem dX5_coloursUsed_38 : decode cX5_coloursUsed 38 = .ok (.iload_n 3, 1) := by decide +kernel
theorem dX5_coloursUsed_39 : decode cX5_coloursUsed 39 = .ok (.ifCond .le 7, 3) := by decide +kernel
theorem dX5_coloursUsed_42 : decode cX5_coloursUsed 42 = .ok (.iconst 1, 1) := by decide +kernel
theorem dX5_coloursUsed_43 : decode cX5_coloursUsed 43 = .ok (.goto 4, 3) := by decide +kernel
theorem dX5_coloursUsed_46 : decode cX5_coloursUsed 46 = .ok (.iconst 0, 1) := by decide +kernel
theorem dX5_coloursUsed_47 : decode cX5_coloursUsed 47 = .ok (.iadd, 1) := by decide +kernel
theorem dX5_coloursUsed_48 : decode cX5_coloursUsed 48 = .ok (.istore_n 1, 1) := by decide +kernel
theorem dX5_coloursUsed_49 : decode cX5_coloursUsed 49 = .ok (.iinc 2 1, 3) := by decide +kernel
theorem dX5_coloursUsed_52 : decode cX5_coloursUsed 52 = .ok (.goto (-48), 3) := by decide +kernel
theorem dX5_coloursUsed_55 : decode cX5_coloursUsed 55 = .ok (.iload_n 1, 1) := by decide +kernel
theorem dX5_coloursUsed_56 : decode cX5_coloursUsed 56 = .ok (.ireturn, 1) := by decide +kernel
abbrev dpX5_coloursUsed : Nat := 3
def fX5_coloursUsed_47 (k4 : (Nat × Int32 × Int32) → St → Option (Int32 × St)) (a0 : Nat) (x2 : Int32) (y0 : Int32) (y1 : Int32) : St → Option (Int32 × St) :=
 k4 (a0, (y1 + y0), (x2 + 1))
set_option maxHeartbeats 4000000 in
set_option maxRecDepth 100000 in
theorem sfX5_coloursUsed_47 {E : Ev} {l : Launch} (k4 : (Nat × Int32 × Int32) → St → Option (Int32 × St)) (hk4 : ∀ p : Nat × Int32 × Int32, Snd E l (dpX5_coloursUsed, RX5, cX5_coloursUsed, 5, (some .int), "coloursUsed") rvI 4 [(0, .ref (E.1 + p.1)), (1, .int p.2.1), (2, .int p.2.2)] [] (k4 p)) (a0 : Nat) (x2 : Int32) (y0 : Int32) (y1 : Int32) : Snd E l (dpX5_coloursUsed, RX5, cX5_coloursUsed, 5, (some .int), "coloursUsed") rvI 47 [(0, .ref (E.1 + a0)), (2, .int x2)] [.int y0, .int y1] (fX5_coloursUsed_47 k4 a0 x2 y0 y1) := by
  unfold fX5_coloursUsed_47
  refine sn_iadd (pc := 47) dX5_coloursUsed_47 ?_
  refine sn_istore_n (pc := 48) (i := 1) (lv' := [(1, .int (y1 + y0)), (0, .ref (E.1 + a0)), (2, .int x2)]) dX5_coloursUsed_48 rfl (by decide) rfl ?_
  refine sn_iinc (pc := 49) (v := x2 + 1) (lv' := [(2, .int (x2 + 1)), (1, .int (y1 + y0)), (0, .ref (E.1 + a0))]) (j := 2) dX5_coloursUsed_49 rfl rfl (by decide) rfl ?_
  refine sn_goto (pc := 52) (tgt := 4) dX5_coloursUsed_52 (by decide) ?_
  exact sn_sub (lv' := [(0, .ref (E.1 + a0)), (1, .int (y1 + y0)), (2, .int (x2 + 1))]) [2, 1, 0] rfl (hk4 (a0, (y1 + y0), (x2 + 1)))
def fX5_coloursUsed_14 (k4 : (Nat × Int32 × Int32) → St → Option (Int32 × St)) (k14 : (Nat × Int32 × Int32 × Int32 × Int32) → St → Option (Int32 × St)) (a0 : Nat) (x1 : Int32) (x2 : Int32) (x3 : Int32) (x4 : Int32) : St → Option (Int32 × St) :=
 br (6 ≤ x4) (br (x3 ≤ 0) (fX5_coloursUsed_47 k4 a0 x2 0 x1)
 (fX5_coloursUsed_47 k4 a0 x2 1 x1))
 (ck 6 a0 <| cl (fX5_countOf a0 x4 x2) fun v2001 =>
 k14 (a0, x1, x2, (x3 + v2001), (x4 + 1)))
set_option maxHeartbeats 4000000 in
set_option maxRecDepth 100000 in
theorem sfX5_coloursUsed_14 {E : Ev} {l : Launch} (k4 : (Nat × Int32 × Int32) → St → Option (Int32 × St)) (hk4 : ∀ p : Nat × Int32 × Int32, Snd E l (dpX5_coloursUsed, RX5, cX5_coloursUsed, 5, (some .int), "coloursUsed") rvI 4 [(0, .ref (E.1 + p.1)), (1, .int p.2.1), (2, .int p.2.2)] [] (k4 p)) (k14 : (Nat × Int32 × Int32 × Int32 × Int32) → St → Option (Int32 × St)) (hk14 : ∀ p : Nat × Int32 × Int32 × Int32 × Int32, Snd E l (dpX5_coloursUsed, RX5, cX5_coloursUsed, 5, (some .int), "coloursUsed") rvI 14 [(0, .ref (E.1 + p.1)), (1, .int p.2.1), (2, .int p.2.2.1), (3, .int p.2.2.2.1), (4, .int p.2.2.2.2)] [] (k14 p)) (a0 : Nat) (x1 : Int32) (x2 : Int32) (x3 : Int32) (x4 : Int32) : Snd E l (dpX5_coloursUsed, RX5, cX5_coloursUsed, 5, (some .int), "coloursUsed") rvI 14 [(0, .ref (E.1 + a0)), (1, .int x1), (2, .int x2), (3, .int x3), (4, .int x4)] [] (fX5_coloursUsed_14 k4 k14 a0 x1 x2 x3 x4) := by
  unfold fX5_coloursUsed_14
  refine sn_iload (pc := 14) (j := 4) dX5_coloursUsed_14 rfl ?_
  refine sn_bipush (pc := 16) (v := 6) dX5_coloursUsed_16 (by decide) ?_
  refine sn_icmp_ge (pc := 18) (tgt := 37) dX5_coloursUsed_18 (by decide) ?_ ?_
  · refine sn_iload_n (pc := 37) (j := 1) dX5_coloursUsed_37 rfl rfl ?_
    refine sn_iload_n (pc := 38) (j := 3) dX5_coloursUsed_38 rfl rfl ?_
    refine sn_if_le (pc := 39) (tgt := 46) dX5_coloursUsed_39 (by decide) ?_ ?_
    · refine sn_iconst (pc := 46) (v := 0) dX5_coloursUsed_46 (by decide) ?_
      exact sn_sub (lv' := [(0, .ref (E.1 + a0)), (2, .int x2)]) [0, 2] rfl (sfX5_coloursUsed_47 k4 hk4 a0 x2 0 x1)
    · refine sn_iconst (pc := 42) (v := 1) dX5_coloursUsed_42 (by decide) ?_
      refine sn_goto (pc := 43) (tgt := 47) dX5_coloursUsed_43 (by decide) ?_
      exact sn_sub (lv' := [(0, .ref (E.1 + a0)), (2, .int x2)]) [0, 2] rfl (sfX5_coloursUsed_47 k4 hk4 a0 x2 1 x1)
  · refine sn_iload_n (pc := 21) (j := 3) dX5_coloursUsed_21 rfl rfl ?_
    refine sn_aload_n (pc := 22) (j := 0) dX5_coloursUsed_22 rfl rfl ?_
    refine sn_iload (pc := 23) (j := 4) dX5_coloursUsed_23 rfl ?_
    refine sn_iload_n (pc := 25) (j := 2) dX5_coloursUsed_25 rfl rfl ?_
    refine sn_callV (ci := 5) (pc := 26) dX5_coloursUsed_26 iX5_countOf wt3_201 wt3_202 wt3_214 ⟨_, rfl, rfl⟩ (by decide) (mX5_countOf a0 x4 x2) (by decide) rfl rfl (Nat.le_of_ble_eq_true rfl) (fun v2001 => ?_)
    refine sn_iadd (pc := 29) dX5_coloursUsed_29 ?_
    refine sn_istore_n (pc := 30) (i := 3) (lv' := [(3, .int (x3 + v2001)), (0, .ref (E.1 + a0)), (1, .int x1), (2, .int x2), (4, .int x4)]) dX5_coloursUsed_30 rfl (by decide) rfl ?_
    refine sn_iinc (pc := 31) (v := x4 + 1) (lv' := [(4, .int (x4 + 1)), (3, .int (x3 + v2001)), (0, .ref (E.1 + a0)), (1, .int x1), (2, .int x2)]) (j := 4) dX5_coloursUsed_31 rfl rfl (by decide) rfl ?_
    refine sn_goto (pc := 34) (tgt := 14) dX5_coloursUsed_34 (by decide) ?_
    exact sn_sub (lv' := [(0, .ref (E.1 + a0)), (1, .int x1), (2, .int x2), (3, .int (x3 + v2001)), (4, .int (x4 + 1))]) [2, 3, 4, 1, 0] rfl (hk14 (a0, x1, x2, (x3 + v2001), (x4 + 1)))
def fX5_coloursUsed_4 (k4 : (Nat × Int32 × Int32) → St → Option (Int32 × St)) (a0 : Nat) (x1 : Int32) (x2 : Int32) : St → Option (Int32 × St) :=
 br (4 ≤ x2) (rt x1)
 (itr (fun k (p : Nat × Int32 × Int32 × Int32 × Int32) => fX5_coloursUsed_14 k4 k p.1 p.2.1 p.2.2.1 p.2.2.2.1 p.2.2.2.2) FU (a0, x1, x2, 0, 0))
set_option maxHeartbeats 4000000 in
set_option maxRecDepth 100000 in
theorem sfX5_coloursUsed_4 {E : Ev} {l : Launch} (k4 : (Nat × Int32 × Int32) → St → Option (Int32 × St)) (hk4 : ∀ p : Nat × Int32 × Int32, Snd E l (dpX5_coloursUsed, RX5, cX5_coloursUsed, 5, (some .int), "coloursUsed") rvI 4 [(0, .ref (E.1 + p.1)), (1, .int p.2.1), (2, .int p.2.2)] [] (k4 p)) (a0 : Nat) (x1 : Int32) (x2 : Int32) : Snd E l (dpX5_coloursUsed, RX5, cX5_coloursUsed, 5, (some .int), "coloursUsed") rvI 4 [(0, .ref (E.1 + a0)), (1, .int x1), (2, .int x2)] [] (fX5_coloursUsed_4 k4 a0 x1 x2) := by
  unfold fX5_coloursUsed_4
  refine sn_iload_n (pc := 4) (j := 2) dX5_coloursUsed_4 rfl rfl ?_
  refine sn_iconst (pc := 5) (v := 4) dX5_coloursUsed_5 (by decide) ?_
  refine sn_icmp_ge (pc := 6) (tgt := 55) dX5_coloursUsed_6 (by decide) ?_ ?_
  · refine sn_iload_n (pc := 55) (j := 1) dX5_coloursUsed_55 rfl rfl ?_
    exact sn_iret (pc := 56) dX5_coloursUsed_56 rfl
  · refine sn_iconst (pc := 9) (v := 0) dX5_coloursUsed_9 (by decide) ?_
    refine sn_istore_n (pc := 10) (i := 3) (lv' := [(3, .int 0), (0, .ref (E.1 + a0)), (1, .int x1), (2, .int x2)]) dX5_coloursUsed_10 rfl (by decide) rfl ?_
    refine sn_iconst (pc := 11) (v := 0) dX5_coloursUsed_11 (by decide) ?_
    refine sn_istore (pc := 12) (i := 4) (lv' := [(4, .int 0), (3, .int 0), (0, .ref (E.1 + a0)), (1, .int x1), (2, .int x2)]) dX5_coloursUsed_12 (by decide) rfl ?_
    exact sn_sub (lv' := [(0, .ref (E.1 + a0)), (1, .int x1), (2, .int x2), (3, .int 0), (4, .int 0)]) [2, 3, 4, 1, 0] rfl (sn_itr (lvf := fun p => [(0, .ref (E.1 + p.1)), (1, .int p.2.1), (2, .int p.2.2.1), (3, .int p.2.2.2.1), (4, .int p.2.2.2.2)]) (stf := fun p => []) (fun k hk p => sfX5_coloursUsed_14 k4 hk4 k hk p.1 p.2.1 p.2.2.1 p.2.2.2.1 p.2.2.2.2) FU (a0, x1, x2, 0, 0))
def fX5_coloursUsed (a0 : Nat) : St → Option (Int32 × St) :=
 itr (fun k (p : Nat × Int32 × Int32) => fX5_coloursUsed_4  k p.1 p.2.1 p.2.2) FU (a0, 0, 0)
set_option maxHeartbeats 4000000 in
set_option maxRecDepth 100000 in
theorem mX5_coloursUsed {E : Ev} {l : Launch} (a0 : Nat) : MF E l dpX5_coloursUsed yX5_coloursUsed cX5_coloursUsed 5 (some .int) rvI [.ref (E.1 + a0)] (fX5_coloursUsed a0) := by
  refine MF.of (lv := [(0, .ref (E.1 + a0))]) (by decide) (Nat.le_of_ble_eq_true rfl) rfl ?_
  unfold fX5_coloursUsed
  refine sn_iconst (pc := 0) (v := 0) dX5_coloursUsed_0 (by decide) ?_
  refine sn_istore_n (pc := 1) (i := 1) (lv' := [(1, .int 0), (0, .ref (E.1 + a0))]) dX5_coloursUsed_1 rfl (by decide) rfl ?_
  refine sn_iconst (pc := 2) (v := 0) dX5_coloursUsed_2 (by decide) ?_
  refine sn_istore_n (pc := 3) (i := 2) (lv' := [(2, .int 0), (1, .int 0), (0, .ref (E.1 + a0))]) dX5_coloursUsed_3 rfl (by decide) rfl ?_
  exact sn_sub (lv' := [(0, .ref (E.1 + a0)), (1, .int 0), (2, .int 0)]) [2, 1, 0] rfl (sn_itr (lvf := fun p => [(0, .ref (E.1 + p.1)), (1, .int p.2.1), (2, .int p.2.2)]) (stf := fun p => []) (fun k hk p => sfX5_coloursUsed_4  k hk p.1 p.2.1 p.2.2) FU (a0, 0, 0))
theorem iX5_coloursUsed : MI yX5_coloursUsed cX5_coloursUsed 5 (some .int) 0 := ⟨wt1_12, wt3_218, by decide +kernel, by decide⟩
-- NeedleHomes$PatternReader <init>()V
theorem dX6_init_0 : decode cX6_init 0 = .ok (.aload_n 0, 1) := by decide +kernel
theorem dX6_init_1 : decode cX6_init 1 = .ok (.invokespecial 5, 3) := by decide +kernel
theorem dX6_init_4 : decode cX6_init 4 = .ok (.aload_n 0, 1) := by decide +kernel
theorem dX6_init_5 : decode cX6_init 5 = .ok (.new 11, 3) := by decide +kernel
theorem dX6_init_8 : decode cX6_init 8 = .ok (.dup, 1) := by decide +kernel
theorem dX6_init_9 : decode cX6_init 9 = .ok (.invokespecial 13, 3) := by decide +kernel
theorem dX6_init_12 : decode cX6_init 12 = .ok (.putfield 14, 3) := by decide +kernel
theorem dX6_init_15 : decode cX6_init 15 = .ok (.aload_n 0, 1) := by decide +kernel
theorem dX6_init_16 : decode cX6_init 16 = .ok (.sipush 210, 3) := by decide +kernel
theorem dX6_init_19 : decode cX6_init 19 = .ok (.newarray .int, 2) := by decide +kernel
theorem dX6_init_21 : decode cX6_init 21 = .ok (.putfield 18, 3) := by decide +kernel
theorem dX6_init_24 : decode cX6_init 24 = .ok (.aload_n 0, 1) := by decide +kernel
theorem dX6_init_25 : decode cX6_init 25 = .ok (.bipush 7, 2) := by decide +kernel
theorem dX6_init_27 : decode cX6_init 27 = .ok (.newarray .int, 2) := by decide +kernel
theorem dX6_init_29 : decode cX6_init 29 = .ok (.putfield 22, 3) := by decide +kernel
theorem dX6_init_32 : decode cX6_init 32 = .ok (.aload_n 0, 1) := by decide +kernel
theorem dX6_init_33 : decode cX6_init 33 = .ok (.bipush 7, 2) := by decide +kernel
theorem dX6_init_35 : decode cX6_init 35 = .ok (.newarray .int, 2) := by decide +kernel
theorem dX6_init_37 : decode cX6_init 37 = .ok (.putfield 25, 3) := by decide +kernel
theorem dX6_init_40 : decode cX6_init 40 = .ok (.return_, 1) := by decide +kernel
abbrev dpX6_init : Nat := 2
def fX6_init (a0 : Nat) : St → Option (Unit × St) :=
 nO 9 8 fun a1 =>
 cl (fX8_init a1) fun v2 =>
 pR 7 a0 0 (some a1) <|
 nA 15 210 fun a3 =>
 pR 7 a0 2 (some a3) <|
 nA 15 7 fun a4 =>
 pR 7 a0 3 (some a4) <|
 nA 15 7 fun a5 =>
 pR 7 a0 4 (some a5) <|
 rt ()
set_option maxHeartbeats 4000000 in
set_option maxRecDepth 100000 in
theorem mX6_init {E : Ev} {l : Launch} (a0 : Nat) : MF E l dpX6_init yX6_init cX6_init 1 none rvV [.ref (E.1 + a0)] (fX6_init a0) := by
  refine MF.of (lv := [(0, .ref (E.1 + a0))]) (by decide) (Nat.le_of_ble_eq_true rfl) rfl ?_
  unfold fX6_init
  refine sn_aload_n (pc := 0) (j := 0) dX6_init_0 rfl rfl ?_
  refine sn_objInit (pc := 1) dX6_init_1 wt1_116 w_oi w_oc (by decide) (Nat.le_of_ble_eq_true rfl) ?_
  refine sn_aload_n (pc := 4) (j := 0) dX6_init_4 rfl rfl ?_
  refine sn_new (pc := 5) dX6_init_5 ci_X8 wt1_117 (fun a1 => ?_)
  refine sn_dup (pc := 8) dX6_init_8 rfl ?_
  refine sn_callIN (pc := 9) dX6_init_9 iX8_init rfl rfl wt1_120 (List.mem_of_getElem? (i := 1) rfl) (mX8_init a1) (by decide) rfl rfl (Nat.le_of_ble_eq_true rfl) (fun v2 => ?_)
  refine sn_pR (pc := 12) (v := (some a1)) dX6_init_12 flX6_14 rfl (Or.inl ⟨_, rfl⟩) (Or.inr ⟨rfl, rfl, rfl⟩) ?_
  refine sn_aload_n (pc := 15) (j := 0) dX6_init_15 rfl rfl ?_
  refine sn_sipush (pc := 16) (v := 210) dX6_init_16 (by decide) ?_
  refine sn_newI (pc := 19) dX6_init_19 wt1_109 (fun a3 => ?_)
  refine sn_pR (pc := 21) (v := (some a3)) dX6_init_21 flX6_18 rfl (Or.inr ⟨_, rfl⟩) (Or.inr ⟨rfl, rfl, rfl⟩) ?_
  refine sn_aload_n (pc := 24) (j := 0) dX6_init_24 rfl rfl ?_
  refine sn_bipush (pc := 25) (v := 7) dX6_init_25 (by decide) ?_
  refine sn_newI (pc := 27) dX6_init_27 wt1_109 (fun a4 => ?_)
  refine sn_pR (pc := 29) (v := (some a4)) dX6_init_29 flX6_22 rfl (Or.inr ⟨_, rfl⟩) (Or.inr ⟨rfl, rfl, rfl⟩) ?_
  refine sn_aload_n (pc := 32) (j := 0) dX6_init_32 rfl rfl ?_
  refine sn_bipush (pc := 33) (v := 7) dX6_init_33 (by decide) ?_
  refine sn_newI (pc := 35) dX6_init_35 wt1_109 (fun a5 => ?_)
  refine sn_pR (pc := 37) (v := (some a5)) dX6_init_37 flX6_25 rfl (Or.inr ⟨_, rfl⟩) (Or.inr ⟨rfl, rfl, rfl⟩) ?_
  exact sn_vret (pc := 40) dX6_init_40 rfl
theorem iX6_init : MI yX6_init cX6_init 1 none 0 := ⟨wt1_4, wt1_115, by decide +kernel, by decide⟩
-- NeedleHomes$PatternReader clearLevel(I)V
theorem dX6_clearLevel_0 : decode cX6_clearLevel 0 = .ok (.iconst 0, 1) := by decide +kernel
theorem dX6_clearLevel_1 : decode cX6_clearLevel 1 = .ok (.istore_n 2, 1) := by decide +kernel
theorem dX6_clearLevel_2 : decode cX6_clearLevel 2 = .ok (.iload_n 2, 1) := by decide +kernel
theorem dX6_clearLevel_3 : decode cX6_clearLevel 3 = .ok (.bipush 30, 2) := by decide +kernel
theorem dX6_clearLevel_5 : decode cX6_clearLevel 5 = .ok (.if_icmp .ge 31, 3) := by decide +kernel
theorem dX6_clearLevel_8 : decode cX6_clearLevel 8 = .ok (.iload_n 1, 1) := by decide +kernel
theorem dX6_clearLevel_9 : decode cX6_clearLevel 9 = .ok (.iconst 0, 1) := by decide +kernel
theorem dX6_clearLevel_10 : decode cX6_clearLevel 10 = .ok (.bipush 6, 2) := by decide +kernel
theorem dX6_clearLevel_12 : decode cX6_clearLevel 12 = .ok (.invokestatic 104, 3) := by decide +kernel
theorem dX6_clearLevel_15 : decode cX6_clearLevel 15 = .ok (.ifCond .eq 21, 3) := by decide +kernel
theorem dX6_clearLevel_18 : decode cX6_clearLevel 18 = .ok (.aload_n 0, 1) := by decide +kernel
theorem dX6_clearLevel_19 : decode cX6_clearLevel 19 = .ok (.getfield 18, 3) := by decide +kernel
theorem dX6_clearLevel_22 : decode cX6_clearLevel 22 = .ok (.iload_n 1, 1) := by decide +kernel
theorem dX6_clearLevel_23 : decode cX6_clearLevel 23 = .ok (.bipush 30, 2) := by decide +kernel
theorem dX6_clearLevel_25 : decode cX6_clearLevel 25 = .ok (.imul, 1) := by decide +kernel
theorem dX6_clearLevel_26 : decode cX6_clearLevel 26 = .ok (.iload_n 2, 1) := by decide +kernel
theorem dX6_clearLevel_27 : decode cX6_clearLevel 27 = .ok (.iadd, 1) := by decide +kernel
theorem dX6_clearLevel_28 : decode cX6_clearLevel 28 = .ok (.iconst 0, 1) := by decide +kernel
theorem dX6_clearLevel_29 : decode cX6_clearLevel 29 = .ok (.iastore, 1) := by decide +kernel
theorem dX6_clearLevel_30 : decode cX6_clearLevel 30 = .ok (.iinc 2 1, 3) := by decide +kernel
theorem dX6_clearLevel_33 : decode cX6_clearLevel 33 = .ok (.goto (-31), 3) := by decide +kernel
theorem dX6_clearLevel_36 : decode cX6_clearLevel 36 = .ok (.return_, 1) := by decide +kernel
abbrev dpX6_clearLevel : Nat := 1
def fX6_clearLevel_2 (k2 : (Nat × Int32 × Int32) → St → Option (Unit × St)) (a0 : Nat) (x1 : Int32) (x2 : Int32) : St → Option (Unit × St) :=
 br (30 ≤ x2) (rt ())
 (cl (fX11_within x1 0 6) fun v1001 =>
 br ((bi v1001) = 0) (rt ())
 (gR 7 a0 2 fun v1002 =>
 nn v1002 fun a1003 =>
 wI a1003 ((x1 * 30) + x2) 0 <|
 k2 (a0, x1, (x2 + 1))))
set_option maxHeartbeats 4000000 in
set_option maxRecDepth 100000 in
theorem sfX6_clearLevel_2 {E : Ev} {l : Launch} (k2 : (Nat × Int32 × Int32) → St → Option (Unit × St)) (hk2 : ∀ p : Nat × Int32 × Int32, Snd E l (dpX6_clearLevel, RX6, cX6_clearLevel, 3, none, "clearLevel") rvV 2 [(0, .ref (E.1 + p.1)), (1, .int p.2.1), (2, .int p.2.2)] [] (k2 p)) (a0 : Nat) (x1 : Int32) (x2 : Int32) : Snd E l (dpX6_clearLevel, RX6, cX6_clearLevel, 3, none, "clearLevel") rvV 2 [(0, .ref (E.1 + a0)), (1, .int x1), (2, .int x2)] [] (fX6_clearLevel_2 k2 a0 x1 x2) := by
  unfold fX6_clearLevel_2
  refine sn_iload_n (pc := 2) (j := 2) dX6_clearLevel_2 rfl rfl ?_
  refine sn_bipush (pc := 3) (v := 30) dX6_clearLevel_3 (by decide) ?_
  refine sn_icmp_ge (pc := 5) (tgt := 36) dX6_clearLevel_5 (by decide) ?_ ?_
  · exact sn_vret (pc := 36) dX6_clearLevel_36 rfl
  · refine sn_iload_n (pc := 8) (j := 1) dX6_clearLevel_8 rfl rfl ?_
    refine sn_iconst (pc := 9) (v := 0) dX6_clearLevel_9 (by decide) ?_
    refine sn_bipush (pc := 10) (v := 6) dX6_clearLevel_10 (by decide) ?_
    refine sn_callSN (pc := 12) dX6_clearLevel_12 iX11_within wt2_96 (List.mem_of_getElem? (i := 7) rfl) (mX11_within x1 0 6) (by decide) rfl rfl (Nat.le_of_ble_eq_true rfl) (fun v1001 => ?_)
    refine sn_if_eq (pc := 15) (tgt := 36) dX6_clearLevel_15 (by decide) ?_ ?_
    · exact sn_vret (pc := 36) dX6_clearLevel_36 rfl
    · refine sn_aload_n (pc := 18) (j := 0) dX6_clearLevel_18 rfl rfl ?_
      refine sn_gR (pc := 19) dX6_clearLevel_19 flX6_18 rfl (fun v1002 => ?_)
      refine sn_iload_n (pc := 22) (j := 1) dX6_clearLevel_22 rfl rfl ?_
      refine sn_bipush (pc := 23) (v := 30) dX6_clearLevel_23 (by decide) ?_
      refine sn_imul (pc := 25) dX6_clearLevel_25 ?_
      refine sn_iload_n (pc := 26) (j := 2) dX6_clearLevel_26 rfl rfl ?_
      refine sn_iadd (pc := 27) dX6_clearLevel_27 ?_
      refine sn_iconst (pc := 28) (v := 0) dX6_clearLevel_28 (by decide) ?_
      rcases v1002 with _ | a1003
      · exact sn_no
      refine sn_nn ?_
      refine sn_iast (pc := 29) dX6_clearLevel_29 ?_
      refine sn_iinc (pc := 30) (v := x2 + 1) (lv' := [(2, .int (x2 + 1)), (0, .ref (E.1 + a0)), (1, .int x1)]) (j := 2) dX6_clearLevel_30 rfl rfl (by decide) rfl ?_
      refine sn_goto (pc := 33) (tgt := 2) dX6_clearLevel_33 (by decide) ?_
      exact sn_sub (lv' := [(0, .ref (E.1 + a0)), (1, .int x1), (2, .int (x2 + 1))]) [1, 2, 0] rfl (hk2 (a0, x1, (x2 + 1)))
def fX6_clearLevel (a0 : Nat) (x1 : Int32) : St → Option (Unit × St) :=
 itr (fun k (p : Nat × Int32 × Int32) => fX6_clearLevel_2  k p.1 p.2.1 p.2.2) FU (a0, x1, 0)
set_option maxHeartbeats 4000000 in
set_option maxRecDepth 100000 in
theorem mX6_clearLevel {E : Ev} {l : Launch} (a0 : Nat) (x1 : Int32) : MF E l dpX6_clearLevel yX6_clearLevel cX6_clearLevel 3 none rvV [.ref (E.1 + a0), .int x1] (fX6_clearLevel a0 x1) := by
  refine MF.of (lv := [(0, .ref (E.1 + a0)), (1, .int x1)]) (by decide) (Nat.le_of_ble_eq_true rfl) rfl ?_
  unfold fX6_clearLevel
  refine sn_iconst (pc := 0) (v := 0) dX6_clearLevel_0 (by decide) ?_
  refine sn_istore_n (pc := 1) (i := 2) (lv' := [(2, .int 0), (0, .ref (E.1 + a0)), (1, .int x1)]) dX6_clearLevel_1 rfl (by decide) rfl ?_
  exact sn_sub (lv' := [(0, .ref (E.1 + a0)), (1, .int x1), (2, .int 0)]) [1, 2, 0] rfl (sn_itr (lvf := fun p => [(0, .ref (E.1 + p.1)), (1, .int p.2.1), (2, .int p.2.2)]) (stf := fun p => []) (fun k hk p => sfX6_clearLevel_2  k hk p.1 p.2.1 p.2.2) FU (a0, x1, 0))
theorem iX6_clearLevel : MI yX6_clearLevel cX6_clearLevel 3 none 1 := ⟨wt1_4, wt2_145, by decide +kernel, by decide⟩
-- NeedleHomes$PatternReader addTo(IIIJ)V
theorem dX6_addTo_0 : decode cX6_addTo 0 = .ok (.iload_n 1, 1) := by decide +kernel
theorem dX6_addTo_1 : decode cX6_addTo 1 = .ok (.iload_n 2, 1) := by decide +kernel
theorem dX6_addTo_2 : decode cX6_addTo 2 = .ok (.iload_n 3, 1) := by decide +kernel
theorem dX6_addTo_3 : decode cX6_addTo 3 = .ok (.invokestatic 115, 3) := by decide +kernel
theorem dX6_addTo_6 : decode cX6_addTo 6 = .ok (.istore 6, 2) := by decide +kernel
theorem dX6_addTo_8 : decode cX6_addTo 8 = .ok (.iload 6, 2) := by decide +kernel
theorem dX6_addTo_10 : decode cX6_addTo 10 = .ok (.iconst (-1), 1) := by decide +kernel
theorem dX6_addTo_11 : decode cX6_addTo 11 = .ok (.if_icmp .eq 28, 3) := by decide +kernel
theorem dX6_addTo_14 : decode cX6_addTo 14 = .ok (.aload_n 0, 1) := by decide +kernel
theorem dX6_addTo_15 : decode cX6_addTo 15 = .ok (.getfield 18, 3) := by decide +kernel
theorem dX6_addTo_18 : decode cX6_addTo 18 = .ok (.iload 6, 2) := by decide +kernel
theorem dX6_addTo_20 : decode cX6_addTo 20 = .ok (.ldc2_w 118, 3) := by decide +kernel
theorem dX6_addTo_23 : decode cX6_addTo 23 = .ok (.aload_n 0, 1) := by decide +kernel
theorem dX6_addTo_24 : decode cX6_addTo 24 = .ok (.getfield 18, 3) := by decide +kernel
theorem dX6_addTo_27 : decode cX6_addTo 27 = .ok (.iload 6, 2) := by decide +kernel
theorem dX6_addTo_29 : decode cX6_addTo 29 = .ok (.iaload, 1) := by decide +kernel
theorem dX6_addTo_30 : decode cX6_addTo 30 = .ok (.i2l, 1) := by decide +kernel
theorem dX6_addTo_31 : decode cX6_addTo 31 = .ok (.lload 4, 2) := by decide +kernel
theorem dX6_addTo_33 : decode cX6_addTo 33 = .ok (.ladd, 1) := by decide +kernel
theorem dX6_addTo_34 : decode cX6_addTo 34 = .ok (.invokestatic 120, 3) := by decide +kernel
theorem dX6_addTo_37 : decode cX6_addTo 37 = .ok (.l2i, 1) := by decide +kernel
theorem dX6_addTo_38 : decode cX6_addTo 38 = .ok (.iastore, 1) := by decide +kernel
theorem dX6_addTo_39 : decode cX6_addTo 39 = .ok (.return_, 1) := by decide +kernel
abbrev dpX6_addTo : Nat := 1
def fX6_addTo (a0 : Nat) (x1 : Int32) (x2 : Int32) (x3 : Int32) (x4 : Int64) : St → Option (Unit × St) :=
 cl (fX6_slotOf x1 x2 x3) fun v1 =>
 br (v1 = (-1)) (rt ())
 (gR 7 a0 2 fun v2 =>
 gR 7 a0 2 fun v3 =>
 nn v3 fun a5 =>
 aI 15 a5 v1 fun v4 =>
 nn v2 fun a6 =>
 wI a6 v1 ((mnJ 1000001 (v4.toInt64 + x4)).toInt32) <|
 rt ())
set_option maxHeartbeats 4000000 in
set_option maxRecDepth 100000 in
theorem mX6_addTo {E : Ev} {l : Launch} (a0 : Nat) (x1 : Int32) (x2 : Int32) (x3 : Int32) (x4 : Int64) : MF E l dpX6_addTo yX6_addTo cX6_addTo 7 none rvV [.ref (E.1 + a0), .int x1, .int x2, .int x3, .long x4] (fX6_addTo a0 x1 x2 x3 x4) := by
  refine MF.of (lv := [(0, .ref (E.1 + a0)), (1, .int x1), (2, .int x2), (3, .int x3), (4, .long x4)]) (by decide) (Nat.le_of_ble_eq_true rfl) rfl ?_
  unfold fX6_addTo
  refine sn_iload_n (pc := 0) (j := 1) dX6_addTo_0 rfl rfl ?_
  refine sn_iload_n (pc := 1) (j := 2) dX6_addTo_1 rfl rfl ?_
  refine sn_iload_n (pc := 2) (j := 3) dX6_addTo_2 rfl rfl ?_
  refine sn_callS (pc := 3) dX6_addTo_3 iX6_slotOf wt2_184 wt2_183 (mX6_slotOf x1 x2 x3) (by decide) rfl rfl (Nat.le_of_ble_eq_true rfl) (fun v1 => ?_)
  refine sn_istore (pc := 6) (i := 6) (lv' := [(6, .int v1), (0, .ref (E.1 + a0)), (1, .int x1), (2, .int x2), (3, .int x3), (4, .long x4)]) dX6_addTo_6 (by decide) rfl ?_
  refine sn_iload (pc := 8) (j := 0) dX6_addTo_8 rfl ?_
  refine sn_iconst (pc := 10) (v := (-1)) dX6_addTo_10 (by decide) ?_
  refine sn_icmp_eq (pc := 11) (tgt := 39) dX6_addTo_11 (by decide) ?_ ?_
  · exact sn_vret (pc := 39) dX6_addTo_39 rfl
  · refine sn_aload_n (pc := 14) (j := 1) dX6_addTo_14 rfl rfl ?_
    refine sn_gR (pc := 15) dX6_addTo_15 flX6_18 rfl (fun v2 => ?_)
    refine sn_iload (pc := 18) (j := 0) dX6_addTo_18 rfl ?_
    refine sn_ldc2 (pc := 20) (v := 1000001) dX6_addTo_20 wt2_186 ?_
    refine sn_aload_n (pc := 23) (j := 1) dX6_addTo_23 rfl rfl ?_
    refine sn_gR (pc := 24) dX6_addTo_24 flX6_18 rfl (fun v3 => ?_)
    refine sn_iload (pc := 27) (j := 0) dX6_addTo_27 rfl ?_
    rcases v3 with _ | a5
    · exact sn_no
    refine sn_nn ?_
    refine sn_iald (pc := 29) dX6_addTo_29 (fun v4 => ?_)
    refine sn_i2l (pc := 30) dX6_addTo_30 ?_
    refine sn_lload (pc := 31) (j := 5) dX6_addTo_31 rfl ?_
    refine sn_ladd (pc := 33) dX6_addTo_33 ?_
    refine sn_mminJ (pc := 34) dX6_addTo_34 wt2_187 wt2_188 wt1_11 wt2_189 (by decide) (by simp [rf_some, rf_cat, cat_int, cat_long, cat_ref, rvV, rvI, rvZ, rvR, rvJ]) ?_
    refine sn_l2i (pc := 37) dX6_addTo_37 ?_
    rcases v2 with _ | a6
    · exact sn_no
    refine sn_nn ?_
    refine sn_iast (pc := 38) dX6_addTo_38 ?_
    exact sn_vret (pc := 39) dX6_addTo_39 rfl
theorem iX6_addTo : MI yX6_addTo cX6_addTo 7 none 4 := ⟨wt1_4, wt2_182, by decide +kernel, by decide⟩
-- NeedleHomes$PatternReader closeStitch(I)V
theorem dX6_closeStitch_0 : decode cX6_closeStitch 0 = .ok (.aload_n 0, 1) := by decide +kernel
theorem dX6_closeStitch_1 : decode cX6_closeStitch 1 = .ok (.getfield 32, 3) := by decide +kernel
theorem dX6_closeStitch_4 : decode cX6_closeStitch 4 = .ok (.iconst 1, 1) := by decide +kernel
theorem dX6_closeStitch_5 : decode cX6_closeStitch 5 = .ok (.isub, 1) := by decide +kernel
theorem dX6_closeStitch_6 : decode cX6_closeStitch 6 = .ok (.istore_n 2, 1) := by decide +kernel
theorem dX6_closeStitch_7 : decode cX6_closeStitch 7 = .ok (.iload_n 2, 1) := by decide +kernel
theorem dX6_closeStitch_8 : decode cX6_closeStitch 8 = .ok (.iconst 0, 1) := by decide +kernel
theorem dX6_closeStitch_9 : decode cX6_closeStitch 9 = .ok (.iconst 5, 1) := by decide +kernel
theorem dX6_closeStitch_10 : decode cX6_closeStitch 10 = .ok (.invokestatic 104, 3) := by decide +kernel
theorem dX6_closeStitch_13 : decode cX6_closeStitch 13 = .ok (.ifCond .ne 4, 3) := by decide +kernel
theorem dX6_closeStitch_16 : decode cX6_closeStitch 16 = .ok (.return_, 1) := by decide +kernel
theorem dX6_closeStitch_17 : decode cX6_closeStitch 17 = .ok (.aload_n 0, 1) := by decide +kernel
theorem dX6_closeStitch_18 : decode cX6_closeStitch 18 = .ok (.getfield 25, 3) := by decide +kernel
theorem dX6_closeStitch_21 : decode cX6_closeStitch 21 = .ok (.aload_n 0, 1) := by decide +kernel
theorem dX6_closeStitch_22 : decode cX6_closeStitch 22 = .ok (.getfield 32, 3) := by decide +kernel
theorem dX6_closeStitch_25 : decode cX6_closeStitch 25 = .ok (.iaload, 1) := by decide +kernel
theorem dX6_closeStitch_26 : decode cX6_closeStitch 26 = .ok (.istore_n 3, 1) := by decide +kernel
theorem dX6_closeStitch_27 : decode cX6_closeStitch 27 = .ok (.iconst 0, 1) := by decide +kernel
theorem dX6_closeStitch_28 : decode cX6_closeStitch 28 = .ok (.istore 4, 2) := by decide +kernel
theorem dX6_closeStitch_30 : decode cX6_closeStitch 30 = .ok (.iload 4, 2) := by decide +kernel
theorem dX6_closeStitch_32 : decode cX6_closeStitch 32 = .ok (.iconst 4, 1) := by decide +kernel
theorem dX6_closeStitch_33 : decode cX6_closeStitch 33 = .ok (.if_icmp .ge 32, 3) := by decide +kernel
theorem dX6_closeStitch_36 : decode cX6_closeStitch 36 = .ok (.aload_n 0, 1) := by decide +kernel
theorem dX6_closeStitch_37 : decode cX6_closeStitch 37 = .ok (.iload_n 2, 1) := by decide +kernel
theorem dX6_closeStitch_38 : decode cX6_closeStitch 38 = .ok (.iload_n 1, 1) := by decide +kernel
theorem dX6_closeStitch_39 : decode cX6_closeStitch 39 = .ok (.iload 4, 2) := by decide +kernel
theorem dX6_closeStitch_41 : decode cX6_closeStitch 41 = .ok (.aload_n 0, 1) := by decide +kernel
theorem dX6_closeStitch_42 : decode cX6_closeStitch 42 = .ok (.aload_n 0, 1) := by decide +kernel
theorem dX6_closeStitch_43 : decode cX6_closeStitch 43 = .ok (.getfield 32, 3) := by decide +kernel
theorem dX6_closeStitch_46 : decode cX6_closeStitch 46 = .ok (.iload_n 1, 1) := by decide +kernel
theorem dX6_closeStitch_47 : decode cX6_closeStitch 47 = .ok (.iload 4, 2) := by decide +kernel
theorem dX6_closeStitch_49 : decode cX6_closeStitch 49 = .ok (.invokevirtual 111, 3) := by decide +kernel
theorem dX6_closeStitch_52 : decode cX6_closeStitch 52 = .ok (.i2l, 1) := by decide +kernel
theorem dX6_closeStitch_53 : decode cX6_closeStitch 53 = .ok (.iload_n 3, 1) := by decide +kernel
theorem dX6_closeStitch_54 : decode cX6_closeStitch 54 = .ok (.i2l, 1) := by decide +kernel
theorem dX6_closeStitch_55 : decode cX6_closeStitch 55 = .ok (.lmul, 1) := by decide +kernel
theorem dX6_closeStitch_56 : decode cX6_closeStitch 56 = .ok (.invokevirtual 94, 3) := by decide +kernel
theorem dX6_closeStitch_59 : decode cX6_closeStitch 59 = .ok (.iinc 4 1, 3) := by decide +kernel
theorem dX6_closeStitch_62 : decode cX6_closeStitch 62 = .ok (.goto (-32), 3) := by decide +kernel
theorem dX6_closeStitch_65 : decode cX6_closeStitch 65 = .ok (.aload_n 0, 1) := by decide +kernel
theorem dX6_closeStitch_66 : decode cX6_closeStitch 66 = .ok (.aload_n 0, 1) := by decide +kernel
theorem dX6_closeStitch_67 : decode cX6_closeStitch 67 = .ok (.getfield 32, 3) := by decide +kernel
theorem dX6_closeStitch_70 : decode cX6_closeStitch 70 = .ok (.iload_n 1, 1) := by decide +kernel
theorem dX6_closeStitch_71 : decode cX6_closeStitch 71 = .ok (.iconst 4, 1) := by decide +kernel
theorem dX6_closeStitch_72 : decode cX6_closeStitch 72 = .ok (.invokevirtual 111, 3) := by decide +kernel
theorem dX6_closeStitch_75 : decode cX6_closeStitch 75 = .ok (.i2l, 1) := by decide +kernel
theorem dX6_closeStitch_76 : decode cX6_closeStitch 76 = .ok (.lstore 4, 2) := by decide +kernel
theorem dX6_closeStitch_78 : decode cX6_closeStitch 78 = .ok (.aload_n 0, 1) := by decide +kernel
theorem dX6_closeStitch_79 : decode cX6_closeStitch 79 = .ok (.getfield 22, 3) := by decide +kernel
theorem dX6_closeStitch_82 : decode cX6_closeStitch 82 = .ok (.aload_n 0, 1) := by decide +kernel
theorem dX6_closeStitch_83 : decode cX6_closeStitch 83 = .ok (.getfield 32, 3) := by decide +kernel
theorem dX6_closeStitch_86 : decode cX6_closeStitch 86 = .ok (.iaload, 1) := by decide +kernel
theorem dX6_closeStitch_87 : decode cX6_closeStitch 87 = .ok (.iconst 4, 1) := by decide +kernel
theorem dX6_closeStitch_88 : decode cX6_closeStitch 88 = .ok (.if_icmp .ne 12, 3) := by decide +kernel
theorem dX6_closeStitch_91 : decode cX6_closeStitch 91 = .ok (.aload_n 0, 1) := by decide +kernel
theorem dX6_closeStitch_92 : decode cX6_closeStitch 92 = .ok (.getfield 22, 3) := by decide +kernel
theorem dX6_closeStitch_95 : decode cX6_closeStitch 95 = .ok (.iload_n 2, 1) := by decide +kernel
theorem dX6_closeStitch_96 : decode cX6_closeStitch 96 = .ok (.iaload, 1) := by decide +kernel
theorem dX6_closeStitch_97 : decode cX6_closeStitch 97 = .ok (.goto 12, 3) := by decide +kernel
theorem dX6_closeStitch_100 : decode cX6_closeStitch 100 = .ok (.aload_n 0, 1) := by decide +kernel
theorem dX6_closeStitch_101 : decode cX6_closeStitch 101 = .ok (.getfield 22, 3) := by decide +kernel
theorem dX6_closeStitch_104 : decode cX6_closeStitch 104 = .ok (.aload_n 0, 1) := by decide +kernel
theorem dX6_closeStitch_105 : decode cX6_closeStitch 105 = .ok (.getfield 32, 3) := by decide +kernel
theorem dX6_closeStitch_108 : decode cX6_closeStitch 108 = .ok (.iaload, 1) := by decide +kernel
theorem dX6_closeStitch_109 : decode cX6_closeStitch 109 = .ok (.istore 6, 2) := by decide +kernel
theorem dX6_closeStitch_111 : decode cX6_closeStitch 111 = .ok (.aload_n 0, 1) := by decide +kernel
theorem dX6_closeStitch_112 : decode cX6_closeStitch 112 = .ok (.iload_n 2, 1) := by decide +kernel
theorem dX6_closeStitch_113 : decode cX6_closeStitch 113 = .ok (.iload_n 1, 1) := by decide +kernel
theorem dX6_closeStitch_114 : decode cX6_closeStitch 114 = .ok (.aload_n 0, 1) := by decide +kernel
theorem dX6_closeStitch_115 : decode cX6_closeStitch 115 = .ok (.getfield 22, 3) := by decide +kernel
theorem dX6_closeStitch_118 : decode cX6_closeStitch 118 = .ok (.iload_n 2, 1) := by decide +kernel
theorem dX6_closeStitch_119 : decode cX6_closeStitch 119 = .ok (.iaload, 1) := by decide +kernel
theorem dX6_closeStitch_120 : decode cX6_closeStitch 120 = .ok (.lload 4, 2) := by decide +kernel
theorem dX6_closeStitch_122 : decode cX6_closeStitch 122 = .ok (.invokevirtual 94, 3) := by decide +kernel
theorem dX6_closeStitch_125 : decode cX6_closeStitch 125 = .ok (.aload_n 0, 1) := by decide +kernel
theorem dX6_closeStitch_126 : decode cX6_closeStitch 126 = .ok (.iload_n 2, 1) := by decide +kernel
theorem dX6_closeStitch_127 : decode cX6_closeStitch 127 = .ok (.iload_n 1, 1) := by decide +kernel
theorem dX6_closeStitch_128 : decode cX6_closeStitch 128 = .ok (.iload 6, 2) := by decide +kernel
theorem dX6_closeStitch_130 : decode cX6_closeStitch 130 = .ok (.lload 4, 2) := by decide +kernel
theorem dX6_closeStitch_132 : decode cX6_closeStitch 132 = .ok (.iload_n 3, 1) := by decide +kernel
theorem dX6_closeStitch_133 : decode cX6_closeStitch 133 = .ok (.iconst 1, 1) := by decide +kernel
theorem dX6_closeStitch_134 : decode cX6_closeStitch 134 = .ok (.isub, 1) := by decide +kernel
theorem dX6_closeStitch_135 : decode cX6_closeStitch 135 = .ok (.i2l, 1) := by decide +kernel
theorem dX6_closeStitch_136 : decode cX6_closeStitch 136 = .ok (.lmul, 1) := by decide +kernel
theorem dX6_closeStitch_137 : decode cX6_closeStitch 137 = .ok (.invokevirtual 94, 3) := by decide +kernel
theorem dX6_closeStitch_140 : decode cX6_closeStitch 140 = .ok (.return_, 1) := by decide +kernel
abbrev dpX6_closeStitch : Nat := 2
def fX6_closeStitch_109 (a0 : Nat) (x1 : Int32) (x2 : Int32) (x3 : Int32) (x4 : Int64) (y0 : Int32) : St → Option (Unit × St) :=
 gR 7 a0 3 fun v2001 =>
 nn v2001 fun a2003 =>
 aI 15 a2003 x2 fun v2002 =>
 ck 7 a0 <| cl (fX6_addTo a0 x2 x1 v2002 x4) fun v2004 =>
 ck 7 a0 <| cl (fX6_addTo a0 x2 x1 y0 (x4 * ((x3 - 1).toInt64))) fun v2005 =>
 rt ()
set_option maxHeartbeats 4000000 in
set_option maxRecDepth 100000 in
theorem sfX6_closeStitch_109 {E : Ev} {l : Launch} (a0 : Nat) (x1 : Int32) (x2 : Int32) (x3 : Int32) (x4 : Int64) (y0 : Int32) : Snd E l (dpX6_closeStitch, RX6, cX6_closeStitch, 7, none, "closeStitch") rvV 109 [(0, .ref (E.1 + a0)), (1, .int x1), (2, .int x2), (3, .int x3), (4, .long x4)] [.int y0] (fX6_closeStitch_109 a0 x1 x2 x3 x4 y0) := by
  unfold fX6_closeStitch_109
  refine sn_istore (pc := 109) (i := 6) (lv' := [(6, .int y0), (0, .ref (E.1 + a0)), (1, .int x1), (2, .int x2), (3, .int x3), (4, .long x4)]) dX6_closeStitch_109 (by decide) rfl ?_
  refine sn_aload_n (pc := 111) (j := 1) dX6_closeStitch_111 rfl rfl ?_
  refine sn_iload_n (pc := 112) (j := 3) dX6_closeStitch_112 rfl rfl ?_
  refine sn_iload_n (pc := 113) (j := 2) dX6_closeStitch_113 rfl rfl ?_
  refine sn_aload_n (pc := 114) (j := 1) dX6_closeStitch_114 rfl rfl ?_
  refine sn_gR (pc := 115) dX6_closeStitch_115 flX6_22 rfl (fun v2001 => ?_)
  refine sn_iload_n (pc := 118) (j := 3) dX6_closeStitch_118 rfl rfl ?_
  rcases v2001 with _ | a2003
  · exact sn_no
  refine sn_nn ?_
  refine sn_iald (pc := 119) dX6_closeStitch_119 (fun v2002 => ?_)
  refine sn_lload (pc := 120) (j := 5) dX6_closeStitch_120 rfl ?_
  refine sn_callV (ci := 6) (pc := 122) dX6_closeStitch_122 iX6_addTo wt2_181 ws_7 wt2_179 ⟨_, rfl, rfl⟩ (by decide) (mX6_addTo a0 x2 x1 v2002 x4) (by decide) rfl rfl (Nat.le_of_ble_eq_true rfl) (fun v2004 => ?_)
  refine sn_aload_n (pc := 125) (j := 1) dX6_closeStitch_125 rfl rfl ?_
  refine sn_iload_n (pc := 126) (j := 3) dX6_closeStitch_126 rfl rfl ?_
  refine sn_iload_n (pc := 127) (j := 2) dX6_closeStitch_127 rfl rfl ?_
  refine sn_iload (pc := 128) (j := 0) dX6_closeStitch_128 rfl ?_
  refine sn_lload (pc := 130) (j := 5) dX6_closeStitch_130 rfl ?_
  refine sn_iload_n (pc := 132) (j := 4) dX6_closeStitch_132 rfl rfl ?_
  refine sn_iconst (pc := 133) (v := 1) dX6_closeStitch_133 (by decide) ?_
  refine sn_isub (pc := 134) dX6_closeStitch_134 ?_
  refine sn_i2l (pc := 135) dX6_closeStitch_135 ?_
  refine sn_lmul (pc := 136) dX6_closeStitch_136 ?_
  refine sn_callV (ci := 6) (pc := 137) dX6_closeStitch_137 iX6_addTo wt2_181 ws_7 wt2_179 ⟨_, rfl, rfl⟩ (by decide) (mX6_addTo a0 x2 x1 y0 (x4 * ((x3 - 1).toInt64))) (by decide) rfl rfl (Nat.le_of_ble_eq_true rfl) (fun v2005 => ?_)
  exact sn_vret (pc := 140) dX6_closeStitch_140 rfl
def fX6_closeStitch_30 (k30 : (Nat × Int32 × Int32 × Int32 × Int32) → St → Option (Unit × St)) (a0 : Nat) (x1 : Int32) (x2 : Int32) (x3 : Int32) (x4 : Int32) : St → Option (Unit × St) :=
 br (4 ≤ x4) (gI 7 a0 1 fun v1001 =>
 ck 7 a0 <| cl (fX6_countAt a0 v1001 x1 4) fun v1002 =>
 gR 7 a0 3 fun v1003 =>
 gI 7 a0 1 fun v1004 =>
 nn v1003 fun a1006 =>
 aI 15 a1006 v1004 fun v1005 =>
 br (v1005 = 4) (gR 7 a0 3 fun v1011 =>
 nn v1011 fun a1013 =>
 aI 15 a1013 x2 fun v1012 =>
 fX6_closeStitch_109  a0 x1 x2 x3 v1002.toInt64 v1012)
 (gR 7 a0 3 fun v1007 =>
 gI 7 a0 1 fun v1008 =>
 nn v1007 fun a1010 =>
 aI 15 a1010 v1008 fun v1009 =>
 fX6_closeStitch_109  a0 x1 x2 x3 v1002.toInt64 v1009))
 (gI 7 a0 1 fun v1014 =>
 ck 7 a0 <| cl (fX6_countAt a0 v1014 x1 x4) fun v1015 =>
 ck 7 a0 <| cl (fX6_addTo a0 x2 x1 x4 (v1015.toInt64 * x3.toInt64)) fun v1016 =>
 k30 (a0, x1, x2, x3, (x4 + 1)))
set_option maxHeartbeats 4000000 in
set_option maxRecDepth 100000 in
theorem sfX6_closeStitch_30 {E : Ev} {l : Launch} (k30 : (Nat × Int32 × Int32 × Int32 × Int32) → St → Option (Unit × St)) (hk30 : ∀ p : Nat × Int32 × Int32 × Int32 × Int32, Snd E l (dpX6_closeStitch, RX6, cX6_closeStitch, 7, none, "closeStitch") rvV 30 [(0, .ref (E.1 + p.1)), (1, .int p.2.1), (2, .int p.2.2.1), (3, .int p.2.2.2.1), (4, .int p.2.2.2.2)] [] (k30 p)) (a0 : Nat) (x1 : Int32) (x2 : Int32) (x3 : Int32) (x4 : Int32) : Snd E l (dpX6_closeStitch, RX6, cX6_closeStitch, 7, none, "closeStitch") rvV 30 [(0, .ref (E.1 + a0)), (1, .int x1), (2, .int x2), (3, .int x3), (4, .int x4)] [] (fX6_closeStitch_30 k30 a0 x1 x2 x3 x4) := by
  unfold fX6_closeStitch_30
  refine sn_iload (pc := 30) (j := 4) dX6_closeStitch_30 rfl ?_
  refine sn_iconst (pc := 32) (v := 4) dX6_closeStitch_32 (by decide) ?_
  refine sn_icmp_ge (pc := 33) (tgt := 65) dX6_closeStitch_33 (by decide) ?_ ?_
  · refine sn_aload_n (pc := 65) (j := 0) dX6_closeStitch_65 rfl rfl ?_
    refine sn_aload_n (pc := 66) (j := 0) dX6_closeStitch_66 rfl rfl ?_
    refine sn_gI (pc := 67) dX6_closeStitch_67 flX6_32 rfl (fun v1001 => ?_)
    refine sn_iload_n (pc := 70) (j := 1) dX6_closeStitch_70 rfl rfl ?_
    refine sn_iconst (pc := 71) (v := 4) dX6_closeStitch_71 (by decide) ?_
    refine sn_callV (ci := 6) (pc := 72) dX6_closeStitch_72 iX6_countAt wt2_211 wt2_212 wt2_210 ⟨_, rfl, rfl⟩ (by decide) (mX6_countAt a0 v1001 x1 4) (by decide) rfl rfl (Nat.le_of_ble_eq_true rfl) (fun v1002 => ?_)
    refine sn_i2l (pc := 75) dX6_closeStitch_75 ?_
    refine sn_lstore (pc := 76) (i := 4) (lv' := [(4, .long v1002.toInt64), (0, .ref (E.1 + a0)), (1, .int x1), (2, .int x2), (3, .int x3)]) dX6_closeStitch_76 (by decide) rfl ?_
    refine sn_aload_n (pc := 78) (j := 1) dX6_closeStitch_78 rfl rfl ?_
    refine sn_gR (pc := 79) dX6_closeStitch_79 flX6_22 rfl (fun v1003 => ?_)
    refine sn_aload_n (pc := 82) (j := 1) dX6_closeStitch_82 rfl rfl ?_
    refine sn_gI (pc := 83) dX6_closeStitch_83 flX6_32 rfl (fun v1004 => ?_)
    rcases v1003 with _ | a1006
    · exact sn_no
    refine sn_nn ?_
    refine sn_iald (pc := 86) dX6_closeStitch_86 (fun v1005 => ?_)
    refine sn_iconst (pc := 87) (v := 4) dX6_closeStitch_87 (by decide) ?_
    refine sn_icmp_ne (pc := 88) (tgt := 100) dX6_closeStitch_88 (by decide) ?_ ?_
    · refine sn_aload_n (pc := 100) (j := 1) dX6_closeStitch_100 rfl rfl ?_
      refine sn_gR (pc := 101) dX6_closeStitch_101 flX6_22 rfl (fun v1007 => ?_)
      refine sn_aload_n (pc := 104) (j := 1) dX6_closeStitch_104 rfl rfl ?_
      refine sn_gI (pc := 105) dX6_closeStitch_105 flX6_32 rfl (fun v1008 => ?_)
      rcases v1007 with _ | a1010
      · exact sn_no
      refine sn_nn ?_
      refine sn_iald (pc := 108) dX6_closeStitch_108 (fun v1009 => ?_)
      exact sn_sub (lv' := [(0, .ref (E.1 + a0)), (1, .int x1), (2, .int x2), (3, .int x3), (4, .long v1002.toInt64)]) [1, 2, 3, 4, 0] rfl (sfX6_closeStitch_109  a0 x1 x2 x3 v1002.toInt64 v1009)
    · refine sn_aload_n (pc := 91) (j := 1) dX6_closeStitch_91 rfl rfl ?_
      refine sn_gR (pc := 92) dX6_closeStitch_92 flX6_22 rfl (fun v1011 => ?_)
      refine sn_iload_n (pc := 95) (j := 3) dX6_closeStitch_95 rfl rfl ?_
      rcases v1011 with _ | a1013
      · exact sn_no
      refine sn_nn ?_
      refine sn_iald (pc := 96) dX6_closeStitch_96 (fun v1012 => ?_)
      refine sn_goto (pc := 97) (tgt := 109) dX6_closeStitch_97 (by decide) ?_
      exact sn_sub (lv' := [(0, .ref (E.1 + a0)), (1, .int x1), (2, .int x2), (3, .int x3), (4, .long v1002.toInt64)]) [1, 2, 3, 4, 0] rfl (sfX6_closeStitch_109  a0 x1 x2 x3 v1002.toInt64 v1012)
  · refine sn_aload_n (pc := 36) (j := 0) dX6_closeStitch_36 rfl rfl ?_
    refine sn_iload_n (pc := 37) (j := 2) dX6_closeStitch_37 rfl rfl ?_
    refine sn_iload_n (pc := 38) (j := 1) dX6_closeStitch_38 rfl rfl ?_
    refine sn_iload (pc := 39) (j := 4) dX6_closeStitch_39 rfl ?_
    refine sn_aload_n (pc := 41) (j := 0) dX6_closeStitch_41 rfl rfl ?_
    refine sn_aload_n (pc := 42) (j := 0) dX6_closeStitch_42 rfl rfl ?_
    refine sn_gI (pc := 43) dX6_closeStitch_43 flX6_32 rfl (fun v1014 => ?_)
    refine sn_iload_n (pc := 46) (j := 1) dX6_closeStitch_46 rfl rfl ?_
    refine sn_iload (pc := 47) (j := 4) dX6_closeStitch_47 rfl ?_
    refine sn_callV (ci := 6) (pc := 49) dX6_closeStitch_49 iX6_countAt wt2_211 wt2_212 wt2_210 ⟨_, rfl, rfl⟩ (by decide) (mX6_countAt a0 v1014 x1 x4) (by decide) rfl rfl (Nat.le_of_ble_eq_true rfl) (fun v1015 => ?_)
    refine sn_i2l (pc := 52) dX6_closeStitch_52 ?_
    refine sn_iload_n (pc := 53) (j := 3) dX6_closeStitch_53 rfl rfl ?_
    refine sn_i2l (pc := 54) dX6_closeStitch_54 ?_
    refine sn_lmul (pc := 55) dX6_closeStitch_55 ?_
    refine sn_callV (ci := 6) (pc := 56) dX6_closeStitch_56 iX6_addTo wt2_181 ws_7 wt2_179 ⟨_, rfl, rfl⟩ (by decide) (mX6_addTo a0 x2 x1 x4 (v1015.toInt64 * x3.toInt64)) (by decide) rfl rfl (Nat.le_of_ble_eq_true rfl) (fun v1016 => ?_)
    refine sn_iinc (pc := 59) (v := x4 + 1) (lv' := [(4, .int (x4 + 1)), (0, .ref (E.1 + a0)), (1, .int x1), (2, .int x2), (3, .int x3)]) (j := 4) dX6_closeStitch_59 rfl rfl (by decide) rfl ?_
    refine sn_goto (pc := 62) (tgt := 30) dX6_closeStitch_62 (by decide) ?_
    exact sn_sub (lv' := [(0, .ref (E.1 + a0)), (1, .int x1), (2, .int x2), (3, .int x3), (4, .int (x4 + 1))]) [1, 2, 3, 4, 0] rfl (hk30 (a0, x1, x2, x3, (x4 + 1)))
def fX6_closeStitch (a0 : Nat) (x1 : Int32) : St → Option (Unit × St) :=
 gI 7 a0 1 fun v1 =>
 cl (fX11_within (v1 - 1) 0 5) fun v2 =>
 br ((bi v2) = 0) (rt ())
 (gR 7 a0 4 fun v3 =>
 gI 7 a0 1 fun v4 =>
 nn v3 fun a6 =>
 aI 15 a6 v4 fun v5 =>
 itr (fun k (p : Nat × Int32 × Int32 × Int32 × Int32) => fX6_closeStitch_30  k p.1 p.2.1 p.2.2.1 p.2.2.2.1 p.2.2.2.2) FU (a0, x1, (v1 - 1), v5, 0))
set_option maxHeartbeats 4000000 in
set_option maxRecDepth 100000 in
theorem mX6_closeStitch {E : Ev} {l : Launch} (a0 : Nat) (x1 : Int32) : MF E l dpX6_closeStitch yX6_closeStitch cX6_closeStitch 7 none rvV [.ref (E.1 + a0), .int x1] (fX6_closeStitch a0 x1) := by
  refine MF.of (lv := [(0, .ref (E.1 + a0)), (1, .int x1)]) (by decide) (Nat.le_of_ble_eq_true rfl) rfl ?_
  unfold fX6_closeStitch
  refine sn_aload_n (pc := 0) (j := 0) dX6_closeStitch_0 rfl rfl ?_
  refine sn_gI (pc := 1) dX6_closeStitch_1 flX6_32 rfl (fun v1 => ?_)
  refine sn_iconst (pc := 4) (v := 1) dX6_closeStitch_4 (by decide) ?_
  refine sn_isub (pc := 5) dX6_closeStitch_5 ?_
  refine sn_istore_n (pc := 6) (i := 2) (lv' := [(2, .int (v1 - 1)), (0, .ref (E.1 + a0)), (1, .int x1)]) dX6_closeStitch_6 rfl (by decide) rfl ?_
  refine sn_iload_n (pc := 7) (j := 0) dX6_closeStitch_7 rfl rfl ?_
  refine sn_iconst (pc := 8) (v := 0) dX6_closeStitch_8 (by decide) ?_
  refine sn_iconst (pc := 9) (v := 5) dX6_closeStitch_9 (by decide) ?_
  refine sn_callSN (pc := 10) dX6_closeStitch_10 iX11_within wt2_96 (List.mem_of_getElem? (i := 7) rfl) (mX11_within (v1 - 1) 0 5) (by decide) rfl rfl (Nat.le_of_ble_eq_true rfl) (fun v2 => ?_)
  refine sn_if_ne (pc := 13) (tgt := 17) dX6_closeStitch_13 (by decide) ?_ ?_
  · refine sn_aload_n (pc := 17) (j := 1) dX6_closeStitch_17 rfl rfl ?_
    refine sn_gR (pc := 18) dX6_closeStitch_18 flX6_25 rfl (fun v3 => ?_)
    refine sn_aload_n (pc := 21) (j := 1) dX6_closeStitch_21 rfl rfl ?_
    refine sn_gI (pc := 22) dX6_closeStitch_22 flX6_32 rfl (fun v4 => ?_)
    rcases v3 with _ | a6
    · exact sn_no
    refine sn_nn ?_
    refine sn_iald (pc := 25) dX6_closeStitch_25 (fun v5 => ?_)
    refine sn_istore_n (pc := 26) (i := 3) (lv' := [(3, .int v5), (2, .int (v1 - 1)), (0, .ref (E.1 + a0)), (1, .int x1)]) dX6_closeStitch_26 rfl (by decide) rfl ?_
    refine sn_iconst (pc := 27) (v := 0) dX6_closeStitch_27 (by decide) ?_
    refine sn_istore (pc := 28) (i := 4) (lv' := [(4, .int 0), (3, .int v5), (2, .int (v1 - 1)), (0, .ref (E.1 + a0)), (1, .int x1)]) dX6_closeStitch_28 (by decide) rfl ?_
    exact sn_sub (lv' := [(0, .ref (E.1 + a0)), (1, .int x1), (2, .int (v1 - 1)), (3, .int v5), (4, .int 0)]) [3, 4, 2, 1, 0] rfl (sn_itr (lvf := fun p => [(0, .ref (E.1 + p.1)), (1, .int p.2.1), (2, .int p.2.2.1), (3, .int p.2.2.2.1), (4, .int p.2.2.2.2)]) (stf := fun p => []) (fun k hk p => sfX6_closeStitch_30  k hk p.1 p.2.1 p.2.2.1 p.2.2.2.1 p.2.2.2.2) FU (a0, x1, (v1 - 1), v5, 0))
  · exact sn_vret (pc := 16) dX6_closeStitch_16 rfl
theorem iX6_closeStitch : MI yX6_closeStitch cX6_closeStitch 7 none 1 := ⟨wt1_4, wt2_209, by decide +kernel, by decide⟩
-- NeedleHomes$PatternReader isCounting()Z
theorem dX6_isCounting_0 : decode cX6_isCounting 0 = .ok (.aload_n 0, 1) := by decide +kernel
theorem dX6_isCounting_1 : decode cX6_isCounting 1 = .ok (.getfield 14, 3) := by decide +kernel
theorem dX6_isCounting_4 : decode cX6_isCounting 4 = .ok (.getfield 101, 3) := by decide +kernel
theorem dX6_isCounting_7 : decode cX6_isCounting 7 = .ok (.ifCond .ne 20, 3) := by decide +kernel
theorem dX6_isCounting_10 : decode cX6_isCounting 10 = .ok (.aload_n 0, 1) := by decide +kernel
theorem dX6_isCounting_11 : decode cX6_isCounting 11 = .ok (.getfield 32, 3) := by decide +kernel
theorem dX6_isCounting_14 : decode cX6_isCounting 14 = .ok (.iconst 0, 1) := by decide +kernel
theorem dX6_isCounting_15 : decode cX6_isCounting 15 = .ok (.bipush 6, 2) := by decide +kernel
theorem dX6_isCounting_17 : decode cX6_isCounting 17 = .ok (.invokestatic 104, 3) := by decide +kernel
theorem dX6_isCounting_20 : decode cX6_isCounting 20 = .ok (.ifCond .eq 7, 3) := by decide +kernel
theorem dX6_isCounting_23 : decode cX6_isCounting 23 = .ok (.iconst 1, 1) := by decide +kernel
theorem dX6_isCounting_24 : decode cX6_isCounting 24 = .ok (.goto 4, 3) := by decide +kernel
theorem dX6_isCounting_27 : decode cX6_isCounting 27 = .ok (.iconst 0, 1) := by decide +kernel
theorem dX6_isCounting_28 : decode cX6_isCounting 28 = .ok (.ireturn, 1) := by decide +kernel
abbrev dpX6_isCounting : Nat := 1
def fX6_isCounting (a0 : Nat) : St → Option (Bool × St) :=
 gR 7 a0 0 fun v1 =>
 nn v1 fun a3 =>
 gI 9 a3 3 fun v2 =>
 br (v2 = 0) (gI 7 a0 1 fun v4 =>
 cl (fX11_within v4 0 6) fun v5 =>
 br ((bi v5) = 0) (rtZ 0)
 (rtZ 1))
 (rtZ 0)
set_option maxHeartbeats 4000000 in
set_option maxRecDepth 100000 in
theorem mX6_isCounting {E : Ev} {l : Launch} (a0 : Nat) : MF E l dpX6_isCounting yX6_isCounting cX6_isCounting 1 (some .boolean) rvZ [.ref (E.1 + a0)] (fX6_isCounting a0) := by
  refine MF.of (lv := [(0, .ref (E.1 + a0))]) (by decide) (Nat.le_of_ble_eq_true rfl) rfl ?_
  unfold fX6_isCounting
  refine sn_aload_n (pc := 0) (j := 0) dX6_isCounting_0 rfl rfl ?_
  refine sn_gR (pc := 1) dX6_isCounting_1 flX6_14 rfl (fun v1 => ?_)
  rcases v1 with _ | a3
  · exact sn_no
  refine sn_nn ?_
  refine sn_gI (pc := 4) dX6_isCounting_4 flX6_101 rfl (fun v2 => ?_)
  refine sn_if_ne (pc := 7) (tgt := 27) dX6_isCounting_7 (by decide) ?_ ?_
  · refine sn_iconst (pc := 27) (v := 0) dX6_isCounting_27 (by decide) ?_
    exact sn_zret (pc := 28) dX6_isCounting_28 rfl
  · refine sn_aload_n (pc := 10) (j := 0) dX6_isCounting_10 rfl rfl ?_
    refine sn_gI (pc := 11) dX6_isCounting_11 flX6_32 rfl (fun v4 => ?_)
    refine sn_iconst (pc := 14) (v := 0) dX6_isCounting_14 (by decide) ?_
    refine sn_bipush (pc := 15) (v := 6) dX6_isCounting_15 (by decide) ?_
    refine sn_callSN (pc := 17) dX6_isCounting_17 iX11_within wt2_96 (List.mem_of_getElem? (i := 7) rfl) (mX11_within v4 0 6) (by decide) rfl rfl (Nat.le_of_ble_eq_true rfl) (fun v5 => ?_)
    refine sn_if_eq (pc := 20) (tgt := 27) dX6_isCounting_20 (by decide) ?_ ?_
    · refine sn_iconst (pc := 27) (v := 0) dX6_isCounting_27 (by decide) ?_
      exact sn_zret (pc := 28) dX6_isCounting_28 rfl
    · refine sn_iconst (pc := 23) (v := 1) dX6_isCounting_23 (by decide) ?_
      refine sn_goto (pc := 24) (tgt := 28) dX6_isCounting_24 (by decide) ?_
      exact sn_zret (pc := 28) dX6_isCounting_28 rfl
theorem iX6_isCounting : MI yX6_isCounting cX6_isCounting 1 (some .boolean) 0 := ⟨wt1_4, wt2_174, by decide +kernel, by decide⟩
-- NeedleHomes$PatternReader close()V
theorem dX6_close_0 : decode cX6_close 0 = .ok (.aload_n 0, 1) := by decide +kernel
theorem dX6_close_1 : decode cX6_close 1 = .ok (.invokevirtual 91, 3) := by decide +kernel
theorem dX6_close_4 : decode cX6_close 4 = .ok (.ifCond .eq 62, 3) := by decide +kernel
theorem dX6_close_7 : decode cX6_close 7 = .ok (.aload_n 0, 1) := by decide +kernel
theorem dX6_close_8 : decode cX6_close 8 = .ok (.getfield 32, 3) := by decide +kernel
theorem dX6_close_11 : decode cX6_close 11 = .ok (.ifCond .le 55, 3) := by decide +kernel
theorem dX6_close_14 : decode cX6_close 14 = .ok (.iconst 0, 1) := by decide +kernel
theorem dX6_close_15 : decode cX6_close 15 = .ok (.istore_n 1, 1) := by decide +kernel
theorem dX6_close_16 : decode cX6_close 16 = .ok (.iload_n 1, 1) := by decide +kernel
theorem dX6_close_17 : decode cX6_close 17 = .ok (.bipush 6, 2) := by decide +kernel
theorem dX6_close_19 : decode cX6_close 19 = .ok (.if_icmp .ge 14, 3) := by decide +kernel
theorem dX6_close_22 : decode cX6_close 22 = .ok (.aload_n 0, 1) := by decide +kernel
theorem dX6_close_23 : decode cX6_close 23 = .ok (.iload_n 1, 1) := by decide +kernel
theorem dX6_close_24 : decode cX6_close 24 = .ok (.invokevirtual 108, 3) := by decide +kernel
theorem dX6_close_27 : decode cX6_close 27 = .ok (.iinc 1 1, 3) := by decide +kernel
theorem dX6_close_30 : decode cX6_close 30 = .ok (.goto (-14), 3) := by decide +kernel
theorem dX6_close_33 : decode cX6_close 33 = .ok (.aload_n 0, 1) := by decide +kernel
theorem dX6_close_34 : decode cX6_close 34 = .ok (.getfield 22, 3) := by decide +kernel
theorem dX6_close_37 : decode cX6_close 37 = .ok (.aload_n 0, 1) := by decide +kernel
theorem dX6_close_38 : decode cX6_close 38 = .ok (.getfield 32, 3) := by decide +kernel
theorem dX6_close_41 : decode cX6_close 41 = .ok (.iaload, 1) := by decide +kernel
theorem dX6_close_42 : decode cX6_close 42 = .ok (.iconst 4, 1) := by decide +kernel
theorem dX6_close_43 : decode cX6_close 43 = .ok (.if_icmp .eq 23, 3) := by decide +kernel
theorem dX6_close_46 : decode cX6_close 46 = .ok (.aload_n 0, 1) := by decide +kernel
theorem dX6_close_47 : decode cX6_close 47 = .ok (.getfield 22, 3) := by decide +kernel
theorem dX6_close_50 : decode cX6_close 50 = .ok (.aload_n 0, 1) := by decide +kernel
theorem dX6_close_51 : decode cX6_close 51 = .ok (.getfield 32, 3) := by decide +kernel
theorem dX6_close_54 : decode cX6_close 54 = .ok (.iconst 1, 1) := by decide +kernel
theorem dX6_close_55 : decode cX6_close 55 = .ok (.isub, 1) := by decide +kernel
theorem dX6_close_56 : decode cX6_close 56 = .ok (.aload_n 0, 1) := by decide +kernel
theorem dX6_close_57 : decode cX6_close 57 = .ok (.getfield 22, 3) := by decide +kernel
theorem dX6_close_60 : decode cX6_close 60 = .ok (.aload_n 0, 1) := by decide +kernel
theorem dX6_close_61 : decode cX6_close 61 = .ok (.getfield 32, 3) := by decide +kernel
theorem dX6_close_64 : decode cX6_close 64 = .ok (.iaload, 1) := by decide +kernel
theorem dX6_close_65 : decode cX6_close 65 = .ok (.iastore, 1) := by decide +kernel
theorem dX6_close_66 : decode cX6_close 66 = .ok (.aload_n 0, 1) := by decide +kernel
theorem dX6_close_67 : decode cX6_close 67 = .ok (.dup, 1) := by decide +kernel
theorem dX6_close_68 : decode cX6_close 68 = .ok (.getfield 32, 3) := by decide +kernel
theorem dX6_close_71 : decode cX6_close 71 = .ok (.iconst 1, 1) := by decide +kernel
theorem dX6_close_72 : decode cX6_close 72 = .ok (.isub, 1) := by decide +kernel
theorem dX6_close_73 : decode cX6_close 73 = .ok (.putfield 32, 3) := by decide +kernel
theorem dX6_close_76 : decode cX6_close 76 = .ok (.return_, 1) := by decide +kernel
abbrev dpX6_close : Nat := 3
def fX6_close_66 (a0 : Nat) : St → Option (Unit × St) :=
 gI 7 a0 1 fun v2001 =>
 pI 7 a0 1 (v2001 - 1) <|
 rt ()
set_option maxHeartbeats 4000000 in
set_option maxRecDepth 100000 in
theorem sfX6_close_66 {E : Ev} {l : Launch} (a0 : Nat) : Snd E l (dpX6_close, RX6, cX6_close, 2, none, "close") rvV 66 [(0, .ref (E.1 + a0))] [] (fX6_close_66 a0) := by
  unfold fX6_close_66
  refine sn_aload_n (pc := 66) (j := 0) dX6_close_66 rfl rfl ?_
  refine sn_dup (pc := 67) dX6_close_67 rfl ?_
  refine sn_gI (pc := 68) dX6_close_68 flX6_32 rfl (fun v2001 => ?_)
  refine sn_iconst (pc := 71) (v := 1) dX6_close_71 (by decide) ?_
  refine sn_isub (pc := 72) dX6_close_72 ?_
  refine sn_pI (pc := 73) dX6_close_73 flX6_32 rfl rfl (Or.inl rfl) ?_
  exact sn_vret (pc := 76) dX6_close_76 rfl
def fX6_close_16 (k16 : (Nat × Int32) → St → Option (Unit × St)) (a0 : Nat) (x1 : Int32) : St → Option (Unit × St) :=
 br (6 ≤ x1) (gR 7 a0 3 fun v1001 =>
 gI 7 a0 1 fun v1002 =>
 nn v1001 fun a1004 =>
 aI 15 a1004 v1002 fun v1003 =>
 br (v1003 = 4) (fX6_close_66  a0)
 (gR 7 a0 3 fun v1005 =>
 gI 7 a0 1 fun v1006 =>
 gR 7 a0 3 fun v1007 =>
 gI 7 a0 1 fun v1008 =>
 nn v1007 fun a1010 =>
 aI 15 a1010 v1008 fun v1009 =>
 nn v1005 fun a1011 =>
 wI a1011 (v1006 - 1) v1009 <|
 fX6_close_66  a0))
 (ck 7 a0 <| cl (fX6_closeStitch a0 x1) fun v1012 =>
 k16 (a0, (x1 + 1)))
set_option maxHeartbeats 4000000 in
set_option maxRecDepth 100000 in
theorem sfX6_close_16 {E : Ev} {l : Launch} (k16 : (Nat × Int32) → St → Option (Unit × St)) (hk16 : ∀ p : Nat × Int32, Snd E l (dpX6_close, RX6, cX6_close, 2, none, "close") rvV 16 [(0, .ref (E.1 + p.1)), (1, .int p.2)] [] (k16 p)) (a0 : Nat) (x1 : Int32) : Snd E l (dpX6_close, RX6, cX6_close, 2, none, "close") rvV 16 [(0, .ref (E.1 + a0)), (1, .int x1)] [] (fX6_close_16 k16 a0 x1) := by
  unfold fX6_close_16
  refine sn_iload_n (pc := 16) (j := 1) dX6_close_16 rfl rfl ?_
  refine sn_bipush (pc := 17) (v := 6) dX6_close_17 (by decide) ?_
  refine sn_icmp_ge (pc := 19) (tgt := 33) dX6_close_19 (by decide) ?_ ?_
  · refine sn_aload_n (pc := 33) (j := 0) dX6_close_33 rfl rfl ?_
    refine sn_gR (pc := 34) dX6_close_34 flX6_22 rfl (fun v1001 => ?_)
    refine sn_aload_n (pc := 37) (j := 0) dX6_close_37 rfl rfl ?_
    refine sn_gI (pc := 38) dX6_close_38 flX6_32 rfl (fun v1002 => ?_)
    rcases v1001 with _ | a1004
    · exact sn_no
    refine sn_nn ?_
    refine sn_iald (pc := 41) dX6_close_41 (fun v1003 => ?_)
    refine sn_iconst (pc := 42) (v := 4) dX6_close_42 (by decide) ?_
    refine sn_icmp_eq (pc := 43) (tgt := 66) dX6_close_43 (by decide) ?_ ?_
    · exact sn_sub (lv' := [(0, .ref (E.1 + a0))]) [0] rfl (sfX6_close_66  a0)
    · refine sn_aload_n (pc := 46) (j := 0) dX6_close_46 rfl rfl ?_
      refine sn_gR (pc := 47) dX6_close_47 flX6_22 rfl (fun v1005 => ?_)
      refine sn_aload_n (pc := 50) (j := 0) dX6_close_50 rfl rfl ?_
      refine sn_gI (pc := 51) dX6_close_51 flX6_32 rfl (fun v1006 => ?_)
      refine sn_iconst (pc := 54) (v := 1) dX6_close_54 (by decide) ?_
      refine sn_isub (pc := 55) dX6_close_55 ?_
      refine sn_aload_n (pc := 56) (j := 0) dX6_close_56 rfl rfl ?_
      refine sn_gR (pc := 57) dX6_close_57 flX6_22 rfl (fun v1007 => ?_)
      refine sn_aload_n (pc := 60) (j := 0) dX6_close_60 rfl rfl ?_
      refine sn_gI (pc := 61) dX6_close_61 flX6_32 rfl (fun v1008 => ?_)
      rcases v1007 with _ | a1010
      · exact sn_no
      refine sn_nn ?_
      refine sn_iald (pc := 64) dX6_close_64 (fun v1009 => ?_)
      rcases v1005 with _ | a1011
      · exact sn_no
      refine sn_nn ?_
      refine sn_iast (pc := 65) dX6_close_65 ?_
      exact sn_sub (lv' := [(0, .ref (E.1 + a0))]) [0] rfl (sfX6_close_66  a0)
  · refine sn_aload_n (pc := 22) (j := 0) dX6_close_22 rfl rfl ?_
    refine sn_iload_n (pc := 23) (j := 1) dX6_close_23 rfl rfl ?_
    refine sn_callV (ci := 6) (pc := 24) dX6_close_24 iX6_closeStitch wt2_208 ws_11 wt2_206 ⟨_, rfl, rfl⟩ (by decide) (mX6_closeStitch a0 x1) (by decide) rfl rfl (Nat.le_of_ble_eq_true rfl) (fun v1012 => ?_)
    refine sn_iinc (pc := 27) (v := x1 + 1) (lv' := [(1, .int (x1 + 1)), (0, .ref (E.1 + a0))]) (j := 1) dX6_close_27 rfl rfl (by decide) rfl ?_
    refine sn_goto (pc := 30) (tgt := 16) dX6_close_30 (by decide) ?_
    exact sn_sub (lv' := [(0, .ref (E.1 + a0)), (1, .int (x1 + 1))]) [1, 0] rfl (hk16 (a0, (x1 + 1)))
def fX6_close (a0 : Nat) : St → Option (Unit × St) :=
 ck 7 a0 <| cl (fX6_isCounting a0) fun v1 =>
 br ((bi v1) = 0) (fX6_close_66  a0)
 (gI 7 a0 1 fun v2 =>
 br (v2 ≤ 0) (fX6_close_66  a0)
 (itr (fun k (p : Nat × Int32) => fX6_close_16  k p.1 p.2) FU (a0, 0)))
set_option maxHeartbeats 4000000 in
set_option maxRecDepth 100000 in
theorem mX6_close {E : Ev} {l : Launch} (a0 : Nat) : MF E l dpX6_close yX6_close cX6_close 2 none rvV [.ref (E.1 + a0)] (fX6_close a0) := by
  refine MF.of (lv := [(0, .ref (E.1 + a0))]) (by decide) (Nat.le_of_ble_eq_true rfl) rfl ?_
  unfold fX6_close
  refine sn_aload_n (pc := 0) (j := 0) dX6_close_0 rfl rfl ?_
  refine sn_callV (ci := 6) (pc := 1) dX6_close_1 iX6_isCounting wt2_173 ws_5 wt2_171 ⟨_, rfl, rfl⟩ (by decide) (mX6_isCounting a0) (by decide) rfl rfl (Nat.le_of_ble_eq_true rfl) (fun v1 => ?_)
  refine sn_if_eq (pc := 4) (tgt := 66) dX6_close_4 (by decide) ?_ ?_
  · exact sn_sub (lv' := [(0, .ref (E.1 + a0))]) [0] rfl (sfX6_close_66  a0)
  · refine sn_aload_n (pc := 7) (j := 0) dX6_close_7 rfl rfl ?_
    refine sn_gI (pc := 8) dX6_close_8 flX6_32 rfl (fun v2 => ?_)
    refine sn_if_le (pc := 11) (tgt := 66) dX6_close_11 (by decide) ?_ ?_
    · exact sn_sub (lv' := [(0, .ref (E.1 + a0))]) [0] rfl (sfX6_close_66  a0)
    · refine sn_iconst (pc := 14) (v := 0) dX6_close_14 (by decide) ?_
      refine sn_istore_n (pc := 15) (i := 1) (lv' := [(1, .int 0), (0, .ref (E.1 + a0))]) dX6_close_15 rfl (by decide) rfl ?_
      exact sn_sub (lv' := [(0, .ref (E.1 + a0)), (1, .int 0)]) [1, 0] rfl (sn_itr (lvf := fun p => [(0, .ref (E.1 + p.1)), (1, .int p.2)]) (stf := fun p => []) (fun k hk p => sfX6_close_16  k hk p.1 p.2) FU (a0, 0))
theorem iX6_close : MI yX6_close cX6_close 2 none 0 := ⟨wt1_4, wt2_205, by decide +kernel, by decide⟩
-- NeedleHomes$PatternReader readColour()Z
theorem dX6_readColour_0 : decode cX6_readColour 0 = .ok (.aload_n 0, 1) := by decide +kernel
theorem dX6_readColour_1 : decode cX6_readColour 1 = .ok (.getfield 14, 3) := by decide +kernel
theorem dX6_readColour_4 : decode cX6_readColour 4 = .ok (.invokevirtual 76, 3) := by decide +kernel
theorem dX6_readColour_7 : decode cX6_readColour 7 = .ok (.aload_n 0, 1) := by decide +kernel
theorem dX6_readColour_8 : decode cX6_readColour 8 = .ok (.getfield 14, 3) := by decide +kernel
theorem dX6_readColour_11 : decode cX6_readColour 11 = .ok (.getfield 40, 3) := by decide +kernel
theorem dX6_readColour_14 : decode cX6_readColour 14 = .ok (.iconst 2, 1) := by decide +kernel
theorem dX6_readColour_15 : decode cX6_readColour 15 = .ok (.if_icmp .eq 11, 3) := by decide +kernel
theorem dX6_readColour_18 : decode cX6_readColour 18 = .ok (.aload_n 0, 1) := by decide +kernel
theorem dX6_readColour_19 : decode cX6_readColour 19 = .ok (.getfield 14, 3) := by decide +kernel
theorem dX6_readColour_22 : decode cX6_readColour 22 = .ok (.invokevirtual 79, 3) := by decide +kernel
theorem dX6_readColour_25 : decode cX6_readColour 25 = .ok (.ireturn, 1) := by decide +kernel
theorem dX6_readColour_26 : decode cX6_readColour 26 = .ok (.aload_n 0, 1) := by decide +kernel
theorem dX6_readColour_27 : decode cX6_readColour 27 = .ok (.getfield 14, 3) := by decide +kernel
theorem dX6_readColour_30 : decode cX6_readColour 30 = .ok (.getfield 82, 3) := by decide +kernel
theorem dX6_readColour_33 : decode cX6_readColour 33 = .ok (.invokestatic 85, 3) := by decide +kernel
theorem dX6_readColour_36 : decode cX6_readColour 36 = .ok (.ifCond .ne 18, 3) := by decide +kernel
theorem dX6_readColour_39 : decode cX6_readColour 39 = .ok (.aload_n 0, 1) := by decide +kernel
theorem dX6_readColour_40 : decode cX6_readColour 40 = .ok (.getfield 14, 3) := by decide +kernel
theorem dX6_readColour_43 : decode cX6_readColour 43 = .ok (.iconst 2, 1) := by decide +kernel
theorem dX6_readColour_44 : decode cX6_readColour 44 = .ok (.aload_n 0, 1) := by decide +kernel
theorem dX6_readColour_45 : decode cX6_readColour 45 = .ok (.getfield 14, 3) := by decide +kernel
theorem dX6_readColour_48 : decode cX6_readColour 48 = .ok (.getfield 88, 3) := by decide +kernel
theorem dX6_readColour_51 : decode cX6_readColour 51 = .ok (.invokevirtual 52, 3) := by decide +kernel
theorem dX6_readColour_54 : decode cX6_readColour 54 = .ok (.aload_n 0, 1) := by decide +kernel
theorem dX6_readColour_55 : decode cX6_readColour 55 = .ok (.invokevirtual 91, 3) := by decide +kernel
theorem dX6_readColour_58 : decode cX6_readColour 58 = .ok (.ifCond .eq 19, 3) := by decide +kernel
theorem dX6_readColour_61 : decode cX6_readColour 61 = .ok (.aload_n 0, 1) := by decide +kernel
theorem dX6_readColour_62 : decode cX6_readColour 62 = .ok (.getfield 22, 3) := by decide +kernel
theorem dX6_readColour_65 : decode cX6_readColour 65 = .ok (.aload_n 0, 1) := by decide +kernel
theorem dX6_readColour_66 : decode cX6_readColour 66 = .ok (.getfield 32, 3) := by decide +kernel
theorem dX6_readColour_69 : decode cX6_readColour 69 = .ok (.aload_n 0, 1) := by decide +kernel
theorem dX6_readColour_70 : decode cX6_readColour 70 = .ok (.getfield 14, 3) := by decide +kernel
theorem dX6_readColour_73 : decode cX6_readColour 73 = .ok (.getfield 82, 3) := by decide +kernel
theorem dX6_readColour_76 : decode cX6_readColour 76 = .ok (.iastore, 1) := by decide +kernel
theorem dX6_readColour_77 : decode cX6_readColour 77 = .ok (.aload_n 0, 1) := by decide +kernel
theorem dX6_readColour_78 : decode cX6_readColour 78 = .ok (.getfield 14, 3) := by decide +kernel
theorem dX6_readColour_81 : decode cX6_readColour 81 = .ok (.invokevirtual 76, 3) := by decide +kernel
theorem dX6_readColour_84 : decode cX6_readColour 84 = .ok (.iconst 1, 1) := by decide +kernel
theorem dX6_readColour_85 : decode cX6_readColour 85 = .ok (.ireturn, 1) := by decide +kernel
abbrev dpX6_readColour : Nat := 3
def fX6_readColour_77 (a0 : Nat) : St → Option (Bool × St) :=
 gR 7 a0 0 fun v2001 =>
 nn v2001 fun a2002 =>
 ck 9 a2002 <| cl (fX8_step a2002) fun v2003 =>
 rtZ 1
set_option maxHeartbeats 4000000 in
set_option maxRecDepth 100000 in
theorem sfX6_readColour_77 {E : Ev} {l : Launch} (a0 : Nat) : Snd E l (dpX6_readColour, RX6, cX6_readColour, 1, (some .boolean), "readColour") rvZ 77 [(0, .ref (E.1 + a0))] [] (fX6_readColour_77 a0) := by
  unfold fX6_readColour_77
  refine sn_aload_n (pc := 77) (j := 0) dX6_readColour_77 rfl rfl ?_
  refine sn_gR (pc := 78) dX6_readColour_78 flX6_14 rfl (fun v2001 => ?_)
  rcases v2001 with _ | a2002
  · exact sn_no
  refine sn_nn ?_
  refine sn_callV (ci := 8) (pc := 81) dX6_readColour_81 iX8_step wt2_122 wt2_123 wt2_159 ⟨_, rfl, rfl⟩ (by decide) (mX8_step a2002) (by decide) rfl rfl (Nat.le_of_ble_eq_true rfl) (fun v2003 => ?_)
  refine sn_iconst (pc := 84) (v := 1) dX6_readColour_84 (by decide) ?_
  exact sn_zret (pc := 85) dX6_readColour_85 rfl
def fX6_readColour_54 (a0 : Nat) : St → Option (Bool × St) :=
 ck 7 a0 <| cl (fX6_isCounting a0) fun v1001 =>
 br ((bi v1001) = 0) (fX6_readColour_77  a0)
 (gR 7 a0 3 fun v1002 =>
 gI 7 a0 1 fun v1003 =>
 gR 7 a0 0 fun v1004 =>
 nn v1004 fun a1006 =>
 gI 9 a1006 1 fun v1005 =>
 nn v1002 fun a1007 =>
 wI a1007 v1003 v1005 <|
 fX6_readColour_77  a0)
set_option maxHeartbeats 4000000 in
set_option maxRecDepth 100000 in
theorem sfX6_readColour_54 {E : Ev} {l : Launch} (a0 : Nat) : Snd E l (dpX6_readColour, RX6, cX6_readColour, 1, (some .boolean), "readColour") rvZ 54 [(0, .ref (E.1 + a0))] [] (fX6_readColour_54 a0) := by
  unfold fX6_readColour_54
  refine sn_aload_n (pc := 54) (j := 0) dX6_readColour_54 rfl rfl ?_
  refine sn_callV (ci := 6) (pc := 55) dX6_readColour_55 iX6_isCounting wt2_173 ws_5 wt2_171 ⟨_, rfl, rfl⟩ (by decide) (mX6_isCounting a0) (by decide) rfl rfl (Nat.le_of_ble_eq_true rfl) (fun v1001 => ?_)
  refine sn_if_eq (pc := 58) (tgt := 77) dX6_readColour_58 (by decide) ?_ ?_
  · exact sn_sub (lv' := [(0, .ref (E.1 + a0))]) [0] rfl (sfX6_readColour_77  a0)
  · refine sn_aload_n (pc := 61) (j := 0) dX6_readColour_61 rfl rfl ?_
    refine sn_gR (pc := 62) dX6_readColour_62 flX6_22 rfl (fun v1002 => ?_)
    refine sn_aload_n (pc := 65) (j := 0) dX6_readColour_65 rfl rfl ?_
    refine sn_gI (pc := 66) dX6_readColour_66 flX6_32 rfl (fun v1003 => ?_)
    refine sn_aload_n (pc := 69) (j := 0) dX6_readColour_69 rfl rfl ?_
    refine sn_gR (pc := 70) dX6_readColour_70 flX6_14 rfl (fun v1004 => ?_)
    rcases v1004 with _ | a1006
    · exact sn_no
    refine sn_nn ?_
    refine sn_gI (pc := 73) dX6_readColour_73 flX6_82 rfl (fun v1005 => ?_)
    rcases v1002 with _ | a1007
    · exact sn_no
    refine sn_nn ?_
    refine sn_iast (pc := 76) dX6_readColour_76 ?_
    exact sn_sub (lv' := [(0, .ref (E.1 + a0))]) [0] rfl (sfX6_readColour_77  a0)
def fX6_readColour (a0 : Nat) : St → Option (Bool × St) :=
 gR 7 a0 0 fun v1 =>
 nn v1 fun a2 =>
 ck 9 a2 <| cl (fX8_step a2) fun v3 =>
 gR 7 a0 0 fun v4 =>
 nn v4 fun a6 =>
 gI 9 a6 0 fun v5 =>
 br (v5 = 2) (gR 7 a0 0 fun v7 =>
 nn v7 fun a9 =>
 gI 9 a9 1 fun v8 =>
 cl (fX11_isColour v8) fun v10 =>
 br ((bi v10) = 0) (gR 7 a0 0 fun v11 =>
 gR 7 a0 0 fun v12 =>
 nn v12 fun a14 =>
 gI 9 a14 2 fun v13 =>
 nn v11 fun a15 =>
 ck 9 a15 <| cl (fX8_noteFault a15 2 v13) fun v16 =>
 fX6_readColour_54  a0)
 (fX6_readColour_54  a0))
 (gR 7 a0 0 fun v17 =>
 nn v17 fun a18 =>
 ck 9 a18 <| cl (fX8_failHere a18) fun v19 =>
 rtZ (bi v19))
set_option maxHeartbeats 4000000 in
set_option maxRecDepth 100000 in
theorem mX6_readColour {E : Ev} {l : Launch} (a0 : Nat) : MF E l dpX6_readColour yX6_readColour cX6_readColour 1 (some .boolean) rvZ [.ref (E.1 + a0)] (fX6_readColour a0) := by
  refine MF.of (lv := [(0, .ref (E.1 + a0))]) (by decide) (Nat.le_of_ble_eq_true rfl) rfl ?_
  unfold fX6_readColour
  refine sn_aload_n (pc := 0) (j := 0) dX6_readColour_0 rfl rfl ?_
  refine sn_gR (pc := 1) dX6_readColour_1 flX6_14 rfl (fun v1 => ?_)
  rcases v1 with _ | a2
  · exact sn_no
  refine sn_nn ?_
  refine sn_callV (ci := 8) (pc := 4) dX6_readColour_4 iX8_step wt2_122 wt2_123 wt2_159 ⟨_, rfl, rfl⟩ (by decide) (mX8_step a2) (by decide) rfl rfl (Nat.le_of_ble_eq_true rfl) (fun v3 => ?_)
  refine sn_aload_n (pc := 7) (j := 0) dX6_readColour_7 rfl rfl ?_
  refine sn_gR (pc := 8) dX6_readColour_8 flX6_14 rfl (fun v4 => ?_)
  rcases v4 with _ | a6
  · exact sn_no
  refine sn_nn ?_
  refine sn_gI (pc := 11) dX6_readColour_11 flX6_40 rfl (fun v5 => ?_)
  refine sn_iconst (pc := 14) (v := 2) dX6_readColour_14 (by decide) ?_
  refine sn_icmp_eq (pc := 15) (tgt := 26) dX6_readColour_15 (by decide) ?_ ?_
  · refine sn_aload_n (pc := 26) (j := 0) dX6_readColour_26 rfl rfl ?_
    refine sn_gR (pc := 27) dX6_readColour_27 flX6_14 rfl (fun v7 => ?_)
    rcases v7 with _ | a9
    · exact sn_no
    refine sn_nn ?_
    refine sn_gI (pc := 30) dX6_readColour_30 flX6_82 rfl (fun v8 => ?_)
    refine sn_callSN (pc := 33) dX6_readColour_33 iX11_isColour wt2_165 (List.mem_of_getElem? (i := 8) rfl) (mX11_isColour v8) (by decide) rfl rfl (Nat.le_of_ble_eq_true rfl) (fun v10 => ?_)
    refine sn_if_ne (pc := 36) (tgt := 54) dX6_readColour_36 (by decide) ?_ ?_
    · exact sn_sub (lv' := [(0, .ref (E.1 + a0))]) [0] rfl (sfX6_readColour_54  a0)
    · refine sn_aload_n (pc := 39) (j := 0) dX6_readColour_39 rfl rfl ?_
      refine sn_gR (pc := 40) dX6_readColour_40 flX6_14 rfl (fun v11 => ?_)
      refine sn_iconst (pc := 43) (v := 2) dX6_readColour_43 (by decide) ?_
      refine sn_aload_n (pc := 44) (j := 0) dX6_readColour_44 rfl rfl ?_
      refine sn_gR (pc := 45) dX6_readColour_45 flX6_14 rfl (fun v12 => ?_)
      rcases v12 with _ | a14
      · exact sn_no
      refine sn_nn ?_
      refine sn_gI (pc := 48) dX6_readColour_48 flX6_88 rfl (fun v13 => ?_)
      rcases v11 with _ | a15
      · exact sn_no
      refine sn_nn ?_
      refine sn_callV (ci := 8) (pc := 51) dX6_readColour_51 iX8_noteFault wt2_168 wt2_169 wt2_167 ⟨_, rfl, rfl⟩ (by decide) (mX8_noteFault a15 2 v13) (by decide) rfl rfl (Nat.le_of_ble_eq_true rfl) (fun v16 => ?_)
      exact sn_sub (lv' := [(0, .ref (E.1 + a0))]) [0] rfl (sfX6_readColour_54  a0)
  · refine sn_aload_n (pc := 18) (j := 0) dX6_readColour_18 rfl rfl ?_
    refine sn_gR (pc := 19) dX6_readColour_19 flX6_14 rfl (fun v17 => ?_)
    rcases v17 with _ | a18
    · exact sn_no
    refine sn_nn ?_
    refine sn_callV (ci := 8) (pc := 22) dX6_readColour_22 iX8_failHere wt2_161 wt2_162 wt2_160 ⟨_, rfl, rfl⟩ (by decide) (mX8_failHere a18) (by decide) rfl rfl (Nat.le_of_ble_eq_true rfl) (fun v19 => ?_)
    exact sn_zret (pc := 25) dX6_readColour_25 rfl
theorem iX6_readColour : MI yX6_readColour cX6_readColour 1 (some .boolean) 0 := ⟨wt1_4, wt2_158, by decide +kernel, by decide⟩
-- NeedleHomes$PatternReader open(I)V
theorem dX6_open_0 : decode cX6_open 0 = .ok (.aload_n 0, 1) := by decide +kernel
theorem dX6_open_1 : decode cX6_open 1 = .ok (.dup, 1) := by decide +kernel
theorem dX6_open_2 : decode cX6_open 2 = .ok (.getfield 32, 3) := by decide +kernel
theorem dX6_open_5 : decode cX6_open 5 = .ok (.iconst 1, 1) := by decide +kernel
theorem dX6_open_6 : decode cX6_open 6 = .ok (.iadd, 1) := by decide +kernel
theorem dX6_open_7 : decode cX6_open 7 = .ok (.putfield 32, 3) := by decide +kernel
theorem dX6_open_10 : decode cX6_open 10 = .ok (.aload_n 0, 1) := by decide +kernel
theorem dX6_open_11 : decode cX6_open 11 = .ok (.invokevirtual 91, 3) := by decide +kernel
theorem dX6_open_14 : decode cX6_open 14 = .ok (.ifCond .eq 31, 3) := by decide +kernel
theorem dX6_open_17 : decode cX6_open 17 = .ok (.aload_n 0, 1) := by decide +kernel
theorem dX6_open_18 : decode cX6_open 18 = .ok (.aload_n 0, 1) := by decide +kernel
theorem dX6_open_19 : decode cX6_open 19 = .ok (.getfield 32, 3) := by decide +kernel
theorem dX6_open_22 : decode cX6_open 22 = .ok (.invokevirtual 36, 3) := by decide +kernel
theorem dX6_open_25 : decode cX6_open 25 = .ok (.aload_n 0, 1) := by decide +kernel
theorem dX6_open_26 : decode cX6_open 26 = .ok (.getfield 22, 3) := by decide +kernel
theorem dX6_open_29 : decode cX6_open 29 = .ok (.aload_n 0, 1) := by decide +kernel
theorem dX6_open_30 : decode cX6_open 30 = .ok (.getfield 32, 3) := by decide +kernel
theorem dX6_open_33 : decode cX6_open 33 = .ok (.iconst 4, 1) := by decide +kernel
theorem dX6_open_34 : decode cX6_open 34 = .ok (.iastore, 1) := by decide +kernel
theorem dX6_open_35 : decode cX6_open 35 = .ok (.aload_n 0, 1) := by decide +kernel
theorem dX6_open_36 : decode cX6_open 36 = .ok (.getfield 25, 3) := by decide +kernel
theorem dX6_open_39 : decode cX6_open 39 = .ok (.aload_n 0, 1) := by decide +kernel
theorem dX6_open_40 : decode cX6_open 40 = .ok (.getfield 32, 3) := by decide +kernel
theorem dX6_open_43 : decode cX6_open 43 = .ok (.iload_n 1, 1) := by decide +kernel
theorem dX6_open_44 : decode cX6_open 44 = .ok (.iastore, 1) := by decide +kernel
theorem dX6_open_45 : decode cX6_open 45 = .ok (.return_, 1) := by decide +kernel
abbrev dpX6_open : Nat := 2
def fX6_open (a0 : Nat) (x1 : Int32) : St → Option (Unit × St) :=
 gI 7 a0 1 fun v1 =>
 pI 7 a0 1 (v1 + 1) <|
 ck 7 a0 <| cl (fX6_isCounting a0) fun v2 =>
 br ((bi v2) = 0) (rt ())
 (gI 7 a0 1 fun v3 =>
 ck 7 a0 <| cl (fX6_clearLevel a0 v3) fun v4 =>
 gR 7 a0 3 fun v5 =>
 gI 7 a0 1 fun v6 =>
 nn v5 fun a7 =>
 wI a7 v6 4 <|
 gR 7 a0 4 fun v8 =>
 gI 7 a0 1 fun v9 =>
 nn v8 fun a10 =>
 wI a10 v9 x1 <|
 rt ())
set_option maxHeartbeats 4000000 in
set_option maxRecDepth 100000 in
theorem mX6_open {E : Ev} {l : Launch} (a0 : Nat) (x1 : Int32) : MF E l dpX6_open yX6_open cX6_open 2 none rvV [.ref (E.1 + a0), .int x1] (fX6_open a0 x1) := by
  refine MF.of (lv := [(0, .ref (E.1 + a0)), (1, .int x1)]) (by decide) (Nat.le_of_ble_eq_true rfl) rfl ?_
  unfold fX6_open
  refine sn_aload_n (pc := 0) (j := 0) dX6_open_0 rfl rfl ?_
  refine sn_dup (pc := 1) dX6_open_1 rfl ?_
  refine sn_gI (pc := 2) dX6_open_2 flX6_32 rfl (fun v1 => ?_)
  refine sn_iconst (pc := 5) (v := 1) dX6_open_5 (by decide) ?_
  refine sn_iadd (pc := 6) dX6_open_6 ?_
  refine sn_pI (pc := 7) dX6_open_7 flX6_32 rfl rfl (Or.inl rfl) ?_
  refine sn_aload_n (pc := 10) (j := 0) dX6_open_10 rfl rfl ?_
  refine sn_callV (ci := 6) (pc := 11) dX6_open_11 iX6_isCounting wt2_173 ws_5 wt2_171 ⟨_, rfl, rfl⟩ (by decide) (mX6_isCounting a0) (by decide) rfl rfl (Nat.le_of_ble_eq_true rfl) (fun v2 => ?_)
  refine sn_if_eq (pc := 14) (tgt := 45) dX6_open_14 (by decide) ?_ ?_
  · exact sn_vret (pc := 45) dX6_open_45 rfl
  · refine sn_aload_n (pc := 17) (j := 0) dX6_open_17 rfl rfl ?_
    refine sn_aload_n (pc := 18) (j := 0) dX6_open_18 rfl rfl ?_
    refine sn_gI (pc := 19) dX6_open_19 flX6_32 rfl (fun v3 => ?_)
    refine sn_callV (ci := 6) (pc := 22) dX6_open_22 iX6_clearLevel wt2_144 ws_2 wt2_142 ⟨_, rfl, rfl⟩ (by decide) (mX6_clearLevel a0 v3) (by decide) rfl rfl (Nat.le_of_ble_eq_true rfl) (fun v4 => ?_)
    refine sn_aload_n (pc := 25) (j := 0) dX6_open_25 rfl rfl ?_
    refine sn_gR (pc := 26) dX6_open_26 flX6_22 rfl (fun v5 => ?_)
    refine sn_aload_n (pc := 29) (j := 0) dX6_open_29 rfl rfl ?_
    refine sn_gI (pc := 30) dX6_open_30 flX6_32 rfl (fun v6 => ?_)
    refine sn_iconst (pc := 33) (v := 4) dX6_open_33 (by decide) ?_
    rcases v5 with _ | a7
    · exact sn_no
    refine sn_nn ?_
    refine sn_iast (pc := 34) dX6_open_34 ?_
    refine sn_aload_n (pc := 35) (j := 0) dX6_open_35 rfl rfl ?_
    refine sn_gR (pc := 36) dX6_open_36 flX6_25 rfl (fun v8 => ?_)
    refine sn_aload_n (pc := 39) (j := 0) dX6_open_39 rfl rfl ?_
    refine sn_gI (pc := 40) dX6_open_40 flX6_32 rfl (fun v9 => ?_)
    refine sn_iload_n (pc := 43) (j := 1) dX6_open_43 rfl rfl ?_
    rcases v8 with _ | a10
    · exact sn_no
    refine sn_nn ?_
    refine sn_iast (pc := 44) dX6_open_44 ?_
    exact sn_vret (pc := 45) dX6_open_45 rfl
theorem iX6_open : MI yX6_open cX6_open 2 none 1 := ⟨wt1_4, wt2_201, by decide +kernel, by decide⟩
-- NeedleHomes$PatternReader readOpening()Z
theorem dX6_readOpening_0 : decode cX6_readOpening 0 = .ok (.aload_n 0, 1) := by decide +kernel
theorem dX6_readOpening_1 : decode cX6_readOpening 1 = .ok (.getfield 14, 3) := by decide +kernel
theorem dX6_readOpening_4 : decode cX6_readOpening 4 = .ok (.getfield 82, 3) := by decide +kernel
theorem dX6_readOpening_7 : decode cX6_readOpening 7 = .ok (.istore_n 1, 1) := by decide +kernel
theorem dX6_readOpening_8 : decode cX6_readOpening 8 = .ok (.iload_n 1, 1) := by decide +kernel
theorem dX6_readOpening_9 : decode cX6_readOpening 9 = .ok (.ifCond .ne 18, 3) := by decide +kernel
theorem dX6_readOpening_12 : decode cX6_readOpening 12 = .ok (.aload_n 0, 1) := by decide +kernel
theorem dX6_readOpening_13 : decode cX6_readOpening 13 = .ok (.getfield 14, 3) := by decide +kernel
theorem dX6_readOpening_16 : decode cX6_readOpening 16 = .ok (.iconst 2, 1) := by decide +kernel
theorem dX6_readOpening_17 : decode cX6_readOpening 17 = .ok (.aload_n 0, 1) := by decide +kernel
theorem dX6_readOpening_18 : decode cX6_readOpening 18 = .ok (.getfield 14, 3) := by decide +kernel
theorem dX6_readOpening_21 : decode cX6_readOpening 21 = .ok (.getfield 88, 3) := by decide +kernel
theorem dX6_readOpening_24 : decode cX6_readOpening 24 = .ok (.invokevirtual 52, 3) := by decide +kernel
theorem dX6_readOpening_27 : decode cX6_readOpening 27 = .ok (.aload_n 0, 1) := by decide +kernel
theorem dX6_readOpening_28 : decode cX6_readOpening 28 = .ok (.getfield 14, 3) := by decide +kernel
theorem dX6_readOpening_31 : decode cX6_readOpening 31 = .ok (.invokevirtual 76, 3) := by decide +kernel
theorem dX6_readOpening_34 : decode cX6_readOpening 34 = .ok (.aload_n 0, 1) := by decide +kernel
theorem dX6_readOpening_35 : decode cX6_readOpening 35 = .ok (.getfield 14, 3) := by decide +kernel
theorem dX6_readOpening_38 : decode cX6_readOpening 38 = .ok (.bipush 91, 2) := by decide +kernel
theorem dX6_readOpening_40 : decode cX6_readOpening 40 = .ok (.invokevirtual 69, 3) := by decide +kernel
theorem dX6_readOpening_43 : decode cX6_readOpening 43 = .ok (.ifCond .ne 11, 3) := by decide +kernel
theorem dX6_readOpening_46 : decode cX6_readOpening 46 = .ok (.aload_n 0, 1) := by decide +kernel
theorem dX6_readOpening_47 : decode cX6_readOpening 47 = .ok (.getfield 14, 3) := by decide +kernel
theorem dX6_readOpening_50 : decode cX6_readOpening 50 = .ok (.invokevirtual 79, 3) := by decide +kernel
theorem dX6_readOpening_53 : decode cX6_readOpening 53 = .ok (.ireturn, 1) := by decide +kernel
theorem dX6_readOpening_54 : decode cX6_readOpening 54 = .ok (.aload_n 0, 1) := by decide +kernel
theorem dX6_readOpening_55 : decode cX6_readOpening 55 = .ok (.getfield 32, 3) := by decide +kernel
theorem dX6_readOpening_58 : decode cX6_readOpening 58 = .ok (.iconst 1, 1) := by decide +kernel
theorem dX6_readOpening_59 : decode cX6_readOpening 59 = .ok (.iadd, 1) := by decide +kernel
theorem dX6_readOpening_60 : decode cX6_readOpening 60 = .ok (.bipush 7, 2) := by decide +kernel
theorem dX6_readOpening_62 : decode cX6_readOpening 62 = .ok (.if_icmp .lt 18, 3) := by decide +kernel
theorem dX6_readOpening_65 : decode cX6_readOpening 65 = .ok (.aload_n 0, 1) := by decide +kernel
theorem dX6_readOpening_66 : decode cX6_readOpening 66 = .ok (.getfield 14, 3) := by decide +kernel
theorem dX6_readOpening_69 : decode cX6_readOpening 69 = .ok (.iconst 3, 1) := by decide +kernel
theorem dX6_readOpening_70 : decode cX6_readOpening 70 = .ok (.aload_n 0, 1) := by decide +kernel
theorem dX6_readOpening_71 : decode cX6_readOpening 71 = .ok (.getfield 14, 3) := by decide +kernel
theorem dX6_readOpening_74 : decode cX6_readOpening 74 = .ok (.getfield 88, 3) := by decide +kernel
theorem dX6_readOpening_77 : decode cX6_readOpening 77 = .ok (.invokevirtual 52, 3) := by decide +kernel
theorem dX6_readOpening_80 : decode cX6_readOpening 80 = .ok (.aload_n 0, 1) := by decide +kernel
theorem dX6_readOpening_81 : decode cX6_readOpening 81 = .ok (.iload_n 1, 1) := by decide +kernel
theorem dX6_readOpening_82 : decode cX6_readOpening 82 = .ok (.invokevirtual 98, 3) := by decide +kernel
theorem dX6_readOpening_85 : decode cX6_readOpening 85 = .ok (.aload_n 0, 1) := by decide +kernel
theorem dX6_readOpening_86 : decode cX6_readOpening 86 = .ok (.getfield 14, 3) := by decide +kernel
theorem dX6_readOpening_89 : decode cX6_readOpening 89 = .ok (.invokevirtual 76, 3) := by decide +kernel
theorem dX6_readOpening_92 : decode cX6_readOpening 92 = .ok (.iconst 1, 1) := by decide +kernel
theorem dX6_readOpening_93 : decode cX6_readOpening 93 = .ok (.ireturn, 1) := by decide +kernel
abbrev dpX6_readOpening : Nat := 3
def fX6_readOpening_80 (a0 : Nat) (x1 : Int32) : St → Option (Bool × St) :=
 ck 7 a0 <| cl (fX6_open a0 x1) fun v2001 =>
 gR 7 a0 0 fun v2002 =>
 nn v2002 fun a2003 =>
 ck 9 a2003 <| cl (fX8_step a2003) fun v2004 =>
 rtZ 1
set_option maxHeartbeats 4000000 in
set_option maxRecDepth 100000 in
theorem sfX6_readOpening_80 {E : Ev} {l : Launch} (a0 : Nat) (x1 : Int32) : Snd E l (dpX6_readOpening, RX6, cX6_readOpening, 2, (some .boolean), "readOpening") rvZ 80 [(0, .ref (E.1 + a0)), (1, .int x1)] [] (fX6_readOpening_80 a0 x1) := by
  unfold fX6_readOpening_80
  refine sn_aload_n (pc := 80) (j := 0) dX6_readOpening_80 rfl rfl ?_
  refine sn_iload_n (pc := 81) (j := 1) dX6_readOpening_81 rfl rfl ?_
  refine sn_callV (ci := 6) (pc := 82) dX6_readOpening_82 iX6_open wt2_200 ws_9 wt2_198 ⟨_, rfl, rfl⟩ (by decide) (mX6_open a0 x1) (by decide) rfl rfl (Nat.le_of_ble_eq_true rfl) (fun v2001 => ?_)
  refine sn_aload_n (pc := 85) (j := 0) dX6_readOpening_85 rfl rfl ?_
  refine sn_gR (pc := 86) dX6_readOpening_86 flX6_14 rfl (fun v2002 => ?_)
  rcases v2002 with _ | a2003
  · exact sn_no
  refine sn_nn ?_
  refine sn_callV (ci := 8) (pc := 89) dX6_readOpening_89 iX8_step wt2_122 wt2_123 wt2_159 ⟨_, rfl, rfl⟩ (by decide) (mX8_step a2003) (by decide) rfl rfl (Nat.le_of_ble_eq_true rfl) (fun v2004 => ?_)
  refine sn_iconst (pc := 92) (v := 1) dX6_readOpening_92 (by decide) ?_
  exact sn_zret (pc := 93) dX6_readOpening_93 rfl
def fX6_readOpening_27 (a0 : Nat) (x1 : Int32) : St → Option (Bool × St) :=
 gR 7 a0 0 fun v1001 =>
 nn v1001 fun a1002 =>
 ck 9 a1002 <| cl (fX8_step a1002) fun v1003 =>
 gR 7 a0 0 fun v1004 =>
 nn v1004 fun a1005 =>
 ck 9 a1005 <| cl (fX8_isSign a1005 91) fun v1006 =>
 br ((bi v1006) = 0) (gR 7 a0 0 fun v1014 =>
 nn v1014 fun a1015 =>
 ck 9 a1015 <| cl (fX8_failHere a1015) fun v1016 =>
 rtZ (bi v1016))
 (gI 7 a0 1 fun v1007 =>
 br ((v1007 + 1) < 7) (fX6_readOpening_80  a0 x1)
 (gR 7 a0 0 fun v1008 =>
 gR 7 a0 0 fun v1009 =>
 nn v1009 fun a1011 =>
 gI 9 a1011 2 fun v1010 =>
 nn v1008 fun a1012 =>
 ck 9 a1012 <| cl (fX8_noteFault a1012 3 v1010) fun v1013 =>
 fX6_readOpening_80  a0 x1))
set_option maxHeartbeats 4000000 in
set_option maxRecDepth 100000 in
theorem sfX6_readOpening_27 {E : Ev} {l : Launch} (a0 : Nat) (x1 : Int32) : Snd E l (dpX6_readOpening, RX6, cX6_readOpening, 2, (some .boolean), "readOpening") rvZ 27 [(0, .ref (E.1 + a0)), (1, .int x1)] [] (fX6_readOpening_27 a0 x1) := by
  unfold fX6_readOpening_27
  refine sn_aload_n (pc := 27) (j := 0) dX6_readOpening_27 rfl rfl ?_
  refine sn_gR (pc := 28) dX6_readOpening_28 flX6_14 rfl (fun v1001 => ?_)
  rcases v1001 with _ | a1002
  · exact sn_no
  refine sn_nn ?_
  refine sn_callV (ci := 8) (pc := 31) dX6_readOpening_31 iX8_step wt2_122 wt2_123 wt2_159 ⟨_, rfl, rfl⟩ (by decide) (mX8_step a1002) (by decide) rfl rfl (Nat.le_of_ble_eq_true rfl) (fun v1003 => ?_)
  refine sn_aload_n (pc := 34) (j := 0) dX6_readOpening_34 rfl rfl ?_
  refine sn_gR (pc := 35) dX6_readOpening_35 flX6_14 rfl (fun v1004 => ?_)
  refine sn_bipush (pc := 38) (v := 91) dX6_readOpening_38 (by decide) ?_
  rcases v1004 with _ | a1005
  · exact sn_no
  refine sn_nn ?_
  refine sn_callV (ci := 8) (pc := 40) dX6_readOpening_40 iX8_isSign wt2_195 wt2_196 wt2_194 ⟨_, rfl, rfl⟩ (by decide) (mX8_isSign a1005 91) (by decide) rfl rfl (Nat.le_of_ble_eq_true rfl) (fun v1006 => ?_)
  refine sn_if_ne (pc := 43) (tgt := 54) dX6_readOpening_43 (by decide) ?_ ?_
  · refine sn_aload_n (pc := 54) (j := 0) dX6_readOpening_54 rfl rfl ?_
    refine sn_gI (pc := 55) dX6_readOpening_55 flX6_32 rfl (fun v1007 => ?_)
    refine sn_iconst (pc := 58) (v := 1) dX6_readOpening_58 (by decide) ?_
    refine sn_iadd (pc := 59) dX6_readOpening_59 ?_
    refine sn_bipush (pc := 60) (v := 7) dX6_readOpening_60 (by decide) ?_
    refine sn_icmp_lt (pc := 62) (tgt := 80) dX6_readOpening_62 (by decide) ?_ ?_
    · exact sn_sub (lv' := [(0, .ref (E.1 + a0)), (1, .int x1)]) [0, 1] rfl (sfX6_readOpening_80  a0 x1)
    · refine sn_aload_n (pc := 65) (j := 0) dX6_readOpening_65 rfl rfl ?_
      refine sn_gR (pc := 66) dX6_readOpening_66 flX6_14 rfl (fun v1008 => ?_)
      refine sn_iconst (pc := 69) (v := 3) dX6_readOpening_69 (by decide) ?_
      refine sn_aload_n (pc := 70) (j := 0) dX6_readOpening_70 rfl rfl ?_
      refine sn_gR (pc := 71) dX6_readOpening_71 flX6_14 rfl (fun v1009 => ?_)
      rcases v1009 with _ | a1011
      · exact sn_no
      refine sn_nn ?_
      refine sn_gI (pc := 74) dX6_readOpening_74 flX6_88 rfl (fun v1010 => ?_)
      rcases v1008 with _ | a1012
      · exact sn_no
      refine sn_nn ?_
      refine sn_callV (ci := 8) (pc := 77) dX6_readOpening_77 iX8_noteFault wt2_168 wt2_169 wt2_167 ⟨_, rfl, rfl⟩ (by decide) (mX8_noteFault a1012 3 v1010) (by decide) rfl rfl (Nat.le_of_ble_eq_true rfl) (fun v1013 => ?_)
      exact sn_sub (lv' := [(0, .ref (E.1 + a0)), (1, .int x1)]) [0, 1] rfl (sfX6_readOpening_80  a0 x1)
  · refine sn_aload_n (pc := 46) (j := 0) dX6_readOpening_46 rfl rfl ?_
    refine sn_gR (pc := 47) dX6_readOpening_47 flX6_14 rfl (fun v1014 => ?_)
    rcases v1014 with _ | a1015
    · exact sn_no
    refine sn_nn ?_
    refine sn_callV (ci := 8) (pc := 50) dX6_readOpening_50 iX8_failHere wt2_161 wt2_162 wt2_160 ⟨_, rfl, rfl⟩ (by decide) (mX8_failHere a1015) (by decide) rfl rfl (Nat.le_of_ble_eq_true rfl) (fun v1016 => ?_)
    exact sn_zret (pc := 53) dX6_readOpening_53 rfl
def fX6_readOpening (a0 : Nat) : St → Option (Bool × St) :=
 gR 7 a0 0 fun v1 =>
 nn v1 fun a3 =>
 gI 9 a3 1 fun v2 =>
 br (v2 = 0) (gR 7 a0 0 fun v4 =>
 gR 7 a0 0 fun v5 =>
 nn v5 fun a7 =>
 gI 9 a7 2 fun v6 =>
 nn v4 fun a8 =>
 ck 9 a8 <| cl (fX8_noteFault a8 2 v6) fun v9 =>
 fX6_readOpening_27  a0 v2)
 (fX6_readOpening_27  a0 v2)
set_option maxHeartbeats 4000000 in
set_option maxRecDepth 100000 in
theorem mX6_readOpening {E : Ev} {l : Launch} (a0 : Nat) : MF E l dpX6_readOpening yX6_readOpening cX6_readOpening 2 (some .boolean) rvZ [.ref (E.1 + a0)] (fX6_readOpening a0) := by
  refine MF.of (lv := [(0, .ref (E.1 + a0))]) (by decide) (Nat.le_of_ble_eq_true rfl) rfl ?_
  unfold fX6_readOpening
  refine sn_aload_n (pc := 0) (j := 0) dX6_readOpening_0 rfl rfl ?_
  refine sn_gR (pc := 1) dX6_readOpening_1 flX6_14 rfl (fun v1 => ?_)
  rcases v1 with _ | a3
  · exact sn_no
  refine sn_nn ?_
  refine sn_gI (pc := 4) dX6_readOpening_4 flX6_82 rfl (fun v2 => ?_)
  refine sn_istore_n (pc := 7) (i := 1) (lv' := [(1, .int v2), (0, .ref (E.1 + a0))]) dX6_readOpening_7 rfl (by decide) rfl ?_
  refine sn_iload_n (pc := 8) (j := 0) dX6_readOpening_8 rfl rfl ?_
  refine sn_if_ne (pc := 9) (tgt := 27) dX6_readOpening_9 (by decide) ?_ ?_
  · exact sn_sub (lv' := [(0, .ref (E.1 + a0)), (1, .int v2)]) [1, 0] rfl (sfX6_readOpening_27  a0 v2)
  · refine sn_aload_n (pc := 12) (j := 1) dX6_readOpening_12 rfl rfl ?_
    refine sn_gR (pc := 13) dX6_readOpening_13 flX6_14 rfl (fun v4 => ?_)
    refine sn_iconst (pc := 16) (v := 2) dX6_readOpening_16 (by decide) ?_
    refine sn_aload_n (pc := 17) (j := 1) dX6_readOpening_17 rfl rfl ?_
    refine sn_gR (pc := 18) dX6_readOpening_18 flX6_14 rfl (fun v5 => ?_)
    rcases v5 with _ | a7
    · exact sn_no
    refine sn_nn ?_
    refine sn_gI (pc := 21) dX6_readOpening_21 flX6_88 rfl (fun v6 => ?_)
    rcases v4 with _ | a8
    · exact sn_no
    refine sn_nn ?_
    refine sn_callV (ci := 8) (pc := 24) dX6_readOpening_24 iX8_noteFault wt2_168 wt2_169 wt2_167 ⟨_, rfl, rfl⟩ (by decide) (mX8_noteFault a8 2 v6) (by decide) rfl rfl (Nat.le_of_ble_eq_true rfl) (fun v9 => ?_)
    exact sn_sub (lv' := [(0, .ref (E.1 + a0)), (1, .int v2)]) [1, 0] rfl (sfX6_readOpening_27  a0 v2)
theorem iX6_readOpening : MI yX6_readOpening cX6_readOpening 2 (some .boolean) 0 := ⟨wt1_4, wt2_193, by decide +kernel, by decide⟩
-- NeedleHomes$PatternReader readStitches(I)Z
theorem dX6_readStitches_0 : decode cX6_readStitches 0 = .ok (.aload_n 0, 1) := by decide +kernel
theorem dX6_readStitches_1 : decode cX6_readStitches 1 = .ok (.getfield 14, 3) := by decide +kernel
theorem dX6_readStitches_4 : decode cX6_readStitches 4 = .ok (.invokevirtual 76, 3) := by decide +kernel
theorem dX6_readStitches_7 : decode cX6_readStitches 7 = .ok (.aload_n 0, 1) := by decide +kernel
theorem dX6_readStitches_8 : decode cX6_readStitches 8 = .ok (.getfield 14, 3) := by decide +kernel
theorem dX6_readStitches_11 : decode cX6_readStitches 11 = .ok (.getfield 40, 3) := by decide +kernel
theorem dX6_readStitches_14 : decode cX6_readStitches 14 = .ok (.iconst 2, 1) := by decide +kernel
theorem dX6_readStitches_15 : decode cX6_readStitches 15 = .ok (.if_icmp .eq 11, 3) := by decide +kernel
theorem dX6_readStitches_18 : decode cX6_readStitches 18 = .ok (.aload_n 0, 1) := by decide +kernel
theorem dX6_readStitches_19 : decode cX6_readStitches 19 = .ok (.getfield 14, 3) := by decide +kernel
theorem dX6_readStitches_22 : decode cX6_readStitches 22 = .ok (.invokevirtual 79, 3) := by decide +kernel
theorem dX6_readStitches_25 : decode cX6_readStitches 25 = .ok (.ireturn, 1) := by decide +kernel
theorem dX6_readStitches_26 : decode cX6_readStitches 26 = .ok (.aload_n 0, 1) := by decide +kernel
theorem dX6_readStitches_27 : decode cX6_readStitches 27 = .ok (.invokevirtual 91, 3) := by decide +kernel
theorem dX6_readStitches_30 : decode cX6_readStitches 30 = .ok (.ifCond .eq 29, 3) := by decide +kernel
theorem dX6_readStitches_33 : decode cX6_readStitches 33 = .ok (.aload_n 0, 1) := by decide +kernel
theorem dX6_readStitches_34 : decode cX6_readStitches 34 = .ok (.aload_n 0, 1) := by decide +kernel
theorem dX6_readStitches_35 : decode cX6_readStitches 35 = .ok (.getfield 32, 3) := by decide +kernel
theorem dX6_readStitches_38 : decode cX6_readStitches 38 = .ok (.iload_n 1, 1) := by decide +kernel
theorem dX6_readStitches_39 : decode cX6_readStitches 39 = .ok (.aload_n 0, 1) := by decide +kernel
theorem dX6_readStitches_40 : decode cX6_readStitches 40 = .ok (.getfield 22, 3) := by decide +kernel
theorem dX6_readStitches_43 : decode cX6_readStitches 43 = .ok (.aload_n 0, 1) := by decide +kernel
theorem dX6_readStitches_44 : decode cX6_readStitches 44 = .ok (.getfield 32, 3) := by decide +kernel
theorem dX6_readStitches_47 : decode cX6_readStitches 47 = .ok (.iaload, 1) := by decide +kernel
theorem dX6_readStitches_48 : decode cX6_readStitches 48 = .ok (.aload_n 0, 1) := by decide +kernel
theorem dX6_readStitches_49 : decode cX6_readStitches 49 = .ok (.getfield 14, 3) := by decide +kernel
theorem dX6_readStitches_52 : decode cX6_readStitches 52 = .ok (.getfield 82, 3) := by decide +kernel
theorem dX6_readStitches_55 : decode cX6_readStitches 55 = .ok (.i2l, 1) := by decide +kernel
theorem dX6_readStitches_56 : decode cX6_readStitches 56 = .ok (.invokevirtual 94, 3) := by decide +kernel
theorem dX6_readStitches_59 : decode cX6_readStitches 59 = .ok (.aload_n 0, 1) := by decide +kernel
theorem dX6_readStitches_60 : decode cX6_readStitches 60 = .ok (.getfield 14, 3) := by decide +kernel
theorem dX6_readStitches_63 : decode cX6_readStitches 63 = .ok (.invokevirtual 76, 3) := by decide +kernel
theorem dX6_readStitches_66 : decode cX6_readStitches 66 = .ok (.iconst 1, 1) := by decide +kernel
theorem dX6_readStitches_67 : decode cX6_readStitches 67 = .ok (.ireturn, 1) := by decide +kernel
abbrev dpX6_readStitches : Nat := 3
def fX6_readStitches_59 (a0 : Nat) : St → Option (Bool × St) :=
 gR 7 a0 0 fun v1001 =>
 nn v1001 fun a1002 =>
 ck 9 a1002 <| cl (fX8_step a1002) fun v1003 =>
 rtZ 1
set_option maxHeartbeats 4000000 in
set_option maxRecDepth 100000 in
theorem sfX6_readStitches_59 {E : Ev} {l : Launch} (a0 : Nat) : Snd E l (dpX6_readStitches, RX6, cX6_readStitches, 2, (some .boolean), "readStitches") rvZ 59 [(0, .ref (E.1 + a0))] [] (fX6_readStitches_59 a0) := by
  unfold fX6_readStitches_59
  refine sn_aload_n (pc := 59) (j := 0) dX6_readStitches_59 rfl rfl ?_
  refine sn_gR (pc := 60) dX6_readStitches_60 flX6_14 rfl (fun v1001 => ?_)
  rcases v1001 with _ | a1002
  · exact sn_no
  refine sn_nn ?_
  refine sn_callV (ci := 8) (pc := 63) dX6_readStitches_63 iX8_step wt2_122 wt2_123 wt2_159 ⟨_, rfl, rfl⟩ (by decide) (mX8_step a1002) (by decide) rfl rfl (Nat.le_of_ble_eq_true rfl) (fun v1003 => ?_)
  refine sn_iconst (pc := 66) (v := 1) dX6_readStitches_66 (by decide) ?_
  exact sn_zret (pc := 67) dX6_readStitches_67 rfl
def fX6_readStitches (a0 : Nat) (x1 : Int32) : St → Option (Bool × St) :=
 gR 7 a0 0 fun v1 =>
 nn v1 fun a2 =>
 ck 9 a2 <| cl (fX8_step a2) fun v3 =>
 gR 7 a0 0 fun v4 =>
 nn v4 fun a6 =>
 gI 9 a6 0 fun v5 =>
 br (v5 = 2) (ck 7 a0 <| cl (fX6_isCounting a0) fun v7 =>
 br ((bi v7) = 0) (fX6_readStitches_59  a0)
 (gI 7 a0 1 fun v8 =>
 gR 7 a0 3 fun v9 =>
 gI 7 a0 1 fun v10 =>
 nn v9 fun a12 =>
 aI 15 a12 v10 fun v11 =>
 gR 7 a0 0 fun v13 =>
 nn v13 fun a15 =>
 gI 9 a15 1 fun v14 =>
 ck 7 a0 <| cl (fX6_addTo a0 v8 x1 v11 v14.toInt64) fun v16 =>
 fX6_readStitches_59  a0))
 (gR 7 a0 0 fun v17 =>
 nn v17 fun a18 =>
 ck 9 a18 <| cl (fX8_failHere a18) fun v19 =>
 rtZ (bi v19))
set_option maxHeartbeats 4000000 in
set_option maxRecDepth 100000 in
theorem mX6_readStitches {E : Ev} {l : Launch} (a0 : Nat) (x1 : Int32) : MF E l dpX6_readStitches yX6_readStitches cX6_readStitches 2 (some .boolean) rvZ [.ref (E.1 + a0), .int x1] (fX6_readStitches a0 x1) := by
  refine MF.of (lv := [(0, .ref (E.1 + a0)), (1, .int x1)]) (by decide) (Nat.le_of_ble_eq_true rfl) rfl ?_
  unfold fX6_readStitches
  refine sn_aload_n (pc := 0) (j := 0) dX6_readStitches_0 rfl rfl ?_
  refine sn_gR (pc := 1) dX6_readStitches_1 flX6_14 rfl (fun v1 => ?_)
  rcases v1 with _ | a2
  · exact sn_no
  refine sn_nn ?_
  refine sn_callV (ci := 8) (pc := 4) dX6_readStitches_4 iX8_step wt2_122 wt2_123 wt2_159 ⟨_, rfl, rfl⟩ (by decide) (mX8_step a2) (by decide) rfl rfl (Nat.le_of_ble_eq_true rfl) (fun v3 => ?_)
  refine sn_aload_n (pc := 7) (j := 0) dX6_readStitches_7 rfl rfl ?_
  refine sn_gR (pc := 8) dX6_readStitches_8 flX6_14 rfl (fun v4 => ?_)
  rcases v4 with _ | a6
  · exact sn_no
  refine sn_nn ?_
  refine sn_gI (pc := 11) dX6_readStitches_11 flX6_40 rfl (fun v5 => ?_)
  refine sn_iconst (pc := 14) (v := 2) dX6_readStitches_14 (by decide) ?_
  refine sn_icmp_eq (pc := 15) (tgt := 26) dX6_readStitches_15 (by decide) ?_ ?_
  · refine sn_aload_n (pc := 26) (j := 0) dX6_readStitches_26 rfl rfl ?_
    refine sn_callV (ci := 6) (pc := 27) dX6_readStitches_27 iX6_isCounting wt2_173 ws_5 wt2_171 ⟨_, rfl, rfl⟩ (by decide) (mX6_isCounting a0) (by decide) rfl rfl (Nat.le_of_ble_eq_true rfl) (fun v7 => ?_)
    refine sn_if_eq (pc := 30) (tgt := 59) dX6_readStitches_30 (by decide) ?_ ?_
    · exact sn_sub (lv' := [(0, .ref (E.1 + a0))]) [0] rfl (sfX6_readStitches_59  a0)
    · refine sn_aload_n (pc := 33) (j := 0) dX6_readStitches_33 rfl rfl ?_
      refine sn_aload_n (pc := 34) (j := 0) dX6_readStitches_34 rfl rfl ?_
      refine sn_gI (pc := 35) dX6_readStitches_35 flX6_32 rfl (fun v8 => ?_)
      refine sn_iload_n (pc := 38) (j := 1) dX6_readStitches_38 rfl rfl ?_
      refine sn_aload_n (pc := 39) (j := 0) dX6_readStitches_39 rfl rfl ?_
      refine sn_gR (pc := 40) dX6_readStitches_40 flX6_22 rfl (fun v9 => ?_)
      refine sn_aload_n (pc := 43) (j := 0) dX6_readStitches_43 rfl rfl ?_
      refine sn_gI (pc := 44) dX6_readStitches_44 flX6_32 rfl (fun v10 => ?_)
      rcases v9 with _ | a12
      · exact sn_no
      refine sn_nn ?_
      refine sn_iald (pc := 47) dX6_readStitches_47 (fun v11 => ?_)
      refine sn_aload_n (pc := 48) (j := 0) dX6_readStitches_48 rfl rfl ?_
      refine sn_gR (pc := 49) dX6_readStitches_49 flX6_14 rfl (fun v13 => ?_)
      rcases v13 with _ | a15
      · exact sn_no
      refine sn_nn ?_
      refine sn_gI (pc := 52) dX6_readStitches_52 flX6_82 rfl (fun v14 => ?_)
      refine sn_i2l (pc := 55) dX6_readStitches_55 ?_
      refine sn_callV (ci := 6) (pc := 56) dX6_readStitches_56 iX6_addTo wt2_181 ws_7 wt2_179 ⟨_, rfl, rfl⟩ (by decide) (mX6_addTo a0 v8 x1 v11 v14.toInt64) (by decide) rfl rfl (Nat.le_of_ble_eq_true rfl) (fun v16 => ?_)
      exact sn_sub (lv' := [(0, .ref (E.1 + a0))]) [0] rfl (sfX6_readStitches_59  a0)
  · refine sn_aload_n (pc := 18) (j := 0) dX6_readStitches_18 rfl rfl ?_
    refine sn_gR (pc := 19) dX6_readStitches_19 flX6_14 rfl (fun v17 => ?_)
    rcases v17 with _ | a18
    · exact sn_no
    refine sn_nn ?_
    refine sn_callV (ci := 8) (pc := 22) dX6_readStitches_22 iX8_failHere wt2_161 wt2_162 wt2_160 ⟨_, rfl, rfl⟩ (by decide) (mX8_failHere a18) (by decide) rfl rfl (Nat.le_of_ble_eq_true rfl) (fun v19 => ?_)
    exact sn_zret (pc := 25) dX6_readStitches_25 rfl
theorem iX6_readStitches : MI yX6_readStitches cX6_readStitches 2 (some .boolean) 1 := ⟨wt1_4, wt2_178, by decide +kernel, by decide⟩
-- NeedleHomes$Reader onlyLetter()I
theorem dX8_onlyLetter_0 : decode cX8_onlyLetter 0 = .ok (.aload_n 0, 1) := by decide +kernel
theorem dX8_onlyLetter_1 : decode cX8_onlyLetter 1 = .ok (.getfield 50, 3) := by decide +kernel
theorem dX8_onlyLetter_4 : decode cX8_onlyLetter 4 = .ok (.iconst 1, 1) := by decide +kernel
theorem dX8_onlyLetter_5 : decode cX8_onlyLetter 5 = .ok (.if_icmp .ne 27, 3) := by decide +kernel
theorem dX8_onlyLetter_8 : decode cX8_onlyLetter 8 = .ok (.aload_n 0, 1) := by decide +kernel
theorem dX8_onlyLetter_9 : decode cX8_onlyLetter 9 = .ok (.getfield 28, 3) := by decide +kernel
theorem dX8_onlyLetter_12 : decode cX8_onlyLetter 12 = .ok (.aload_n 0, 1) := by decide +kernel
theorem dX8_onlyLetter_13 : decode cX8_onlyLetter 13 = .ok (.getfield 44, 3) := by decide +kernel
theorem dX8_onlyLetter_16 : decode cX8_onlyLetter 16 = .ok (.isub, 1) := by decide +kernel
theorem dX8_onlyLetter_17 : decode cX8_onlyLetter 17 = .ok (.iconst 1, 1) := by decide +kernel
theorem dX8_onlyLetter_18 : decode cX8_onlyLetter 18 = .ok (.if_icmp .ne 14, 3) := by decide +kernel
theorem dX8_onlyLetter_21 : decode cX8_onlyLetter 21 = .ok (.aload_n 0, 1) := by decide +kernel
theorem dX8_onlyLetter_22 : decode cX8_onlyLetter 22 = .ok (.aload_n 0, 1) := by decide +kernel
theorem dX8_onlyLetter_23 : decode cX8_onlyLetter 23 = .ok (.getfield 44, 3) := by decide +kernel
theorem dX8_onlyLetter_26 : decode cX8_onlyLetter 26 = .ok (.invokevirtual 40, 3) := by decide +kernel
theorem dX8_onlyLetter_29 : decode cX8_onlyLetter 29 = .ok (.goto 4, 3) := by decide +kernel
theorem dX8_onlyLetter_32 : decode cX8_onlyLetter 32 = .ok (.iconst (-1), 1) := by decide +kernel
theorem dX8_onlyLetter_33 : decode cX8_onlyLetter 33 = .ok (.ireturn, 1) := by decide +kernel
abbrev dpX8_onlyLetter : Nat := 1
def fX8_onlyLetter (a0 : Nat) : St → Option (Int32 × St) :=
 gI 9 a0 0 fun v1 =>
 br (v1 = 1) (gI 9 a0 7 fun v2 =>
 gI 9 a0 2 fun v3 =>
 br ((v2 - v3) = 1) (gI 9 a0 2 fun v4 =>
 ck 9 a0 <| cl (fX8_byteAt a0 v4) fun v5 =>
 rt v5)
 (rt (-1)))
 (rt (-1))
set_option maxHeartbeats 4000000 in
set_option maxRecDepth 100000 in
theorem mX8_onlyLetter {E : Ev} {l : Launch} (a0 : Nat) : MF E l dpX8_onlyLetter yX8_onlyLetter cX8_onlyLetter 1 (some .int) rvI [.ref (E.1 + a0)] (fX8_onlyLetter a0) := by
  refine MF.of (lv := [(0, .ref (E.1 + a0))]) (by decide) (Nat.le_of_ble_eq_true rfl) rfl ?_
  unfold fX8_onlyLetter
  refine sn_aload_n (pc := 0) (j := 0) dX8_onlyLetter_0 rfl rfl ?_
  refine sn_gI (pc := 1) dX8_onlyLetter_1 flX8_50 rfl (fun v1 => ?_)
  refine sn_iconst (pc := 4) (v := 1) dX8_onlyLetter_4 (by decide) ?_
  refine sn_icmp_ne (pc := 5) (tgt := 32) dX8_onlyLetter_5 (by decide) ?_ ?_
  · refine sn_iconst (pc := 32) (v := (-1)) dX8_onlyLetter_32 (by decide) ?_
    exact sn_iret (pc := 33) dX8_onlyLetter_33 rfl
  · refine sn_aload_n (pc := 8) (j := 0) dX8_onlyLetter_8 rfl rfl ?_
    refine sn_gI (pc := 9) dX8_onlyLetter_9 flX8_28 rfl (fun v2 => ?_)
    refine sn_aload_n (pc := 12) (j := 0) dX8_onlyLetter_12 rfl rfl ?_
    refine sn_gI (pc := 13) dX8_onlyLetter_13 flX8_44 rfl (fun v3 => ?_)
    refine sn_isub (pc := 16) dX8_onlyLetter_16 ?_
    refine sn_iconst (pc := 17) (v := 1) dX8_onlyLetter_17 (by decide) ?_
    refine sn_icmp_ne (pc := 18) (tgt := 32) dX8_onlyLetter_18 (by decide) ?_ ?_
    · refine sn_iconst (pc := 32) (v := (-1)) dX8_onlyLetter_32 (by decide) ?_
      exact sn_iret (pc := 33) dX8_onlyLetter_33 rfl
    · refine sn_aload_n (pc := 21) (j := 0) dX8_onlyLetter_21 rfl rfl ?_
      refine sn_aload_n (pc := 22) (j := 0) dX8_onlyLetter_22 rfl rfl ?_
      refine sn_gI (pc := 23) dX8_onlyLetter_23 flX8_44 rfl (fun v4 => ?_)
      refine sn_callV (ci := 8) (pc := 26) dX8_onlyLetter_26 iX8_byteAt wt2_127 ws_0 wt2_125 ⟨_, rfl, rfl⟩ (by decide) (mX8_byteAt a0 v4) (by decide) rfl rfl (Nat.le_of_ble_eq_true rfl) (fun v5 => ?_)
      refine sn_goto (pc := 29) (tgt := 33) dX8_onlyLetter_29 (by decide) ?_
      exact sn_iret (pc := 33) dX8_onlyLetter_33 rfl
theorem iX8_onlyLetter : MI yX8_onlyLetter cX8_onlyLetter 1 (some .int) 0 := ⟨wt1_5, wt2_154, by decide +kernel, by decide⟩
-- NeedleHomes$PatternReader readItem()Z
theorem dX6_readItem_0 : decode cX6_readItem 0 = .ok (.aload_n 0, 1) := by decide +kernel
theorem dX6_readItem_1 : decode cX6_readItem 1 = .ok (.getfield 14, 3) := by decide +kernel
theorem dX6_readItem_4 : decode cX6_readItem 4 = .ok (.invokevirtual 56, 3) := by decide +kernel
theorem dX6_readItem_7 : decode cX6_readItem 7 = .ok (.istore_n 1, 1) := by decide +kernel
theorem dX6_readItem_8 : decode cX6_readItem 8 = .ok (.iload_n 1, 1) := by decide +kernel
theorem dX6_readItem_9 : decode cX6_readItem 9 = .ok (.bipush 107, 2) := by decide +kernel
theorem dX6_readItem_11 : decode cX6_readItem 11 = .ok (.if_icmp .ne 8, 3) := by decide +kernel
theorem dX6_readItem_14 : decode cX6_readItem 14 = .ok (.aload_n 0, 1) := by decide +kernel
theorem dX6_readItem_15 : decode cX6_readItem 15 = .ok (.invokevirtual 59, 3) := by decide +kernel
theorem dX6_readItem_18 : decode cX6_readItem 18 = .ok (.ireturn, 1) := by decide +kernel
theorem dX6_readItem_19 : decode cX6_readItem 19 = .ok (.iload_n 1, 1) := by decide +kernel
theorem dX6_readItem_20 : decode cX6_readItem 20 = .ok (.bipush 97, 2) := by decide +kernel
theorem dX6_readItem_22 : decode cX6_readItem 22 = .ok (.if_icmp .lt 18, 3) := by decide +kernel
theorem dX6_readItem_25 : decode cX6_readItem 25 = .ok (.iload_n 1, 1) := by decide +kernel
theorem dX6_readItem_26 : decode cX6_readItem 26 = .ok (.bipush 102, 2) := by decide +kernel
theorem dX6_readItem_28 : decode cX6_readItem 28 = .ok (.if_icmp .gt 12, 3) := by decide +kernel
theorem dX6_readItem_31 : decode cX6_readItem 31 = .ok (.aload_n 0, 1) := by decide +kernel
theorem dX6_readItem_32 : decode cX6_readItem 32 = .ok (.iload_n 1, 1) := by decide +kernel
theorem dX6_readItem_33 : decode cX6_readItem 33 = .ok (.bipush 97, 2) := by decide +kernel
theorem dX6_readItem_35 : decode cX6_readItem 35 = .ok (.isub, 1) := by decide +kernel
theorem dX6_readItem_36 : decode cX6_readItem 36 = .ok (.invokevirtual 62, 3) := by decide +kernel
theorem dX6_readItem_39 : decode cX6_readItem 39 = .ok (.ireturn, 1) := by decide +kernel
theorem dX6_readItem_40 : decode cX6_readItem 40 = .ok (.aload_n 0, 1) := by decide +kernel
theorem dX6_readItem_41 : decode cX6_readItem 41 = .ok (.getfield 14, 3) := by decide +kernel
theorem dX6_readItem_44 : decode cX6_readItem 44 = .ok (.getfield 40, 3) := by decide +kernel
theorem dX6_readItem_47 : decode cX6_readItem 47 = .ok (.iconst 2, 1) := by decide +kernel
theorem dX6_readItem_48 : decode cX6_readItem 48 = .ok (.if_icmp .ne 8, 3) := by decide +kernel
theorem dX6_readItem_51 : decode cX6_readItem 51 = .ok (.aload_n 0, 1) := by decide +kernel
theorem dX6_readItem_52 : decode cX6_readItem 52 = .ok (.invokevirtual 66, 3) := by decide +kernel
theorem dX6_readItem_55 : decode cX6_readItem 55 = .ok (.ireturn, 1) := by decide +kernel
theorem dX6_readItem_56 : decode cX6_readItem 56 = .ok (.aload_n 0, 1) := by decide +kernel
theorem dX6_readItem_57 : decode cX6_readItem 57 = .ok (.getfield 14, 3) := by decide +kernel
theorem dX6_readItem_60 : decode cX6_readItem 60 = .ok (.bipush 93, 2) := by decide +kernel
theorem dX6_readItem_62 : decode cX6_readItem 62 = .ok (.invokevirtual 69, 3) := by decide +kernel
theorem dX6_readItem_65 : decode cX6_readItem 65 = .ok (.ifCond .eq 23, 3) := by decide +kernel
theorem dX6_readItem_68 : decode cX6_readItem 68 = .ok (.aload_n 0, 1) := by decide +kernel
theorem dX6_readItem_69 : decode cX6_readItem 69 = .ok (.getfield 32, 3) := by decide +kernel
theorem dX6_readItem_72 : decode cX6_readItem 72 = .ok (.ifCond .le 16, 3) := by decide +kernel
theorem dX6_readItem_75 : decode cX6_readItem 75 = .ok (.aload_n 0, 1) := by decide +kernel
theorem dX6_readItem_76 : decode cX6_readItem 76 = .ok (.invokevirtual 73, 3) := by decide +kernel
theorem dX6_readItem_79 : decode cX6_readItem 79 = .ok (.aload_n 0, 1) := by decide +kernel
theorem dX6_readItem_80 : decode cX6_readItem 80 = .ok (.getfield 14, 3) := by decide +kernel
theorem dX6_readItem_83 : decode cX6_readItem 83 = .ok (.invokevirtual 76, 3) := by decide +kernel
theorem dX6_readItem_86 : decode cX6_readItem 86 = .ok (.iconst 1, 1) := by decide +kernel
theorem dX6_readItem_87 : decode cX6_readItem 87 = .ok (.ireturn, 1) := by decide +kernel
theorem dX6_readItem_88 : decode cX6_readItem 88 = .ok (.aload_n 0, 1) := by decide +kernel
theorem dX6_readItem_89 : decode cX6_readItem 89 = .ok (.getfield 14, 3) := by decide +kernel
theorem dX6_readItem_92 : decode cX6_readItem 92 = .ok (.invokevirtual 79, 3) := by decide +kernel
theorem dX6_readItem_95 : decode cX6_readItem 95 = .ok (.ireturn, 1) := by decide +kernel
abbrev dpX6_readItem : Nat := 4
def fX6_readItem_88 (a0 : Nat) : St → Option (Bool × St) :=
 gR 7 a0 0 fun v2001 =>
 nn v2001 fun a2002 =>
 ck 9 a2002 <| cl (fX8_failHere a2002) fun v2003 =>
 rtZ (bi v2003)
set_option maxHeartbeats 4000000 in
set_option maxRecDepth 100000 in
theorem sfX6_readItem_88 {E : Ev} {l : Launch} (a0 : Nat) : Snd E l (dpX6_readItem, RX6, cX6_readItem, 2, (some .boolean), "readItem") rvZ 88 [(0, .ref (E.1 + a0))] [] (fX6_readItem_88 a0) := by
  unfold fX6_readItem_88
  refine sn_aload_n (pc := 88) (j := 0) dX6_readItem_88 rfl rfl ?_
  refine sn_gR (pc := 89) dX6_readItem_89 flX6_14 rfl (fun v2001 => ?_)
  rcases v2001 with _ | a2002
  · exact sn_no
  refine sn_nn ?_
  refine sn_callV (ci := 8) (pc := 92) dX6_readItem_92 iX8_failHere wt2_161 wt2_162 wt2_160 ⟨_, rfl, rfl⟩ (by decide) (mX8_failHere a2002) (by decide) rfl rfl (Nat.le_of_ble_eq_true rfl) (fun v2003 => ?_)
  exact sn_zret (pc := 95) dX6_readItem_95 rfl
def fX6_readItem_40 (a0 : Nat) : St → Option (Bool × St) :=
 gR 7 a0 0 fun v1001 =>
 nn v1001 fun a1003 =>
 gI 9 a1003 0 fun v1002 =>
 br (v1002 = 2) (ck 7 a0 <| cl (fX6_readOpening a0) fun v1012 =>
 rtZ (bi v1012))
 (gR 7 a0 0 fun v1004 =>
 nn v1004 fun a1005 =>
 ck 9 a1005 <| cl (fX8_isSign a1005 93) fun v1006 =>
 br ((bi v1006) = 0) (fX6_readItem_88  a0)
 (gI 7 a0 1 fun v1007 =>
 br (v1007 ≤ 0) (fX6_readItem_88  a0)
 (ck 7 a0 <| cl (fX6_close a0) fun v1008 =>
 gR 7 a0 0 fun v1009 =>
 nn v1009 fun a1010 =>
 ck 9 a1010 <| cl (fX8_step a1010) fun v1011 =>
 rtZ 1)))
set_option maxHeartbeats 4000000 in
set_option maxRecDepth 100000 in
theorem sfX6_readItem_40 {E : Ev} {l : Launch} (a0 : Nat) : Snd E l (dpX6_readItem, RX6, cX6_readItem, 2, (some .boolean), "readItem") rvZ 40 [(0, .ref (E.1 + a0))] [] (fX6_readItem_40 a0) := by
  unfold fX6_readItem_40
  refine sn_aload_n (pc := 40) (j := 0) dX6_readItem_40 rfl rfl ?_
  refine sn_gR (pc := 41) dX6_readItem_41 flX6_14 rfl (fun v1001 => ?_)
  rcases v1001 with _ | a1003
  · exact sn_no
  refine sn_nn ?_
  refine sn_gI (pc := 44) dX6_readItem_44 flX6_40 rfl (fun v1002 => ?_)
  refine sn_iconst (pc := 47) (v := 2) dX6_readItem_47 (by decide) ?_
  refine sn_icmp_ne (pc := 48) (tgt := 56) dX6_readItem_48 (by decide) ?_ ?_
  · refine sn_aload_n (pc := 56) (j := 0) dX6_readItem_56 rfl rfl ?_
    refine sn_gR (pc := 57) dX6_readItem_57 flX6_14 rfl (fun v1004 => ?_)
    refine sn_bipush (pc := 60) (v := 93) dX6_readItem_60 (by decide) ?_
    rcases v1004 with _ | a1005
    · exact sn_no
    refine sn_nn ?_
    refine sn_callV (ci := 8) (pc := 62) dX6_readItem_62 iX8_isSign wt2_195 wt2_196 wt2_194 ⟨_, rfl, rfl⟩ (by decide) (mX8_isSign a1005 93) (by decide) rfl rfl (Nat.le_of_ble_eq_true rfl) (fun v1006 => ?_)
    refine sn_if_eq (pc := 65) (tgt := 88) dX6_readItem_65 (by decide) ?_ ?_
    · exact sn_sub (lv' := [(0, .ref (E.1 + a0))]) [0] rfl (sfX6_readItem_88  a0)
    · refine sn_aload_n (pc := 68) (j := 0) dX6_readItem_68 rfl rfl ?_
      refine sn_gI (pc := 69) dX6_readItem_69 flX6_32 rfl (fun v1007 => ?_)
      refine sn_if_le (pc := 72) (tgt := 88) dX6_readItem_72 (by decide) ?_ ?_
      · exact sn_sub (lv' := [(0, .ref (E.1 + a0))]) [0] rfl (sfX6_readItem_88  a0)
      · refine sn_aload_n (pc := 75) (j := 0) dX6_readItem_75 rfl rfl ?_
        refine sn_callV (ci := 6) (pc := 76) dX6_readItem_76 iX6_close wt2_204 ws_10 wt2_202 ⟨_, rfl, rfl⟩ (by decide) (mX6_close a0) (by decide) rfl rfl (Nat.le_of_ble_eq_true rfl) (fun v1008 => ?_)
        refine sn_aload_n (pc := 79) (j := 0) dX6_readItem_79 rfl rfl ?_
        refine sn_gR (pc := 80) dX6_readItem_80 flX6_14 rfl (fun v1009 => ?_)
        rcases v1009 with _ | a1010
        · exact sn_no
        refine sn_nn ?_
        refine sn_callV (ci := 8) (pc := 83) dX6_readItem_83 iX8_step wt2_122 wt2_123 wt2_159 ⟨_, rfl, rfl⟩ (by decide) (mX8_step a1010) (by decide) rfl rfl (Nat.le_of_ble_eq_true rfl) (fun v1011 => ?_)
        refine sn_iconst (pc := 86) (v := 1) dX6_readItem_86 (by decide) ?_
        exact sn_zret (pc := 87) dX6_readItem_87 rfl
  · refine sn_aload_n (pc := 51) (j := 0) dX6_readItem_51 rfl rfl ?_
    refine sn_callV (ci := 6) (pc := 52) dX6_readItem_52 iX6_readOpening wt2_192 ws_8 wt2_190 ⟨_, rfl, rfl⟩ (by decide) (mX6_readOpening a0) (by decide) rfl rfl (Nat.le_of_ble_eq_true rfl) (fun v1012 => ?_)
    exact sn_zret (pc := 55) dX6_readItem_55 rfl
def fX6_readItem (a0 : Nat) : St → Option (Bool × St) :=
 gR 7 a0 0 fun v1 =>
 nn v1 fun a2 =>
 ck 9 a2 <| cl (fX8_onlyLetter a2) fun v3 =>
 br (v3 = 107) (ck 7 a0 <| cl (fX6_readColour a0) fun v5 =>
 rtZ (bi v5))
 (br (v3 < 97) (fX6_readItem_40  a0)
 (br (102 < v3) (fX6_readItem_40  a0)
 (ck 7 a0 <| cl (fX6_readStitches a0 (v3 - 97)) fun v4 =>
 rtZ (bi v4))))
set_option maxHeartbeats 4000000 in
set_option maxRecDepth 100000 in
theorem mX6_readItem {E : Ev} {l : Launch} (a0 : Nat) : MF E l dpX6_readItem yX6_readItem cX6_readItem 2 (some .boolean) rvZ [.ref (E.1 + a0)] (fX6_readItem a0) := by
  refine MF.of (lv := [(0, .ref (E.1 + a0))]) (by decide) (Nat.le_of_ble_eq_true rfl) rfl ?_
  unfold fX6_readItem
  refine sn_aload_n (pc := 0) (j := 0) dX6_readItem_0 rfl rfl ?_
  refine sn_gR (pc := 1) dX6_readItem_1 flX6_14 rfl (fun v1 => ?_)
  rcases v1 with _ | a2
  · exact sn_no
  refine sn_nn ?_
  refine sn_callV (ci := 8) (pc := 4) dX6_readItem_4 iX8_onlyLetter wt2_152 wt2_153 wt2_151 ⟨_, rfl, rfl⟩ (by decide) (mX8_onlyLetter a2) (by decide) rfl rfl (Nat.le_of_ble_eq_true rfl) (fun v3 => ?_)
  refine sn_istore_n (pc := 7) (i := 1) (lv' := [(1, .int v3), (0, .ref (E.1 + a0))]) dX6_readItem_7 rfl (by decide) rfl ?_
  refine sn_iload_n (pc := 8) (j := 0) dX6_readItem_8 rfl rfl ?_
  refine sn_bipush (pc := 9) (v := 107) dX6_readItem_9 (by decide) ?_
  refine sn_icmp_ne (pc := 11) (tgt := 19) dX6_readItem_11 (by decide) ?_ ?_
  · refine sn_iload_n (pc := 19) (j := 0) dX6_readItem_19 rfl rfl ?_
    refine sn_bipush (pc := 20) (v := 97) dX6_readItem_20 (by decide) ?_
    refine sn_icmp_lt (pc := 22) (tgt := 40) dX6_readItem_22 (by decide) ?_ ?_
    · exact sn_sub (lv' := [(0, .ref (E.1 + a0))]) [1] rfl (sfX6_readItem_40  a0)
    · refine sn_iload_n (pc := 25) (j := 0) dX6_readItem_25 rfl rfl ?_
      refine sn_bipush (pc := 26) (v := 102) dX6_readItem_26 (by decide) ?_
      refine sn_icmp_gt (pc := 28) (tgt := 40) dX6_readItem_28 (by decide) ?_ ?_
      · exact sn_sub (lv' := [(0, .ref (E.1 + a0))]) [1] rfl (sfX6_readItem_40  a0)
      · refine sn_aload_n (pc := 31) (j := 1) dX6_readItem_31 rfl rfl ?_
        refine sn_iload_n (pc := 32) (j := 0) dX6_readItem_32 rfl rfl ?_
        refine sn_bipush (pc := 33) (v := 97) dX6_readItem_33 (by decide) ?_
        refine sn_isub (pc := 35) dX6_readItem_35 ?_
        refine sn_callV (ci := 6) (pc := 36) dX6_readItem_36 iX6_readStitches wt2_177 ws_6 wt2_175 ⟨_, rfl, rfl⟩ (by decide) (mX6_readStitches a0 (v3 - 97)) (by decide) rfl rfl (Nat.le_of_ble_eq_true rfl) (fun v4 => ?_)
        exact sn_zret (pc := 39) dX6_readItem_39 rfl
  · refine sn_aload_n (pc := 14) (j := 1) dX6_readItem_14 rfl rfl ?_
    refine sn_callV (ci := 6) (pc := 15) dX6_readItem_15 iX6_readColour wt2_157 ws_4 wt2_155 ⟨_, rfl, rfl⟩ (by decide) (mX6_readColour a0) (by decide) rfl rfl (Nat.le_of_ble_eq_true rfl) (fun v5 => ?_)
    exact sn_zret (pc := 18) dX6_readItem_18 rfl
theorem iX6_readItem : MI yX6_readItem cX6_readItem 2 (some .boolean) 0 := ⟨wt1_4, wt2_150, by decide +kernel, by decide⟩
