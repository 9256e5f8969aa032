-- NeedleHomes$World copyTexts(LNeedleHomes$World;)V
theorem dX10_copyTexts_0 : decode cX10_copyTexts 0 = .ok (.aload_n 0, 1) := by decide +kernel
theorem dX10_copyTexts_1 : decode cX10_copyTexts 1 = .ok (.aload_n 1, 1) := by decide +kernel
theorem dX10_copyTexts_2 : decode cX10_copyTexts 2 = .ok (.getfield 81, 3) := by decide +kernel
theorem dX10_copyTexts_5 : decode cX10_copyTexts 5 = .ok (.putfield 81, 3) := by decide +kernel
theorem dX10_copyTexts_8 : decode cX10_copyTexts 8 = .ok (.iconst 0, 1) := by decide +kernel
theorem dX10_copyTexts_9 : decode cX10_copyTexts 9 = .ok (.istore_n 2, 1) := by decide +kernel
theorem dX10_copyTexts_10 : decode cX10_copyTexts 10 = .ok (.iload_n 2, 1) := by decide +kernel
theorem dX10_copyTexts_11 : decode cX10_copyTexts 11 = .ok (.bipush 8, 2) := by decide +kernel
theorem dX10_copyTexts_13 : decode cX10_copyTexts 13 = .ok (.if_icmp .ge 21, 3) := by decide +kernel
theorem dX10_copyTexts_16 : decode cX10_copyTexts 16 = .ok (.aload_n 0, 1) := by decide +kernel
theorem dX10_copyTexts_17 : decode cX10_copyTexts 17 = .ok (.getfield 21, 3) := by decide +kernel
theorem dX10_copyTexts_20 : decode cX10_copyTexts 20 = .ok (.iload_n 2, 1) := by decide +kernel
theorem dX10_copyTexts_21 : decode cX10_copyTexts 21 = .ok (.aload_n 1, 1) := by decide +kernel
theorem dX10_copyTexts_22 : decode cX10_copyTexts 22 = .ok (.getfield 21, 3) := by decide +kernel
theorem dX10_copyTexts_25 : decode cX10_copyTexts 25 = .ok (.iload_n 2, 1) := by decide +kernel
theorem dX10_copyTexts_26 : decode cX10_copyTexts 26 = .ok (.aaload, 1) := by decide +kernel
theorem dX10_copyTexts_27 : decode cX10_copyTexts 27 = .ok (.aastore, 1) := by decide +kernel
theorem dX10_copyTexts_28 : decode cX10_copyTexts 28 = .ok (.iinc 2 1, 3) := by decide +kernel
theorem dX10_copyTexts_31 : decode cX10_copyTexts 31 = .ok (.goto (-21), 3) := by decide +kernel
theorem dX10_copyTexts_34 : decode cX10_copyTexts 34 = .ok (.aload_n 0, 1) := by decide +kernel
theorem dX10_copyTexts_35 : decode cX10_copyTexts 35 = .ok (.aload_n 1, 1) := by decide +kernel
theorem dX10_copyTexts_36 : decode cX10_copyTexts 36 = .ok (.getfield 84, 3) := by decide +kernel
theorem dX10_copyTexts_39 : decode cX10_copyTexts 39 = .ok (.putfield 84, 3) := by decide +kernel
theorem dX10_copyTexts_42 : decode cX10_copyTexts 42 = .ok (.iconst 0, 1) := by decide +kernel
theorem dX10_copyTexts_43 : decode cX10_copyTexts 43 = .ok (.istore_n 2, 1) := by decide +kernel
theorem dX10_copyTexts_44 : decode cX10_copyTexts 44 = .ok (.iload_n 2, 1) := by decide +kernel
theorem dX10_copyTexts_45 : decode cX10_copyTexts 45 = .ok (.bipush 10, 2) := by decide +kernel
theorem dX10_copyTexts_47 : decode cX10_copyTexts 47 = .ok (.if_icmp .ge 21, 3) := by decide +kernel
theorem dX10_copyTexts_50 : decode cX10_copyTexts 50 = .ok (.aload_n 0, 1) := by decide +kernel
theorem dX10_copyTexts_51 : decode cX10_copyTexts 51 = .ok (.getfield 27, 3) := by decide +kernel
theorem dX10_copyTexts_54 : decode cX10_copyTexts 54 = .ok (.iload_n 2, 1) := by decide +kernel
theorem dX10_copyTexts_55 : decode cX10_copyTexts 55 = .ok (.aload_n 1, 1) := by decide +kernel
theorem dX10_copyTexts_56 : decode cX10_copyTexts 56 = .ok (.getfield 27, 3) := by decide +kernel
theorem dX10_copyTexts_59 : decode cX10_copyTexts 59 = .ok (.iload_n 2, 1) := by decide +kernel
theorem dX10_copyTexts_60 : decode cX10_copyTexts 60 = .ok (.aaload, 1) := by decide +kernel
theorem dX10_copyTexts_61 : decode cX10_copyTexts 61 = .ok (.aastore, 1) := by decide +kernel
theorem dX10_copyTexts_62 : decode cX10_copyTexts 62 = .ok (.iinc 2 1, 3) := by decide +kernel
theorem dX10_copyTexts_65 : decode cX10_copyTexts 65 = .ok (.goto (-21), 3) := by decide +kernel
theorem dX10_copyTexts_68 : decode cX10_copyTexts 68 = .ok (.return_, 1) := by decide +kernel
abbrev dpX10_copyTexts : Nat := 0
def fX10_copyTexts_44 (k44 : (Nat × Option Nat × Int32) → St → Option (Unit × St)) (a0 : Nat) (x1 : Option Nat) (x2 : Int32) : St → Option (Unit × St) :=
 br (10 ≤ x2) (rt ())
 (gR 11 a0 7 fun v2001 =>
 nn x1 fun a2003 =>
 gR 11 a2003 7 fun v2002 =>
 nn v2002 fun a2005 =>
 aR 21 a2005 x2 fun v2004 =>
 nn v2001 fun a2006 =>
 wR 21 10 a2006 x2 v2004 <|
 k44 (a0, (some a2003), (x2 + 1)))
set_option maxHeartbeats 4000000 in
set_option maxRecDepth 100000 in
theorem sfX10_copyTexts_44 {E : Ev} {l : Launch} (k44 : (Nat × Option Nat × Int32) → St → Option (Unit × St)) (hk44 : ∀ p : Nat × Option Nat × Int32, Snd E l (dpX10_copyTexts, RX10, cX10_copyTexts, 3, none, "copyTexts") rvV 44 [(0, .ref (E.1 + p.1)), (1, rf E.1 p.2.1), (2, .int p.2.2)] [] (k44 p)) (a0 : Nat) (x1 : Option Nat) (x2 : Int32) : Snd E l (dpX10_copyTexts, RX10, cX10_copyTexts, 3, none, "copyTexts") rvV 44 [(0, .ref (E.1 + a0)), (1, rf E.1 x1), (2, .int x2)] [] (fX10_copyTexts_44 k44 a0 x1 x2) := by
  unfold fX10_copyTexts_44
  refine sn_iload_n (pc := 44) (j := 2) dX10_copyTexts_44 rfl rfl ?_
  refine sn_bipush (pc := 45) (v := 10) dX10_copyTexts_45 (by decide) ?_
  refine sn_icmp_ge (pc := 47) (tgt := 68) dX10_copyTexts_47 (by decide) ?_ ?_
  · exact sn_vret (pc := 68) dX10_copyTexts_68 rfl
  · refine sn_aload_n (pc := 50) (j := 0) dX10_copyTexts_50 rfl rfl ?_
    refine sn_gR (pc := 51) dX10_copyTexts_51 flX10_27 rfl (fun v2001 => ?_)
    refine sn_iload_n (pc := 54) (j := 2) dX10_copyTexts_54 rfl rfl ?_
    refine sn_aloadR_n (pc := 55) (r := x1) (j := 1) dX10_copyTexts_55 rfl rfl ?_
    rcases x1 with _ | a2003
    · exact sn_no
    refine sn_nn ?_
    refine sn_gR (pc := 56) dX10_copyTexts_56 flX10_27 rfl (fun v2002 => ?_)
    refine sn_iload_n (pc := 59) (j := 2) dX10_copyTexts_59 rfl rfl ?_
    rcases v2002 with _ | a2005
    · exact sn_no
    refine sn_nn ?_
    refine sn_aald (t := 7) (pc := 60) dX10_copyTexts_60 (by decide) rfl (fun v2004 => ?_)
    rcases v2001 with _ | a2006
    · exact sn_no
    refine sn_nn ?_
    refine sn_aast (ix := 0) (t := 7) (v := v2004) (pc := 61) dX10_copyTexts_61 ci_X9 (by decide) rfl ?_
    refine sn_iinc (pc := 62) (v := x2 + 1) (lv' := [(2, .int (x2 + 1)), (0, .ref (E.1 + a0)), (1, .ref (E.1 + a2003))]) (j := 2) dX10_copyTexts_62 rfl rfl (by decide) rfl ?_
    refine sn_goto (pc := 65) (tgt := 44) dX10_copyTexts_65 (by decide) ?_
    exact sn_sub (lv' := [(0, .ref (E.1 + a0)), (1, .ref (E.1 + a2003)), (2, .int (x2 + 1))]) [1, 2, 0] rfl (hk44 (a0, (some a2003), (x2 + 1)))
def fX10_copyTexts_10 (k10 : (Nat × Option Nat × Int32) → St → Option (Unit × St)) (a0 : Nat) (x1 : Option Nat) (x2 : Int32) : St → Option (Unit × St) :=
 br (8 ≤ x2) (nn x1 fun a1002 =>
 gI 11 a1002 8 fun v1001 =>
 pI 11 a0 8 v1001 <|
 itr (fun k (p : Nat × Option Nat × Int32) => fX10_copyTexts_44  k p.1 p.2.1 p.2.2) FU (a0, (some a1002), 0))
 (gR 11 a0 5 fun v1003 =>
 nn x1 fun a1005 =>
 gR 11 a1005 5 fun v1004 =>
 nn v1004 fun a1007 =>
 aR 19 a1007 x2 fun v1006 =>
 nn v1003 fun a1008 =>
 wR 19 6 a1008 x2 v1006 <|
 k10 (a0, (some a1005), (x2 + 1)))
set_option maxHeartbeats 4000000 in
set_option maxRecDepth 100000 in
theorem sfX10_copyTexts_10 {E : Ev} {l : Launch} (k10 : (Nat × Option Nat × Int32) → St → Option (Unit × St)) (hk10 : ∀ p : Nat × Option Nat × Int32, Snd E l (dpX10_copyTexts, RX10, cX10_copyTexts, 3, none, "copyTexts") rvV 10 [(0, .ref (E.1 + p.1)), (1, rf E.1 p.2.1), (2, .int p.2.2)] [] (k10 p)) (a0 : Nat) (x1 : Option Nat) (x2 : Int32) : Snd E l (dpX10_copyTexts, RX10, cX10_copyTexts, 3, none, "copyTexts") rvV 10 [(0, .ref (E.1 + a0)), (1, rf E.1 x1), (2, .int x2)] [] (fX10_copyTexts_10 k10 a0 x1 x2) := by
  unfold fX10_copyTexts_10
  refine sn_iload_n (pc := 10) (j := 2) dX10_copyTexts_10 rfl rfl ?_
  refine sn_bipush (pc := 11) (v := 8) dX10_copyTexts_11 (by decide) ?_
  refine sn_icmp_ge (pc := 13) (tgt := 34) dX10_copyTexts_13 (by decide) ?_ ?_
  · refine sn_aload_n (pc := 34) (j := 0) dX10_copyTexts_34 rfl rfl ?_
    refine sn_aloadR_n (pc := 35) (r := x1) (j := 1) dX10_copyTexts_35 rfl rfl ?_
    rcases x1 with _ | a1002
    · exact sn_no
    refine sn_nn ?_
    refine sn_gI (pc := 36) dX10_copyTexts_36 flX10_84 rfl (fun v1001 => ?_)
    refine sn_pI (pc := 39) dX10_copyTexts_39 flX10_84 rfl rfl (Or.inl rfl) ?_
    refine sn_iconst (pc := 42) (v := 0) dX10_copyTexts_42 (by decide) ?_
    refine sn_istore_n (pc := 43) (i := 2) (lv' := [(2, .int 0), (0, .ref (E.1 + a0)), (1, .ref (E.1 + a1002))]) dX10_copyTexts_43 rfl (by decide) rfl ?_
    exact sn_sub (lv' := [(0, .ref (E.1 + a0)), (1, .ref (E.1 + a1002)), (2, .int 0)]) [1, 2, 0] rfl (sn_itr (lvf := fun p => [(0, .ref (E.1 + p.1)), (1, rf E.1 p.2.1), (2, .int p.2.2)]) (stf := fun p => []) (fun k hk p => sfX10_copyTexts_44  k hk p.1 p.2.1 p.2.2) FU (a0, (some a1002), 0))
  · refine sn_aload_n (pc := 16) (j := 0) dX10_copyTexts_16 rfl rfl ?_
    refine sn_gR (pc := 17) dX10_copyTexts_17 flX10_21 rfl (fun v1003 => ?_)
    refine sn_iload_n (pc := 20) (j := 2) dX10_copyTexts_20 rfl rfl ?_
    refine sn_aloadR_n (pc := 21) (r := x1) (j := 1) dX10_copyTexts_21 rfl rfl ?_
    rcases x1 with _ | a1005
    · exact sn_no
    refine sn_nn ?_
    refine sn_gR (pc := 22) dX10_copyTexts_22 flX10_21 rfl (fun v1004 => ?_)
    refine sn_iload_n (pc := 25) (j := 2) dX10_copyTexts_25 rfl rfl ?_
    rcases v1004 with _ | a1007
    · exact sn_no
    refine sn_nn ?_
    refine sn_aald (t := 5) (pc := 26) dX10_copyTexts_26 (by decide) rfl (fun v1006 => ?_)
    rcases v1003 with _ | a1008
    · exact sn_no
    refine sn_nn ?_
    refine sn_aast (ix := 0) (t := 5) (v := v1006) (pc := 27) dX10_copyTexts_27 ci_X5 (by decide) rfl ?_
    refine sn_iinc (pc := 28) (v := x2 + 1) (lv' := [(2, .int (x2 + 1)), (0, .ref (E.1 + a0)), (1, .ref (E.1 + a1005))]) (j := 2) dX10_copyTexts_28 rfl rfl (by decide) rfl ?_
    refine sn_goto (pc := 31) (tgt := 10) dX10_copyTexts_31 (by decide) ?_
    exact sn_sub (lv' := [(0, .ref (E.1 + a0)), (1, .ref (E.1 + a1005)), (2, .int (x2 + 1))]) [1, 2, 0] rfl (hk10 (a0, (some a1005), (x2 + 1)))
def fX10_copyTexts (a0 : Nat) (x1 : Option Nat) : St → Option (Unit × St) :=
 nn x1 fun a2 =>
 gI 11 a2 6 fun v1 =>
 pI 11 a0 6 v1 <|
 itr (fun k (p : Nat × Option Nat × Int32) => fX10_copyTexts_10  k p.1 p.2.1 p.2.2) FU (a0, (some a2), 0)
set_option maxHeartbeats 4000000 in
set_option maxRecDepth 100000 in
theorem mX10_copyTexts {E : Ev} {l : Launch} (a0 : Nat) (x1 : Option Nat) : MF E l dpX10_copyTexts yX10_copyTexts cX10_copyTexts 3 none rvV [.ref (E.1 + a0), rf E.1 x1] (fX10_copyTexts a0 x1) := by
  refine MF.of (lv := [(0, .ref (E.1 + a0)), (1, rf E.1 x1)]) (by decide) (by simp [lg_sl, rf_cat, cat_int, cat_long, cat_ref]) (by simp [lv_args, rf_cat, cat_int, cat_long, cat_ref]) ?_
  unfold fX10_copyTexts
  refine sn_aload_n (pc := 0) (j := 0) dX10_copyTexts_0 rfl rfl ?_
  refine sn_aloadR_n (pc := 1) (r := x1) (j := 1) dX10_copyTexts_1 rfl rfl ?_
  rcases x1 with _ | a2
  · exact sn_no
  refine sn_nn ?_
  refine sn_gI (pc := 2) dX10_copyTexts_2 flX10_81 rfl (fun v1 => ?_)
  refine sn_pI (pc := 5) dX10_copyTexts_5 flX10_81 rfl rfl (Or.inl rfl) ?_
  refine sn_iconst (pc := 8) (v := 0) dX10_copyTexts_8 (by decide) ?_
  refine sn_istore_n (pc := 9) (i := 2) (lv' := [(2, .int 0), (0, .ref (E.1 + a0)), (1, .ref (E.1 + a2))]) dX10_copyTexts_9 rfl (by decide) rfl ?_
  exact sn_sub (lv' := [(0, .ref (E.1 + a0)), (1, .ref (E.1 + a2)), (2, .int 0)]) [1, 2, 0] rfl (sn_itr (lvf := fun p => [(0, .ref (E.1 + p.1)), (1, rf E.1 p.2.1), (2, .int p.2.2)]) (stf := fun p => []) (fun k hk p => sfX10_copyTexts_10  k hk p.1 p.2.1 p.2.2) FU (a0, (some a2), 0))
theorem iX10_copyTexts : MI yX10_copyTexts cX10_copyTexts 3 none 1 := ⟨wt1_2, wt5_213, by decide +kernel, by decide⟩
-- NeedleHomes$World copyFrom(LNeedleHomes$World;)V
theorem dX10_copyFrom_0 : decode cX10_copyFrom 0 = .ok (.aload_n 1, 1) := by decide +kernel
theorem dX10_copyFrom_1 : decode cX10_copyFrom 1 = .ok (.getfield 9, 3) := by decide +kernel
theorem dX10_copyFrom_4 : decode cX10_copyFrom 4 = .ok (.iconst 0, 1) := by decide +kernel
theorem dX10_copyFrom_5 : decode cX10_copyFrom 5 = .ok (.aload_n 0, 1) := by decide +kernel
theorem dX10_copyFrom_6 : decode cX10_copyFrom 6 = .ok (.getfield 9, 3) := by decide +kernel
theorem dX10_copyFrom_9 : decode cX10_copyFrom 9 = .ok (.iconst 0, 1) := by decide +kernel
theorem dX10_copyFrom_10 : decode cX10_copyFrom 10 = .ok (.sipush 400, 3) := by decide +kernel
theorem dX10_copyFrom_13 : decode cX10_copyFrom 13 = .ok (.invokestatic 56, 3) := by decide +kernel
theorem dX10_copyFrom_16 : decode cX10_copyFrom 16 = .ok (.aload_n 0, 1) := by decide +kernel
theorem dX10_copyFrom_17 : decode cX10_copyFrom 17 = .ok (.aload_n 1, 1) := by decide +kernel
theorem dX10_copyFrom_18 : decode cX10_copyFrom 18 = .ok (.getfield 62, 3) := by decide +kernel
theorem dX10_copyFrom_21 : decode cX10_copyFrom 21 = .ok (.putfield 62, 3) := by decide +kernel
theorem dX10_copyFrom_24 : decode cX10_copyFrom 24 = .ok (.aload_n 0, 1) := by decide +kernel
theorem dX10_copyFrom_25 : decode cX10_copyFrom 25 = .ok (.aload_n 1, 1) := by decide +kernel
theorem dX10_copyFrom_26 : decode cX10_copyFrom 26 = .ok (.getfield 65, 3) := by decide +kernel
theorem dX10_copyFrom_29 : decode cX10_copyFrom 29 = .ok (.putfield 65, 3) := by decide +kernel
theorem dX10_copyFrom_32 : decode cX10_copyFrom 32 = .ok (.aload_n 0, 1) := by decide +kernel
theorem dX10_copyFrom_33 : decode cX10_copyFrom 33 = .ok (.aload_n 1, 1) := by decide +kernel
theorem dX10_copyFrom_34 : decode cX10_copyFrom 34 = .ok (.getfield 15, 3) := by decide +kernel
theorem dX10_copyFrom_37 : decode cX10_copyFrom 37 = .ok (.putfield 15, 3) := by decide +kernel
theorem dX10_copyFrom_40 : decode cX10_copyFrom 40 = .ok (.aload_n 0, 1) := by decide +kernel
theorem dX10_copyFrom_41 : decode cX10_copyFrom 41 = .ok (.aload_n 1, 1) := by decide +kernel
theorem dX10_copyFrom_42 : decode cX10_copyFrom 42 = .ok (.getfield 68, 3) := by decide +kernel
theorem dX10_copyFrom_45 : decode cX10_copyFrom 45 = .ok (.putfield 68, 3) := by decide +kernel
theorem dX10_copyFrom_48 : decode cX10_copyFrom 48 = .ok (.aload_n 1, 1) := by decide +kernel
theorem dX10_copyFrom_49 : decode cX10_copyFrom 49 = .ok (.getfield 43, 3) := by decide +kernel
theorem dX10_copyFrom_52 : decode cX10_copyFrom 52 = .ok (.iconst 0, 1) := by decide +kernel
theorem dX10_copyFrom_53 : decode cX10_copyFrom 53 = .ok (.aload_n 0, 1) := by decide +kernel
theorem dX10_copyFrom_54 : decode cX10_copyFrom 54 = .ok (.getfield 43, 3) := by decide +kernel
theorem dX10_copyFrom_57 : decode cX10_copyFrom 57 = .ok (.iconst 0, 1) := by decide +kernel
theorem dX10_copyFrom_58 : decode cX10_copyFrom 58 = .ok (.bipush 6, 2) := by decide +kernel
theorem dX10_copyFrom_60 : decode cX10_copyFrom 60 = .ok (.invokestatic 56, 3) := by decide +kernel
theorem dX10_copyFrom_63 : decode cX10_copyFrom 63 = .ok (.aload_n 1, 1) := by decide +kernel
theorem dX10_copyFrom_64 : decode cX10_copyFrom 64 = .ok (.getfield 47, 3) := by decide +kernel
theorem dX10_copyFrom_67 : decode cX10_copyFrom 67 = .ok (.iconst 0, 1) := by decide +kernel
theorem dX10_copyFrom_68 : decode cX10_copyFrom 68 = .ok (.aload_n 0, 1) := by decide +kernel
theorem dX10_copyFrom_69 : decode cX10_copyFrom 69 = .ok (.getfield 47, 3) := by decide +kernel
theorem dX10_copyFrom_72 : decode cX10_copyFrom 72 = .ok (.iconst 0, 1) := by decide +kernel
theorem dX10_copyFrom_73 : decode cX10_copyFrom 73 = .ok (.iconst 3, 1) := by decide +kernel
theorem dX10_copyFrom_74 : decode cX10_copyFrom 74 = .ok (.invokestatic 56, 3) := by decide +kernel
theorem dX10_copyFrom_77 : decode cX10_copyFrom 77 = .ok (.aload_n 0, 1) := by decide +kernel
theorem dX10_copyFrom_78 : decode cX10_copyFrom 78 = .ok (.aload_n 1, 1) := by decide +kernel
theorem dX10_copyFrom_79 : decode cX10_copyFrom 79 = .ok (.invokevirtual 71, 3) := by decide +kernel
theorem dX10_copyFrom_82 : decode cX10_copyFrom 82 = .ok (.aload_n 0, 1) := by decide +kernel
theorem dX10_copyFrom_83 : decode cX10_copyFrom 83 = .ok (.aload_n 1, 1) := by decide +kernel
theorem dX10_copyFrom_84 : decode cX10_copyFrom 84 = .ok (.invokevirtual 75, 3) := by decide +kernel
theorem dX10_copyFrom_87 : decode cX10_copyFrom 87 = .ok (.aload_n 0, 1) := by decide +kernel
theorem dX10_copyFrom_88 : decode cX10_copyFrom 88 = .ok (.aload_n 1, 1) := by decide +kernel
theorem dX10_copyFrom_89 : decode cX10_copyFrom 89 = .ok (.invokevirtual 78, 3) := by decide +kernel
theorem dX10_copyFrom_92 : decode cX10_copyFrom 92 = .ok (.return_, 1) := by decide +kernel
abbrev dpX10_copyFrom : Nat := 3
def fX10_copyFrom (a0 : Nat) (x1 : Option Nat) : St → Option (Unit × St) :=
 nn x1 fun a2 =>
 gR 11 a2 0 fun v1 =>
 gR 11 a0 0 fun v3 =>
 nn v3 fun a4 =>
 nn v1 fun a5 =>
 cp 14 a5 0 a4 0 400 <|
 gI 11 a2 1 fun v6 =>
 pI 11 a0 1 v6 <|
 gI 11 a2 2 fun v7 =>
 pI 11 a0 2 v7 <|
 gI 11 a2 3 fun v8 =>
 pI 11 a0 3 v8 <|
 gI 11 a2 4 fun v9 =>
 pI 11 a0 4 v9 <|
 gR 11 a2 13 fun v10 =>
 gR 11 a0 13 fun v11 =>
 nn v11 fun a12 =>
 nn v10 fun a13 =>
 cp 15 a13 0 a12 0 6 <|
 gR 11 a2 14 fun v14 =>
 gR 11 a0 14 fun v15 =>
 nn v15 fun a16 =>
 nn v14 fun a17 =>
 cp 15 a17 0 a16 0 3 <|
 ck 11 a0 <| cl (fX10_copyTexts a0 (some a2)) fun v18 =>
 ck 11 a0 <| cl (fX10_copyHands a0 (some a2)) fun v19 =>
 ck 11 a0 <| cl (fX10_copyPieces a0 (some a2)) fun v20 =>
 rt ()
set_option maxHeartbeats 4000000 in
set_option maxRecDepth 100000 in
theorem mX10_copyFrom {E : Ev} {l : Launch} (a0 : Nat) (x1 : Option Nat) : MF E l dpX10_copyFrom yX10_copyFrom cX10_copyFrom 2 none rvV [.ref (E.1 + a0), rf E.1 x1] (fX10_copyFrom a0 x1) := by
  refine MF.of (lv := [(0, .ref (E.1 + a0)), (1, rf E.1 x1)]) (by decide) (by simp [lg_sl, rf_cat, cat_int, cat_long, cat_ref]) (by simp [lv_args, rf_cat, cat_int, cat_long, cat_ref]) ?_
  unfold fX10_copyFrom
  refine sn_aloadR_n (pc := 0) (r := x1) (j := 1) dX10_copyFrom_0 rfl rfl ?_
  rcases x1 with _ | a2
  · exact sn_no
  refine sn_nn ?_
  refine sn_gR (pc := 1) dX10_copyFrom_1 flX10_9 rfl (fun v1 => ?_)
  refine sn_iconst (pc := 4) (v := 0) dX10_copyFrom_4 (by decide) ?_
  refine sn_aload_n (pc := 5) (j := 0) dX10_copyFrom_5 rfl rfl ?_
  refine sn_gR (pc := 6) dX10_copyFrom_6 flX10_9 rfl (fun v3 => ?_)
  refine sn_iconst (pc := 9) (v := 0) dX10_copyFrom_9 (by decide) ?_
  refine sn_sipush (pc := 10) (v := 400) dX10_copyFrom_10 (by decide) ?_
  rcases v3 with _ | a4
  · exact sn_no
  refine sn_nn ?_
  rcases v1 with _ | a5
  · exact sn_no
  refine sn_nn ?_
  refine sn_copy (t := 0) (pc := 13) dX10_copyFrom_13 wt5_209 w_an w_as w_ai rfl (by decide) (by decide) (Nat.le_of_ble_eq_true rfl) ?_
  refine sn_aload_n (pc := 16) (j := 0) dX10_copyFrom_16 rfl rfl ?_
  refine sn_aload_n (pc := 17) (j := 1) dX10_copyFrom_17 rfl rfl ?_
  refine sn_gI (pc := 18) dX10_copyFrom_18 flX10_62 rfl (fun v6 => ?_)
  refine sn_pI (pc := 21) dX10_copyFrom_21 flX10_62 rfl rfl (Or.inl rfl) ?_
  refine sn_aload_n (pc := 24) (j := 0) dX10_copyFrom_24 rfl rfl ?_
  refine sn_aload_n (pc := 25) (j := 1) dX10_copyFrom_25 rfl rfl ?_
  refine sn_gI (pc := 26) dX10_copyFrom_26 flX10_65 rfl (fun v7 => ?_)
  refine sn_pI (pc := 29) dX10_copyFrom_29 flX10_65 rfl rfl (Or.inl rfl) ?_
  refine sn_aload_n (pc := 32) (j := 0) dX10_copyFrom_32 rfl rfl ?_
  refine sn_aload_n (pc := 33) (j := 1) dX10_copyFrom_33 rfl rfl ?_
  refine sn_gI (pc := 34) dX10_copyFrom_34 flX10_15 rfl (fun v8 => ?_)
  refine sn_pI (pc := 37) dX10_copyFrom_37 flX10_15 rfl rfl (Or.inl rfl) ?_
  refine sn_aload_n (pc := 40) (j := 0) dX10_copyFrom_40 rfl rfl ?_
  refine sn_aload_n (pc := 41) (j := 1) dX10_copyFrom_41 rfl rfl ?_
  refine sn_gI (pc := 42) dX10_copyFrom_42 flX10_68 rfl (fun v9 => ?_)
  refine sn_pI (pc := 45) dX10_copyFrom_45 flX10_68 rfl rfl (Or.inl rfl) ?_
  refine sn_aload_n (pc := 48) (j := 1) dX10_copyFrom_48 rfl rfl ?_
  refine sn_gR (pc := 49) dX10_copyFrom_49 flX10_43 rfl (fun v10 => ?_)
  refine sn_iconst (pc := 52) (v := 0) dX10_copyFrom_52 (by decide) ?_
  refine sn_aload_n (pc := 53) (j := 0) dX10_copyFrom_53 rfl rfl ?_
  refine sn_gR (pc := 54) dX10_copyFrom_54 flX10_43 rfl (fun v11 => ?_)
  refine sn_iconst (pc := 57) (v := 0) dX10_copyFrom_57 (by decide) ?_
  refine sn_bipush (pc := 58) (v := 6) dX10_copyFrom_58 (by decide) ?_
  rcases v11 with _ | a12
  · exact sn_no
  refine sn_nn ?_
  rcases v10 with _ | a13
  · exact sn_no
  refine sn_nn ?_
  refine sn_copy (t := 1) (pc := 60) dX10_copyFrom_60 wt5_209 w_an w_as w_ai rfl (by decide) (by decide) (Nat.le_of_ble_eq_true rfl) ?_
  refine sn_aload_n (pc := 63) (j := 1) dX10_copyFrom_63 rfl rfl ?_
  refine sn_gR (pc := 64) dX10_copyFrom_64 flX10_47 rfl (fun v14 => ?_)
  refine sn_iconst (pc := 67) (v := 0) dX10_copyFrom_67 (by decide) ?_
  refine sn_aload_n (pc := 68) (j := 0) dX10_copyFrom_68 rfl rfl ?_
  refine sn_gR (pc := 69) dX10_copyFrom_69 flX10_47 rfl (fun v15 => ?_)
  refine sn_iconst (pc := 72) (v := 0) dX10_copyFrom_72 (by decide) ?_
  refine sn_iconst (pc := 73) (v := 3) dX10_copyFrom_73 (by decide) ?_
  rcases v15 with _ | a16
  · exact sn_no
  refine sn_nn ?_
  rcases v14 with _ | a17
  · exact sn_no
  refine sn_nn ?_
  refine sn_copy (t := 1) (pc := 74) dX10_copyFrom_74 wt5_209 w_an w_as w_ai rfl (by decide) (by decide) (Nat.le_of_ble_eq_true rfl) ?_
  refine sn_aload_n (pc := 77) (j := 0) dX10_copyFrom_77 rfl rfl ?_
  refine sn_aload_n (pc := 78) (j := 1) dX10_copyFrom_78 rfl rfl ?_
  refine sn_callV (ci := 10) (pc := 79) dX10_copyFrom_79 iX10_copyTexts wt5_212 ws_37 wt5_210 ⟨_, rfl, rfl⟩ (by decide) (mX10_copyTexts a0 (some a2)) (by decide) rfl rfl (Nat.le_of_ble_eq_true rfl) (fun v18 => ?_)
  refine sn_aload_n (pc := 82) (j := 0) dX10_copyFrom_82 rfl rfl ?_
  refine sn_aload_n (pc := 83) (j := 1) dX10_copyFrom_83 rfl rfl ?_
  refine sn_callV (ci := 10) (pc := 84) dX10_copyFrom_84 iX10_copyHands wt5_216 ws_38 wt5_214 ⟨_, rfl, rfl⟩ (by decide) (mX10_copyHands a0 (some a2)) (by decide) rfl rfl (Nat.le_of_ble_eq_true rfl) (fun v19 => ?_)
  refine sn_aload_n (pc := 87) (j := 0) dX10_copyFrom_87 rfl rfl ?_
  refine sn_aload_n (pc := 88) (j := 1) dX10_copyFrom_88 rfl rfl ?_
  refine sn_callV (ci := 10) (pc := 89) dX10_copyFrom_89 iX10_copyPieces wt5_226 ws_39 wt5_224 ⟨_, rfl, rfl⟩ (by decide) (mX10_copyPieces a0 (some a2)) (by decide) rfl rfl (Nat.le_of_ble_eq_true rfl) (fun v20 => ?_)
  exact sn_vret (pc := 92) dX10_copyFrom_92 rfl
theorem iX10_copyFrom : MI yX10_copyFrom cX10_copyFrom 2 none 1 := ⟨wt1_2, wt5_208, by decide +kernel, by decide⟩
-- NeedleHomes$World addBytes(I)V
theorem dX10_addBytes_0 : decode cX10_addBytes 0 = .ok (.bipush 24, 2) := by decide +kernel
theorem dX10_addBytes_2 : decode cX10_addBytes 2 = .ok (.istore_n 2, 1) := by decide +kernel
theorem dX10_addBytes_3 : decode cX10_addBytes 3 = .ok (.iload_n 2, 1) := by decide +kernel
theorem dX10_addBytes_4 : decode cX10_addBytes 4 = .ok (.ifCond .lt 49, 3) := by decide +kernel
theorem dX10_addBytes_7 : decode cX10_addBytes 7 = .ok (.aload_n 0, 1) := by decide +kernel
theorem dX10_addBytes_8 : decode cX10_addBytes 8 = .ok (.getfield 62, 3) := by decide +kernel
theorem dX10_addBytes_11 : decode cX10_addBytes 11 = .ok (.ifCond .lt 36, 3) := by decide +kernel
theorem dX10_addBytes_14 : decode cX10_addBytes 14 = .ok (.aload_n 0, 1) := by decide +kernel
theorem dX10_addBytes_15 : decode cX10_addBytes 15 = .ok (.getfield 62, 3) := by decide +kernel
theorem dX10_addBytes_18 : decode cX10_addBytes 18 = .ok (.sipush 400, 3) := by decide +kernel
theorem dX10_addBytes_21 : decode cX10_addBytes 21 = .ok (.if_icmp .ge 26, 3) := by decide +kernel
theorem dX10_addBytes_24 : decode cX10_addBytes 24 = .ok (.aload_n 0, 1) := by decide +kernel
theorem dX10_addBytes_25 : decode cX10_addBytes 25 = .ok (.getfield 9, 3) := by decide +kernel
theorem dX10_addBytes_28 : decode cX10_addBytes 28 = .ok (.aload_n 0, 1) := by decide +kernel
theorem dX10_addBytes_29 : decode cX10_addBytes 29 = .ok (.getfield 62, 3) := by decide +kernel
theorem dX10_addBytes_32 : decode cX10_addBytes 32 = .ok (.iload_n 1, 1) := by decide +kernel
theorem dX10_addBytes_33 : decode cX10_addBytes 33 = .ok (.iload_n 2, 1) := by decide +kernel
theorem dX10_addBytes_34 : decode cX10_addBytes 34 = .ok (.ishr, 1) := by decide +kernel
theorem dX10_addBytes_35 : decode cX10_addBytes 35 = .ok (.i2b, 1) := by decide +kernel
theorem dX10_addBytes_36 : decode cX10_addBytes 36 = .ok (.bastore, 1) := by decide +kernel
theorem dX10_addBytes_37 : decode cX10_addBytes 37 = .ok (.aload_n 0, 1) := by decide +kernel
theorem dX10_addBytes_38 : decode cX10_addBytes 38 = .ok (.dup, 1) := by decide +kernel
theorem dX10_addBytes_39 : decode cX10_addBytes 39 = .ok (.getfield 62, 3) := by decide +kernel
theorem dX10_addBytes_42 : decode cX10_addBytes 42 = .ok (.iconst 1, 1) := by decide +kernel
theorem dX10_addBytes_43 : decode cX10_addBytes 43 = .ok (.iadd, 1) := by decide +kernel
theorem dX10_addBytes_44 : decode cX10_addBytes 44 = .ok (.putfield 62, 3) := by decide +kernel
theorem dX10_addBytes_47 : decode cX10_addBytes 47 = .ok (.iinc 2 (-8), 3) := by decide +kernel
theorem dX10_addBytes_50 : decode cX10_addBytes 50 = .ok (.goto (-47), 3) := by decide +kernel
theorem dX10_addBytes_53 : decode cX10_addBytes 53 = .ok (.return_, 1) := by decide +kernel
abbrev dpX10_addBytes : Nat := 0
def fX10_addBytes_47 (k3 : (Nat × Int32 × Int32) → St → Option (Unit × St)) (a0 : Nat) (x1 : Int32) (x2 : Int32) : St → Option (Unit × St) :=
 k3 (a0, x1, (x2 + (-8)))
set_option maxHeartbeats 4000000 in
set_option maxRecDepth 100000 in
theorem sfX10_addBytes_47 {E : Ev} {l : Launch} (k3 : (Nat × Int32 × Int32) → St → Option (Unit × St)) (hk3 : ∀ p : Nat × Int32 × Int32, Snd E l (dpX10_addBytes, RX10, cX10_addBytes, 3, none, "addBytes") rvV 3 [(0, .ref (E.1 + p.1)), (1, .int p.2.1), (2, .int p.2.2)] [] (k3 p)) (a0 : Nat) (x1 : Int32) (x2 : Int32) : Snd E l (dpX10_addBytes, RX10, cX10_addBytes, 3, none, "addBytes") rvV 47 [(0, .ref (E.1 + a0)), (1, .int x1), (2, .int x2)] [] (fX10_addBytes_47 k3 a0 x1 x2) := by
  unfold fX10_addBytes_47
  refine sn_iinc (pc := 47) (v := x2 + (-8)) (lv' := [(2, .int (x2 + (-8))), (0, .ref (E.1 + a0)), (1, .int x1)]) (j := 2) dX10_addBytes_47 rfl rfl (by decide) rfl ?_
  refine sn_goto (pc := 50) (tgt := 3) dX10_addBytes_50 (by decide) ?_
  exact sn_sub (lv' := [(0, .ref (E.1 + a0)), (1, .int x1), (2, .int (x2 + (-8)))]) [1, 2, 0] rfl (hk3 (a0, x1, (x2 + (-8))))
def fX10_addBytes_3 (k3 : (Nat × Int32 × Int32) → St → Option (Unit × St)) (a0 : Nat) (x1 : Int32) (x2 : Int32) : St → Option (Unit × St) :=
 br (x2 < 0) (rt ())
 (gI 11 a0 1 fun v1001 =>
 br (v1001 < 0) (fX10_addBytes_47 k3 a0 x1 x2)
 (gI 11 a0 1 fun v1002 =>
 br (400 ≤ v1002) (fX10_addBytes_47 k3 a0 x1 x2)
 (gR 11 a0 0 fun v1003 =>
 gI 11 a0 1 fun v1004 =>
 nn v1003 fun a1005 =>
 wB a1005 v1004 ((x1 >>> (x2 &&& 31)).toInt8.toInt32) <|
 gI 11 a0 1 fun v1006 =>
 pI 11 a0 1 (v1006 + 1) <|
 fX10_addBytes_47 k3 a0 x1 x2)))
set_option maxHeartbeats 4000000 in
set_option maxRecDepth 100000 in
theorem sfX10_addBytes_3 {E : Ev} {l : Launch} (k3 : (Nat × Int32 × Int32) → St → Option (Unit × St)) (hk3 : ∀ p : Nat × Int32 × Int32, Snd E l (dpX10_addBytes, RX10, cX10_addBytes, 3, none, "addBytes") rvV 3 [(0, .ref (E.1 + p.1)), (1, .int p.2.1), (2, .int p.2.2)] [] (k3 p)) (a0 : Nat) (x1 : Int32) (x2 : Int32) : Snd E l (dpX10_addBytes, RX10, cX10_addBytes, 3, none, "addBytes") rvV 3 [(0, .ref (E.1 + a0)), (1, .int x1), (2, .int x2)] [] (fX10_addBytes_3 k3 a0 x1 x2) := by
  unfold fX10_addBytes_3
  refine sn_iload_n (pc := 3) (j := 2) dX10_addBytes_3 rfl rfl ?_
  refine sn_if_lt (pc := 4) (tgt := 53) dX10_addBytes_4 (by decide) ?_ ?_
  · exact sn_vret (pc := 53) dX10_addBytes_53 rfl
  · refine sn_aload_n (pc := 7) (j := 0) dX10_addBytes_7 rfl rfl ?_
    refine sn_gI (pc := 8) dX10_addBytes_8 flX10_62 rfl (fun v1001 => ?_)
    refine sn_if_lt (pc := 11) (tgt := 47) dX10_addBytes_11 (by decide) ?_ ?_
    · exact sn_sub (lv' := [(0, .ref (E.1 + a0)), (1, .int x1), (2, .int x2)]) [0, 1, 2] rfl (sfX10_addBytes_47 k3 hk3 a0 x1 x2)
    · refine sn_aload_n (pc := 14) (j := 0) dX10_addBytes_14 rfl rfl ?_
      refine sn_gI (pc := 15) dX10_addBytes_15 flX10_62 rfl (fun v1002 => ?_)
      refine sn_sipush (pc := 18) (v := 400) dX10_addBytes_18 (by decide) ?_
      refine sn_icmp_ge (pc := 21) (tgt := 47) dX10_addBytes_21 (by decide) ?_ ?_
      · exact sn_sub (lv' := [(0, .ref (E.1 + a0)), (1, .int x1), (2, .int x2)]) [0, 1, 2] rfl (sfX10_addBytes_47 k3 hk3 a0 x1 x2)
      · refine sn_aload_n (pc := 24) (j := 0) dX10_addBytes_24 rfl rfl ?_
        refine sn_gR (pc := 25) dX10_addBytes_25 flX10_9 rfl (fun v1003 => ?_)
        refine sn_aload_n (pc := 28) (j := 0) dX10_addBytes_28 rfl rfl ?_
        refine sn_gI (pc := 29) dX10_addBytes_29 flX10_62 rfl (fun v1004 => ?_)
        refine sn_iload_n (pc := 32) (j := 1) dX10_addBytes_32 rfl rfl ?_
        refine sn_iload_n (pc := 33) (j := 2) dX10_addBytes_33 rfl rfl ?_
        refine sn_ishr (pc := 34) dX10_addBytes_34 ?_
        refine sn_i2b (pc := 35) dX10_addBytes_35 ?_
        rcases v1003 with _ | a1005
        · exact sn_no
        refine sn_nn ?_
        refine sn_bast (pc := 36) dX10_addBytes_36 ?_
        refine sn_aload_n (pc := 37) (j := 0) dX10_addBytes_37 rfl rfl ?_
        refine sn_dup (pc := 38) dX10_addBytes_38 rfl ?_
        refine sn_gI (pc := 39) dX10_addBytes_39 flX10_62 rfl (fun v1006 => ?_)
        refine sn_iconst (pc := 42) (v := 1) dX10_addBytes_42 (by decide) ?_
        refine sn_iadd (pc := 43) dX10_addBytes_43 ?_
        refine sn_pI (pc := 44) dX10_addBytes_44 flX10_62 rfl rfl (Or.inl rfl) ?_
        exact sn_sub (lv' := [(0, .ref (E.1 + a0)), (1, .int x1), (2, .int x2)]) [0, 1, 2] rfl (sfX10_addBytes_47 k3 hk3 a0 x1 x2)
def fX10_addBytes (a0 : Nat) (x1 : Int32) : St → Option (Unit × St) :=
 itr (fun k (p : Nat × Int32 × Int32) => fX10_addBytes_3  k p.1 p.2.1 p.2.2) FU (a0, x1, 24)
set_option maxHeartbeats 4000000 in
set_option maxRecDepth 100000 in
theorem mX10_addBytes {E : Ev} {l : Launch} (a0 : Nat) (x1 : Int32) : MF E l dpX10_addBytes yX10_addBytes cX10_addBytes 3 none rvV [.ref (E.1 + a0), .int x1] (fX10_addBytes a0 x1) := by
  refine MF.of (lv := [(0, .ref (E.1 + a0)), (1, .int x1)]) (by decide) (Nat.le_of_ble_eq_true rfl) rfl ?_
  unfold fX10_addBytes
  refine sn_bipush (pc := 0) (v := 24) dX10_addBytes_0 (by decide) ?_
  refine sn_istore_n (pc := 2) (i := 2) (lv' := [(2, .int 24), (0, .ref (E.1 + a0)), (1, .int x1)]) dX10_addBytes_2 rfl (by decide) rfl ?_
  exact sn_sub (lv' := [(0, .ref (E.1 + a0)), (1, .int x1), (2, .int 24)]) [1, 2, 0] rfl (sn_itr (lvf := fun p => [(0, .ref (E.1 + p.1)), (1, .int p.2.1), (2, .int p.2.2)]) (stf := fun p => []) (fun k hk p => sfX10_addBytes_3  k hk p.1 p.2.1 p.2.2) FU (a0, x1, 24))
theorem iX10_addBytes : MI yX10_addBytes cX10_addBytes 3 none 1 := ⟨wt1_2, wt2_90, by decide +kernel, by decide⟩
-- NeedleHomes$World takeTape()I
theorem dX10_takeTape_0 : decode cX10_takeTape 0 = .ok (.aload_n 0, 1) := by decide +kernel
theorem dX10_takeTape_1 : decode cX10_takeTape 1 = .ok (.getfield 62, 3) := by decide +kernel
theorem dX10_takeTape_4 : decode cX10_takeTape 4 = .ok (.istore_n 1, 1) := by decide +kernel
theorem dX10_takeTape_5 : decode cX10_takeTape 5 = .ok (.aload_n 0, 1) := by decide +kernel
theorem dX10_takeTape_6 : decode cX10_takeTape 6 = .ok (.iconst 0, 1) := by decide +kernel
theorem dX10_takeTape_7 : decode cX10_takeTape 7 = .ok (.putfield 62, 3) := by decide +kernel
theorem dX10_takeTape_10 : decode cX10_takeTape 10 = .ok (.aload_n 0, 1) := by decide +kernel
theorem dX10_takeTape_11 : decode cX10_takeTape 11 = .ok (.iconst 0, 1) := by decide +kernel
theorem dX10_takeTape_12 : decode cX10_takeTape 12 = .ok (.putfield 65, 3) := by decide +kernel
theorem dX10_takeTape_15 : decode cX10_takeTape 15 = .ok (.aload_n 0, 1) := by decide +kernel
theorem dX10_takeTape_16 : decode cX10_takeTape 16 = .ok (.iconst (-1), 1) := by decide +kernel
theorem dX10_takeTape_17 : decode cX10_takeTape 17 = .ok (.putfield 15, 3) := by decide +kernel
theorem dX10_takeTape_20 : decode cX10_takeTape 20 = .ok (.iload_n 1, 1) := by decide +kernel
theorem dX10_takeTape_21 : decode cX10_takeTape 21 = .ok (.ireturn, 1) := by decide +kernel
abbrev dpX10_takeTape : Nat := 0
def fX10_takeTape (a0 : Nat) : St → Option (Int32 × St) :=
 gI 11 a0 1 fun v1 =>
 pI 11 a0 1 0 <|
 pI 11 a0 2 0 <|
 pI 11 a0 3 (-1) <|
 rt v1
set_option maxHeartbeats 4000000 in
set_option maxRecDepth 100000 in
theorem mX10_takeTape {E : Ev} {l : Launch} (a0 : Nat) : MF E l dpX10_takeTape yX10_takeTape cX10_takeTape 2 (some .int) rvI [.ref (E.1 + a0)] (fX10_takeTape a0) := by
  refine MF.of (lv := [(0, .ref (E.1 + a0))]) (by decide) (Nat.le_of_ble_eq_true rfl) rfl ?_
  unfold fX10_takeTape
  refine sn_aload_n (pc := 0) (j := 0) dX10_takeTape_0 rfl rfl ?_
  refine sn_gI (pc := 1) dX10_takeTape_1 flX10_62 rfl (fun v1 => ?_)
  refine sn_istore_n (pc := 4) (i := 1) (lv' := [(1, .int v1), (0, .ref (E.1 + a0))]) dX10_takeTape_4 rfl (by decide) rfl ?_
  refine sn_aload_n (pc := 5) (j := 1) dX10_takeTape_5 rfl rfl ?_
  refine sn_iconst (pc := 6) (v := 0) dX10_takeTape_6 (by decide) ?_
  refine sn_pI (pc := 7) dX10_takeTape_7 flX10_62 rfl rfl (Or.inl rfl) ?_
  refine sn_aload_n (pc := 10) (j := 1) dX10_takeTape_10 rfl rfl ?_
  refine sn_iconst (pc := 11) (v := 0) dX10_takeTape_11 (by decide) ?_
  refine sn_pI (pc := 12) dX10_takeTape_12 flX10_65 rfl rfl (Or.inl rfl) ?_
  refine sn_aload_n (pc := 15) (j := 1) dX10_takeTape_15 rfl rfl ?_
  refine sn_iconst (pc := 16) (v := (-1)) dX10_takeTape_16 (by decide) ?_
  refine sn_pI (pc := 17) dX10_takeTape_17 flX10_15 rfl rfl (Or.inl rfl) ?_
  refine sn_iload_n (pc := 20) (j := 0) dX10_takeTape_20 rfl rfl ?_
  exact sn_iret (pc := 21) dX10_takeTape_21 rfl
theorem iX10_takeTape : MI yX10_takeTape cX10_takeTape 2 (some .int) 0 := ⟨wt1_2, wt2_105, by decide +kernel, by decide⟩
-- NeedleHomes$World keepFault(LNeedleHomes$Reader;)V
theorem dX10_keepFault_0 : decode cX10_keepFault 0 = .ok (.aload_n 0, 1) := by decide +kernel
theorem dX10_keepFault_1 : decode cX10_keepFault 1 = .ok (.aload_n 1, 1) := by decide +kernel
theorem dX10_keepFault_2 : decode cX10_keepFault 2 = .ok (.getfield 135, 3) := by decide +kernel
theorem dX10_keepFault_5 : decode cX10_keepFault 5 = .ok (.putfield 65, 3) := by decide +kernel
theorem dX10_keepFault_8 : decode cX10_keepFault 8 = .ok (.aload_n 0, 1) := by decide +kernel
theorem dX10_keepFault_9 : decode cX10_keepFault 9 = .ok (.aload_n 1, 1) := by decide +kernel
theorem dX10_keepFault_10 : decode cX10_keepFault 10 = .ok (.getfield 138, 3) := by decide +kernel
theorem dX10_keepFault_13 : decode cX10_keepFault 13 = .ok (.putfield 15, 3) := by decide +kernel
theorem dX10_keepFault_16 : decode cX10_keepFault 16 = .ok (.return_, 1) := by decide +kernel
abbrev dpX10_keepFault : Nat := 0
def fX10_keepFault (a0 : Nat) (x1 : Option Nat) : St → Option (Unit × St) :=
 nn x1 fun a2 =>
 gI 9 a2 3 fun v1 =>
 pI 11 a0 2 v1 <|
 gI 9 a2 4 fun v3 =>
 pI 11 a0 3 v3 <|
 rt ()
set_option maxHeartbeats 4000000 in
set_option maxRecDepth 100000 in
theorem mX10_keepFault {E : Ev} {l : Launch} (a0 : Nat) (x1 : Option Nat) : MF E l dpX10_keepFault yX10_keepFault cX10_keepFault 2 none rvV [.ref (E.1 + a0), rf E.1 x1] (fX10_keepFault a0 x1) := by
  refine MF.of (lv := [(0, .ref (E.1 + a0)), (1, rf E.1 x1)]) (by decide) (by simp [lg_sl, rf_cat, cat_int, cat_long, cat_ref]) (by simp [lv_args, rf_cat, cat_int, cat_long, cat_ref]) ?_
  unfold fX10_keepFault
  refine sn_aload_n (pc := 0) (j := 0) dX10_keepFault_0 rfl rfl ?_
  refine sn_aloadR_n (pc := 1) (r := x1) (j := 1) dX10_keepFault_1 rfl rfl ?_
  rcases x1 with _ | a2
  · exact sn_no
  refine sn_nn ?_
  refine sn_gI (pc := 2) dX10_keepFault_2 flX10_135 rfl (fun v1 => ?_)
  refine sn_pI (pc := 5) dX10_keepFault_5 flX10_65 rfl rfl (Or.inl rfl) ?_
  refine sn_aload_n (pc := 8) (j := 0) dX10_keepFault_8 rfl rfl ?_
  refine sn_aload_n (pc := 9) (j := 1) dX10_keepFault_9 rfl rfl ?_
  refine sn_gI (pc := 10) dX10_keepFault_10 flX10_138 rfl (fun v3 => ?_)
  refine sn_pI (pc := 13) dX10_keepFault_13 flX10_15 rfl rfl (Or.inl rfl) ?_
  exact sn_vret (pc := 16) dX10_keepFault_16 rfl
theorem iX10_keepFault : MI yX10_keepFault cX10_keepFault 2 none 1 := ⟨wt1_2, wt2_222, by decide +kernel, by decide⟩
-- NeedleHomes$World addPattern(LNeedleHomes$Pattern;)I
theorem dX10_addPattern_0 : decode cX10_addPattern 0 = .ok (.aload_n 0, 1) := by decide +kernel
theorem dX10_addPattern_1 : decode cX10_addPattern 1 = .ok (.getfield 81, 3) := by decide +kernel
theorem dX10_addPattern_4 : decode cX10_addPattern 4 = .ok (.istore_n 2, 1) := by decide +kernel
theorem dX10_addPattern_5 : decode cX10_addPattern 5 = .ok (.iload_n 2, 1) := by decide +kernel
theorem dX10_addPattern_6 : decode cX10_addPattern 6 = .ok (.iconst 0, 1) := by decide +kernel
theorem dX10_addPattern_7 : decode cX10_addPattern 7 = .ok (.bipush 7, 2) := by decide +kernel
theorem dX10_addPattern_9 : decode cX10_addPattern 9 = .ok (.invokestatic 139, 3) := by decide +kernel
theorem dX10_addPattern_12 : decode cX10_addPattern 12 = .ok (.ifCond .ne 6, 3) := by decide +kernel
theorem dX10_addPattern_15 : decode cX10_addPattern 15 = .ok (.bipush (-2), 2) := by decide +kernel
theorem dX10_addPattern_17 : decode cX10_addPattern 17 = .ok (.ireturn, 1) := by decide +kernel
theorem dX10_addPattern_18 : decode cX10_addPattern 18 = .ok (.aload_n 0, 1) := by decide +kernel
theorem dX10_addPattern_19 : decode cX10_addPattern 19 = .ok (.getfield 21, 3) := by decide +kernel
theorem dX10_addPattern_22 : decode cX10_addPattern 22 = .ok (.iload_n 2, 1) := by decide +kernel
theorem dX10_addPattern_23 : decode cX10_addPattern 23 = .ok (.aload_n 1, 1) := by decide +kernel
theorem dX10_addPattern_24 : decode cX10_addPattern 24 = .ok (.aastore, 1) := by decide +kernel
theorem dX10_addPattern_25 : decode cX10_addPattern 25 = .ok (.aload_n 0, 1) := by decide +kernel
theorem dX10_addPattern_26 : decode cX10_addPattern 26 = .ok (.dup, 1) := by decide +kernel
theorem dX10_addPattern_27 : decode cX10_addPattern 27 = .ok (.getfield 81, 3) := by decide +kernel
theorem dX10_addPattern_30 : decode cX10_addPattern 30 = .ok (.iconst 1, 1) := by decide +kernel
theorem dX10_addPattern_31 : decode cX10_addPattern 31 = .ok (.iadd, 1) := by decide +kernel
theorem dX10_addPattern_32 : decode cX10_addPattern 32 = .ok (.putfield 81, 3) := by decide +kernel
theorem dX10_addPattern_35 : decode cX10_addPattern 35 = .ok (.iload_n 2, 1) := by decide +kernel
theorem dX10_addPattern_36 : decode cX10_addPattern 36 = .ok (.ireturn, 1) := by decide +kernel
abbrev dpX10_addPattern : Nat := 1
def fX10_addPattern (a0 : Nat) (x1 : Option Nat) : St → Option (Int32 × St) :=
 gI 11 a0 6 fun v1 =>
 cl (fX11_within v1 0 7) fun v2 =>
 br ((bi v2) = 0) (rt (-2))
 (gR 11 a0 5 fun v3 =>
 nn v3 fun a4 =>
 wR 19 6 a4 v1 x1 <|
 gI 11 a0 6 fun v5 =>
 pI 11 a0 6 (v5 + 1) <|
 rt v1)
set_option maxHeartbeats 4000000 in
set_option maxRecDepth 100000 in
theorem mX10_addPattern {E : Ev} {l : Launch} (a0 : Nat) (x1 : Option Nat) : MF E l dpX10_addPattern yX10_addPattern cX10_addPattern 3 (some .int) rvI [.ref (E.1 + a0), rf E.1 x1] (fX10_addPattern a0 x1) := by
  refine MF.of (lv := [(0, .ref (E.1 + a0)), (1, rf E.1 x1)]) (by decide) (by simp [lg_sl, rf_cat, cat_int, cat_long, cat_ref]) (by simp [lv_args, rf_cat, cat_int, cat_long, cat_ref]) ?_
  unfold fX10_addPattern
  refine sn_aload_n (pc := 0) (j := 0) dX10_addPattern_0 rfl rfl ?_
  refine sn_gI (pc := 1) dX10_addPattern_1 flX10_81 rfl (fun v1 => ?_)
  refine sn_istore_n (pc := 4) (i := 2) (lv' := [(2, .int v1), (0, .ref (E.1 + a0)), (1, rf E.1 x1)]) dX10_addPattern_4 rfl (by decide) (by simp [rf_some, rf_cat, cat_int, cat_long, cat_ref]) ?_
  refine sn_iload_n (pc := 5) (j := 0) dX10_addPattern_5 rfl rfl ?_
  refine sn_iconst (pc := 6) (v := 0) dX10_addPattern_6 (by decide) ?_
  refine sn_bipush (pc := 7) (v := 7) dX10_addPattern_7 (by decide) ?_
  refine sn_callSN (pc := 9) dX10_addPattern_9 iX11_within wt2_96 (List.mem_of_getElem? (i := 9) rfl) (mX11_within v1 0 7) (by decide) rfl rfl (Nat.le_of_ble_eq_true rfl) (fun v2 => ?_)
  refine sn_if_ne (pc := 12) (tgt := 18) dX10_addPattern_12 (by decide) ?_ ?_
  · refine sn_aload_n (pc := 18) (j := 1) dX10_addPattern_18 rfl rfl ?_
    refine sn_gR (pc := 19) dX10_addPattern_19 flX10_21 rfl (fun v3 => ?_)
    refine sn_iload_n (pc := 22) (j := 0) dX10_addPattern_22 rfl rfl ?_
    refine sn_aloadR_n (pc := 23) (r := x1) (j := 2) dX10_addPattern_23 rfl rfl ?_
    rcases v3 with _ | a4
    · exact sn_no
    refine sn_nn ?_
    refine sn_aast (ix := 0) (t := 5) (v := x1) (pc := 24) dX10_addPattern_24 ci_X5 (by decide) rfl ?_
    refine sn_aload_n (pc := 25) (j := 1) dX10_addPattern_25 rfl rfl ?_
    refine sn_dup (pc := 26) dX10_addPattern_26 rfl ?_
    refine sn_gI (pc := 27) dX10_addPattern_27 flX10_81 rfl (fun v5 => ?_)
    refine sn_iconst (pc := 30) (v := 1) dX10_addPattern_30 (by decide) ?_
    refine sn_iadd (pc := 31) dX10_addPattern_31 ?_
    refine sn_pI (pc := 32) dX10_addPattern_32 flX10_81 rfl rfl (Or.inl rfl) ?_
    refine sn_iload_n (pc := 35) (j := 0) dX10_addPattern_35 rfl rfl ?_
    exact sn_iret (pc := 36) dX10_addPattern_36 rfl
  · refine sn_bipush (pc := 15) (v := (-2)) dX10_addPattern_15 (by decide) ?_
    exact sn_iret (pc := 17) dX10_addPattern_17 rfl
theorem iX10_addPattern : MI yX10_addPattern cX10_addPattern 3 (some .int) 1 := ⟨wt1_2, wt3_10, by decide +kernel, by decide⟩
-- NeedleHomes$World addList(LNeedleHomes$TermList;)I
theorem dX10_addList_0 : decode cX10_addList 0 = .ok (.aload_n 0, 1) := by decide +kernel
theorem dX10_addList_1 : decode cX10_addList 1 = .ok (.getfield 84, 3) := by decide +kernel
theorem dX10_addList_4 : decode cX10_addList 4 = .ok (.istore_n 2, 1) := by decide +kernel
theorem dX10_addList_5 : decode cX10_addList 5 = .ok (.iload_n 2, 1) := by decide +kernel
theorem dX10_addList_6 : decode cX10_addList 6 = .ok (.iconst 0, 1) := by decide +kernel
theorem dX10_addList_7 : decode cX10_addList 7 = .ok (.bipush 9, 2) := by decide +kernel
theorem dX10_addList_9 : decode cX10_addList 9 = .ok (.invokestatic 139, 3) := by decide +kernel
theorem dX10_addList_12 : decode cX10_addList 12 = .ok (.ifCond .ne 6, 3) := by decide +kernel
theorem dX10_addList_15 : decode cX10_addList 15 = .ok (.bipush (-2), 2) := by decide +kernel
theorem dX10_addList_17 : decode cX10_addList 17 = .ok (.ireturn, 1) := by decide +kernel
theorem dX10_addList_18 : decode cX10_addList 18 = .ok (.aload_n 0, 1) := by decide +kernel
theorem dX10_addList_19 : decode cX10_addList 19 = .ok (.getfield 27, 3) := by decide +kernel
theorem dX10_addList_22 : decode cX10_addList 22 = .ok (.iload_n 2, 1) := by decide +kernel
theorem dX10_addList_23 : decode cX10_addList 23 = .ok (.aload_n 1, 1) := by decide +kernel
theorem dX10_addList_24 : decode cX10_addList 24 = .ok (.aastore, 1) := by decide +kernel
theorem dX10_addList_25 : decode cX10_addList 25 = .ok (.aload_n 0, 1) := by decide +kernel
theorem dX10_addList_26 : decode cX10_addList 26 = .ok (.dup, 1) := by decide +kernel
theorem dX10_addList_27 : decode cX10_addList 27 = .ok (.getfield 84, 3) := by decide +kernel
theorem dX10_addList_30 : decode cX10_addList 30 = .ok (.iconst 1, 1) := by decide +kernel
theorem dX10_addList_31 : decode cX10_addList 31 = .ok (.iadd, 1) := by decide +kernel
theorem dX10_addList_32 : decode cX10_addList 32 = .ok (.putfield 84, 3) := by decide +kernel
theorem dX10_addList_35 : decode cX10_addList 35 = .ok (.iload_n 2, 1) := by decide +kernel
theorem dX10_addList_36 : decode cX10_addList 36 = .ok (.ireturn, 1) := by decide +kernel
abbrev dpX10_addList : Nat := 1
def fX10_addList (a0 : Nat) (x1 : Option Nat) : St → Option (Int32 × St) :=
 gI 11 a0 8 fun v1 =>
 cl (fX11_within v1 0 9) fun v2 =>
 br ((bi v2) = 0) (rt (-2))
 (gR 11 a0 7 fun v3 =>
 nn v3 fun a4 =>
 wR 21 10 a4 v1 x1 <|
 gI 11 a0 8 fun v5 =>
 pI 11 a0 8 (v5 + 1) <|
 rt v1)
set_option maxHeartbeats 4000000 in
set_option maxRecDepth 100000 in
theorem mX10_addList {E : Ev} {l : Launch} (a0 : Nat) (x1 : Option Nat) : MF E l dpX10_addList yX10_addList cX10_addList 3 (some .int) rvI [.ref (E.1 + a0), rf E.1 x1] (fX10_addList a0 x1) := by
  refine MF.of (lv := [(0, .ref (E.1 + a0)), (1, rf E.1 x1)]) (by decide) (by simp [lg_sl, rf_cat, cat_int, cat_long, cat_ref]) (by simp [lv_args, rf_cat, cat_int, cat_long, cat_ref]) ?_
  unfold fX10_addList
  refine sn_aload_n (pc := 0) (j := 0) dX10_addList_0 rfl rfl ?_
  refine sn_gI (pc := 1) dX10_addList_1 flX10_84 rfl (fun v1 => ?_)
  refine sn_istore_n (pc := 4) (i := 2) (lv' := [(2, .int v1), (0, .ref (E.1 + a0)), (1, rf E.1 x1)]) dX10_addList_4 rfl (by decide) (by simp [rf_some, rf_cat, cat_int, cat_long, cat_ref]) ?_
  refine sn_iload_n (pc := 5) (j := 0) dX10_addList_5 rfl rfl ?_
  refine sn_iconst (pc := 6) (v := 0) dX10_addList_6 (by decide) ?_
  refine sn_bipush (pc := 7) (v := 9) dX10_addList_7 (by decide) ?_
  refine sn_callSN (pc := 9) dX10_addList_9 iX11_within wt2_96 (List.mem_of_getElem? (i := 9) rfl) (mX11_within v1 0 9) (by decide) rfl rfl (Nat.le_of_ble_eq_true rfl) (fun v2 => ?_)
  refine sn_if_ne (pc := 12) (tgt := 18) dX10_addList_12 (by decide) ?_ ?_
  · refine sn_aload_n (pc := 18) (j := 1) dX10_addList_18 rfl rfl ?_
    refine sn_gR (pc := 19) dX10_addList_19 flX10_27 rfl (fun v3 => ?_)
    refine sn_iload_n (pc := 22) (j := 0) dX10_addList_22 rfl rfl ?_
    refine sn_aloadR_n (pc := 23) (r := x1) (j := 2) dX10_addList_23 rfl rfl ?_
    rcases v3 with _ | a4
    · exact sn_no
    refine sn_nn ?_
    refine sn_aast (ix := 0) (t := 7) (v := x1) (pc := 24) dX10_addList_24 ci_X9 (by decide) rfl ?_
    refine sn_aload_n (pc := 25) (j := 1) dX10_addList_25 rfl rfl ?_
    refine sn_dup (pc := 26) dX10_addList_26 rfl ?_
    refine sn_gI (pc := 27) dX10_addList_27 flX10_84 rfl (fun v5 => ?_)
    refine sn_iconst (pc := 30) (v := 1) dX10_addList_30 (by decide) ?_
    refine sn_iadd (pc := 31) dX10_addList_31 ?_
    refine sn_pI (pc := 32) dX10_addList_32 flX10_84 rfl rfl (Or.inl rfl) ?_
    refine sn_iload_n (pc := 35) (j := 0) dX10_addList_35 rfl rfl ?_
    exact sn_iret (pc := 36) dX10_addList_36 rfl
  · refine sn_bipush (pc := 15) (v := (-2)) dX10_addList_15 (by decide) ?_
    exact sn_iret (pc := 17) dX10_addList_17 rfl
theorem iX10_addList : MI yX10_addList cX10_addList 3 (some .int) 1 := ⟨wt1_2, wt3_183, by decide +kernel, by decide⟩
-- NeedleHomes$World addHand(LNeedleHomes$Hand;)I
theorem dX10_addHand_0 : decode cX10_addHand 0 = .ok (.aload_n 0, 1) := by decide +kernel
theorem dX10_addHand_1 : decode cX10_addHand 1 = .ok (.getfield 87, 3) := by decide +kernel
theorem dX10_addHand_4 : decode cX10_addHand 4 = .ok (.istore_n 2, 1) := by decide +kernel
theorem dX10_addHand_5 : decode cX10_addHand 5 = .ok (.iload_n 2, 1) := by decide +kernel
theorem dX10_addHand_6 : decode cX10_addHand 6 = .ok (.iconst 0, 1) := by decide +kernel
theorem dX10_addHand_7 : decode cX10_addHand 7 = .ok (.bipush 11, 2) := by decide +kernel
theorem dX10_addHand_9 : decode cX10_addHand 9 = .ok (.invokestatic 139, 3) := by decide +kernel
theorem dX10_addHand_12 : decode cX10_addHand 12 = .ok (.ifCond .ne 5, 3) := by decide +kernel
theorem dX10_addHand_15 : decode cX10_addHand 15 = .ok (.iconst (-1), 1) := by decide +kernel
theorem dX10_addHand_16 : decode cX10_addHand 16 = .ok (.ireturn, 1) := by decide +kernel
theorem dX10_addHand_17 : decode cX10_addHand 17 = .ok (.aload_n 0, 1) := by decide +kernel
theorem dX10_addHand_18 : decode cX10_addHand 18 = .ok (.getfield 33, 3) := by decide +kernel
theorem dX10_addHand_21 : decode cX10_addHand 21 = .ok (.iload_n 2, 1) := by decide +kernel
theorem dX10_addHand_22 : decode cX10_addHand 22 = .ok (.aload_n 1, 1) := by decide +kernel
theorem dX10_addHand_23 : decode cX10_addHand 23 = .ok (.aastore, 1) := by decide +kernel
theorem dX10_addHand_24 : decode cX10_addHand 24 = .ok (.aload_n 0, 1) := by decide +kernel
theorem dX10_addHand_25 : decode cX10_addHand 25 = .ok (.dup, 1) := by decide +kernel
theorem dX10_addHand_26 : decode cX10_addHand 26 = .ok (.getfield 87, 3) := by decide +kernel
theorem dX10_addHand_29 : decode cX10_addHand 29 = .ok (.iconst 1, 1) := by decide +kernel
theorem dX10_addHand_30 : decode cX10_addHand 30 = .ok (.iadd, 1) := by decide +kernel
theorem dX10_addHand_31 : decode cX10_addHand 31 = .ok (.putfield 87, 3) := by decide +kernel
theorem dX10_addHand_34 : decode cX10_addHand 34 = .ok (.iload_n 2, 1) := by decide +kernel
theorem dX10_addHand_35 : decode cX10_addHand 35 = .ok (.ireturn, 1) := by decide +kernel
abbrev dpX10_addHand : Nat := 1
def fX10_addHand (a0 : Nat) (x1 : Option Nat) : St → Option (Int32 × St) :=
 gI 11 a0 10 fun v1 =>
 cl (fX11_within v1 0 11) fun v2 =>
 br ((bi v2) = 0) (rt (-1))
 (gR 11 a0 9 fun v3 =>
 nn v3 fun a4 =>
 wR 18 3 a4 v1 x1 <|
 gI 11 a0 10 fun v5 =>
 pI 11 a0 10 (v5 + 1) <|
 rt v1)
set_option maxHeartbeats 4000000 in
set_option maxRecDepth 100000 in
theorem mX10_addHand {E : Ev} {l : Launch} (a0 : Nat) (x1 : Option Nat) : MF E l dpX10_addHand yX10_addHand cX10_addHand 3 (some .int) rvI [.ref (E.1 + a0), rf E.1 x1] (fX10_addHand a0 x1) := by
  refine MF.of (lv := [(0, .ref (E.1 + a0)), (1, rf E.1 x1)]) (by decide) (by simp [lg_sl, rf_cat, cat_int, cat_long, cat_ref]) (by simp [lv_args, rf_cat, cat_int, cat_long, cat_ref]) ?_
  unfold fX10_addHand
  refine sn_aload_n (pc := 0) (j := 0) dX10_addHand_0 rfl rfl ?_
  refine sn_gI (pc := 1) dX10_addHand_1 flX10_87 rfl (fun v1 => ?_)
  refine sn_istore_n (pc := 4) (i := 2) (lv' := [(2, .int v1), (0, .ref (E.1 + a0)), (1, rf E.1 x1)]) dX10_addHand_4 rfl (by decide) (by simp [rf_some, rf_cat, cat_int, cat_long, cat_ref]) ?_
  refine sn_iload_n (pc := 5) (j := 0) dX10_addHand_5 rfl rfl ?_
  refine sn_iconst (pc := 6) (v := 0) dX10_addHand_6 (by decide) ?_
  refine sn_bipush (pc := 7) (v := 11) dX10_addHand_7 (by decide) ?_
  refine sn_callSN (pc := 9) dX10_addHand_9 iX11_within wt2_96 (List.mem_of_getElem? (i := 9) rfl) (mX11_within v1 0 11) (by decide) rfl rfl (Nat.le_of_ble_eq_true rfl) (fun v2 => ?_)
  refine sn_if_ne (pc := 12) (tgt := 17) dX10_addHand_12 (by decide) ?_ ?_
  · refine sn_aload_n (pc := 17) (j := 1) dX10_addHand_17 rfl rfl ?_
    refine sn_gR (pc := 18) dX10_addHand_18 flX10_33 rfl (fun v3 => ?_)
    refine sn_iload_n (pc := 21) (j := 0) dX10_addHand_21 rfl rfl ?_
    refine sn_aloadR_n (pc := 22) (r := x1) (j := 2) dX10_addHand_22 rfl rfl ?_
    rcases v3 with _ | a4
    · exact sn_no
    refine sn_nn ?_
    refine sn_aast (ix := 0) (t := 4) (v := x1) (pc := 23) dX10_addHand_23 ci_X2 (by decide) rfl ?_
    refine sn_aload_n (pc := 24) (j := 1) dX10_addHand_24 rfl rfl ?_
    refine sn_dup (pc := 25) dX10_addHand_25 rfl ?_
    refine sn_gI (pc := 26) dX10_addHand_26 flX10_87 rfl (fun v5 => ?_)
    refine sn_iconst (pc := 29) (v := 1) dX10_addHand_29 (by decide) ?_
    refine sn_iadd (pc := 30) dX10_addHand_30 ?_
    refine sn_pI (pc := 31) dX10_addHand_31 flX10_87 rfl rfl (Or.inl rfl) ?_
    refine sn_iload_n (pc := 34) (j := 0) dX10_addHand_34 rfl rfl ?_
    exact sn_iret (pc := 35) dX10_addHand_35 rfl
  · refine sn_iconst (pc := 15) (v := (-1)) dX10_addHand_15 (by decide) ?_
    exact sn_iret (pc := 16) dX10_addHand_16 rfl
theorem iX10_addHand : MI yX10_addHand cX10_addHand 3 (some .int) 1 := ⟨wt1_2, wt4_48, by decide +kernel, by decide⟩
-- NeedleHomes$World addPiece(LNeedleHomes$Piece;)I
theorem dX10_addPiece_0 : decode cX10_addPiece 0 = .ok (.aload_n 0, 1) := by decide +kernel
theorem dX10_addPiece_1 : decode cX10_addPiece 1 = .ok (.getfield 110, 3) := by decide +kernel
theorem dX10_addPiece_4 : decode cX10_addPiece 4 = .ok (.istore_n 2, 1) := by decide +kernel
theorem dX10_addPiece_5 : decode cX10_addPiece 5 = .ok (.iload_n 2, 1) := by decide +kernel
theorem dX10_addPiece_6 : decode cX10_addPiece 6 = .ok (.iconst 0, 1) := by decide +kernel
theorem dX10_addPiece_7 : decode cX10_addPiece 7 = .ok (.bipush 59, 2) := by decide +kernel
theorem dX10_addPiece_9 : decode cX10_addPiece 9 = .ok (.invokestatic 139, 3) := by decide +kernel
theorem dX10_addPiece_12 : decode cX10_addPiece 12 = .ok (.ifCond .ne 5, 3) := by decide +kernel
theorem dX10_addPiece_15 : decode cX10_addPiece 15 = .ok (.iconst (-1), 1) := by decide +kernel
theorem dX10_addPiece_16 : decode cX10_addPiece 16 = .ok (.ireturn, 1) := by decide +kernel
theorem dX10_addPiece_17 : decode cX10_addPiece 17 = .ok (.aload_n 0, 1) := by decide +kernel
theorem dX10_addPiece_18 : decode cX10_addPiece 18 = .ok (.getfield 39, 3) := by decide +kernel
theorem dX10_addPiece_21 : decode cX10_addPiece 21 = .ok (.iload_n 2, 1) := by decide +kernel
theorem dX10_addPiece_22 : decode cX10_addPiece 22 = .ok (.aload_n 1, 1) := by decide +kernel
theorem dX10_addPiece_23 : decode cX10_addPiece 23 = .ok (.aastore, 1) := by decide +kernel
theorem dX10_addPiece_24 : decode cX10_addPiece 24 = .ok (.aload_n 0, 1) := by decide +kernel
theorem dX10_addPiece_25 : decode cX10_addPiece 25 = .ok (.dup, 1) := by decide +kernel
theorem dX10_addPiece_26 : decode cX10_addPiece 26 = .ok (.getfield 110, 3) := by decide +kernel
theorem dX10_addPiece_29 : decode cX10_addPiece 29 = .ok (.iconst 1, 1) := by decide +kernel
theorem dX10_addPiece_30 : decode cX10_addPiece 30 = .ok (.iadd, 1) := by decide +kernel
theorem dX10_addPiece_31 : decode cX10_addPiece 31 = .ok (.putfield 110, 3) := by decide +kernel
theorem dX10_addPiece_34 : decode cX10_addPiece 34 = .ok (.iload_n 2, 1) := by decide +kernel
theorem dX10_addPiece_35 : decode cX10_addPiece 35 = .ok (.ireturn, 1) := by decide +kernel
abbrev dpX10_addPiece : Nat := 1
def fX10_addPiece (a0 : Nat) (x1 : Option Nat) : St → Option (Int32 × St) :=
 gI 11 a0 12 fun v1 =>
 cl (fX11_within v1 0 59) fun v2 =>
 br ((bi v2) = 0) (rt (-1))
 (gR 11 a0 11 fun v3 =>
 nn v3 fun a4 =>
 wR 20 8 a4 v1 x1 <|
 gI 11 a0 12 fun v5 =>
 pI 11 a0 12 (v5 + 1) <|
 rt v1)
set_option maxHeartbeats 4000000 in
set_option maxRecDepth 100000 in
theorem mX10_addPiece {E : Ev} {l : Launch} (a0 : Nat) (x1 : Option Nat) : MF E l dpX10_addPiece yX10_addPiece cX10_addPiece 3 (some .int) rvI [.ref (E.1 + a0), rf E.1 x1] (fX10_addPiece a0 x1) := by
  refine MF.of (lv := [(0, .ref (E.1 + a0)), (1, rf E.1 x1)]) (by decide) (by simp [lg_sl, rf_cat, cat_int, cat_long, cat_ref]) (by simp [lv_args, rf_cat, cat_int, cat_long, cat_ref]) ?_
  unfold fX10_addPiece
  refine sn_aload_n (pc := 0) (j := 0) dX10_addPiece_0 rfl rfl ?_
  refine sn_gI (pc := 1) dX10_addPiece_1 flX10_110 rfl (fun v1 => ?_)
  refine sn_istore_n (pc := 4) (i := 2) (lv' := [(2, .int v1), (0, .ref (E.1 + a0)), (1, rf E.1 x1)]) dX10_addPiece_4 rfl (by decide) (by simp [rf_some, rf_cat, cat_int, cat_long, cat_ref]) ?_
  refine sn_iload_n (pc := 5) (j := 0) dX10_addPiece_5 rfl rfl ?_
  refine sn_iconst (pc := 6) (v := 0) dX10_addPiece_6 (by decide) ?_
  refine sn_bipush (pc := 7) (v := 59) dX10_addPiece_7 (by decide) ?_
  refine sn_callSN (pc := 9) dX10_addPiece_9 iX11_within wt2_96 (List.mem_of_getElem? (i := 9) rfl) (mX11_within v1 0 59) (by decide) rfl rfl (Nat.le_of_ble_eq_true rfl) (fun v2 => ?_)
  refine sn_if_ne (pc := 12) (tgt := 17) dX10_addPiece_12 (by decide) ?_ ?_
  · refine sn_aload_n (pc := 17) (j := 1) dX10_addPiece_17 rfl rfl ?_
    refine sn_gR (pc := 18) dX10_addPiece_18 flX10_39 rfl (fun v3 => ?_)
    refine sn_iload_n (pc := 21) (j := 0) dX10_addPiece_21 rfl rfl ?_
    refine sn_aloadR_n (pc := 22) (r := x1) (j := 2) dX10_addPiece_22 rfl rfl ?_
    rcases v3 with _ | a4
    · exact sn_no
    refine sn_nn ?_
    refine sn_aast (ix := 0) (t := 6) (v := x1) (pc := 23) dX10_addPiece_23 ci_X7 (by decide) rfl ?_
    refine sn_aload_n (pc := 24) (j := 1) dX10_addPiece_24 rfl rfl ?_
    refine sn_dup (pc := 25) dX10_addPiece_25 rfl ?_
    refine sn_gI (pc := 26) dX10_addPiece_26 flX10_110 rfl (fun v5 => ?_)
    refine sn_iconst (pc := 29) (v := 1) dX10_addPiece_29 (by decide) ?_
    refine sn_iadd (pc := 30) dX10_addPiece_30 ?_
    refine sn_pI (pc := 31) dX10_addPiece_31 flX10_110 rfl rfl (Or.inl rfl) ?_
    refine sn_iload_n (pc := 34) (j := 0) dX10_addPiece_34 rfl rfl ?_
    exact sn_iret (pc := 35) dX10_addPiece_35 rfl
  · refine sn_iconst (pc := 15) (v := (-1)) dX10_addPiece_15 (by decide) ?_
    exact sn_iret (pc := 16) dX10_addPiece_16 rfl
theorem iX10_addPiece : MI yX10_addPiece cX10_addPiece 3 (some .int) 1 := ⟨wt1_2, wt4_199, by decide +kernel, by decide⟩
-- NeedleHomes$World addCarried(II)V
theorem dX10_addCarried_0 : decode cX10_addCarried 0 = .ok (.iload_n 1, 1) := by decide +kernel
theorem dX10_addCarried_1 : decode cX10_addCarried 1 = .ok (.iconst 0, 1) := by decide +kernel
theorem dX10_addCarried_2 : decode cX10_addCarried 2 = .ok (.iconst 2, 1) := by decide +kernel
theorem dX10_addCarried_3 : decode cX10_addCarried 3 = .ok (.invokestatic 139, 3) := by decide +kernel
theorem dX10_addCarried_6 : decode cX10_addCarried 6 = .ok (.ifCond .eq 13, 3) := by decide +kernel
theorem dX10_addCarried_9 : decode cX10_addCarried 9 = .ok (.aload_n 0, 1) := by decide +kernel
theorem dX10_addCarried_10 : decode cX10_addCarried 10 = .ok (.getfield 47, 3) := by decide +kernel
theorem dX10_addCarried_13 : decode cX10_addCarried 13 = .ok (.iload_n 1, 1) := by decide +kernel
theorem dX10_addCarried_14 : decode cX10_addCarried 14 = .ok (.dup2, 1) := by decide +kernel
theorem dX10_addCarried_15 : decode cX10_addCarried 15 = .ok (.iaload, 1) := by decide +kernel
theorem dX10_addCarried_16 : decode cX10_addCarried 16 = .ok (.iload_n 2, 1) := by decide +kernel
theorem dX10_addCarried_17 : decode cX10_addCarried 17 = .ok (.iadd, 1) := by decide +kernel
theorem dX10_addCarried_18 : decode cX10_addCarried 18 = .ok (.iastore, 1) := by decide +kernel
theorem dX10_addCarried_19 : decode cX10_addCarried 19 = .ok (.return_, 1) := by decide +kernel
abbrev dpX10_addCarried : Nat := 1
def fX10_addCarried (a0 : Nat) (x1 : Int32) (x2 : Int32) : St → Option (Unit × St) :=
 cl (fX11_within x1 0 2) fun v1 =>
 br ((bi v1) = 0) (rt ())
 (gR 11 a0 14 fun v2 =>
 nn v2 fun a4 =>
 aI 15 a4 x1 fun v3 =>
 wI a4 x1 (v3 + x2) <|
 rt ())
set_option maxHeartbeats 4000000 in
set_option maxRecDepth 100000 in
theorem mX10_addCarried {E : Ev} {l : Launch} (a0 : Nat) (x1 : Int32) (x2 : Int32) : MF E l dpX10_addCarried yX10_addCarried cX10_addCarried 3 none rvV [.ref (E.1 + a0), .int x1, .int x2] (fX10_addCarried a0 x1 x2) := by
  refine MF.of (lv := [(0, .ref (E.1 + a0)), (1, .int x1), (2, .int x2)]) (by decide) (Nat.le_of_ble_eq_true rfl) rfl ?_
  unfold fX10_addCarried
  refine sn_iload_n (pc := 0) (j := 1) dX10_addCarried_0 rfl rfl ?_
  refine sn_iconst (pc := 1) (v := 0) dX10_addCarried_1 (by decide) ?_
  refine sn_iconst (pc := 2) (v := 2) dX10_addCarried_2 (by decide) ?_
  refine sn_callSN (pc := 3) dX10_addCarried_3 iX11_within wt2_96 (List.mem_of_getElem? (i := 9) rfl) (mX11_within x1 0 2) (by decide) rfl rfl (Nat.le_of_ble_eq_true rfl) (fun v1 => ?_)
  refine sn_if_eq (pc := 6) (tgt := 19) dX10_addCarried_6 (by decide) ?_ ?_
  · exact sn_vret (pc := 19) dX10_addCarried_19 rfl
  · refine sn_aload_n (pc := 9) (j := 0) dX10_addCarried_9 rfl rfl ?_
    refine sn_gR (pc := 10) dX10_addCarried_10 flX10_47 rfl (fun v2 => ?_)
    refine sn_iload_n (pc := 13) (j := 1) dX10_addCarried_13 rfl rfl ?_
    refine sn_dup2 (pc := 14) dX10_addCarried_14 rfl (rf_cat _ _) ?_
    rcases v2 with _ | a4
    · exact sn_no
    refine sn_nn ?_
    refine sn_iald (pc := 15) dX10_addCarried_15 (fun v3 => ?_)
    refine sn_iload_n (pc := 16) (j := 2) dX10_addCarried_16 rfl rfl ?_
    refine sn_iadd (pc := 17) dX10_addCarried_17 ?_
    refine sn_iast (pc := 18) dX10_addCarried_18 ?_
    exact sn_vret (pc := 19) dX10_addCarried_19 rfl
theorem iX10_addCarried : MI yX10_addCarried cX10_addCarried 3 none 2 := ⟨wt1_2, wt5_5, by decide +kernel, by decide⟩
-- NeedleHomes$World piecesOutWith(I)I
theorem dX10_piecesOutWith_0 : decode cX10_piecesOutWith 0 = .ok (.iconst 0, 1) := by decide +kernel
theorem dX10_piecesOutWith_1 : decode cX10_piecesOutWith 1 = .ok (.istore_n 2, 1) := by decide +kernel
theorem dX10_piecesOutWith_2 : decode cX10_piecesOutWith 2 = .ok (.iconst 0, 1) := by decide +kernel
theorem dX10_piecesOutWith_3 : decode cX10_piecesOutWith 3 = .ok (.istore_n 3, 1) := by decide +kernel
theorem dX10_piecesOutWith_4 : decode cX10_piecesOutWith 4 = .ok (.iload_n 3, 1) := by decide +kernel
theorem dX10_piecesOutWith_5 : decode cX10_piecesOutWith 5 = .ok (.aload_n 0, 1) := by decide +kernel
theorem dX10_piecesOutWith_6 : decode cX10_piecesOutWith 6 = .ok (.getfield 110, 3) := by decide +kernel
theorem dX10_piecesOutWith_9 : decode cX10_piecesOutWith 9 = .ok (.if_icmp .ge 46, 3) := by decide +kernel
theorem dX10_piecesOutWith_12 : decode cX10_piecesOutWith 12 = .ok (.aload_n 0, 1) := by decide +kernel
theorem dX10_piecesOutWith_13 : decode cX10_piecesOutWith 13 = .ok (.iload_n 3, 1) := by decide +kernel
theorem dX10_piecesOutWith_14 : decode cX10_piecesOutWith 14 = .ok (.invokevirtual 113, 3) := by decide +kernel
theorem dX10_piecesOutWith_17 : decode cX10_piecesOutWith 17 = .ok (.astore 4, 2) := by decide +kernel
theorem dX10_piecesOutWith_19 : decode cX10_piecesOutWith 19 = .ok (.aload 4, 2) := by decide +kernel
theorem dX10_piecesOutWith_21 : decode cX10_piecesOutWith 21 = .ok (.ifnull 28, 3) := by decide +kernel
theorem dX10_piecesOutWith_24 : decode cX10_piecesOutWith 24 = .ok (.aload 4, 2) := by decide +kernel
theorem dX10_piecesOutWith_26 : decode cX10_piecesOutWith 26 = .ok (.invokevirtual 154, 3) := by decide +kernel
theorem dX10_piecesOutWith_29 : decode cX10_piecesOutWith 29 = .ok (.ifCond .ne 20, 3) := by decide +kernel
theorem dX10_piecesOutWith_32 : decode cX10_piecesOutWith 32 = .ok (.iload_n 1, 1) := by decide +kernel
theorem dX10_piecesOutWith_33 : decode cX10_piecesOutWith 33 = .ok (.iconst (-1), 1) := by decide +kernel
theorem dX10_piecesOutWith_34 : decode cX10_piecesOutWith 34 = .ok (.if_icmp .eq 12, 3) := by decide +kernel
theorem dX10_piecesOutWith_37 : decode cX10_piecesOutWith 37 = .ok (.aload 4, 2) := by decide +kernel
theorem dX10_piecesOutWith_39 : decode cX10_piecesOutWith 39 = .ok (.getfield 123, 3) := by decide +kernel
theorem dX10_piecesOutWith_42 : decode cX10_piecesOutWith 42 = .ok (.iload_n 1, 1) := by decide +kernel
theorem dX10_piecesOutWith_43 : decode cX10_piecesOutWith 43 = .ok (.if_icmp .ne 6, 3) := by decide +kernel
theorem dX10_piecesOutWith_46 : decode cX10_piecesOutWith 46 = .ok (.iinc 2 1, 3) := by decide +kernel
theorem dX10_piecesOutWith_49 : decode cX10_piecesOutWith 49 = .ok (.iinc 3 1, 3) := by decide +kernel
theorem dX10_piecesOutWith_52 : decode cX10_piecesOutWith 52 = .ok (.goto (-48), 3) := by decide +kernel
theorem dX10_piecesOutWith_55 : decode cX10_piecesOutWith 55 = .ok (.iload_n 2, 1) := by decide +kernel
theorem dX10_piecesOutWith_56 : decode cX10_piecesOutWith 56 = .ok (.ireturn, 1) := by decide +kernel
abbrev dpX10_piecesOutWith : Nat := 2
def fX10_piecesOutWith_49 (k4 : (Nat × Int32 × Int32 × Int32) → St → Option (Int32 × St)) (a0 : Nat) (x1 : Int32) (x2 : Int32) (x3 : Int32) : St → Option (Int32 × St) :=
 k4 (a0, x1, x2, (x3 + 1))
set_option maxHeartbeats 4000000 in
set_option maxRecDepth 100000 in
theorem sfX10_piecesOutWith_49 {E : Ev} {l : Launch} (k4 : (Nat × Int32 × Int32 × Int32) → St → Option (Int32 × St)) (hk4 : ∀ p : Nat × Int32 × Int32 × Int32, Snd E l (dpX10_piecesOutWith, RX10, cX10_piecesOutWith, 5, (some .int), "piecesOutWith") rvI 4 [(0, .ref (E.1 + p.1)), (1, .int p.2.1), (2, .int p.2.2.1), (3, .int p.2.2.2)] [] (k4 p)) (a0 : Nat) (x1 : Int32) (x2 : Int32) (x3 : Int32) : Snd E l (dpX10_piecesOutWith, RX10, cX10_piecesOutWith, 5, (some .int), "piecesOutWith") rvI 49 [(0, .ref (E.1 + a0)), (1, .int x1), (2, .int x2), (3, .int x3)] [] (fX10_piecesOutWith_49 k4 a0 x1 x2 x3) := by
  unfold fX10_piecesOutWith_49
  refine sn_iinc (pc := 49) (v := x3 + 1) (lv' := [(3, .int (x3 + 1)), (0, .ref (E.1 + a0)), (1, .int x1), (2, .int x2)]) (j := 3) dX10_piecesOutWith_49 rfl rfl (by decide) rfl ?_
  refine sn_goto (pc := 52) (tgt := 4) dX10_piecesOutWith_52 (by decide) ?_
  exact sn_sub (lv' := [(0, .ref (E.1 + a0)), (1, .int x1), (2, .int x2), (3, .int (x3 + 1))]) [1, 2, 3, 0] rfl (hk4 (a0, x1, x2, (x3 + 1)))
def fX10_piecesOutWith_46 (k4 : (Nat × Int32 × Int32 × Int32) → St → Option (Int32 × St)) (a0 : Nat) (x1 : Int32) (x2 : Int32) (x3 : Int32) : St → Option (Int32 × St) :=
 fX10_piecesOutWith_49 k4 a0 x1 (x2 + 1) x3
set_option maxHeartbeats 4000000 in
set_option maxRecDepth 100000 in
theorem sfX10_piecesOutWith_46 {E : Ev} {l : Launch} (k4 : (Nat × Int32 × Int32 × Int32) → St → Option (Int32 × St)) (hk4 : ∀ p : Nat × Int32 × Int32 × Int32, Snd E l (dpX10_piecesOutWith, RX10, cX10_piecesOutWith, 5, (some .int), "piecesOutWith") rvI 4 [(0, .ref (E.1 + p.1)), (1, .int p.2.1), (2, .int p.2.2.1), (3, .int p.2.2.2)] [] (k4 p)) (a0 : Nat) (x1 : Int32) (x2 : Int32) (x3 : Int32) : Snd E l (dpX10_piecesOutWith, RX10, cX10_piecesOutWith, 5, (some .int), "piecesOutWith") rvI 46 [(0, .ref (E.1 + a0)), (1, .int x1), (2, .int x2), (3, .int x3)] [] (fX10_piecesOutWith_46 k4 a0 x1 x2 x3) := by
  unfold fX10_piecesOutWith_46
  refine sn_iinc (pc := 46) (v := x2 + 1) (lv' := [(2, .int (x2 + 1)), (0, .ref (E.1 + a0)), (1, .int x1), (3, .int x3)]) (j := 2) dX10_piecesOutWith_46 rfl rfl (by decide) rfl ?_
  exact sn_sub (lv' := [(0, .ref (E.1 + a0)), (1, .int x1), (2, .int (x2 + 1)), (3, .int x3)]) [1, 2, 0, 3] rfl (sfX10_piecesOutWith_49 k4 hk4 a0 x1 (x2 + 1) x3)
def fX10_piecesOutWith_4 (k4 : (Nat × Int32 × Int32 × Int32) → St → Option (Int32 × St)) (a0 : Nat) (x1 : Int32) (x2 : Int32) (x3 : Int32) : St → Option (Int32 × St) :=
 gI 11 a0 12 fun v1001 =>
 br (v1001 ≤ x3) (rt x2)
 (ck 11 a0 <| cl (fX10_pieceAt a0 x3) fun v1002 =>
 on v1002 (fX10_piecesOutWith_49 k4 a0 x1 x2 x3)
 fun a1003 => ck 8 a1003 <| cl (fX7_isIn a1003) fun v1004 =>
 br ((bi v1004) = 0) (br (x1 = (-1)) (fX10_piecesOutWith_46 k4 a0 x1 x2 x3)
 (gI 8 a1003 2 fun v1005 =>
 br (v1005 = x1) (fX10_piecesOutWith_46 k4 a0 x1 x2 x3)
 (fX10_piecesOutWith_49 k4 a0 x1 x2 x3)))
 (fX10_piecesOutWith_49 k4 a0 x1 x2 x3))
set_option maxHeartbeats 4000000 in
set_option maxRecDepth 100000 in
theorem sfX10_piecesOutWith_4 {E : Ev} {l : Launch} (k4 : (Nat × Int32 × Int32 × Int32) → St → Option (Int32 × St)) (hk4 : ∀ p : Nat × Int32 × Int32 × Int32, Snd E l (dpX10_piecesOutWith, RX10, cX10_piecesOutWith, 5, (some .int), "piecesOutWith") rvI 4 [(0, .ref (E.1 + p.1)), (1, .int p.2.1), (2, .int p.2.2.1), (3, .int p.2.2.2)] [] (k4 p)) (a0 : Nat) (x1 : Int32) (x2 : Int32) (x3 : Int32) : Snd E l (dpX10_piecesOutWith, RX10, cX10_piecesOutWith, 5, (some .int), "piecesOutWith") rvI 4 [(0, .ref (E.1 + a0)), (1, .int x1), (2, .int x2), (3, .int x3)] [] (fX10_piecesOutWith_4 k4 a0 x1 x2 x3) := by
  unfold fX10_piecesOutWith_4
  refine sn_iload_n (pc := 4) (j := 3) dX10_piecesOutWith_4 rfl rfl ?_
  refine sn_aload_n (pc := 5) (j := 0) dX10_piecesOutWith_5 rfl rfl ?_
  refine sn_gI (pc := 6) dX10_piecesOutWith_6 flX10_110 rfl (fun v1001 => ?_)
  refine sn_icmp_ge (pc := 9) (tgt := 55) dX10_piecesOutWith_9 (by decide) ?_ ?_
  · refine sn_iload_n (pc := 55) (j := 2) dX10_piecesOutWith_55 rfl rfl ?_
    exact sn_iret (pc := 56) dX10_piecesOutWith_56 rfl
  · refine sn_aload_n (pc := 12) (j := 0) dX10_piecesOutWith_12 rfl rfl ?_
    refine sn_iload_n (pc := 13) (j := 3) dX10_piecesOutWith_13 rfl rfl ?_
    refine sn_callV (ci := 10) (pc := 14) dX10_piecesOutWith_14 iX10_pieceAt wt4_80 wt4_81 wt4_79 ⟨_, rfl, rfl⟩ (by decide) (mX10_pieceAt a0 x3) (by decide) rfl rfl (Nat.le_of_ble_eq_true rfl) (fun v1002 => ?_)
    refine sn_astoreR (pc := 17) (r := v1002) (i := 4) (lv' := [(4, rf E.1 v1002), (0, .ref (E.1 + a0)), (1, .int x1), (2, .int x2), (3, .int x3)]) dX10_piecesOutWith_17 (by decide) rfl ?_
    refine sn_aloadR (pc := 19) (r := v1002) (j := 0) dX10_piecesOutWith_19 rfl ?_
    rcases v1002 with _ | a1003
    · refine sn_onN ?_
      refine sn_ifnull_n (pc := 21) (tgt := 49) dX10_piecesOutWith_21 (by decide) ?_
      exact sn_sub (lv' := [(0, .ref (E.1 + a0)), (1, .int x1), (2, .int x2), (3, .int x3)]) [1, 2, 3, 4] rfl (sfX10_piecesOutWith_49 k4 hk4 a0 x1 x2 x3)
    · refine sn_onS ?_
      refine sn_ifnull_s (pc := 21) dX10_piecesOutWith_21 ?_
      refine sn_aload (pc := 24) (j := 0) dX10_piecesOutWith_24 rfl ?_
      refine sn_callV (ci := 7) (pc := 26) dX10_piecesOutWith_26 iX7_isIn wt4_84 wt4_85 wt4_83 ⟨_, rfl, rfl⟩ (by decide) (mX7_isIn a1003) (by decide) rfl rfl (Nat.le_of_ble_eq_true rfl) (fun v1004 => ?_)
      refine sn_if_ne (pc := 29) (tgt := 49) dX10_piecesOutWith_29 (by decide) ?_ ?_
      · exact sn_sub (lv' := [(0, .ref (E.1 + a0)), (1, .int x1), (2, .int x2), (3, .int x3)]) [1, 2, 3, 4] rfl (sfX10_piecesOutWith_49 k4 hk4 a0 x1 x2 x3)
      · refine sn_iload_n (pc := 32) (j := 2) dX10_piecesOutWith_32 rfl rfl ?_
        refine sn_iconst (pc := 33) (v := (-1)) dX10_piecesOutWith_33 (by decide) ?_
        refine sn_icmp_eq (pc := 34) (tgt := 46) dX10_piecesOutWith_34 (by decide) ?_ ?_
        · exact sn_sub (lv' := [(0, .ref (E.1 + a0)), (1, .int x1), (2, .int x2), (3, .int x3)]) [1, 2, 3, 4] rfl (sfX10_piecesOutWith_46 k4 hk4 a0 x1 x2 x3)
        · refine sn_aload (pc := 37) (j := 0) dX10_piecesOutWith_37 rfl ?_
          refine sn_gI (pc := 39) dX10_piecesOutWith_39 flX10_123 rfl (fun v1005 => ?_)
          refine sn_iload_n (pc := 42) (j := 2) dX10_piecesOutWith_42 rfl rfl ?_
          refine sn_icmp_ne (pc := 43) (tgt := 49) dX10_piecesOutWith_43 (by decide) ?_ ?_
          · exact sn_sub (lv' := [(0, .ref (E.1 + a0)), (1, .int x1), (2, .int x2), (3, .int x3)]) [1, 2, 3, 4] rfl (sfX10_piecesOutWith_49 k4 hk4 a0 x1 x2 x3)
          · exact sn_sub (lv' := [(0, .ref (E.1 + a0)), (1, .int x1), (2, .int x2), (3, .int x3)]) [1, 2, 3, 4] rfl (sfX10_piecesOutWith_46 k4 hk4 a0 x1 x2 x3)
def fX10_piecesOutWith (a0 : Nat) (x1 : Int32) : St → Option (Int32 × St) :=
 itr (fun k (p : Nat × Int32 × Int32 × Int32) => fX10_piecesOutWith_4  k p.1 p.2.1 p.2.2.1 p.2.2.2) FU (a0, x1, 0, 0)
set_option maxHeartbeats 4000000 in
set_option maxRecDepth 100000 in
theorem mX10_piecesOutWith {E : Ev} {l : Launch} (a0 : Nat) (x1 : Int32) : MF E l dpX10_piecesOutWith yX10_piecesOutWith cX10_piecesOutWith 5 (some .int) rvI [.ref (E.1 + a0), .int x1] (fX10_piecesOutWith a0 x1) := by
  refine MF.of (lv := [(0, .ref (E.1 + a0)), (1, .int x1)]) (by decide) (Nat.le_of_ble_eq_true rfl) rfl ?_
  unfold fX10_piecesOutWith
  refine sn_iconst (pc := 0) (v := 0) dX10_piecesOutWith_0 (by decide) ?_
  refine sn_istore_n (pc := 1) (i := 2) (lv' := [(2, .int 0), (0, .ref (E.1 + a0)), (1, .int x1)]) dX10_piecesOutWith_1 rfl (by decide) rfl ?_
  refine sn_iconst (pc := 2) (v := 0) dX10_piecesOutWith_2 (by decide) ?_
  refine sn_istore_n (pc := 3) (i := 3) (lv' := [(3, .int 0), (2, .int 0), (0, .ref (E.1 + a0)), (1, .int x1)]) dX10_piecesOutWith_3 rfl (by decide) rfl ?_
  exact sn_sub (lv' := [(0, .ref (E.1 + a0)), (1, .int x1), (2, .int 0), (3, .int 0)]) [2, 3, 1, 0] rfl (sn_itr (lvf := fun p => [(0, .ref (E.1 + p.1)), (1, .int p.2.1), (2, .int p.2.2.1), (3, .int p.2.2.2)]) (stf := fun p => []) (fun k hk p => sfX10_piecesOutWith_4  k hk p.1 p.2.1 p.2.2.1 p.2.2.2) FU (a0, x1, 0, 0))
theorem iX10_piecesOutWith : MI yX10_piecesOutWith cX10_piecesOutWith 5 (some .int) 1 := ⟨wt1_2, wt4_78, by decide +kernel, by decide⟩
-- NeedleHomes$World piecesThatDiffer()I
theorem dX10_piecesThatDiffer_0 : decode cX10_piecesThatDiffer 0 = .ok (.iconst 0, 1) := by decide +kernel
theorem dX10_piecesThatDiffer_1 : decode cX10_piecesThatDiffer 1 = .ok (.istore_n 1, 1) := by decide +kernel
theorem dX10_piecesThatDiffer_2 : decode cX10_piecesThatDiffer 2 = .ok (.iconst 0, 1) := by decide +kernel
theorem dX10_piecesThatDiffer_3 : decode cX10_piecesThatDiffer 3 = .ok (.istore_n 2, 1) := by decide +kernel
theorem dX10_piecesThatDiffer_4 : decode cX10_piecesThatDiffer 4 = .ok (.iload_n 2, 1) := by decide +kernel
theorem dX10_piecesThatDiffer_5 : decode cX10_piecesThatDiffer 5 = .ok (.aload_n 0, 1) := by decide +kernel
theorem dX10_piecesThatDiffer_6 : decode cX10_piecesThatDiffer 6 = .ok (.getfield 110, 3) := by decide +kernel
theorem dX10_piecesThatDiffer_9 : decode cX10_piecesThatDiffer 9 = .ok (.if_icmp .ge 29, 3) := by decide +kernel
theorem dX10_piecesThatDiffer_12 : decode cX10_piecesThatDiffer 12 = .ok (.aload_n 0, 1) := by decide +kernel
theorem dX10_piecesThatDiffer_13 : decode cX10_piecesThatDiffer 13 = .ok (.iload_n 2, 1) := by decide +kernel
theorem dX10_piecesThatDiffer_14 : decode cX10_piecesThatDiffer 14 = .ok (.invokevirtual 113, 3) := by decide +kernel
theorem dX10_piecesThatDiffer_17 : decode cX10_piecesThatDiffer 17 = .ok (.astore_n 3, 1) := by decide +kernel
theorem dX10_piecesThatDiffer_18 : decode cX10_piecesThatDiffer 18 = .ok (.aload_n 3, 1) := by decide +kernel
theorem dX10_piecesThatDiffer_19 : decode cX10_piecesThatDiffer 19 = .ok (.ifnull 13, 3) := by decide +kernel
theorem dX10_piecesThatDiffer_22 : decode cX10_piecesThatDiffer 22 = .ok (.aload_n 3, 1) := by decide +kernel
theorem dX10_piecesThatDiffer_23 : decode cX10_piecesThatDiffer 23 = .ok (.invokevirtual 158, 3) := by decide +kernel
theorem dX10_piecesThatDiffer_26 : decode cX10_piecesThatDiffer 26 = .ok (.ifCond .eq 6, 3) := by decide +kernel
theorem dX10_piecesThatDiffer_29 : decode cX10_piecesThatDiffer 29 = .ok (.iinc 1 1, 3) := by decide +kernel
theorem dX10_piecesThatDiffer_32 : decode cX10_piecesThatDiffer 32 = .ok (.iinc 2 1, 3) := by decide +kernel
theorem dX10_piecesThatDiffer_35 : decode cX10_piecesThatDiffer 35 = .ok (.goto (-31), 3) := by decide +kernel
theorem dX10_piecesThatDiffer_38 : decode cX10_piecesThatDiffer 38 = .ok (.iload_n 1, 1) := by decide +kernel
theorem dX10_piecesThatDiffer_39 : decode cX10_piecesThatDiffer 39 = .ok (.ireturn, 1) := by decide +kernel
abbrev dpX10_piecesThatDiffer : Nat := 2
def fX10_piecesThatDiffer_32 (k4 : (Nat × Int32 × Int32) → St → Option (Int32 × St)) (a0 : Nat) (x1 : Int32) (x2 : Int32) : St → Option (Int32 × St) :=
 k4 (a0, x1, (x2 + 1))
set_option maxHeartbeats 4000000 in
set_option maxRecDepth 100000 in
theorem sfX10_piecesThatDiffer_32 {E : Ev} {l : Launch} (k4 : (Nat × Int32 × Int32) → St → Option (Int32 × St)) (hk4 : ∀ p : Nat × Int32 × Int32, Snd E l (dpX10_piecesThatDiffer, RX10, cX10_piecesThatDiffer, 4, (some .int), "piecesThatDiffer") rvI 4 [(0, .ref (E.1 + p.1)), (1, .int p.2.1), (2, .int p.2.2)] [] (k4 p)) (a0 : Nat) (x1 : Int32) (x2 : Int32) : Snd E l (dpX10_piecesThatDiffer, RX10, cX10_piecesThatDiffer, 4, (some .int), "piecesThatDiffer") rvI 32 [(0, .ref (E.1 + a0)), (1, .int x1), (2, .int x2)] [] (fX10_piecesThatDiffer_32 k4 a0 x1 x2) := by
  unfold fX10_piecesThatDiffer_32
  refine sn_iinc (pc := 32) (v := x2 + 1) (lv' := [(2, .int (x2 + 1)), (0, .ref (E.1 + a0)), (1, .int x1)]) (j := 2) dX10_piecesThatDiffer_32 rfl rfl (by decide) rfl ?_
  refine sn_goto (pc := 35) (tgt := 4) dX10_piecesThatDiffer_35 (by decide) ?_
  exact sn_sub (lv' := [(0, .ref (E.1 + a0)), (1, .int x1), (2, .int (x2 + 1))]) [1, 2, 0] rfl (hk4 (a0, x1, (x2 + 1)))
def fX10_piecesThatDiffer_4 (k4 : (Nat × Int32 × Int32) → St → Option (Int32 × St)) (a0 : Nat) (x1 : Int32) (x2 : Int32) : St → Option (Int32 × St) :=
 gI 11 a0 12 fun v1001 =>
 br (v1001 ≤ x2) (rt x1)
 (ck 11 a0 <| cl (fX10_pieceAt a0 x2) fun v1002 =>
 on v1002 (fX10_piecesThatDiffer_32 k4 a0 x1 x2)
 fun a1003 => ck 8 a1003 <| cl (fX7_differences a1003) fun v1004 =>
 br (v1004 = 0) (fX10_piecesThatDiffer_32 k4 a0 x1 x2)
 (fX10_piecesThatDiffer_32 k4 a0 (x1 + 1) x2))
set_option maxHeartbeats 4000000 in
set_option maxRecDepth 100000 in
theorem sfX10_piecesThatDiffer_4 {E : Ev} {l : Launch} (k4 : (Nat × Int32 × Int32) → St → Option (Int32 × St)) (hk4 : ∀ p : Nat × Int32 × Int32, Snd E l (dpX10_piecesThatDiffer, RX10, cX10_piecesThatDiffer, 4, (some .int), "piecesThatDiffer") rvI 4 [(0, .ref (E.1 + p.1)), (1, .int p.2.1), (2, .int p.2.2)] [] (k4 p)) (a0 : Nat) (x1 : Int32) (x2 : Int32) : Snd E l (dpX10_piecesThatDiffer, RX10, cX10_piecesThatDiffer, 4, (some .int), "piecesThatDiffer") rvI 4 [(0, .ref (E.1 + a0)), (1, .int x1), (2, .int x2)] [] (fX10_piecesThatDiffer_4 k4 a0 x1 x2) := by
  unfold fX10_piecesThatDiffer_4
  refine sn_iload_n (pc := 4) (j := 2) dX10_piecesThatDiffer_4 rfl rfl ?_
  refine sn_aload_n (pc := 5) (j := 0) dX10_piecesThatDiffer_5 rfl rfl ?_
  refine sn_gI (pc := 6) dX10_piecesThatDiffer_6 flX10_110 rfl (fun v1001 => ?_)
  refine sn_icmp_ge (pc := 9) (tgt := 38) dX10_piecesThatDiffer_9 (by decide) ?_ ?_
  · refine sn_iload_n (pc := 38) (j := 1) dX10_piecesThatDiffer_38 rfl rfl ?_
    exact sn_iret (pc := 39) dX10_piecesThatDiffer_39 rfl
  · refine sn_aload_n (pc := 12) (j := 0) dX10_piecesThatDiffer_12 rfl rfl ?_
    refine sn_iload_n (pc := 13) (j := 2) dX10_piecesThatDiffer_13 rfl rfl ?_
    refine sn_callV (ci := 10) (pc := 14) dX10_piecesThatDiffer_14 iX10_pieceAt wt4_80 wt4_81 wt4_79 ⟨_, rfl, rfl⟩ (by decide) (mX10_pieceAt a0 x2) (by decide) rfl rfl (Nat.le_of_ble_eq_true rfl) (fun v1002 => ?_)
    refine sn_astoreR_n (pc := 17) (r := v1002) (i := 3) (lv' := [(3, rf E.1 v1002), (0, .ref (E.1 + a0)), (1, .int x1), (2, .int x2)]) dX10_piecesThatDiffer_17 rfl (by decide) rfl ?_
    refine sn_aloadR_n (pc := 18) (r := v1002) (j := 0) dX10_piecesThatDiffer_18 rfl rfl ?_
    rcases v1002 with _ | a1003
    · refine sn_onN ?_
      refine sn_ifnull_n (pc := 19) (tgt := 32) dX10_piecesThatDiffer_19 (by decide) ?_
      exact sn_sub (lv' := [(0, .ref (E.1 + a0)), (1, .int x1), (2, .int x2)]) [1, 2, 3] rfl (sfX10_piecesThatDiffer_32 k4 hk4 a0 x1 x2)
    · refine sn_onS ?_
      refine sn_ifnull_s (pc := 19) dX10_piecesThatDiffer_19 ?_
      refine sn_aload_n (pc := 22) (j := 0) dX10_piecesThatDiffer_22 rfl rfl ?_
      refine sn_callV (ci := 7) (pc := 23) dX10_piecesThatDiffer_23 iX7_differences wt5_32 wt5_33 wt5_192 ⟨_, rfl, rfl⟩ (by decide) (mX7_differences a1003) (by decide) rfl rfl (Nat.le_of_ble_eq_true rfl) (fun v1004 => ?_)
      refine sn_if_eq (pc := 26) (tgt := 32) dX10_piecesThatDiffer_26 (by decide) ?_ ?_
      · exact sn_sub (lv' := [(0, .ref (E.1 + a0)), (1, .int x1), (2, .int x2)]) [1, 2, 3] rfl (sfX10_piecesThatDiffer_32 k4 hk4 a0 x1 x2)
      · refine sn_iinc (pc := 29) (v := x1 + 1) (lv' := [(1, .int (x1 + 1)), (3, .ref (E.1 + a1003)), (0, .ref (E.1 + a0)), (2, .int x2)]) (j := 2) dX10_piecesThatDiffer_29 rfl rfl (by decide) rfl ?_
        exact sn_sub (lv' := [(0, .ref (E.1 + a0)), (1, .int (x1 + 1)), (2, .int x2)]) [2, 0, 3] rfl (sfX10_piecesThatDiffer_32 k4 hk4 a0 (x1 + 1) x2)
def fX10_piecesThatDiffer (a0 : Nat) : St → Option (Int32 × St) :=
 itr (fun k (p : Nat × Int32 × Int32) => fX10_piecesThatDiffer_4  k p.1 p.2.1 p.2.2) FU (a0, 0, 0)
set_option maxHeartbeats 4000000 in
set_option maxRecDepth 100000 in
theorem mX10_piecesThatDiffer {E : Ev} {l : Launch} (a0 : Nat) : MF E l dpX10_piecesThatDiffer yX10_piecesThatDiffer cX10_piecesThatDiffer 4 (some .int) rvI [.ref (E.1 + a0)] (fX10_piecesThatDiffer a0) := by
  refine MF.of (lv := [(0, .ref (E.1 + a0))]) (by decide) (Nat.le_of_ble_eq_true rfl) rfl ?_
  unfold fX10_piecesThatDiffer
  refine sn_iconst (pc := 0) (v := 0) dX10_piecesThatDiffer_0 (by decide) ?_
  refine sn_istore_n (pc := 1) (i := 1) (lv' := [(1, .int 0), (0, .ref (E.1 + a0))]) dX10_piecesThatDiffer_1 rfl (by decide) rfl ?_
  refine sn_iconst (pc := 2) (v := 0) dX10_piecesThatDiffer_2 (by decide) ?_
  refine sn_istore_n (pc := 3) (i := 2) (lv' := [(2, .int 0), (1, .int 0), (0, .ref (E.1 + a0))]) dX10_piecesThatDiffer_3 rfl (by decide) rfl ?_
  exact sn_sub (lv' := [(0, .ref (E.1 + a0)), (1, .int 0), (2, .int 0)]) [2, 1, 0] rfl (sn_itr (lvf := fun p => [(0, .ref (E.1 + p.1)), (1, .int p.2.1), (2, .int p.2.2)]) (stf := fun p => []) (fun k hk p => sfX10_piecesThatDiffer_4  k hk p.1 p.2.1 p.2.2) FU (a0, 0, 0))
theorem iX10_piecesThatDiffer : MI yX10_piecesThatDiffer cX10_piecesThatDiffer 4 (some .int) 0 := ⟨wt1_2, wt5_191, by decide +kernel, by decide⟩
-- NeedleHomes$World allDebts()I
theorem dX10_allDebts_0 : decode cX10_allDebts 0 = .ok (.iconst 0, 1) := by decide +kernel
theorem dX10_allDebts_1 : decode cX10_allDebts 1 = .ok (.istore_n 1, 1) := by decide +kernel
theorem dX10_allDebts_2 : decode cX10_allDebts 2 = .ok (.iconst 0, 1) := by decide +kernel
theorem dX10_allDebts_3 : decode cX10_allDebts 3 = .ok (.istore_n 2, 1) := by decide +kernel
theorem dX10_allDebts_4 : decode cX10_allDebts 4 = .ok (.iload_n 2, 1) := by decide +kernel
theorem dX10_allDebts_5 : decode cX10_allDebts 5 = .ok (.aload_n 0, 1) := by decide +kernel
theorem dX10_allDebts_6 : decode cX10_allDebts 6 = .ok (.getfield 87, 3) := by decide +kernel
theorem dX10_allDebts_9 : decode cX10_allDebts 9 = .ok (.if_icmp .ge 30, 3) := by decide +kernel
theorem dX10_allDebts_12 : decode cX10_allDebts 12 = .ok (.aload_n 0, 1) := by decide +kernel
theorem dX10_allDebts_13 : decode cX10_allDebts 13 = .ok (.iload_n 2, 1) := by decide +kernel
theorem dX10_allDebts_14 : decode cX10_allDebts 14 = .ok (.invokevirtual 90, 3) := by decide +kernel
theorem dX10_allDebts_17 : decode cX10_allDebts 17 = .ok (.astore_n 3, 1) := by decide +kernel
theorem dX10_allDebts_18 : decode cX10_allDebts 18 = .ok (.iload_n 1, 1) := by decide +kernel
theorem dX10_allDebts_19 : decode cX10_allDebts 19 = .ok (.aload_n 3, 1) := by decide +kernel
theorem dX10_allDebts_20 : decode cX10_allDebts 20 = .ok (.ifnonnull 7, 3) := by decide +kernel
theorem dX10_allDebts_23 : decode cX10_allDebts 23 = .ok (.iconst 0, 1) := by decide +kernel
theorem dX10_allDebts_24 : decode cX10_allDebts 24 = .ok (.goto 7, 3) := by decide +kernel
theorem dX10_allDebts_27 : decode cX10_allDebts 27 = .ok (.aload_n 3, 1) := by decide +kernel
theorem dX10_allDebts_28 : decode cX10_allDebts 28 = .ok (.getfield 162, 3) := by decide +kernel
theorem dX10_allDebts_31 : decode cX10_allDebts 31 = .ok (.iadd, 1) := by decide +kernel
theorem dX10_allDebts_32 : decode cX10_allDebts 32 = .ok (.istore_n 1, 1) := by decide +kernel
theorem dX10_allDebts_33 : decode cX10_allDebts 33 = .ok (.iinc 2 1, 3) := by decide +kernel
theorem dX10_allDebts_36 : decode cX10_allDebts 36 = .ok (.goto (-32), 3) := by decide +kernel
theorem dX10_allDebts_39 : decode cX10_allDebts 39 = .ok (.iload_n 1, 1) := by decide +kernel
theorem dX10_allDebts_40 : decode cX10_allDebts 40 = .ok (.ireturn, 1) := by decide +kernel
abbrev dpX10_allDebts : Nat := 2
def fX10_allDebts_31 (k4 : (Nat × Int32 × Int32) → St → Option (Int32 × St)) (a0 : Nat) (x2 : Int32) (y0 : Int32) (y1 : Int32) : St → Option (Int32 × St) :=
 k4 (a0, (y1 + y0), (x2 + 1))
set_option maxHeartbeats 4000000 in
set_option maxRecDepth 100000 in
theorem sfX10_allDebts_31 {E : Ev} {l : Launch} (k4 : (Nat × Int32 × Int32) → St → Option (Int32 × St)) (hk4 : ∀ p : Nat × Int32 × Int32, Snd E l (dpX10_allDebts, RX10, cX10_allDebts, 4, (some .int), "allDebts") rvI 4 [(0, .ref (E.1 + p.1)), (1, .int p.2.1), (2, .int p.2.2)] [] (k4 p)) (a0 : Nat) (x2 : Int32) (y0 : Int32) (y1 : Int32) : Snd E l (dpX10_allDebts, RX10, cX10_allDebts, 4, (some .int), "allDebts") rvI 31 [(0, .ref (E.1 + a0)), (2, .int x2)] [.int y0, .int y1] (fX10_allDebts_31 k4 a0 x2 y0 y1) := by
  unfold fX10_allDebts_31
  refine sn_iadd (pc := 31) dX10_allDebts_31 ?_
  refine sn_istore_n (pc := 32) (i := 1) (lv' := [(1, .int (y1 + y0)), (0, .ref (E.1 + a0)), (2, .int x2)]) dX10_allDebts_32 rfl (by decide) rfl ?_
  refine sn_iinc (pc := 33) (v := x2 + 1) (lv' := [(2, .int (x2 + 1)), (1, .int (y1 + y0)), (0, .ref (E.1 + a0))]) (j := 2) dX10_allDebts_33 rfl rfl (by decide) rfl ?_
  refine sn_goto (pc := 36) (tgt := 4) dX10_allDebts_36 (by decide) ?_
  exact sn_sub (lv' := [(0, .ref (E.1 + a0)), (1, .int (y1 + y0)), (2, .int (x2 + 1))]) [2, 1, 0] rfl (hk4 (a0, (y1 + y0), (x2 + 1)))
def fX10_allDebts_4 (k4 : (Nat × Int32 × Int32) → St → Option (Int32 × St)) (a0 : Nat) (x1 : Int32) (x2 : Int32) : St → Option (Int32 × St) :=
 gI 11 a0 10 fun v1001 =>
 br (v1001 ≤ x2) (rt x1)
 (ck 11 a0 <| cl (fX10_handAt a0 x2) fun v1002 =>
 on v1002 (fX10_allDebts_31 k4 a0 x2 0 x1)
 fun a1003 => gI 3 a1003 3 fun v1004 =>
 fX10_allDebts_31 k4 a0 x2 v1004 x1)
set_option maxHeartbeats 4000000 in
set_option maxRecDepth 100000 in
theorem sfX10_allDebts_4 {E : Ev} {l : Launch} (k4 : (Nat × Int32 × Int32) → St → Option (Int32 × St)) (hk4 : ∀ p : Nat × Int32 × Int32, Snd E l (dpX10_allDebts, RX10, cX10_allDebts, 4, (some .int), "allDebts") rvI 4 [(0, .ref (E.1 + p.1)), (1, .int p.2.1), (2, .int p.2.2)] [] (k4 p)) (a0 : Nat) (x1 : Int32) (x2 : Int32) : Snd E l (dpX10_allDebts, RX10, cX10_allDebts, 4, (some .int), "allDebts") rvI 4 [(0, .ref (E.1 + a0)), (1, .int x1), (2, .int x2)] [] (fX10_allDebts_4 k4 a0 x1 x2) := by
  unfold fX10_allDebts_4
  refine sn_iload_n (pc := 4) (j := 2) dX10_allDebts_4 rfl rfl ?_
  refine sn_aload_n (pc := 5) (j := 0) dX10_allDebts_5 rfl rfl ?_
  refine sn_gI (pc := 6) dX10_allDebts_6 flX10_87 rfl (fun v1001 => ?_)
  refine sn_icmp_ge (pc := 9) (tgt := 39) dX10_allDebts_9 (by decide) ?_ ?_
  · refine sn_iload_n (pc := 39) (j := 1) dX10_allDebts_39 rfl rfl ?_
    exact sn_iret (pc := 40) dX10_allDebts_40 rfl
  · refine sn_aload_n (pc := 12) (j := 0) dX10_allDebts_12 rfl rfl ?_
    refine sn_iload_n (pc := 13) (j := 2) dX10_allDebts_13 rfl rfl ?_
    refine sn_callV (ci := 10) (pc := 14) dX10_allDebts_14 iX10_handAt wt4_54 wt4_55 wt5_126 ⟨_, rfl, rfl⟩ (by decide) (mX10_handAt a0 x2) (by decide) rfl rfl (Nat.le_of_ble_eq_true rfl) (fun v1002 => ?_)
    refine sn_astoreR_n (pc := 17) (r := v1002) (i := 3) (lv' := [(3, rf E.1 v1002), (0, .ref (E.1 + a0)), (1, .int x1), (2, .int x2)]) dX10_allDebts_17 rfl (by decide) rfl ?_
    refine sn_iload_n (pc := 18) (j := 2) dX10_allDebts_18 rfl rfl ?_
    refine sn_aloadR_n (pc := 19) (r := v1002) (j := 0) dX10_allDebts_19 rfl rfl ?_
    rcases v1002 with _ | a1003
    · refine sn_onN ?_
      refine sn_ifnonnull_n (pc := 20) dX10_allDebts_20 ?_
      refine sn_iconst (pc := 23) (v := 0) dX10_allDebts_23 (by decide) ?_
      refine sn_goto (pc := 24) (tgt := 31) dX10_allDebts_24 (by decide) ?_
      exact sn_sub (lv' := [(0, .ref (E.1 + a0)), (2, .int x2)]) [1, 3] rfl (sfX10_allDebts_31 k4 hk4 a0 x2 0 x1)
    · refine sn_onS ?_
      refine sn_ifnonnull_s (pc := 20) (tgt := 27) dX10_allDebts_20 (by decide) ?_
      refine sn_aload_n (pc := 27) (j := 0) dX10_allDebts_27 rfl rfl ?_
      refine sn_gI (pc := 28) dX10_allDebts_28 flX10_162 rfl (fun v1004 => ?_)
      exact sn_sub (lv' := [(0, .ref (E.1 + a0)), (2, .int x2)]) [1, 3] rfl (sfX10_allDebts_31 k4 hk4 a0 x2 v1004 x1)
def fX10_allDebts (a0 : Nat) : St → Option (Int32 × St) :=
 itr (fun k (p : Nat × Int32 × Int32) => fX10_allDebts_4  k p.1 p.2.1 p.2.2) FU (a0, 0, 0)
set_option maxHeartbeats 4000000 in
set_option maxRecDepth 100000 in
theorem mX10_allDebts {E : Ev} {l : Launch} (a0 : Nat) : MF E l dpX10_allDebts yX10_allDebts cX10_allDebts 4 (some .int) rvI [.ref (E.1 + a0)] (fX10_allDebts a0) := by
  refine MF.of (lv := [(0, .ref (E.1 + a0))]) (by decide) (Nat.le_of_ble_eq_true rfl) rfl ?_
  unfold fX10_allDebts
  refine sn_iconst (pc := 0) (v := 0) dX10_allDebts_0 (by decide) ?_
  refine sn_istore_n (pc := 1) (i := 1) (lv' := [(1, .int 0), (0, .ref (E.1 + a0))]) dX10_allDebts_1 rfl (by decide) rfl ?_
  refine sn_iconst (pc := 2) (v := 0) dX10_allDebts_2 (by decide) ?_
  refine sn_istore_n (pc := 3) (i := 2) (lv' := [(2, .int 0), (1, .int 0), (0, .ref (E.1 + a0))]) dX10_allDebts_3 rfl (by decide) rfl ?_
  exact sn_sub (lv' := [(0, .ref (E.1 + a0)), (1, .int 0), (2, .int 0)]) [2, 1, 0] rfl (sn_itr (lvf := fun p => [(0, .ref (E.1 + p.1)), (1, .int p.2.1), (2, .int p.2.2)]) (stf := fun p => []) (fun k hk p => sfX10_allDebts_4  k hk p.1 p.2.1 p.2.2) FU (a0, 0, 0))
theorem iX10_allDebts : MI yX10_allDebts cX10_allDebts 4 (some .int) 0 := ⟨wt1_2, wt5_196, by decide +kernel, by decide⟩
-- NeedleHomes$World allNet()I
theorem dX10_allNet_0 : decode cX10_allNet 0 = .ok (.iconst 0, 1) := by decide +kernel
theorem dX10_allNet_1 : decode cX10_allNet 1 = .ok (.istore_n 1, 1) := by decide +kernel
theorem dX10_allNet_2 : decode cX10_allNet 2 = .ok (.iconst 0, 1) := by decide +kernel
theorem dX10_allNet_3 : decode cX10_allNet 3 = .ok (.istore_n 2, 1) := by decide +kernel
theorem dX10_allNet_4 : decode cX10_allNet 4 = .ok (.iload_n 2, 1) := by decide +kernel
theorem dX10_allNet_5 : decode cX10_allNet 5 = .ok (.aload_n 0, 1) := by decide +kernel
theorem dX10_allNet_6 : decode cX10_allNet 6 = .ok (.getfield 87, 3) := by decide +kernel
theorem dX10_allNet_9 : decode cX10_allNet 9 = .ok (.if_icmp .ge 30, 3) := by decide +kernel
theorem dX10_allNet_12 : decode cX10_allNet 12 = .ok (.aload_n 0, 1) := by decide +kernel
theorem dX10_allNet_13 : decode cX10_allNet 13 = .ok (.iload_n 2, 1) := by decide +kernel
theorem dX10_allNet_14 : decode cX10_allNet 14 = .ok (.invokevirtual 90, 3) := by decide +kernel
theorem dX10_allNet_17 : decode cX10_allNet 17 = .ok (.astore_n 3, 1) := by decide +kernel
theorem dX10_allNet_18 : decode cX10_allNet 18 = .ok (.iload_n 1, 1) := by decide +kernel
theorem dX10_allNet_19 : decode cX10_allNet 19 = .ok (.aload_n 3, 1) := by decide +kernel
theorem dX10_allNet_20 : decode cX10_allNet 20 = .ok (.ifnonnull 7, 3) := by decide +kernel
theorem dX10_allNet_23 : decode cX10_allNet 23 = .ok (.iconst 0, 1) := by decide +kernel
theorem dX10_allNet_24 : decode cX10_allNet 24 = .ok (.goto 7, 3) := by decide +kernel
theorem dX10_allNet_27 : decode cX10_allNet 27 = .ok (.aload_n 3, 1) := by decide +kernel
theorem dX10_allNet_28 : decode cX10_allNet 28 = .ok (.getfield 165, 3) := by decide +kernel
theorem dX10_allNet_31 : decode cX10_allNet 31 = .ok (.iadd, 1) := by decide +kernel
theorem dX10_allNet_32 : decode cX10_allNet 32 = .ok (.istore_n 1, 1) := by decide +kernel
theorem dX10_allNet_33 : decode cX10_allNet 33 = .ok (.iinc 2 1, 3) := by decide +kernel
theorem dX10_allNet_36 : decode cX10_allNet 36 = .ok (.goto (-32), 3) := by decide +kernel
theorem dX10_allNet_39 : decode cX10_allNet 39 = .ok (.iload_n 1, 1) := by decide +kernel
theorem dX10_allNet_40 : decode cX10_allNet 40 = .ok (.ireturn, 1) := by decide +kernel
abbrev dpX10_allNet : Nat := 2
def fX10_allNet_31 (k4 : (Nat × Int32 × Int32) → St → Option (Int32 × St)) (a0 : Nat) (x2 : Int32) (y0 : Int32) (y1 : Int32) : St → Option (Int32 × St) :=
 k4 (a0, (y1 + y0), (x2 + 1))
set_option maxHeartbeats 4000000 in
set_option maxRecDepth 100000 in
theorem sfX10_allNet_31 {E : Ev} {l : Launch} (k4 : (Nat × Int32 × Int32) → St → Option (Int32 × St)) (hk4 : ∀ p : Nat × Int32 × Int32, Snd E l (dpX10_allNet, RX10, cX10_allNet, 4, (some .int), "allNet") rvI 4 [(0, .ref (E.1 + p.1)), (1, .int p.2.1), (2, .int p.2.2)] [] (k4 p)) (a0 : Nat) (x2 : Int32) (y0 : Int32) (y1 : Int32) : Snd E l (dpX10_allNet, RX10, cX10_allNet, 4, (some .int), "allNet") rvI 31 [(0, .ref (E.1 + a0)), (2, .int x2)] [.int y0, .int y1] (fX10_allNet_31 k4 a0 x2 y0 y1) := by
  unfold fX10_allNet_31
  refine sn_iadd (pc := 31) dX10_allNet_31 ?_
  refine sn_istore_n (pc := 32) (i := 1) (lv' := [(1, .int (y1 + y0)), (0, .ref (E.1 + a0)), (2, .int x2)]) dX10_allNet_32 rfl (by decide) rfl ?_
  refine sn_iinc (pc := 33) (v := x2 + 1) (lv' := [(2, .int (x2 + 1)), (1, .int (y1 + y0)), (0, .ref (E.1 + a0))]) (j := 2) dX10_allNet_33 rfl rfl (by decide) rfl ?_
  refine sn_goto (pc := 36) (tgt := 4) dX10_allNet_36 (by decide) ?_
  exact sn_sub (lv' := [(0, .ref (E.1 + a0)), (1, .int (y1 + y0)), (2, .int (x2 + 1))]) [2, 1, 0] rfl (hk4 (a0, (y1 + y0), (x2 + 1)))
def fX10_allNet_4 (k4 : (Nat × Int32 × Int32) → St → Option (Int32 × St)) (a0 : Nat) (x1 : Int32) (x2 : Int32) : St → Option (Int32 × St) :=
 gI 11 a0 10 fun v1001 =>
 br (v1001 ≤ x2) (rt x1)
 (ck 11 a0 <| cl (fX10_handAt a0 x2) fun v1002 =>
 on v1002 (fX10_allNet_31 k4 a0 x2 0 x1)
 fun a1003 => gI 3 a1003 4 fun v1004 =>
 fX10_allNet_31 k4 a0 x2 v1004 x1)
set_option maxHeartbeats 4000000 in
set_option maxRecDepth 100000 in
theorem sfX10_allNet_4 {E : Ev} {l : Launch} (k4 : (Nat × Int32 × Int32) → St → Option (Int32 × St)) (hk4 : ∀ p : Nat × Int32 × Int32, Snd E l (dpX10_allNet, RX10, cX10_allNet, 4, (some .int), "allNet") rvI 4 [(0, .ref (E.1 + p.1)), (1, .int p.2.1), (2, .int p.2.2)] [] (k4 p)) (a0 : Nat) (x1 : Int32) (x2 : Int32) : Snd E l (dpX10_allNet, RX10, cX10_allNet, 4, (some .int), "allNet") rvI 4 [(0, .ref (E.1 + a0)), (1, .int x1), (2, .int x2)] [] (fX10_allNet_4 k4 a0 x1 x2) := by
  unfold fX10_allNet_4
  refine sn_iload_n (pc := 4) (j := 2) dX10_allNet_4 rfl rfl ?_
  refine sn_aload_n (pc := 5) (j := 0) dX10_allNet_5 rfl rfl ?_
  refine sn_gI (pc := 6) dX10_allNet_6 flX10_87 rfl (fun v1001 => ?_)
  refine sn_icmp_ge (pc := 9) (tgt := 39) dX10_allNet_9 (by decide) ?_ ?_
  · refine sn_iload_n (pc := 39) (j := 1) dX10_allNet_39 rfl rfl ?_
    exact sn_iret (pc := 40) dX10_allNet_40 rfl
  · refine sn_aload_n (pc := 12) (j := 0) dX10_allNet_12 rfl rfl ?_
    refine sn_iload_n (pc := 13) (j := 2) dX10_allNet_13 rfl rfl ?_
    refine sn_callV (ci := 10) (pc := 14) dX10_allNet_14 iX10_handAt wt4_54 wt4_55 wt5_126 ⟨_, rfl, rfl⟩ (by decide) (mX10_handAt a0 x2) (by decide) rfl rfl (Nat.le_of_ble_eq_true rfl) (fun v1002 => ?_)
    refine sn_astoreR_n (pc := 17) (r := v1002) (i := 3) (lv' := [(3, rf E.1 v1002), (0, .ref (E.1 + a0)), (1, .int x1), (2, .int x2)]) dX10_allNet_17 rfl (by decide) rfl ?_
    refine sn_iload_n (pc := 18) (j := 2) dX10_allNet_18 rfl rfl ?_
    refine sn_aloadR_n (pc := 19) (r := v1002) (j := 0) dX10_allNet_19 rfl rfl ?_
    rcases v1002 with _ | a1003
    · refine sn_onN ?_
      refine sn_ifnonnull_n (pc := 20) dX10_allNet_20 ?_
      refine sn_iconst (pc := 23) (v := 0) dX10_allNet_23 (by decide) ?_
      refine sn_goto (pc := 24) (tgt := 31) dX10_allNet_24 (by decide) ?_
      exact sn_sub (lv' := [(0, .ref (E.1 + a0)), (2, .int x2)]) [1, 3] rfl (sfX10_allNet_31 k4 hk4 a0 x2 0 x1)
    · refine sn_onS ?_
      refine sn_ifnonnull_s (pc := 20) (tgt := 27) dX10_allNet_20 (by decide) ?_
      refine sn_aload_n (pc := 27) (j := 0) dX10_allNet_27 rfl rfl ?_
      refine sn_gI (pc := 28) dX10_allNet_28 flX10_165 rfl (fun v1004 => ?_)
      exact sn_sub (lv' := [(0, .ref (E.1 + a0)), (2, .int x2)]) [1, 3] rfl (sfX10_allNet_31 k4 hk4 a0 x2 v1004 x1)
def fX10_allNet (a0 : Nat) : St → Option (Int32 × St) :=
 itr (fun k (p : Nat × Int32 × Int32) => fX10_allNet_4  k p.1 p.2.1 p.2.2) FU (a0, 0, 0)
set_option maxHeartbeats 4000000 in
set_option maxRecDepth 100000 in
theorem mX10_allNet {E : Ev} {l : Launch} (a0 : Nat) : MF E l dpX10_allNet yX10_allNet cX10_allNet 4 (some .int) rvI [.ref (E.1 + a0)] (fX10_allNet a0) := by
  refine MF.of (lv := [(0, .ref (E.1 + a0))]) (by decide) (Nat.le_of_ble_eq_true rfl) rfl ?_
  unfold fX10_allNet
  refine sn_iconst (pc := 0) (v := 0) dX10_allNet_0 (by decide) ?_
  refine sn_istore_n (pc := 1) (i := 1) (lv' := [(1, .int 0), (0, .ref (E.1 + a0))]) dX10_allNet_1 rfl (by decide) rfl ?_
  refine sn_iconst (pc := 2) (v := 0) dX10_allNet_2 (by decide) ?_
  refine sn_istore_n (pc := 3) (i := 2) (lv' := [(2, .int 0), (1, .int 0), (0, .ref (E.1 + a0))]) dX10_allNet_3 rfl (by decide) rfl ?_
  exact sn_sub (lv' := [(0, .ref (E.1 + a0)), (1, .int 0), (2, .int 0)]) [2, 1, 0] rfl (sn_itr (lvf := fun p => [(0, .ref (E.1 + p.1)), (1, .int p.2.1), (2, .int p.2.2)]) (stf := fun p => []) (fun k hk p => sfX10_allNet_4  k hk p.1 p.2.1 p.2.2) FU (a0, 0, 0))
theorem iX10_allNet : MI yX10_allNet cX10_allNet 4 (some .int) 0 := ⟨wt1_2, wt5_200, by decide +kernel, by decide⟩
-- NeedleHomes$World likestHand(LNeedleHomes$Piece;I)I
theorem dX10_likestHand_0 : decode cX10_likestHand 0 = .ok (.iconst (-1), 1) := by decide +kernel
theorem dX10_likestHand_1 : decode cX10_likestHand 1 = .ok (.istore_n 3, 1) := by decide +kernel
theorem dX10_likestHand_2 : decode cX10_likestHand 2 = .ok (.iconst 0, 1) := by decide +kernel
theorem dX10_likestHand_3 : decode cX10_likestHand 3 = .ok (.istore 4, 2) := by decide +kernel
theorem dX10_likestHand_5 : decode cX10_likestHand 5 = .ok (.iconst 0, 1) := by decide +kernel
theorem dX10_likestHand_6 : decode cX10_likestHand 6 = .ok (.istore 5, 2) := by decide +kernel
theorem dX10_likestHand_8 : decode cX10_likestHand 8 = .ok (.iload 5, 2) := by decide +kernel
theorem dX10_likestHand_10 : decode cX10_likestHand 10 = .ok (.aload_n 0, 1) := by decide +kernel
theorem dX10_likestHand_11 : decode cX10_likestHand 11 = .ok (.getfield 87, 3) := by decide +kernel
theorem dX10_likestHand_14 : decode cX10_likestHand 14 = .ok (.if_icmp .ge 55, 3) := by decide +kernel
theorem dX10_likestHand_17 : decode cX10_likestHand 17 = .ok (.aload_n 0, 1) := by decide +kernel
theorem dX10_likestHand_18 : decode cX10_likestHand 18 = .ok (.iload 5, 2) := by decide +kernel
theorem dX10_likestHand_20 : decode cX10_likestHand 20 = .ok (.invokevirtual 90, 3) := by decide +kernel
theorem dX10_likestHand_23 : decode cX10_likestHand 23 = .ok (.astore 6, 2) := by decide +kernel
theorem dX10_likestHand_25 : decode cX10_likestHand 25 = .ok (.aload 6, 2) := by decide +kernel
theorem dX10_likestHand_27 : decode cX10_likestHand 27 = .ok (.ifnull 36, 3) := by decide +kernel
theorem dX10_likestHand_30 : decode cX10_likestHand 30 = .ok (.iload 5, 2) := by decide +kernel
theorem dX10_likestHand_32 : decode cX10_likestHand 32 = .ok (.iload_n 2, 1) := by decide +kernel
theorem dX10_likestHand_33 : decode cX10_likestHand 33 = .ok (.if_icmp .eq 30, 3) := by decide +kernel
theorem dX10_likestHand_36 : decode cX10_likestHand 36 = .ok (.aload_n 1, 1) := by decide +kernel
theorem dX10_likestHand_37 : decode cX10_likestHand 37 = .ok (.aload 6, 2) := by decide +kernel
theorem dX10_likestHand_39 : decode cX10_likestHand 39 = .ok (.invokevirtual 168, 3) := by decide +kernel
theorem dX10_likestHand_42 : decode cX10_likestHand 42 = .ok (.istore 7, 2) := by decide +kernel
theorem dX10_likestHand_44 : decode cX10_likestHand 44 = .ok (.iload_n 3, 1) := by decide +kernel
theorem dX10_likestHand_45 : decode cX10_likestHand 45 = .ok (.iconst (-1), 1) := by decide +kernel
theorem dX10_likestHand_46 : decode cX10_likestHand 46 = .ok (.if_icmp .eq 10, 3) := by decide +kernel
theorem dX10_likestHand_49 : decode cX10_likestHand 49 = .ok (.iload 7, 2) := by decide +kernel
theorem dX10_likestHand_51 : decode cX10_likestHand 51 = .ok (.iload 4, 2) := by decide +kernel
theorem dX10_likestHand_53 : decode cX10_likestHand 53 = .ok (.if_icmp .ge 10, 3) := by decide +kernel
theorem dX10_likestHand_56 : decode cX10_likestHand 56 = .ok (.iload 5, 2) := by decide +kernel
theorem dX10_likestHand_58 : decode cX10_likestHand 58 = .ok (.istore_n 3, 1) := by decide +kernel
theorem dX10_likestHand_59 : decode cX10_likestHand 59 = .ok (.iload 7, 2) := by decide +kernel
theorem dX10_likestHand_61 : decode cX10_likestHand 61 = .ok (.istore 4, 2) := by decide +kernel
theorem dX10_likestHand_63 : decode cX10_likestHand 63 = .ok (.iinc 5 1, 3) := by decide +kernel
theorem dX10_likestHand_66 : decode cX10_likestHand 66 = .ok (.goto (-58), 3) := by decide +kernel
theorem dX10_likestHand_69 : decode cX10_likestHand 69 = .ok (.iload_n 3, 1) := by decide +kernel
theorem dX10_likestHand_70 : decode cX10_likestHand 70 = .ok (.ireturn, 1) := by decide +kernel
abbrev dpX10_likestHand : Nat := 2
def fX10_likestHand_63 (k8 : (Nat × Option Nat × Int32 × Int32 × Int32 × Int32) → St → Option (Int32 × St)) (a0 : Nat) (x1 : Option Nat) (x2 : Int32) (x3 : Int32) (x4 : Int32) (x5 : Int32) : St → Option (Int32 × St) :=
 k8 (a0, x1, x2, x3, x4, (x5 + 1))
set_option maxHeartbeats 4000000 in
set_option maxRecDepth 100000 in
theorem sfX10_likestHand_63 {E : Ev} {l : Launch} (k8 : (Nat × Option Nat × Int32 × Int32 × Int32 × Int32) → St → Option (Int32 × St)) (hk8 : ∀ p : Nat × Option Nat × Int32 × Int32 × Int32 × Int32, Snd E l (dpX10_likestHand, RX10, cX10_likestHand, 8, (some .int), "likestHand") rvI 8 [(0, .ref (E.1 + p.1)), (1, rf E.1 p.2.1), (2, .int p.2.2.1), (3, .int p.2.2.2.1), (4, .int p.2.2.2.2.1), (5, .int p.2.2.2.2.2)] [] (k8 p)) (a0 : Nat) (x1 : Option Nat) (x2 : Int32) (x3 : Int32) (x4 : Int32) (x5 : Int32) : Snd E l (dpX10_likestHand, RX10, cX10_likestHand, 8, (some .int), "likestHand") rvI 63 [(0, .ref (E.1 + a0)), (1, rf E.1 x1), (2, .int x2), (3, .int x3), (4, .int x4), (5, .int x5)] [] (fX10_likestHand_63 k8 a0 x1 x2 x3 x4 x5) := by
  unfold fX10_likestHand_63
  refine sn_iinc (pc := 63) (v := x5 + 1) (lv' := [(5, .int (x5 + 1)), (0, .ref (E.1 + a0)), (1, rf E.1 x1), (2, .int x2), (3, .int x3), (4, .int x4)]) (j := 5) dX10_likestHand_63 rfl rfl (by decide) rfl ?_
  refine sn_goto (pc := 66) (tgt := 8) dX10_likestHand_66 (by decide) ?_
  exact sn_sub (lv' := [(0, .ref (E.1 + a0)), (1, rf E.1 x1), (2, .int x2), (3, .int x3), (4, .int x4), (5, .int (x5 + 1))]) [1, 2, 3, 4, 5, 0] rfl (hk8 (a0, x1, x2, x3, x4, (x5 + 1)))
def fX10_likestHand_56 (k8 : (Nat × Option Nat × Int32 × Int32 × Int32 × Int32) → St → Option (Int32 × St)) (a0 : Nat) (x1 : Option Nat) (x2 : Int32) (x5 : Int32) (x7 : Int32) : St → Option (Int32 × St) :=
 fX10_likestHand_63 k8 a0 x1 x2 x5 x7 x5
set_option maxHeartbeats 4000000 in
set_option maxRecDepth 100000 in
theorem sfX10_likestHand_56 {E : Ev} {l : Launch} (k8 : (Nat × Option Nat × Int32 × Int32 × Int32 × Int32) → St → Option (Int32 × St)) (hk8 : ∀ p : Nat × Option Nat × Int32 × Int32 × Int32 × Int32, Snd E l (dpX10_likestHand, RX10, cX10_likestHand, 8, (some .int), "likestHand") rvI 8 [(0, .ref (E.1 + p.1)), (1, rf E.1 p.2.1), (2, .int p.2.2.1), (3, .int p.2.2.2.1), (4, .int p.2.2.2.2.1), (5, .int p.2.2.2.2.2)] [] (k8 p)) (a0 : Nat) (x1 : Option Nat) (x2 : Int32) (x5 : Int32) (x7 : Int32) : Snd E l (dpX10_likestHand, RX10, cX10_likestHand, 8, (some .int), "likestHand") rvI 56 [(0, .ref (E.1 + a0)), (1, rf E.1 x1), (2, .int x2), (5, .int x5), (7, .int x7)] [] (fX10_likestHand_56 k8 a0 x1 x2 x5 x7) := by
  unfold fX10_likestHand_56
  refine sn_iload (pc := 56) (j := 3) dX10_likestHand_56 rfl ?_
  refine sn_istore_n (pc := 58) (i := 3) (lv' := [(3, .int x5), (0, .ref (E.1 + a0)), (1, rf E.1 x1), (2, .int x2), (5, .int x5), (7, .int x7)]) dX10_likestHand_58 rfl (by decide) rfl ?_
  refine sn_iload (pc := 59) (j := 5) dX10_likestHand_59 rfl ?_
  refine sn_istore (pc := 61) (i := 4) (lv' := [(4, .int x7), (3, .int x5), (0, .ref (E.1 + a0)), (1, rf E.1 x1), (2, .int x2), (5, .int x5), (7, .int x7)]) dX10_likestHand_61 (by decide) rfl ?_
  exact sn_sub (lv' := [(0, .ref (E.1 + a0)), (1, rf E.1 x1), (2, .int x2), (3, .int x5), (4, .int x7), (5, .int x5)]) [2, 3, 4, 1, 0, 5] rfl (sfX10_likestHand_63 k8 hk8 a0 x1 x2 x5 x7 x5)
def fX10_likestHand_8 (k8 : (Nat × Option Nat × Int32 × Int32 × Int32 × Int32) → St → Option (Int32 × St)) (a0 : Nat) (x1 : Option Nat) (x2 : Int32) (x3 : Int32) (x4 : Int32) (x5 : Int32) : St → Option (Int32 × St) :=
 gI 11 a0 10 fun v1001 =>
 br (v1001 ≤ x5) (rt x3)
 (ck 11 a0 <| cl (fX10_handAt a0 x5) fun v1002 =>
 on v1002 (fX10_likestHand_63 k8 a0 x1 x2 x3 x4 x5)
 fun a1003 => br (x5 = x2) (fX10_likestHand_63 k8 a0 x1 x2 x3 x4 x5)
 (nn x1 fun a1004 =>
 ck 8 a1004 <| cl (fX7_unlikenessOf a1004 (some a1003)) fun v1005 =>
 br (x3 = (-1)) (fX10_likestHand_56 k8 a0 (some a1004) x2 x5 v1005)
 (br (x4 ≤ v1005) (fX10_likestHand_63 k8 a0 (some a1004) x2 x3 x4 x5)
 (fX10_likestHand_56 k8 a0 (some a1004) x2 x5 v1005))))
set_option maxHeartbeats 4000000 in
set_option maxRecDepth 100000 in
theorem sfX10_likestHand_8 {E : Ev} {l : Launch} (k8 : (Nat × Option Nat × Int32 × Int32 × Int32 × Int32) → St → Option (Int32 × St)) (hk8 : ∀ p : Nat × Option Nat × Int32 × Int32 × Int32 × Int32, Snd E l (dpX10_likestHand, RX10, cX10_likestHand, 8, (some .int), "likestHand") rvI 8 [(0, .ref (E.1 + p.1)), (1, rf E.1 p.2.1), (2, .int p.2.2.1), (3, .int p.2.2.2.1), (4, .int p.2.2.2.2.1), (5, .int p.2.2.2.2.2)] [] (k8 p)) (a0 : Nat) (x1 : Option Nat) (x2 : Int32) (x3 : Int32) (x4 : Int32) (x5 : Int32) : Snd E l (dpX10_likestHand, RX10, cX10_likestHand, 8, (some .int), "likestHand") rvI 8 [(0, .ref (E.1 + a0)), (1, rf E.1 x1), (2, .int x2), (3, .int x3), (4, .int x4), (5, .int x5)] [] (fX10_likestHand_8 k8 a0 x1 x2 x3 x4 x5) := by
  unfold fX10_likestHand_8
  refine sn_iload (pc := 8) (j := 5) dX10_likestHand_8 rfl ?_
  refine sn_aload_n (pc := 10) (j := 0) dX10_likestHand_10 rfl rfl ?_
  refine sn_gI (pc := 11) dX10_likestHand_11 flX10_87 rfl (fun v1001 => ?_)
  refine sn_icmp_ge (pc := 14) (tgt := 69) dX10_likestHand_14 (by decide) ?_ ?_
  · refine sn_iload_n (pc := 69) (j := 3) dX10_likestHand_69 rfl rfl ?_
    exact sn_iret (pc := 70) dX10_likestHand_70 rfl
  · refine sn_aload_n (pc := 17) (j := 0) dX10_likestHand_17 rfl rfl ?_
    refine sn_iload (pc := 18) (j := 5) dX10_likestHand_18 rfl ?_
    refine sn_callV (ci := 10) (pc := 20) dX10_likestHand_20 iX10_handAt wt4_54 wt4_55 wt5_126 ⟨_, rfl, rfl⟩ (by decide) (mX10_handAt a0 x5) (by decide) rfl rfl (Nat.le_of_ble_eq_true rfl) (fun v1002 => ?_)
    refine sn_astoreR (pc := 23) (r := v1002) (i := 6) (lv' := [(6, rf E.1 v1002), (0, .ref (E.1 + a0)), (1, rf E.1 x1), (2, .int x2), (3, .int x3), (4, .int x4), (5, .int x5)]) dX10_likestHand_23 (by decide) rfl ?_
    refine sn_aloadR (pc := 25) (r := v1002) (j := 0) dX10_likestHand_25 rfl ?_
    rcases v1002 with _ | a1003
    · refine sn_onN ?_
      refine sn_ifnull_n (pc := 27) (tgt := 63) dX10_likestHand_27 (by decide) ?_
      exact sn_sub (lv' := [(0, .ref (E.1 + a0)), (1, rf E.1 x1), (2, .int x2), (3, .int x3), (4, .int x4), (5, .int x5)]) [1, 2, 3, 4, 5, 6] rfl (sfX10_likestHand_63 k8 hk8 a0 x1 x2 x3 x4 x5)
    · refine sn_onS ?_
      refine sn_ifnull_s (pc := 27) dX10_likestHand_27 ?_
      refine sn_iload (pc := 30) (j := 6) dX10_likestHand_30 rfl ?_
      refine sn_iload_n (pc := 32) (j := 3) dX10_likestHand_32 rfl rfl ?_
      refine sn_icmp_eq (pc := 33) (tgt := 63) dX10_likestHand_33 (by decide) ?_ ?_
      · exact sn_sub (lv' := [(0, .ref (E.1 + a0)), (1, rf E.1 x1), (2, .int x2), (3, .int x3), (4, .int x4), (5, .int x5)]) [1, 2, 3, 4, 5, 6] rfl (sfX10_likestHand_63 k8 hk8 a0 x1 x2 x3 x4 x5)
      · refine sn_aloadR_n (pc := 36) (r := x1) (j := 2) dX10_likestHand_36 rfl rfl ?_
        refine sn_aload (pc := 37) (j := 0) dX10_likestHand_37 rfl ?_
        rcases x1 with _ | a1004
        · exact sn_no
        refine sn_nn ?_
        refine sn_callV (ci := 7) (pc := 39) dX10_likestHand_39 iX7_unlikenessOf wt5_108 wt5_109 wt5_127 ⟨_, rfl, rfl⟩ (by decide) (mX7_unlikenessOf a1004 (some a1003)) (by decide) rfl rfl (Nat.le_of_ble_eq_true rfl) (fun v1005 => ?_)
        refine sn_istore (pc := 42) (i := 7) (lv' := [(7, .int v1005), (6, .ref (E.1 + a1003)), (0, .ref (E.1 + a0)), (1, .ref (E.1 + a1004)), (2, .int x2), (3, .int x3), (4, .int x4), (5, .int x5)]) dX10_likestHand_42 (by decide) rfl ?_
        refine sn_iload_n (pc := 44) (j := 5) dX10_likestHand_44 rfl rfl ?_
        refine sn_iconst (pc := 45) (v := (-1)) dX10_likestHand_45 (by decide) ?_
        refine sn_icmp_eq (pc := 46) (tgt := 56) dX10_likestHand_46 (by decide) ?_ ?_
        · exact sn_sub (lv' := [(0, .ref (E.1 + a0)), (1, .ref (E.1 + a1004)), (2, .int x2), (5, .int x5), (7, .int v1005)]) [2, 3, 4, 7, 0] rfl (sfX10_likestHand_56 k8 hk8 a0 (some a1004) x2 x5 v1005)
        · refine sn_iload (pc := 49) (j := 0) dX10_likestHand_49 rfl ?_
          refine sn_iload (pc := 51) (j := 6) dX10_likestHand_51 rfl ?_
          refine sn_icmp_ge (pc := 53) (tgt := 63) dX10_likestHand_53 (by decide) ?_ ?_
          · exact sn_sub (lv' := [(0, .ref (E.1 + a0)), (1, .ref (E.1 + a1004)), (2, .int x2), (3, .int x3), (4, .int x4), (5, .int x5)]) [2, 3, 4, 5, 6, 7] rfl (sfX10_likestHand_63 k8 hk8 a0 (some a1004) x2 x3 x4 x5)
          · exact sn_sub (lv' := [(0, .ref (E.1 + a0)), (1, .ref (E.1 + a1004)), (2, .int x2), (5, .int x5), (7, .int v1005)]) [2, 3, 4, 7, 0] rfl (sfX10_likestHand_56 k8 hk8 a0 (some a1004) x2 x5 v1005)
def fX10_likestHand (a0 : Nat) (x1 : Option Nat) (x2 : Int32) : St → Option (Int32 × St) :=
 itr (fun k (p : Nat × Option Nat × Int32 × Int32 × Int32 × Int32) => fX10_likestHand_8  k p.1 p.2.1 p.2.2.1 p.2.2.2.1 p.2.2.2.2.1 p.2.2.2.2.2) FU (a0, x1, x2, (-1), 0, 0)
set_option maxHeartbeats 4000000 in
set_option maxRecDepth 100000 in
theorem mX10_likestHand {E : Ev} {l : Launch} (a0 : Nat) (x1 : Option Nat) (x2 : Int32) : MF E l dpX10_likestHand yX10_likestHand cX10_likestHand 8 (some .int) rvI [.ref (E.1 + a0), rf E.1 x1, .int x2] (fX10_likestHand a0 x1 x2) := by
  refine MF.of (lv := [(0, .ref (E.1 + a0)), (1, rf E.1 x1), (2, .int x2)]) (by decide) (by simp [lg_sl, rf_cat, cat_int, cat_long, cat_ref]) (by simp [lv_args, rf_cat, cat_int, cat_long, cat_ref]) ?_
  unfold fX10_likestHand
  refine sn_iconst (pc := 0) (v := (-1)) dX10_likestHand_0 (by decide) ?_
  refine sn_istore_n (pc := 1) (i := 3) (lv' := [(3, .int (-1)), (0, .ref (E.1 + a0)), (1, rf E.1 x1), (2, .int x2)]) dX10_likestHand_1 rfl (by decide) rfl ?_
  refine sn_iconst (pc := 2) (v := 0) dX10_likestHand_2 (by decide) ?_
  refine sn_istore (pc := 3) (i := 4) (lv' := [(4, .int 0), (3, .int (-1)), (0, .ref (E.1 + a0)), (1, rf E.1 x1), (2, .int x2)]) dX10_likestHand_3 (by decide) rfl ?_
  refine sn_iconst (pc := 5) (v := 0) dX10_likestHand_5 (by decide) ?_
  refine sn_istore (pc := 6) (i := 5) (lv' := [(5, .int 0), (4, .int 0), (3, .int (-1)), (0, .ref (E.1 + a0)), (1, rf E.1 x1), (2, .int x2)]) dX10_likestHand_6 (by decide) rfl ?_
  exact sn_sub (lv' := [(0, .ref (E.1 + a0)), (1, rf E.1 x1), (2, .int x2), (3, .int (-1)), (4, .int 0), (5, .int 0)]) [3, 4, 5, 2, 1, 0] rfl (sn_itr (lvf := fun p => [(0, .ref (E.1 + p.1)), (1, rf E.1 p.2.1), (2, .int p.2.2.1), (3, .int p.2.2.2.1), (4, .int p.2.2.2.2.1), (5, .int p.2.2.2.2.2)]) (stf := fun p => []) (fun k hk p => sfX10_likestHand_8  k hk p.1 p.2.1 p.2.2.1 p.2.2.2.1 p.2.2.2.2.1 p.2.2.2.2.2) FU (a0, x1, x2, (-1), 0, 0))
theorem iX10_likestHand : MI yX10_likestHand cX10_likestHand 8 (some .int) 2 := ⟨wt1_2, wt5_125, by decide +kernel, by decide⟩
-- NeedleHomes <init>()V
theorem dX11_init_0 : decode cX11_init 0 = .ok (.aload_n 0, 1) := by decide +kernel
theorem dX11_init_1 : decode cX11_init 1 = .ok (.invokespecial 3, 3) := by decide +kernel
theorem dX11_init_4 : decode cX11_init 4 = .ok (.aload_n 0, 1) := by decide +kernel
theorem dX11_init_5 : decode cX11_init 5 = .ok (.new 9, 3) := by decide +kernel
theorem dX11_init_8 : decode cX11_init 8 = .ok (.dup, 1) := by decide +kernel
theorem dX11_init_9 : decode cX11_init 9 = .ok (.invokespecial 11, 3) := by decide +kernel
theorem dX11_init_12 : decode cX11_init 12 = .ok (.putfield 12, 3) := by decide +kernel
theorem dX11_init_15 : decode cX11_init 15 = .ok (.aload_n 0, 1) := by decide +kernel
theorem dX11_init_16 : decode cX11_init 16 = .ok (.iconst 3, 1) := by decide +kernel
theorem dX11_init_17 : decode cX11_init 17 = .ok (.anewarray 9, 3) := by decide +kernel
theorem dX11_init_20 : decode cX11_init 20 = .ok (.putfield 16, 3) := by decide +kernel
theorem dX11_init_23 : decode cX11_init 23 = .ok (.aload_n 0, 1) := by decide +kernel
theorem dX11_init_24 : decode cX11_init 24 = .ok (.new 20, 3) := by decide +kernel
theorem dX11_init_27 : decode cX11_init 27 = .ok (.dup, 1) := by decide +kernel
theorem dX11_init_28 : decode cX11_init 28 = .ok (.invokespecial 22, 3) := by decide +kernel
theorem dX11_init_31 : decode cX11_init 31 = .ok (.putfield 23, 3) := by decide +kernel
theorem dX11_init_34 : decode cX11_init 34 = .ok (.aload_n 0, 1) := by decide +kernel
theorem dX11_init_35 : decode cX11_init 35 = .ok (.new 27, 3) := by decide +kernel
theorem dX11_init_38 : decode cX11_init 38 = .ok (.dup, 1) := by decide +kernel
theorem dX11_init_39 : decode cX11_init 39 = .ok (.invokespecial 29, 3) := by decide +kernel
theorem dX11_init_42 : decode cX11_init 42 = .ok (.putfield 30, 3) := by decide +kernel
theorem dX11_init_45 : decode cX11_init 45 = .ok (.aload_n 0, 1) := by decide +kernel
theorem dX11_init_46 : decode cX11_init 46 = .ok (.new 34, 3) := by decide +kernel
theorem dX11_init_49 : decode cX11_init 49 = .ok (.dup, 1) := by decide +kernel
theorem dX11_init_50 : decode cX11_init 50 = .ok (.invokespecial 36, 3) := by decide +kernel
theorem dX11_init_53 : decode cX11_init 53 = .ok (.putfield 37, 3) := by decide +kernel
theorem dX11_init_56 : decode cX11_init 56 = .ok (.aload_n 0, 1) := by decide +kernel
theorem dX11_init_57 : decode cX11_init 57 = .ok (.new 41, 3) := by decide +kernel
theorem dX11_init_60 : decode cX11_init 60 = .ok (.dup, 1) := by decide +kernel
theorem dX11_init_61 : decode cX11_init 61 = .ok (.invokespecial 43, 3) := by decide +kernel
theorem dX11_init_64 : decode cX11_init 64 = .ok (.putfield 44, 3) := by decide +kernel
theorem dX11_init_67 : decode cX11_init 67 = .ok (.aload_n 0, 1) := by decide +kernel
theorem dX11_init_68 : decode cX11_init 68 = .ok (.new 48, 3) := by decide +kernel
theorem dX11_init_71 : decode cX11_init 71 = .ok (.dup, 1) := by decide +kernel
theorem dX11_init_72 : decode cX11_init 72 = .ok (.invokespecial 50, 3) := by decide +kernel
theorem dX11_init_75 : decode cX11_init 75 = .ok (.putfield 51, 3) := by decide +kernel
theorem dX11_init_78 : decode cX11_init 78 = .ok (.aload_n 0, 1) := by decide +kernel
theorem dX11_init_79 : decode cX11_init 79 = .ok (.bipush 8, 2) := by decide +kernel
theorem dX11_init_81 : decode cX11_init 81 = .ok (.newarray .int, 2) := by decide +kernel
theorem dX11_init_83 : decode cX11_init 83 = .ok (.putfield 55, 3) := by decide +kernel
theorem dX11_init_86 : decode cX11_init 86 = .ok (.return_, 1) := by decide +kernel
abbrev dpX11_init : Nat := 3
def fX11_init (a0 : Nat) : St → Option (Unit × St) :=
 nO 11 15 fun a1 =>
 cl (fX10_init a1) fun v2 =>
 pR 12 a0 0 (some a1) <|
 nA 22 3 fun a3 =>
 pR 12 a0 1 (some a3) <|
 nO 7 5 fun a4 =>
 cl (fX6_init a4) fun v5 =>
 pR 12 a0 2 (some a4) <|
 nO 4 6 fun a6 =>
 cl (fX3_init a6) fun v7 =>
 pR 12 a0 3 (some a6) <|
 nO 1 7 fun a8 =>
 cl (fX0_init a8) fun v9 =>
 pR 12 a0 4 (some a8) <|
 nO 5 7 fun a10 =>
 cl (fX4_init a10) fun v11 =>
 pR 12 a0 5 (some a10) <|
 nO 2 6 fun a12 =>
 cl (fX1_init a12) fun v13 =>
 pR 12 a0 6 (some a12) <|
 nA 15 8 fun a14 =>
 pR 12 a0 7 (some a14) <|
 rt ()
set_option maxHeartbeats 4000000 in
set_option maxRecDepth 100000 in
theorem mX11_init {E : Ev} {l : Launch} (a0 : Nat) : MF E l dpX11_init yX11_init cX11_init 1 none rvV [.ref (E.1 + a0)] (fX11_init a0) := by
  refine MF.of (lv := [(0, .ref (E.1 + a0))]) (by decide) (Nat.le_of_ble_eq_true rfl) rfl ?_
  unfold fX11_init
  refine sn_aload_n (pc := 0) (j := 0) dX11_init_0 rfl rfl ?_
  refine sn_objInit (pc := 1) dX11_init_1 wt1_27 w_oi w_oc (by decide) (Nat.le_of_ble_eq_true rfl) ?_
  refine sn_aload_n (pc := 4) (j := 0) dX11_init_4 rfl rfl ?_
  refine sn_new (pc := 5) dX11_init_5 ci_X10 wt1_30 (fun a1 => ?_)
  refine sn_dup (pc := 8) dX11_init_8 rfl ?_
  refine sn_callI (pc := 9) dX11_init_9 iX10_init rfl rfl wt1_33 wt1_32 (mX10_init a1) (by decide) rfl rfl (Nat.le_of_ble_eq_true rfl) (fun v2 => ?_)
  refine sn_pR (pc := 12) (v := (some a1)) dX11_init_12 flX11_12 rfl (Or.inl ⟨_, rfl⟩) (Or.inr ⟨rfl, rfl, rfl⟩) ?_
  refine sn_aload_n (pc := 15) (j := 0) dX11_init_15 rfl rfl ?_
  refine sn_iconst (pc := 16) (v := 3) dX11_init_16 (by decide) ?_
  refine sn_newq (t := 8) (pc := 17) dX11_init_17 wt1_30 (by decide) (by decide) rfl (fun a3 => ?_)
  refine sn_pR (pc := 20) (v := (some a3)) dX11_init_20 flX11_16 rfl (Or.inr ⟨_, rfl⟩) (Or.inr ⟨rfl, rfl, rfl⟩) ?_
  refine sn_aload_n (pc := 23) (j := 0) dX11_init_23 rfl rfl ?_
  refine sn_new (pc := 24) dX11_init_24 ci_X6 wt1_111 (fun a4 => ?_)
  refine sn_dup (pc := 27) dX11_init_27 rfl ?_
  refine sn_callIN (pc := 28) dX11_init_28 iX6_init rfl rfl wt1_114 (List.mem_of_getElem? (i := 0) rfl) (mX6_init a4) (by decide) rfl rfl (Nat.le_of_ble_eq_true rfl) (fun v5 => ?_)
  refine sn_pR (pc := 31) (v := (some a4)) dX11_init_31 flX11_23 rfl (Or.inl ⟨_, rfl⟩) (Or.inr ⟨rfl, rfl, rfl⟩) ?_
  refine sn_aload_n (pc := 34) (j := 0) dX11_init_34 rfl rfl ?_
  refine sn_new (pc := 35) dX11_init_35 ci_X3 wt1_174 (fun a6 => ?_)
  refine sn_dup (pc := 38) dX11_init_38 rfl ?_
  refine sn_callIN (pc := 39) dX11_init_39 iX3_init rfl rfl wt1_177 (List.mem_of_getElem? (i := 2) rfl) (mX3_init a6) (by decide) rfl rfl (Nat.le_of_ble_eq_true rfl) (fun v7 => ?_)
  refine sn_pR (pc := 42) (v := (some a6)) dX11_init_42 flX11_30 rfl (Or.inl ⟨_, rfl⟩) (Or.inr ⟨rfl, rfl, rfl⟩) ?_
  refine sn_aload_n (pc := 45) (j := 0) dX11_init_45 rfl rfl ?_
  refine sn_new (pc := 46) dX11_init_46 ci_X0 wt1_207 (fun a8 => ?_)
  refine sn_dup (pc := 49) dX11_init_49 rfl ?_
  refine sn_callIN (pc := 50) dX11_init_50 iX0_init rfl rfl wt1_210 (List.mem_of_getElem? (i := 4) rfl) (mX0_init a8) (by decide) rfl rfl (Nat.le_of_ble_eq_true rfl) (fun v9 => ?_)
  refine sn_pR (pc := 53) (v := (some a8)) dX11_init_53 flX11_37 rfl (Or.inl ⟨_, rfl⟩) (Or.inr ⟨rfl, rfl, rfl⟩) ?_
  refine sn_aload_n (pc := 56) (j := 0) dX11_init_56 rfl rfl ?_
  refine sn_new (pc := 57) dX11_init_57 ci_X4 wt2_0 (fun a10 => ?_)
  refine sn_dup (pc := 60) dX11_init_60 rfl ?_
  refine sn_callIN (pc := 61) dX11_init_61 iX4_init rfl rfl wt2_3 (List.mem_of_getElem? (i := 5) rfl) (mX4_init a10) (by decide) rfl rfl (Nat.le_of_ble_eq_true rfl) (fun v11 => ?_)
  refine sn_pR (pc := 64) (v := (some a10)) dX11_init_64 flX11_44 rfl (Or.inl ⟨_, rfl⟩) (Or.inr ⟨rfl, rfl, rfl⟩) ?_
  refine sn_aload_n (pc := 67) (j := 0) dX11_init_67 rfl rfl ?_
  refine sn_new (pc := 68) dX11_init_68 ci_X1 wt2_31 (fun a12 => ?_)
  refine sn_dup (pc := 71) dX11_init_71 rfl ?_
  refine sn_callIN (pc := 72) dX11_init_72 iX1_init rfl rfl wt2_34 (List.mem_of_getElem? (i := 6) rfl) (mX1_init a12) (by decide) rfl rfl (Nat.le_of_ble_eq_true rfl) (fun v13 => ?_)
  refine sn_pR (pc := 75) (v := (some a12)) dX11_init_75 flX11_51 rfl (Or.inl ⟨_, rfl⟩) (Or.inr ⟨rfl, rfl, rfl⟩) ?_
  refine sn_aload_n (pc := 78) (j := 0) dX11_init_78 rfl rfl ?_
  refine sn_bipush (pc := 79) (v := 8) dX11_init_79 (by decide) ?_
  refine sn_newI (pc := 81) dX11_init_81 wt1_109 (fun a14 => ?_)
  refine sn_pR (pc := 83) (v := (some a14)) dX11_init_83 flX11_55 rfl (Or.inr ⟨_, rfl⟩) (Or.inr ⟨rfl, rfl, rfl⟩) ?_
  exact sn_vret (pc := 86) dX11_init_86 rfl
theorem iX11_init : MI yX11_init cX11_init 1 none 0 := ⟨wt1_1, wt1_26, by decide +kernel, by decide⟩
-- NeedleHomes feed(IIIII)I
theorem dX11_feed_0 : decode cX11_feed 0 = .ok (.aload_n 0, 1) := by decide +kernel
theorem dX11_feed_1 : decode cX11_feed 1 = .ok (.getfield 12, 3) := by decide +kernel
theorem dX11_feed_4 : decode cX11_feed 4 = .ok (.getfield 59, 3) := by decide +kernel
theorem dX11_feed_7 : decode cX11_feed 7 = .ok (.bipush 20, 2) := by decide +kernel
theorem dX11_feed_9 : decode cX11_feed 9 = .ok (.iadd, 1) := by decide +kernel
theorem dX11_feed_10 : decode cX11_feed 10 = .ok (.sipush 400, 3) := by decide +kernel
theorem dX11_feed_13 : decode cX11_feed 13 = .ok (.if_icmp .le 5, 3) := by decide +kernel
theorem dX11_feed_16 : decode cX11_feed 16 = .ok (.iconst (-1), 1) := by decide +kernel
theorem dX11_feed_17 : decode cX11_feed 17 = .ok (.ireturn, 1) := by decide +kernel
theorem dX11_feed_18 : decode cX11_feed 18 = .ok (.aload_n 0, 1) := by decide +kernel
theorem dX11_feed_19 : decode cX11_feed 19 = .ok (.getfield 12, 3) := by decide +kernel
theorem dX11_feed_22 : decode cX11_feed 22 = .ok (.iload_n 1, 1) := by decide +kernel
theorem dX11_feed_23 : decode cX11_feed 23 = .ok (.invokevirtual 63, 3) := by decide +kernel
theorem dX11_feed_26 : decode cX11_feed 26 = .ok (.aload_n 0, 1) := by decide +kernel
theorem dX11_feed_27 : decode cX11_feed 27 = .ok (.getfield 12, 3) := by decide +kernel
theorem dX11_feed_30 : decode cX11_feed 30 = .ok (.iload_n 2, 1) := by decide +kernel
theorem dX11_feed_31 : decode cX11_feed 31 = .ok (.invokevirtual 63, 3) := by decide +kernel
theorem dX11_feed_34 : decode cX11_feed 34 = .ok (.aload_n 0, 1) := by decide +kernel
theorem dX11_feed_35 : decode cX11_feed 35 = .ok (.getfield 12, 3) := by decide +kernel
theorem dX11_feed_38 : decode cX11_feed 38 = .ok (.iload_n 3, 1) := by decide +kernel
theorem dX11_feed_39 : decode cX11_feed 39 = .ok (.invokevirtual 63, 3) := by decide +kernel
theorem dX11_feed_42 : decode cX11_feed 42 = .ok (.aload_n 0, 1) := by decide +kernel
theorem dX11_feed_43 : decode cX11_feed 43 = .ok (.getfield 12, 3) := by decide +kernel
theorem dX11_feed_46 : decode cX11_feed 46 = .ok (.iload 4, 2) := by decide +kernel
theorem dX11_feed_48 : decode cX11_feed 48 = .ok (.invokevirtual 63, 3) := by decide +kernel
theorem dX11_feed_51 : decode cX11_feed 51 = .ok (.aload_n 0, 1) := by decide +kernel
theorem dX11_feed_52 : decode cX11_feed 52 = .ok (.getfield 12, 3) := by decide +kernel
theorem dX11_feed_55 : decode cX11_feed 55 = .ok (.iload 5, 2) := by decide +kernel
theorem dX11_feed_57 : decode cX11_feed 57 = .ok (.invokevirtual 63, 3) := by decide +kernel
theorem dX11_feed_60 : decode cX11_feed 60 = .ok (.aload_n 0, 1) := by decide +kernel
theorem dX11_feed_61 : decode cX11_feed 61 = .ok (.getfield 12, 3) := by decide +kernel
theorem dX11_feed_64 : decode cX11_feed 64 = .ok (.getfield 59, 3) := by decide +kernel
theorem dX11_feed_67 : decode cX11_feed 67 = .ok (.ireturn, 1) := by decide +kernel
abbrev dpX11_feed : Nat := 1
def fX11_feed (a0 : Nat) (x1 : Int32) (x2 : Int32) (x3 : Int32) (x4 : Int32) (x5 : Int32) : St → Option (Int32 × St) :=
 gR 12 a0 0 fun v1 =>
 nn v1 fun a3 =>
 gI 11 a3 1 fun v2 =>
 br ((v2 + 20) ≤ 400) (gR 12 a0 0 fun v4 =>
 nn v4 fun a5 =>
 ck 11 a5 <| cl (fX10_addBytes a5 x1) fun v6 =>
 gR 12 a0 0 fun v7 =>
 nn v7 fun a8 =>
 ck 11 a8 <| cl (fX10_addBytes a8 x2) fun v9 =>
 gR 12 a0 0 fun v10 =>
 nn v10 fun a11 =>
 ck 11 a11 <| cl (fX10_addBytes a11 x3) fun v12 =>
 gR 12 a0 0 fun v13 =>
 nn v13 fun a14 =>
 ck 11 a14 <| cl (fX10_addBytes a14 x4) fun v15 =>
 gR 12 a0 0 fun v16 =>
 nn v16 fun a17 =>
 ck 11 a17 <| cl (fX10_addBytes a17 x5) fun v18 =>
 gR 12 a0 0 fun v19 =>
 nn v19 fun a21 =>
 gI 11 a21 1 fun v20 =>
 rt v20)
 (rt (-1))
set_option maxHeartbeats 4000000 in
set_option maxRecDepth 100000 in
theorem mX11_feed {E : Ev} {l : Launch} (a0 : Nat) (x1 : Int32) (x2 : Int32) (x3 : Int32) (x4 : Int32) (x5 : Int32) : MF E l dpX11_feed yX11_feed cX11_feed 6 (some .int) rvI [.ref (E.1 + a0), .int x1, .int x2, .int x3, .int x4, .int x5] (fX11_feed a0 x1 x2 x3 x4 x5) := by
  refine MF.of (lv := [(0, .ref (E.1 + a0)), (1, .int x1), (2, .int x2), (3, .int x3), (4, .int x4), (5, .int x5)]) (by decide) (Nat.le_of_ble_eq_true rfl) rfl ?_
  unfold fX11_feed
  refine sn_aload_n (pc := 0) (j := 0) dX11_feed_0 rfl rfl ?_
  refine sn_gR (pc := 1) dX11_feed_1 flX11_12 rfl (fun v1 => ?_)
  rcases v1 with _ | a3
  · exact sn_no
  refine sn_nn ?_
  refine sn_gI (pc := 4) dX11_feed_4 flX11_59 rfl (fun v2 => ?_)
  refine sn_bipush (pc := 7) (v := 20) dX11_feed_7 (by decide) ?_
  refine sn_iadd (pc := 9) dX11_feed_9 ?_
  refine sn_sipush (pc := 10) (v := 400) dX11_feed_10 (by decide) ?_
  refine sn_icmp_le (pc := 13) (tgt := 18) dX11_feed_13 (by decide) ?_ ?_
  · refine sn_aload_n (pc := 18) (j := 0) dX11_feed_18 rfl rfl ?_
    refine sn_gR (pc := 19) dX11_feed_19 flX11_12 rfl (fun v4 => ?_)
    refine sn_iload_n (pc := 22) (j := 1) dX11_feed_22 rfl rfl ?_
    rcases v4 with _ | a5
    · exact sn_no
    refine sn_nn ?_
    refine sn_callV (ci := 10) (pc := 23) dX11_feed_23 iX10_addBytes wt2_88 wt2_89 wt2_87 ⟨_, rfl, rfl⟩ (by decide) (mX10_addBytes a5 x1) (by decide) rfl rfl (Nat.le_of_ble_eq_true rfl) (fun v6 => ?_)
    refine sn_aload_n (pc := 26) (j := 0) dX11_feed_26 rfl rfl ?_
    refine sn_gR (pc := 27) dX11_feed_27 flX11_12 rfl (fun v7 => ?_)
    refine sn_iload_n (pc := 30) (j := 2) dX11_feed_30 rfl rfl ?_
    rcases v7 with _ | a8
    · exact sn_no
    refine sn_nn ?_
    refine sn_callV (ci := 10) (pc := 31) dX11_feed_31 iX10_addBytes wt2_88 wt2_89 wt2_87 ⟨_, rfl, rfl⟩ (by decide) (mX10_addBytes a8 x2) (by decide) rfl rfl (Nat.le_of_ble_eq_true rfl) (fun v9 => ?_)
    refine sn_aload_n (pc := 34) (j := 0) dX11_feed_34 rfl rfl ?_
    refine sn_gR (pc := 35) dX11_feed_35 flX11_12 rfl (fun v10 => ?_)
    refine sn_iload_n (pc := 38) (j := 3) dX11_feed_38 rfl rfl ?_
    rcases v10 with _ | a11
    · exact sn_no
    refine sn_nn ?_
    refine sn_callV (ci := 10) (pc := 39) dX11_feed_39 iX10_addBytes wt2_88 wt2_89 wt2_87 ⟨_, rfl, rfl⟩ (by decide) (mX10_addBytes a11 x3) (by decide) rfl rfl (Nat.le_of_ble_eq_true rfl) (fun v12 => ?_)
    refine sn_aload_n (pc := 42) (j := 0) dX11_feed_42 rfl rfl ?_
    refine sn_gR (pc := 43) dX11_feed_43 flX11_12 rfl (fun v13 => ?_)
    refine sn_iload (pc := 46) (j := 4) dX11_feed_46 rfl ?_
    rcases v13 with _ | a14
    · exact sn_no
    refine sn_nn ?_
    refine sn_callV (ci := 10) (pc := 48) dX11_feed_48 iX10_addBytes wt2_88 wt2_89 wt2_87 ⟨_, rfl, rfl⟩ (by decide) (mX10_addBytes a14 x4) (by decide) rfl rfl (Nat.le_of_ble_eq_true rfl) (fun v15 => ?_)
    refine sn_aload_n (pc := 51) (j := 0) dX11_feed_51 rfl rfl ?_
    refine sn_gR (pc := 52) dX11_feed_52 flX11_12 rfl (fun v16 => ?_)
    refine sn_iload (pc := 55) (j := 5) dX11_feed_55 rfl ?_
    rcases v16 with _ | a17
    · exact sn_no
    refine sn_nn ?_
    refine sn_callV (ci := 10) (pc := 57) dX11_feed_57 iX10_addBytes wt2_88 wt2_89 wt2_87 ⟨_, rfl, rfl⟩ (by decide) (mX10_addBytes a17 x5) (by decide) rfl rfl (Nat.le_of_ble_eq_true rfl) (fun v18 => ?_)
    refine sn_aload_n (pc := 60) (j := 0) dX11_feed_60 rfl rfl ?_
    refine sn_gR (pc := 61) dX11_feed_61 flX11_12 rfl (fun v19 => ?_)
    rcases v19 with _ | a21
    · exact sn_no
    refine sn_nn ?_
    refine sn_gI (pc := 64) dX11_feed_64 flX11_59 rfl (fun v20 => ?_)
    exact sn_iret (pc := 67) dX11_feed_67 rfl
  · refine sn_iconst (pc := 16) (v := (-1)) dX11_feed_16 (by decide) ?_
    exact sn_iret (pc := 17) dX11_feed_17 rfl
theorem iX11_feed : MI yX11_feed cX11_feed 6 (some .int) 5 := ⟨wt1_1, wt2_86, by decide +kernel, by decide⟩
