-- NeedleHomes$Bill <init>()V
theorem dX0_init_0 : decode cX0_init 0 = .ok (.aload_n 0, 1) := by decide +kernel
theorem dX0_init_1 : decode cX0_init 1 = .ok (.invokespecial 3, 3) := by decide +kernel
theorem dX0_init_4 : decode cX0_init 4 = .ok (.aload_n 0, 1) := by decide +kernel
theorem dX0_init_5 : decode cX0_init 5 = .ok (.bipush 8, 2) := by decide +kernel
theorem dX0_init_7 : decode cX0_init 7 = .ok (.newarray .int, 2) := by decide +kernel
theorem dX0_init_9 : decode cX0_init 9 = .ok (.putfield 9, 3) := by decide +kernel
theorem dX0_init_12 : decode cX0_init 12 = .ok (.return_, 1) := by decide +kernel
abbrev dpX0_init : Nat := 1
def fX0_init (a0 : Nat) : St → Option (Unit × St) :=
 nA 15 8 fun a1 =>
 pR 1 a0 6 (some a1) <|
 rt ()
set_option maxHeartbeats 4000000 in
set_option maxRecDepth 100000 in
theorem mX0_init {E : Ev} {l : Launch} (a0 : Nat) : MF E l dpX0_init yX0_init cX0_init 1 none rvV [.ref (E.1 + a0)] (fX0_init a0) := by
  refine MF.of (lv := [(0, .ref (E.1 + a0))]) (by decide) (Nat.le_of_ble_eq_true rfl) rfl ?_
  unfold fX0_init
  refine sn_aload_n (pc := 0) (j := 0) dX0_init_0 rfl rfl ?_
  refine sn_objInit (pc := 1) dX0_init_1 wt1_212 w_oi w_oc (by decide) (Nat.le_of_ble_eq_true rfl) ?_
  refine sn_aload_n (pc := 4) (j := 0) dX0_init_4 rfl rfl ?_
  refine sn_bipush (pc := 5) (v := 8) dX0_init_5 (by decide) ?_
  refine sn_newI (pc := 7) dX0_init_7 wt1_109 (fun a1 => ?_)
  refine sn_pR (pc := 9) (v := (some a1)) dX0_init_9 flX0_9 rfl (Or.inr ⟨_, rfl⟩) (Or.inr ⟨rfl, rfl, rfl⟩) ?_
  exact sn_vret (pc := 12) dX0_init_12 rfl
theorem iX0_init : MI yX0_init cX0_init 1 none 0 := ⟨wt1_7, wt1_211, by decide +kernel, by decide⟩
-- NeedleHomes termWithoutLine(I)I
theorem dX11_termWithoutLine_0 : decode cX11_termWithoutLine 0 = .ok (.iload_n 0, 1) := by decide +kernel
theorem dX11_termWithoutLine_1 : decode cX11_termWithoutLine 1 = .ok (.tableswitch 43 0 4 #[35, 38, 43, 43, 40], 35) := by decide +kernel
theorem dX11_termWithoutLine_36 : decode cX11_termWithoutLine 36 = .ok (.bipush 10, 2) := by decide +kernel
theorem dX11_termWithoutLine_38 : decode cX11_termWithoutLine 38 = .ok (.ireturn, 1) := by decide +kernel
theorem dX11_termWithoutLine_39 : decode cX11_termWithoutLine 39 = .ok (.iconst 5, 1) := by decide +kernel
theorem dX11_termWithoutLine_40 : decode cX11_termWithoutLine 40 = .ok (.ireturn, 1) := by decide +kernel
theorem dX11_termWithoutLine_41 : decode cX11_termWithoutLine 41 = .ok (.bipush 7, 2) := by decide +kernel
theorem dX11_termWithoutLine_43 : decode cX11_termWithoutLine 43 = .ok (.ireturn, 1) := by decide +kernel
theorem dX11_termWithoutLine_44 : decode cX11_termWithoutLine 44 = .ok (.iconst 0, 1) := by decide +kernel
theorem dX11_termWithoutLine_45 : decode cX11_termWithoutLine 45 = .ok (.ireturn, 1) := by decide +kernel
abbrev dpX11_termWithoutLine : Nat := 0
def fX11_termWithoutLine (x0 : Int32) : St → Option (Int32 × St) :=
 br (x0 = 0) (rt 10) <|
 br (x0 = 1) (rt 5) <|
 br (x0 = 2) (rt 0) <|
 br (x0 = 3) (rt 0) <|
 br (x0 = 4) (rt 7) <|
 (rt 0)
set_option maxHeartbeats 4000000 in
set_option maxRecDepth 100000 in
theorem mX11_termWithoutLine {E : Ev} {l : Launch} (x0 : Int32) : MF E l dpX11_termWithoutLine yX11_termWithoutLine cX11_termWithoutLine 1 (some .int) rvI [.int x0] (fX11_termWithoutLine x0) := by
  refine MF.of (lv := [(0, .int x0)]) (by decide) (Nat.le_of_ble_eq_true rfl) rfl ?_
  unfold fX11_termWithoutLine
  refine sn_iload_n (pc := 0) (j := 0) dX11_termWithoutLine_0 rfl rfl ?_
  refine sw_start ?_
  refine sw_case (tgt := 36) 0 dX11_termWithoutLine_1 (by decide) (by decide) rfl (by decide) ?_ ?_
  · refine sn_bipush (pc := 36) (v := 10) dX11_termWithoutLine_36 (by decide) ?_
    exact sn_iret (pc := 38) dX11_termWithoutLine_38 rfl
  refine sw_case (tgt := 39) 1 dX11_termWithoutLine_1 (by decide) (by decide) rfl (by decide) ?_ ?_
  · refine sn_iconst (pc := 39) (v := 5) dX11_termWithoutLine_39 (by decide) ?_
    exact sn_iret (pc := 40) dX11_termWithoutLine_40 rfl
  refine sw_case (tgt := 44) 2 dX11_termWithoutLine_1 (by decide) (by decide) rfl (by decide) ?_ ?_
  · refine sn_iconst (pc := 44) (v := 0) dX11_termWithoutLine_44 (by decide) ?_
    exact sn_iret (pc := 45) dX11_termWithoutLine_45 rfl
  refine sw_case (tgt := 44) 3 dX11_termWithoutLine_1 (by decide) (by decide) rfl (by decide) ?_ ?_
  · refine sn_iconst (pc := 44) (v := 0) dX11_termWithoutLine_44 (by decide) ?_
    exact sn_iret (pc := 45) dX11_termWithoutLine_45 rfl
  refine sw_case (tgt := 41) 4 dX11_termWithoutLine_1 (by decide) (by decide) rfl (by decide) ?_ ?_
  · refine sn_bipush (pc := 41) (v := 7) dX11_termWithoutLine_41 (by decide) ?_
    exact sn_iret (pc := 43) dX11_termWithoutLine_43 rfl
  refine sw_dflt (tgt := 44) dX11_termWithoutLine_1 (fun hc => ?_) (by decide) ?_
  · obtain ⟨⟨⟨⟨⟨-, q0⟩, q1⟩, q2⟩, q3⟩, q4⟩ := hc
    have q0 := ne_toInt q0
    have q1 := ne_toInt q1
    have q2 := ne_toInt q2
    have q3 := ne_toInt q3
    have q4 := ne_toInt q4
    have e0 : (0 : Int32).toInt = 0 := by decide
    have e1 : (1 : Int32).toInt = 1 := by decide
    have e2 : (2 : Int32).toInt = 2 := by decide
    have e3 : (3 : Int32).toInt = 3 := by decide
    have e4 : (4 : Int32).toInt = 4 := by decide
    rw [e0] at q0
    rw [e1] at q1
    rw [e2] at q2
    rw [e3] at q3
    rw [e4] at q4
    omega
  · refine sn_iconst (pc := 44) (v := 0) dX11_termWithoutLine_44 (by decide) ?_
    exact sn_iret (pc := 45) dX11_termWithoutLine_45 rfl
theorem iX11_termWithoutLine : MI yX11_termWithoutLine cX11_termWithoutLine 1 (some .int) 1 := ⟨wt1_1, wt4_120, by decide +kernel, by decide⟩
-- NeedleHomes$TermList holds(I[I)Z
theorem dX9_holds_0 : decode cX9_holds 0 = .ok (.iload_n 1, 1) := by decide +kernel
theorem dX9_holds_1 : decode cX9_holds 1 = .ok (.ifCond .lt 14, 3) := by decide +kernel
theorem dX9_holds_4 : decode cX9_holds 4 = .ok (.iload_n 1, 1) := by decide +kernel
theorem dX9_holds_5 : decode cX9_holds 5 = .ok (.iconst 4, 1) := by decide +kernel
theorem dX9_holds_6 : decode cX9_holds 6 = .ok (.iadd, 1) := by decide +kernel
theorem dX9_holds_7 : decode cX9_holds 7 = .ok (.aload_n 0, 1) := by decide +kernel
theorem dX9_holds_8 : decode cX9_holds 8 = .ok (.getfield 58, 3) := by decide +kernel
theorem dX9_holds_11 : decode cX9_holds 11 = .ok (.arraylength, 1) := by decide +kernel
theorem dX9_holds_12 : decode cX9_holds 12 = .ok (.if_icmp .le 5, 3) := by decide +kernel
theorem dX9_holds_15 : decode cX9_holds 15 = .ok (.iconst 0, 1) := by decide +kernel
theorem dX9_holds_16 : decode cX9_holds 16 = .ok (.ireturn, 1) := by decide +kernel
theorem dX9_holds_17 : decode cX9_holds 17 = .ok (.aload_n 0, 1) := by decide +kernel
theorem dX9_holds_18 : decode cX9_holds 18 = .ok (.getfield 58, 3) := by decide +kernel
theorem dX9_holds_21 : decode cX9_holds 21 = .ok (.iload_n 1, 1) := by decide +kernel
theorem dX9_holds_22 : decode cX9_holds 22 = .ok (.iconst 1, 1) := by decide +kernel
theorem dX9_holds_23 : decode cX9_holds 23 = .ok (.iadd, 1) := by decide +kernel
theorem dX9_holds_24 : decode cX9_holds 24 = .ok (.iaload, 1) := by decide +kernel
theorem dX9_holds_25 : decode cX9_holds 25 = .ok (.istore_n 3, 1) := by decide +kernel
theorem dX9_holds_26 : decode cX9_holds 26 = .ok (.iload_n 3, 1) := by decide +kernel
theorem dX9_holds_27 : decode cX9_holds 27 = .ok (.ifCond .lt 9, 3) := by decide +kernel
theorem dX9_holds_30 : decode cX9_holds 30 = .ok (.iload_n 3, 1) := by decide +kernel
theorem dX9_holds_31 : decode cX9_holds 31 = .ok (.aload_n 2, 1) := by decide +kernel
theorem dX9_holds_32 : decode cX9_holds 32 = .ok (.arraylength, 1) := by decide +kernel
theorem dX9_holds_33 : decode cX9_holds 33 = .ok (.if_icmp .lt 5, 3) := by decide +kernel
theorem dX9_holds_36 : decode cX9_holds 36 = .ok (.iconst 0, 1) := by decide +kernel
theorem dX9_holds_37 : decode cX9_holds 37 = .ok (.ireturn, 1) := by decide +kernel
theorem dX9_holds_38 : decode cX9_holds 38 = .ok (.aload_n 0, 1) := by decide +kernel
theorem dX9_holds_39 : decode cX9_holds 39 = .ok (.getfield 58, 3) := by decide +kernel
theorem dX9_holds_42 : decode cX9_holds 42 = .ok (.iload_n 1, 1) := by decide +kernel
theorem dX9_holds_43 : decode cX9_holds 43 = .ok (.iconst 2, 1) := by decide +kernel
theorem dX9_holds_44 : decode cX9_holds 44 = .ok (.iadd, 1) := by decide +kernel
theorem dX9_holds_45 : decode cX9_holds 45 = .ok (.iaload, 1) := by decide +kernel
theorem dX9_holds_46 : decode cX9_holds 46 = .ok (.istore 4, 2) := by decide +kernel
theorem dX9_holds_48 : decode cX9_holds 48 = .ok (.aload_n 0, 1) := by decide +kernel
theorem dX9_holds_49 : decode cX9_holds 49 = .ok (.getfield 58, 3) := by decide +kernel
theorem dX9_holds_52 : decode cX9_holds 52 = .ok (.iload_n 1, 1) := by decide +kernel
theorem dX9_holds_53 : decode cX9_holds 53 = .ok (.iconst 3, 1) := by decide +kernel
theorem dX9_holds_54 : decode cX9_holds 54 = .ok (.iadd, 1) := by decide +kernel
theorem dX9_holds_55 : decode cX9_holds 55 = .ok (.iaload, 1) := by decide +kernel
theorem dX9_holds_56 : decode cX9_holds 56 = .ok (.istore 5, 2) := by decide +kernel
theorem dX9_holds_58 : decode cX9_holds 58 = .ok (.iload 4, 2) := by decide +kernel
theorem dX9_holds_60 : decode cX9_holds 60 = .ok (.ifCond .ne 19, 3) := by decide +kernel
theorem dX9_holds_63 : decode cX9_holds 63 = .ok (.aload_n 2, 1) := by decide +kernel
theorem dX9_holds_64 : decode cX9_holds 64 = .ok (.iload_n 3, 1) := by decide +kernel
theorem dX9_holds_65 : decode cX9_holds 65 = .ok (.iaload, 1) := by decide +kernel
theorem dX9_holds_66 : decode cX9_holds 66 = .ok (.iload 5, 2) := by decide +kernel
theorem dX9_holds_68 : decode cX9_holds 68 = .ok (.if_icmp .ge 7, 3) := by decide +kernel
theorem dX9_holds_71 : decode cX9_holds 71 = .ok (.iconst 1, 1) := by decide +kernel
theorem dX9_holds_72 : decode cX9_holds 72 = .ok (.goto 42, 3) := by decide +kernel
theorem dX9_holds_75 : decode cX9_holds 75 = .ok (.iconst 0, 1) := by decide +kernel
theorem dX9_holds_76 : decode cX9_holds 76 = .ok (.goto 38, 3) := by decide +kernel
theorem dX9_holds_79 : decode cX9_holds 79 = .ok (.iload 4, 2) := by decide +kernel
theorem dX9_holds_81 : decode cX9_holds 81 = .ok (.iconst 1, 1) := by decide +kernel
theorem dX9_holds_82 : decode cX9_holds 82 = .ok (.if_icmp .ne 19, 3) := by decide +kernel
theorem dX9_holds_85 : decode cX9_holds 85 = .ok (.aload_n 2, 1) := by decide +kernel
theorem dX9_holds_86 : decode cX9_holds 86 = .ok (.iload_n 3, 1) := by decide +kernel
theorem dX9_holds_87 : decode cX9_holds 87 = .ok (.iaload, 1) := by decide +kernel
theorem dX9_holds_88 : decode cX9_holds 88 = .ok (.iload 5, 2) := by decide +kernel
theorem dX9_holds_90 : decode cX9_holds 90 = .ok (.if_icmp .le 7, 3) := by decide +kernel
theorem dX9_holds_93 : decode cX9_holds 93 = .ok (.iconst 1, 1) := by decide +kernel
theorem dX9_holds_94 : decode cX9_holds 94 = .ok (.goto 20, 3) := by decide +kernel
theorem dX9_holds_97 : decode cX9_holds 97 = .ok (.iconst 0, 1) := by decide +kernel
theorem dX9_holds_98 : decode cX9_holds 98 = .ok (.goto 16, 3) := by decide +kernel
theorem dX9_holds_101 : decode cX9_holds 101 = .ok (.aload_n 2, 1) := by decide +kernel
theorem dX9_holds_102 : decode cX9_holds 102 = .ok (.iload_n 3, 1) := by decide +kernel
theorem dX9_holds_103 : decode cX9_holds 103 = .ok (.iaload, 1) := by decide +kernel
theorem dX9_holds_104 : decode cX9_holds 104 = .ok (.iload 5, 2) := by decide +kernel
theorem dX9_holds_106 : decode cX9_holds 106 = .ok (.if_icmp .ne 7, 3) := by decide +kernel
theorem dX9_holds_109 : decode cX9_holds 109 = .ok (.iconst 1, 1) := by decide +kernel
theorem dX9_holds_110 : decode cX9_holds 110 = .ok (.goto 4, 3) := by decide +kernel
theorem dX9_holds_113 : decode cX9_holds 113 = .ok (.iconst 0, 1) := by decide +kernel
theorem dX9_holds_114 : decode cX9_holds 114 = .ok (.istore 6, 2) := by decide +kernel
theorem dX9_holds_116 : decode cX9_holds 116 = .ok (.aload_n 0, 1) := by decide +kernel
theorem dX9_holds_117 : decode cX9_holds 117 = .ok (.getfield 58, 3) := by decide +kernel
theorem dX9_holds_120 : decode cX9_holds 120 = .ok (.iload_n 1, 1) := by decide +kernel
theorem dX9_holds_121 : decode cX9_holds 121 = .ok (.iaload, 1) := by decide +kernel
theorem dX9_holds_122 : decode cX9_holds 122 = .ok (.iconst 1, 1) := by decide +kernel
theorem dX9_holds_123 : decode cX9_holds 123 = .ok (.if_icmp .ne 7, 3) := by decide +kernel
theorem dX9_holds_126 : decode cX9_holds 126 = .ok (.iconst 1, 1) := by decide +kernel
theorem dX9_holds_127 : decode cX9_holds 127 = .ok (.goto 4, 3) := by decide +kernel
theorem dX9_holds_130 : decode cX9_holds 130 = .ok (.iconst 0, 1) := by decide +kernel
theorem dX9_holds_131 : decode cX9_holds 131 = .ok (.istore 7, 2) := by decide +kernel
theorem dX9_holds_133 : decode cX9_holds 133 = .ok (.iload 6, 2) := by decide +kernel
theorem dX9_holds_135 : decode cX9_holds 135 = .ok (.iload 7, 2) := by decide +kernel
theorem dX9_holds_137 : decode cX9_holds 137 = .ok (.if_icmp .eq 7, 3) := by decide +kernel
theorem dX9_holds_140 : decode cX9_holds 140 = .ok (.iconst 1, 1) := by decide +kernel
theorem dX9_holds_141 : decode cX9_holds 141 = .ok (.goto 4, 3) := by decide +kernel
theorem dX9_holds_144 : decode cX9_holds 144 = .ok (.iconst 0, 1) := by decide +kernel
theorem dX9_holds_145 : decode cX9_holds 145 = .ok (.ireturn, 1) := by decide +kernel
abbrev dpX9_holds : Nat := 0
def fX9_holds_131 (x6 : Int32) (y0 : Int32) : St → Option (Bool × St) :=
 br (x6 = y0) (rtZ 0)
 (rtZ 1)
set_option maxHeartbeats 4000000 in
set_option maxRecDepth 100000 in
theorem sfX9_holds_131 {E : Ev} {l : Launch} (x6 : Int32) (y0 : Int32) : Snd E l (dpX9_holds, RX9, cX9_holds, 8, (some .boolean), "holds") rvZ 131 [(6, .int x6)] [.int y0] (fX9_holds_131 x6 y0) := by
  unfold fX9_holds_131
  refine sn_istore (pc := 131) (i := 7) (lv' := [(7, .int y0), (6, .int x6)]) dX9_holds_131 (by decide) rfl ?_
  refine sn_iload (pc := 133) (j := 1) dX9_holds_133 rfl ?_
  refine sn_iload (pc := 135) (j := 0) dX9_holds_135 rfl ?_
  refine sn_icmp_eq (pc := 137) (tgt := 144) dX9_holds_137 (by decide) ?_ ?_
  · refine sn_iconst (pc := 144) (v := 0) dX9_holds_144 (by decide) ?_
    exact sn_zret (pc := 145) dX9_holds_145 rfl
  · refine sn_iconst (pc := 140) (v := 1) dX9_holds_140 (by decide) ?_
    refine sn_goto (pc := 141) (tgt := 145) dX9_holds_141 (by decide) ?_
    exact sn_zret (pc := 145) dX9_holds_145 rfl
def fX9_holds_114 (a0 : Nat) (x1 : Int32) (y0 : Int32) : St → Option (Bool × St) :=
 gR 10 a0 7 fun v1001 =>
 nn v1001 fun a1003 =>
 aI 15 a1003 x1 fun v1002 =>
 br (v1002 = 1) (fX9_holds_131  y0 1)
 (fX9_holds_131  y0 0)
set_option maxHeartbeats 4000000 in
set_option maxRecDepth 100000 in
theorem sfX9_holds_114 {E : Ev} {l : Launch} (a0 : Nat) (x1 : Int32) (y0 : Int32) : Snd E l (dpX9_holds, RX9, cX9_holds, 8, (some .boolean), "holds") rvZ 114 [(0, .ref (E.1 + a0)), (1, .int x1)] [.int y0] (fX9_holds_114 a0 x1 y0) := by
  unfold fX9_holds_114
  refine sn_istore (pc := 114) (i := 6) (lv' := [(6, .int y0), (0, .ref (E.1 + a0)), (1, .int x1)]) dX9_holds_114 (by decide) rfl ?_
  refine sn_aload_n (pc := 116) (j := 1) dX9_holds_116 rfl rfl ?_
  refine sn_gR (pc := 117) dX9_holds_117 flX9_58 rfl (fun v1001 => ?_)
  refine sn_iload_n (pc := 120) (j := 2) dX9_holds_120 rfl rfl ?_
  rcases v1001 with _ | a1003
  · exact sn_no
  refine sn_nn ?_
  refine sn_iald (pc := 121) dX9_holds_121 (fun v1002 => ?_)
  refine sn_iconst (pc := 122) (v := 1) dX9_holds_122 (by decide) ?_
  refine sn_icmp_ne (pc := 123) (tgt := 130) dX9_holds_123 (by decide) ?_ ?_
  · refine sn_iconst (pc := 130) (v := 0) dX9_holds_130 (by decide) ?_
    exact sn_sub (lv' := [(6, .int y0)]) [0] rfl (sfX9_holds_131  y0 0)
  · refine sn_iconst (pc := 126) (v := 1) dX9_holds_126 (by decide) ?_
    refine sn_goto (pc := 127) (tgt := 131) dX9_holds_127 (by decide) ?_
    exact sn_sub (lv' := [(6, .int y0)]) [0] rfl (sfX9_holds_131  y0 1)
def fX9_holds (a0 : Nat) (x1 : Int32) (x2 : Option Nat) : St → Option (Bool × St) :=
 br (x1 < 0) (rtZ 0)
 (gR 10 a0 7 fun v1 =>
 nn v1 fun a3 =>
 aL 15 a3 fun v2 =>
 br ((x1 + 4) ≤ v2) (gR 10 a0 7 fun v4 =>
 nn v4 fun a6 =>
 aI 15 a6 (x1 + 1) fun v5 =>
 br (v5 < 0) (rtZ 0)
 (nn x2 fun a8 =>
 aL 15 a8 fun v7 =>
 br (v5 < v7) (gR 10 a0 7 fun v9 =>
 nn v9 fun a11 =>
 aI 15 a11 (x1 + 2) fun v10 =>
 gR 10 a0 7 fun v12 =>
 nn v12 fun a14 =>
 aI 15 a14 (x1 + 3) fun v13 =>
 br (v10 = 0) (aI 15 a8 v5 fun v17 =>
 br (v13 ≤ v17) (fX9_holds_114  a0 x1 0)
 (fX9_holds_114  a0 x1 1))
 (br (v10 = 1) (aI 15 a8 v5 fun v16 =>
 br (v16 ≤ v13) (fX9_holds_114  a0 x1 0)
 (fX9_holds_114  a0 x1 1))
 (aI 15 a8 v5 fun v15 =>
 br (v15 = v13) (fX9_holds_114  a0 x1 1)
 (fX9_holds_114  a0 x1 0))))
 (rtZ 0)))
 (rtZ 0))
set_option maxHeartbeats 4000000 in
set_option maxRecDepth 100000 in
theorem mX9_holds {E : Ev} {l : Launch} (a0 : Nat) (x1 : Int32) (x2 : Option Nat) : MF E l dpX9_holds yX9_holds cX9_holds 8 (some .boolean) rvZ [.ref (E.1 + a0), .int x1, rf E.1 x2] (fX9_holds a0 x1 x2) := by
  refine MF.of (lv := [(0, .ref (E.1 + a0)), (1, .int x1), (2, rf E.1 x2)]) (by decide) (by simp [lg_sl, rf_cat, cat_int, cat_long, cat_ref]) (by simp [lv_args, rf_cat, cat_int, cat_long, cat_ref]) ?_
  unfold fX9_holds
  refine sn_iload_n (pc := 0) (j := 1) dX9_holds_0 rfl rfl ?_
  refine sn_if_lt (pc := 1) (tgt := 15) dX9_holds_1 (by decide) ?_ ?_
  · refine sn_iconst (pc := 15) (v := 0) dX9_holds_15 (by decide) ?_
    exact sn_zret (pc := 16) dX9_holds_16 rfl
  · refine sn_iload_n (pc := 4) (j := 1) dX9_holds_4 rfl rfl ?_
    refine sn_iconst (pc := 5) (v := 4) dX9_holds_5 (by decide) ?_
    refine sn_iadd (pc := 6) dX9_holds_6 ?_
    refine sn_aload_n (pc := 7) (j := 0) dX9_holds_7 rfl rfl ?_
    refine sn_gR (pc := 8) dX9_holds_8 flX9_58 rfl (fun v1 => ?_)
    rcases v1 with _ | a3
    · exact sn_no
    refine sn_nn ?_
    refine sn_alen (t := 1) (pc := 11) dX9_holds_11 rfl (fun v2 => ?_)
    refine sn_icmp_le (pc := 12) (tgt := 17) dX9_holds_12 (by decide) ?_ ?_
    · refine sn_aload_n (pc := 17) (j := 0) dX9_holds_17 rfl rfl ?_
      refine sn_gR (pc := 18) dX9_holds_18 flX9_58 rfl (fun v4 => ?_)
      refine sn_iload_n (pc := 21) (j := 1) dX9_holds_21 rfl rfl ?_
      refine sn_iconst (pc := 22) (v := 1) dX9_holds_22 (by decide) ?_
      refine sn_iadd (pc := 23) dX9_holds_23 ?_
      rcases v4 with _ | a6
      · exact sn_no
      refine sn_nn ?_
      refine sn_iald (pc := 24) dX9_holds_24 (fun v5 => ?_)
      refine sn_istore_n (pc := 25) (i := 3) (lv' := [(3, .int v5), (0, .ref (E.1 + a0)), (1, .int x1), (2, rf E.1 x2)]) dX9_holds_25 rfl (by decide) (by simp [rf_some, rf_cat, cat_int, cat_long, cat_ref]) ?_
      refine sn_iload_n (pc := 26) (j := 0) dX9_holds_26 rfl rfl ?_
      refine sn_if_lt (pc := 27) (tgt := 36) dX9_holds_27 (by decide) ?_ ?_
      · refine sn_iconst (pc := 36) (v := 0) dX9_holds_36 (by decide) ?_
        exact sn_zret (pc := 37) dX9_holds_37 rfl
      · refine sn_iload_n (pc := 30) (j := 0) dX9_holds_30 rfl rfl ?_
        refine sn_aloadR_n (pc := 31) (r := x2) (j := 3) dX9_holds_31 rfl rfl ?_
        rcases x2 with _ | a8
        · exact sn_no
        refine sn_nn ?_
        refine sn_alen (t := 1) (pc := 32) dX9_holds_32 rfl (fun v7 => ?_)
        refine sn_icmp_lt (pc := 33) (tgt := 38) dX9_holds_33 (by decide) ?_ ?_
        · refine sn_aload_n (pc := 38) (j := 1) dX9_holds_38 rfl rfl ?_
          refine sn_gR (pc := 39) dX9_holds_39 flX9_58 rfl (fun v9 => ?_)
          refine sn_iload_n (pc := 42) (j := 2) dX9_holds_42 rfl rfl ?_
          refine sn_iconst (pc := 43) (v := 2) dX9_holds_43 (by decide) ?_
          refine sn_iadd (pc := 44) dX9_holds_44 ?_
          rcases v9 with _ | a11
          · exact sn_no
          refine sn_nn ?_
          refine sn_iald (pc := 45) dX9_holds_45 (fun v10 => ?_)
          refine sn_istore (pc := 46) (i := 4) (lv' := [(4, .int v10), (3, .int v5), (0, .ref (E.1 + a0)), (1, .int x1), (2, .ref (E.1 + a8))]) dX9_holds_46 (by decide) rfl ?_
          refine sn_aload_n (pc := 48) (j := 2) dX9_holds_48 rfl rfl ?_
          refine sn_gR (pc := 49) dX9_holds_49 flX9_58 rfl (fun v12 => ?_)
          refine sn_iload_n (pc := 52) (j := 3) dX9_holds_52 rfl rfl ?_
          refine sn_iconst (pc := 53) (v := 3) dX9_holds_53 (by decide) ?_
          refine sn_iadd (pc := 54) dX9_holds_54 ?_
          rcases v12 with _ | a14
          · exact sn_no
          refine sn_nn ?_
          refine sn_iald (pc := 55) dX9_holds_55 (fun v13 => ?_)
          refine sn_istore (pc := 56) (i := 5) (lv' := [(5, .int v13), (4, .int v10), (3, .int v5), (0, .ref (E.1 + a0)), (1, .int x1), (2, .ref (E.1 + a8))]) dX9_holds_56 (by decide) rfl ?_
          refine sn_iload (pc := 58) (j := 1) dX9_holds_58 rfl ?_
          refine sn_if_ne (pc := 60) (tgt := 79) dX9_holds_60 (by decide) ?_ ?_
          · refine sn_iload (pc := 79) (j := 1) dX9_holds_79 rfl ?_
            refine sn_iconst (pc := 81) (v := 1) dX9_holds_81 (by decide) ?_
            refine sn_icmp_ne (pc := 82) (tgt := 101) dX9_holds_82 (by decide) ?_ ?_
            · refine sn_aload_n (pc := 101) (j := 5) dX9_holds_101 rfl rfl ?_
              refine sn_iload_n (pc := 102) (j := 2) dX9_holds_102 rfl rfl ?_
              refine sn_iald (pc := 103) dX9_holds_103 (fun v15 => ?_)
              refine sn_iload (pc := 104) (j := 0) dX9_holds_104 rfl ?_
              refine sn_icmp_ne (pc := 106) (tgt := 113) dX9_holds_106 (by decide) ?_ ?_
              · refine sn_iconst (pc := 113) (v := 0) dX9_holds_113 (by decide) ?_
                exact sn_sub (lv' := [(0, .ref (E.1 + a0)), (1, .int x1)]) [3, 4] rfl (sfX9_holds_114  a0 x1 0)
              · refine sn_iconst (pc := 109) (v := 1) dX9_holds_109 (by decide) ?_
                refine sn_goto (pc := 110) (tgt := 114) dX9_holds_110 (by decide) ?_
                exact sn_sub (lv' := [(0, .ref (E.1 + a0)), (1, .int x1)]) [3, 4] rfl (sfX9_holds_114  a0 x1 1)
            · refine sn_aload_n (pc := 85) (j := 5) dX9_holds_85 rfl rfl ?_
              refine sn_iload_n (pc := 86) (j := 2) dX9_holds_86 rfl rfl ?_
              refine sn_iald (pc := 87) dX9_holds_87 (fun v16 => ?_)
              refine sn_iload (pc := 88) (j := 0) dX9_holds_88 rfl ?_
              refine sn_icmp_le (pc := 90) (tgt := 97) dX9_holds_90 (by decide) ?_ ?_
              · refine sn_iconst (pc := 97) (v := 0) dX9_holds_97 (by decide) ?_
                refine sn_goto (pc := 98) (tgt := 114) dX9_holds_98 (by decide) ?_
                exact sn_sub (lv' := [(0, .ref (E.1 + a0)), (1, .int x1)]) [3, 4] rfl (sfX9_holds_114  a0 x1 0)
              · refine sn_iconst (pc := 93) (v := 1) dX9_holds_93 (by decide) ?_
                refine sn_goto (pc := 94) (tgt := 114) dX9_holds_94 (by decide) ?_
                exact sn_sub (lv' := [(0, .ref (E.1 + a0)), (1, .int x1)]) [3, 4] rfl (sfX9_holds_114  a0 x1 1)
          · refine sn_aload_n (pc := 63) (j := 5) dX9_holds_63 rfl rfl ?_
            refine sn_iload_n (pc := 64) (j := 2) dX9_holds_64 rfl rfl ?_
            refine sn_iald (pc := 65) dX9_holds_65 (fun v17 => ?_)
            refine sn_iload (pc := 66) (j := 0) dX9_holds_66 rfl ?_
            refine sn_icmp_ge (pc := 68) (tgt := 75) dX9_holds_68 (by decide) ?_ ?_
            · refine sn_iconst (pc := 75) (v := 0) dX9_holds_75 (by decide) ?_
              refine sn_goto (pc := 76) (tgt := 114) dX9_holds_76 (by decide) ?_
              exact sn_sub (lv' := [(0, .ref (E.1 + a0)), (1, .int x1)]) [3, 4] rfl (sfX9_holds_114  a0 x1 0)
            · refine sn_iconst (pc := 71) (v := 1) dX9_holds_71 (by decide) ?_
              refine sn_goto (pc := 72) (tgt := 114) dX9_holds_72 (by decide) ?_
              exact sn_sub (lv' := [(0, .ref (E.1 + a0)), (1, .int x1)]) [3, 4] rfl (sfX9_holds_114  a0 x1 1)
        · refine sn_iconst (pc := 36) (v := 0) dX9_holds_36 (by decide) ?_
          exact sn_zret (pc := 37) dX9_holds_37 rfl
    · refine sn_iconst (pc := 15) (v := 0) dX9_holds_15 (by decide) ?_
      exact sn_zret (pc := 16) dX9_holds_16 rfl
theorem iX9_holds : MI yX9_holds cX9_holds 8 (some .boolean) 2 := ⟨wt1_17, wt4_117, by decide +kernel, by decide⟩
-- NeedleHomes$TermList allHold(I[I)Z
theorem dX9_allHold_0 : decode cX9_allHold 0 = .ok (.iconst 0, 1) := by decide +kernel
theorem dX9_allHold_1 : decode cX9_allHold 1 = .ok (.istore_n 3, 1) := by decide +kernel
theorem dX9_allHold_2 : decode cX9_allHold 2 = .ok (.iload_n 3, 1) := by decide +kernel
theorem dX9_allHold_3 : decode cX9_allHold 3 = .ok (.aload_n 0, 1) := by decide +kernel
theorem dX9_allHold_4 : decode cX9_allHold 4 = .ok (.getfield 54, 3) := by decide +kernel
theorem dX9_allHold_7 : decode cX9_allHold 7 = .ok (.iload_n 1, 1) := by decide +kernel
theorem dX9_allHold_8 : decode cX9_allHold 8 = .ok (.iaload, 1) := by decide +kernel
theorem dX9_allHold_9 : decode cX9_allHold 9 = .ok (.if_icmp .ge 32, 3) := by decide +kernel
theorem dX9_allHold_12 : decode cX9_allHold 12 = .ok (.iload_n 3, 1) := by decide +kernel
theorem dX9_allHold_13 : decode cX9_allHold 13 = .ok (.iconst 4, 1) := by decide +kernel
theorem dX9_allHold_14 : decode cX9_allHold 14 = .ok (.if_icmp .ge 27, 3) := by decide +kernel
theorem dX9_allHold_17 : decode cX9_allHold 17 = .ok (.aload_n 0, 1) := by decide +kernel
theorem dX9_allHold_18 : decode cX9_allHold 18 = .ok (.iload_n 1, 1) := by decide +kernel
theorem dX9_allHold_19 : decode cX9_allHold 19 = .ok (.bipush 16, 2) := by decide +kernel
theorem dX9_allHold_21 : decode cX9_allHold 21 = .ok (.imul, 1) := by decide +kernel
theorem dX9_allHold_22 : decode cX9_allHold 22 = .ok (.iload_n 3, 1) := by decide +kernel
theorem dX9_allHold_23 : decode cX9_allHold 23 = .ok (.iconst 4, 1) := by decide +kernel
theorem dX9_allHold_24 : decode cX9_allHold 24 = .ok (.imul, 1) := by decide +kernel
theorem dX9_allHold_25 : decode cX9_allHold 25 = .ok (.iadd, 1) := by decide +kernel
theorem dX9_allHold_26 : decode cX9_allHold 26 = .ok (.aload_n 2, 1) := by decide +kernel
theorem dX9_allHold_27 : decode cX9_allHold 27 = .ok (.invokevirtual 67, 3) := by decide +kernel
theorem dX9_allHold_30 : decode cX9_allHold 30 = .ok (.ifCond .ne 5, 3) := by decide +kernel
theorem dX9_allHold_33 : decode cX9_allHold 33 = .ok (.iconst 0, 1) := by decide +kernel
theorem dX9_allHold_34 : decode cX9_allHold 34 = .ok (.ireturn, 1) := by decide +kernel
theorem dX9_allHold_35 : decode cX9_allHold 35 = .ok (.iinc 3 1, 3) := by decide +kernel
theorem dX9_allHold_38 : decode cX9_allHold 38 = .ok (.goto (-36), 3) := by decide +kernel
theorem dX9_allHold_41 : decode cX9_allHold 41 = .ok (.iconst 1, 1) := by decide +kernel
theorem dX9_allHold_42 : decode cX9_allHold 42 = .ok (.ireturn, 1) := by decide +kernel
abbrev dpX9_allHold : Nat := 1
def fX9_allHold_2 (k2 : (Nat × Int32 × Option Nat × Int32) → St → Option (Bool × St)) (a0 : Nat) (x1 : Int32) (x2 : Option Nat) (x3 : Int32) : St → Option (Bool × St) :=
 gR 10 a0 6 fun v1001 =>
 nn v1001 fun a1003 =>
 aI 15 a1003 x1 fun v1002 =>
 br (v1002 ≤ x3) (rtZ 1)
 (br (4 ≤ x3) (rtZ 1)
 (ck 10 a0 <| cl (fX9_holds a0 ((x1 * 16) + (x3 * 4)) x2) fun v1004 =>
 br ((bi v1004) = 0) (rtZ 0)
 (k2 (a0, x1, x2, (x3 + 1)))))
set_option maxHeartbeats 4000000 in
set_option maxRecDepth 100000 in
theorem sfX9_allHold_2 {E : Ev} {l : Launch} (k2 : (Nat × Int32 × Option Nat × Int32) → St → Option (Bool × St)) (hk2 : ∀ p : Nat × Int32 × Option Nat × Int32, Snd E l (dpX9_allHold, RX9, cX9_allHold, 4, (some .boolean), "allHold") rvZ 2 [(0, .ref (E.1 + p.1)), (1, .int p.2.1), (2, rf E.1 p.2.2.1), (3, .int p.2.2.2)] [] (k2 p)) (a0 : Nat) (x1 : Int32) (x2 : Option Nat) (x3 : Int32) : Snd E l (dpX9_allHold, RX9, cX9_allHold, 4, (some .boolean), "allHold") rvZ 2 [(0, .ref (E.1 + a0)), (1, .int x1), (2, rf E.1 x2), (3, .int x3)] [] (fX9_allHold_2 k2 a0 x1 x2 x3) := by
  unfold fX9_allHold_2
  refine sn_iload_n (pc := 2) (j := 3) dX9_allHold_2 rfl rfl ?_
  refine sn_aload_n (pc := 3) (j := 0) dX9_allHold_3 rfl rfl ?_
  refine sn_gR (pc := 4) dX9_allHold_4 flX9_54 rfl (fun v1001 => ?_)
  refine sn_iload_n (pc := 7) (j := 1) dX9_allHold_7 rfl rfl ?_
  rcases v1001 with _ | a1003
  · exact sn_no
  refine sn_nn ?_
  refine sn_iald (pc := 8) dX9_allHold_8 (fun v1002 => ?_)
  refine sn_icmp_ge (pc := 9) (tgt := 41) dX9_allHold_9 (by decide) ?_ ?_
  · refine sn_iconst (pc := 41) (v := 1) dX9_allHold_41 (by decide) ?_
    exact sn_zret (pc := 42) dX9_allHold_42 rfl
  · refine sn_iload_n (pc := 12) (j := 3) dX9_allHold_12 rfl rfl ?_
    refine sn_iconst (pc := 13) (v := 4) dX9_allHold_13 (by decide) ?_
    refine sn_icmp_ge (pc := 14) (tgt := 41) dX9_allHold_14 (by decide) ?_ ?_
    · refine sn_iconst (pc := 41) (v := 1) dX9_allHold_41 (by decide) ?_
      exact sn_zret (pc := 42) dX9_allHold_42 rfl
    · refine sn_aload_n (pc := 17) (j := 0) dX9_allHold_17 rfl rfl ?_
      refine sn_iload_n (pc := 18) (j := 1) dX9_allHold_18 rfl rfl ?_
      refine sn_bipush (pc := 19) (v := 16) dX9_allHold_19 (by decide) ?_
      refine sn_imul (pc := 21) dX9_allHold_21 ?_
      refine sn_iload_n (pc := 22) (j := 3) dX9_allHold_22 rfl rfl ?_
      refine sn_iconst (pc := 23) (v := 4) dX9_allHold_23 (by decide) ?_
      refine sn_imul (pc := 24) dX9_allHold_24 ?_
      refine sn_iadd (pc := 25) dX9_allHold_25 ?_
      refine sn_aloadR_n (pc := 26) (r := x2) (j := 2) dX9_allHold_26 rfl rfl ?_
      refine sn_callV (ci := 9) (pc := 27) dX9_allHold_27 iX9_holds wt4_116 ws_23 wt4_114 ⟨_, rfl, rfl⟩ (by decide) (mX9_holds a0 ((x1 * 16) + (x3 * 4)) x2) (by decide) rfl rfl (Nat.le_of_ble_eq_true rfl) (fun v1004 => ?_)
      refine sn_if_ne (pc := 30) (tgt := 35) dX9_allHold_30 (by decide) ?_ ?_
      · refine sn_iinc (pc := 35) (v := x3 + 1) (lv' := [(3, .int (x3 + 1)), (0, .ref (E.1 + a0)), (1, .int x1), (2, rf E.1 x2)]) (j := 3) dX9_allHold_35 rfl rfl (by decide) (by simp [rf_some, rf_cat, cat_int, cat_long, cat_ref]) ?_
        refine sn_goto (pc := 38) (tgt := 2) dX9_allHold_38 (by decide) ?_
        exact sn_sub (lv' := [(0, .ref (E.1 + a0)), (1, .int x1), (2, rf E.1 x2), (3, .int (x3 + 1))]) [1, 2, 3, 0] rfl (hk2 (a0, x1, x2, (x3 + 1)))
      · refine sn_iconst (pc := 33) (v := 0) dX9_allHold_33 (by decide) ?_
        exact sn_zret (pc := 34) dX9_allHold_34 rfl
def fX9_allHold (a0 : Nat) (x1 : Int32) (x2 : Option Nat) : St → Option (Bool × St) :=
 itr (fun k (p : Nat × Int32 × Option Nat × Int32) => fX9_allHold_2  k p.1 p.2.1 p.2.2.1 p.2.2.2) FU (a0, x1, x2, 0)
set_option maxHeartbeats 4000000 in
set_option maxRecDepth 100000 in
theorem mX9_allHold {E : Ev} {l : Launch} (a0 : Nat) (x1 : Int32) (x2 : Option Nat) : MF E l dpX9_allHold yX9_allHold cX9_allHold 4 (some .boolean) rvZ [.ref (E.1 + a0), .int x1, rf E.1 x2] (fX9_allHold a0 x1 x2) := by
  refine MF.of (lv := [(0, .ref (E.1 + a0)), (1, .int x1), (2, rf E.1 x2)]) (by decide) (by simp [lg_sl, rf_cat, cat_int, cat_long, cat_ref]) (by simp [lv_args, rf_cat, cat_int, cat_long, cat_ref]) ?_
  unfold fX9_allHold
  refine sn_iconst (pc := 0) (v := 0) dX9_allHold_0 (by decide) ?_
  refine sn_istore_n (pc := 1) (i := 3) (lv' := [(3, .int 0), (0, .ref (E.1 + a0)), (1, .int x1), (2, rf E.1 x2)]) dX9_allHold_1 rfl (by decide) (by simp [rf_some, rf_cat, cat_int, cat_long, cat_ref]) ?_
  exact sn_sub (lv' := [(0, .ref (E.1 + a0)), (1, .int x1), (2, rf E.1 x2), (3, .int 0)]) [1, 2, 3, 0] rfl (sn_itr (lvf := fun p => [(0, .ref (E.1 + p.1)), (1, .int p.2.1), (2, rf E.1 p.2.2.1), (3, .int p.2.2.2)]) (stf := fun p => []) (fun k hk p => sfX9_allHold_2  k hk p.1 p.2.1 p.2.2.1 p.2.2.2) FU (a0, x1, x2, 0))
theorem iX9_allHold : MI yX9_allHold cX9_allHold 4 (some .boolean) 2 := ⟨wt1_17, wt4_113, by decide +kernel, by decide⟩
-- NeedleHomes$TermList lineFor(I[I)I
theorem dX9_lineFor_0 : decode cX9_lineFor 0 = .ok (.iconst 0, 1) := by decide +kernel
theorem dX9_lineFor_1 : decode cX9_lineFor 1 = .ok (.istore_n 3, 1) := by decide +kernel
theorem dX9_lineFor_2 : decode cX9_lineFor 2 = .ok (.iload_n 3, 1) := by decide +kernel
theorem dX9_lineFor_3 : decode cX9_lineFor 3 = .ok (.aload_n 0, 1) := by decide +kernel
theorem dX9_lineFor_4 : decode cX9_lineFor 4 = .ok (.getfield 35, 3) := by decide +kernel
theorem dX9_lineFor_7 : decode cX9_lineFor 7 = .ok (.if_icmp .ge 30, 3) := by decide +kernel
theorem dX9_lineFor_10 : decode cX9_lineFor 10 = .ok (.aload_n 0, 1) := by decide +kernel
theorem dX9_lineFor_11 : decode cX9_lineFor 11 = .ok (.getfield 46, 3) := by decide +kernel
theorem dX9_lineFor_14 : decode cX9_lineFor 14 = .ok (.iload_n 3, 1) := by decide +kernel
theorem dX9_lineFor_15 : decode cX9_lineFor 15 = .ok (.iaload, 1) := by decide +kernel
theorem dX9_lineFor_16 : decode cX9_lineFor 16 = .ok (.iload_n 1, 1) := by decide +kernel
theorem dX9_lineFor_17 : decode cX9_lineFor 17 = .ok (.if_icmp .ne 14, 3) := by decide +kernel
theorem dX9_lineFor_20 : decode cX9_lineFor 20 = .ok (.aload_n 0, 1) := by decide +kernel
theorem dX9_lineFor_21 : decode cX9_lineFor 21 = .ok (.iload_n 3, 1) := by decide +kernel
theorem dX9_lineFor_22 : decode cX9_lineFor 22 = .ok (.aload_n 2, 1) := by decide +kernel
theorem dX9_lineFor_23 : decode cX9_lineFor 23 = .ok (.invokevirtual 59, 3) := by decide +kernel
theorem dX9_lineFor_26 : decode cX9_lineFor 26 = .ok (.ifCond .eq 5, 3) := by decide +kernel
theorem dX9_lineFor_29 : decode cX9_lineFor 29 = .ok (.iload_n 3, 1) := by decide +kernel
theorem dX9_lineFor_30 : decode cX9_lineFor 30 = .ok (.ireturn, 1) := by decide +kernel
theorem dX9_lineFor_31 : decode cX9_lineFor 31 = .ok (.iinc 3 1, 3) := by decide +kernel
theorem dX9_lineFor_34 : decode cX9_lineFor 34 = .ok (.goto (-32), 3) := by decide +kernel
theorem dX9_lineFor_37 : decode cX9_lineFor 37 = .ok (.iconst (-1), 1) := by decide +kernel
theorem dX9_lineFor_38 : decode cX9_lineFor 38 = .ok (.ireturn, 1) := by decide +kernel
abbrev dpX9_lineFor : Nat := 2
def fX9_lineFor_31 (k2 : (Nat × Int32 × Option Nat × Int32) → St → Option (Int32 × St)) (a0 : Nat) (x1 : Int32) (x2 : Option Nat) (x3 : Int32) : St → Option (Int32 × St) :=
 k2 (a0, x1, x2, (x3 + 1))
set_option maxHeartbeats 4000000 in
set_option maxRecDepth 100000 in
theorem sfX9_lineFor_31 {E : Ev} {l : Launch} (k2 : (Nat × Int32 × Option Nat × Int32) → St → Option (Int32 × St)) (hk2 : ∀ p : Nat × Int32 × Option Nat × Int32, Snd E l (dpX9_lineFor, RX9, cX9_lineFor, 4, (some .int), "lineFor") rvI 2 [(0, .ref (E.1 + p.1)), (1, .int p.2.1), (2, rf E.1 p.2.2.1), (3, .int p.2.2.2)] [] (k2 p)) (a0 : Nat) (x1 : Int32) (x2 : Option Nat) (x3 : Int32) : Snd E l (dpX9_lineFor, RX9, cX9_lineFor, 4, (some .int), "lineFor") rvI 31 [(0, .ref (E.1 + a0)), (1, .int x1), (2, rf E.1 x2), (3, .int x3)] [] (fX9_lineFor_31 k2 a0 x1 x2 x3) := by
  unfold fX9_lineFor_31
  refine sn_iinc (pc := 31) (v := x3 + 1) (lv' := [(3, .int (x3 + 1)), (0, .ref (E.1 + a0)), (1, .int x1), (2, rf E.1 x2)]) (j := 3) dX9_lineFor_31 rfl rfl (by decide) (by simp [rf_some, rf_cat, cat_int, cat_long, cat_ref]) ?_
  refine sn_goto (pc := 34) (tgt := 2) dX9_lineFor_34 (by decide) ?_
  exact sn_sub (lv' := [(0, .ref (E.1 + a0)), (1, .int x1), (2, rf E.1 x2), (3, .int (x3 + 1))]) [1, 2, 3, 0] rfl (hk2 (a0, x1, x2, (x3 + 1)))
def fX9_lineFor_2 (k2 : (Nat × Int32 × Option Nat × Int32) → St → Option (Int32 × St)) (a0 : Nat) (x1 : Int32) (x2 : Option Nat) (x3 : Int32) : St → Option (Int32 × St) :=
 gI 10 a0 3 fun v1001 =>
 br (v1001 ≤ x3) (rt (-1))
 (gR 10 a0 4 fun v1002 =>
 nn v1002 fun a1004 =>
 aI 15 a1004 x3 fun v1003 =>
 br (v1003 = x1) (ck 10 a0 <| cl (fX9_allHold a0 x3 x2) fun v1005 =>
 br ((bi v1005) = 0) (fX9_lineFor_31 k2 a0 x1 x2 x3)
 (rt x3))
 (fX9_lineFor_31 k2 a0 x1 x2 x3))
set_option maxHeartbeats 4000000 in
set_option maxRecDepth 100000 in
theorem sfX9_lineFor_2 {E : Ev} {l : Launch} (k2 : (Nat × Int32 × Option Nat × Int32) → St → Option (Int32 × St)) (hk2 : ∀ p : Nat × Int32 × Option Nat × Int32, Snd E l (dpX9_lineFor, RX9, cX9_lineFor, 4, (some .int), "lineFor") rvI 2 [(0, .ref (E.1 + p.1)), (1, .int p.2.1), (2, rf E.1 p.2.2.1), (3, .int p.2.2.2)] [] (k2 p)) (a0 : Nat) (x1 : Int32) (x2 : Option Nat) (x3 : Int32) : Snd E l (dpX9_lineFor, RX9, cX9_lineFor, 4, (some .int), "lineFor") rvI 2 [(0, .ref (E.1 + a0)), (1, .int x1), (2, rf E.1 x2), (3, .int x3)] [] (fX9_lineFor_2 k2 a0 x1 x2 x3) := by
  unfold fX9_lineFor_2
  refine sn_iload_n (pc := 2) (j := 3) dX9_lineFor_2 rfl rfl ?_
  refine sn_aload_n (pc := 3) (j := 0) dX9_lineFor_3 rfl rfl ?_
  refine sn_gI (pc := 4) dX9_lineFor_4 flX9_35 rfl (fun v1001 => ?_)
  refine sn_icmp_ge (pc := 7) (tgt := 37) dX9_lineFor_7 (by decide) ?_ ?_
  · refine sn_iconst (pc := 37) (v := (-1)) dX9_lineFor_37 (by decide) ?_
    exact sn_iret (pc := 38) dX9_lineFor_38 rfl
  · refine sn_aload_n (pc := 10) (j := 0) dX9_lineFor_10 rfl rfl ?_
    refine sn_gR (pc := 11) dX9_lineFor_11 flX9_46 rfl (fun v1002 => ?_)
    refine sn_iload_n (pc := 14) (j := 3) dX9_lineFor_14 rfl rfl ?_
    rcases v1002 with _ | a1004
    · exact sn_no
    refine sn_nn ?_
    refine sn_iald (pc := 15) dX9_lineFor_15 (fun v1003 => ?_)
    refine sn_iload_n (pc := 16) (j := 1) dX9_lineFor_16 rfl rfl ?_
    refine sn_icmp_ne (pc := 17) (tgt := 31) dX9_lineFor_17 (by decide) ?_ ?_
    · exact sn_sub (lv' := [(0, .ref (E.1 + a0)), (1, .int x1), (2, rf E.1 x2), (3, .int x3)]) [0, 1, 2, 3] rfl (sfX9_lineFor_31 k2 hk2 a0 x1 x2 x3)
    · refine sn_aload_n (pc := 20) (j := 0) dX9_lineFor_20 rfl rfl ?_
      refine sn_iload_n (pc := 21) (j := 3) dX9_lineFor_21 rfl rfl ?_
      refine sn_aloadR_n (pc := 22) (r := x2) (j := 2) dX9_lineFor_22 rfl rfl ?_
      refine sn_callV (ci := 9) (pc := 23) dX9_lineFor_23 iX9_allHold wt4_112 ws_22 wt4_110 ⟨_, rfl, rfl⟩ (by decide) (mX9_allHold a0 x3 x2) (by decide) rfl rfl (Nat.le_of_ble_eq_true rfl) (fun v1005 => ?_)
      refine sn_if_eq (pc := 26) (tgt := 31) dX9_lineFor_26 (by decide) ?_ ?_
      · exact sn_sub (lv' := [(0, .ref (E.1 + a0)), (1, .int x1), (2, rf E.1 x2), (3, .int x3)]) [0, 1, 2, 3] rfl (sfX9_lineFor_31 k2 hk2 a0 x1 x2 x3)
      · refine sn_iload_n (pc := 29) (j := 3) dX9_lineFor_29 rfl rfl ?_
        exact sn_iret (pc := 30) dX9_lineFor_30 rfl
def fX9_lineFor (a0 : Nat) (x1 : Int32) (x2 : Option Nat) : St → Option (Int32 × St) :=
 itr (fun k (p : Nat × Int32 × Option Nat × Int32) => fX9_lineFor_2  k p.1 p.2.1 p.2.2.1 p.2.2.2) FU (a0, x1, x2, 0)
set_option maxHeartbeats 4000000 in
set_option maxRecDepth 100000 in
theorem mX9_lineFor {E : Ev} {l : Launch} (a0 : Nat) (x1 : Int32) (x2 : Option Nat) : MF E l dpX9_lineFor yX9_lineFor cX9_lineFor 4 (some .int) rvI [.ref (E.1 + a0), .int x1, rf E.1 x2] (fX9_lineFor a0 x1 x2) := by
  refine MF.of (lv := [(0, .ref (E.1 + a0)), (1, .int x1), (2, rf E.1 x2)]) (by decide) (by simp [lg_sl, rf_cat, cat_int, cat_long, cat_ref]) (by simp [lv_args, rf_cat, cat_int, cat_long, cat_ref]) ?_
  unfold fX9_lineFor
  refine sn_iconst (pc := 0) (v := 0) dX9_lineFor_0 (by decide) ?_
  refine sn_istore_n (pc := 1) (i := 3) (lv' := [(3, .int 0), (0, .ref (E.1 + a0)), (1, .int x1), (2, rf E.1 x2)]) dX9_lineFor_1 rfl (by decide) (by simp [rf_some, rf_cat, cat_int, cat_long, cat_ref]) ?_
  exact sn_sub (lv' := [(0, .ref (E.1 + a0)), (1, .int x1), (2, rf E.1 x2), (3, .int 0)]) [1, 2, 3, 0] rfl (sn_itr (lvf := fun p => [(0, .ref (E.1 + p.1)), (1, .int p.2.1), (2, rf E.1 p.2.2.1), (3, .int p.2.2.2)]) (stf := fun p => []) (fun k hk p => sfX9_lineFor_2  k hk p.1 p.2.1 p.2.2.1 p.2.2.2) FU (a0, x1, x2, 0))
theorem iX9_lineFor : MI yX9_lineFor cX9_lineFor 4 (some .int) 2 := ⟨wt1_17, wt4_109, by decide +kernel, by decide⟩
-- NeedleHomes within(III)Z
theorem dX11_within_0 : decode cX11_within 0 = .ok (.iload_n 0, 1) := by decide +kernel
theorem dX11_within_1 : decode cX11_within 1 = .ok (.iload_n 1, 1) := by decide +kernel
theorem dX11_within_2 : decode cX11_within 2 = .ok (.if_icmp .lt 12, 3) := by decide +kernel
theorem dX11_within_5 : decode cX11_within 5 = .ok (.iload_n 0, 1) := by decide +kernel
theorem dX11_within_6 : decode cX11_within 6 = .ok (.iload_n 2, 1) := by decide +kernel
theorem dX11_within_7 : decode cX11_within 7 = .ok (.if_icmp .gt 7, 3) := by decide +kernel
theorem dX11_within_10 : decode cX11_within 10 = .ok (.iconst 1, 1) := by decide +kernel
theorem dX11_within_11 : decode cX11_within 11 = .ok (.goto 4, 3) := by decide +kernel
theorem dX11_within_14 : decode cX11_within 14 = .ok (.iconst 0, 1) := by decide +kernel
theorem dX11_within_15 : decode cX11_within 15 = .ok (.ireturn, 1) := by decide +kernel
abbrev dpX11_within : Nat := 0
def fX11_within (x0 : Int32) (x1 : Int32) (x2 : Int32) : St → Option (Bool × St) :=
 br (x0 < x1) (rtZ 0)
 (br (x2 < x0) (rtZ 0)
 (rtZ 1))
set_option maxHeartbeats 4000000 in
set_option maxRecDepth 100000 in
theorem mX11_within {E : Ev} {l : Launch} (x0 : Int32) (x1 : Int32) (x2 : Int32) : MF E l dpX11_within yX11_within cX11_within 3 (some .boolean) rvZ [.int x0, .int x1, .int x2] (fX11_within x0 x1 x2) := by
  refine MF.of (lv := [(0, .int x0), (1, .int x1), (2, .int x2)]) (by decide) (Nat.le_of_ble_eq_true rfl) rfl ?_
  unfold fX11_within
  refine sn_iload_n (pc := 0) (j := 0) dX11_within_0 rfl rfl ?_
  refine sn_iload_n (pc := 1) (j := 1) dX11_within_1 rfl rfl ?_
  refine sn_icmp_lt (pc := 2) (tgt := 14) dX11_within_2 (by decide) ?_ ?_
  · refine sn_iconst (pc := 14) (v := 0) dX11_within_14 (by decide) ?_
    exact sn_zret (pc := 15) dX11_within_15 rfl
  · refine sn_iload_n (pc := 5) (j := 0) dX11_within_5 rfl rfl ?_
    refine sn_iload_n (pc := 6) (j := 2) dX11_within_6 rfl rfl ?_
    refine sn_icmp_gt (pc := 7) (tgt := 14) dX11_within_7 (by decide) ?_ ?_
    · refine sn_iconst (pc := 14) (v := 0) dX11_within_14 (by decide) ?_
      exact sn_zret (pc := 15) dX11_within_15 rfl
    · refine sn_iconst (pc := 10) (v := 1) dX11_within_10 (by decide) ?_
      refine sn_goto (pc := 11) (tgt := 15) dX11_within_11 (by decide) ?_
      exact sn_zret (pc := 15) dX11_within_15 rfl
theorem iX11_within : MI yX11_within cX11_within 3 (some .boolean) 3 := ⟨wt1_1, wt2_97, by decide +kernel, by decide⟩
-- NeedleHomes$TermList numberOf(I)I
theorem dX9_numberOf_0 : decode cX9_numberOf 0 = .ok (.iload_n 1, 1) := by decide +kernel
theorem dX9_numberOf_1 : decode cX9_numberOf 1 = .ok (.iconst 0, 1) := by decide +kernel
theorem dX9_numberOf_2 : decode cX9_numberOf 2 = .ok (.aload_n 0, 1) := by decide +kernel
theorem dX9_numberOf_3 : decode cX9_numberOf 3 = .ok (.getfield 35, 3) := by decide +kernel
theorem dX9_numberOf_6 : decode cX9_numberOf 6 = .ok (.iconst 1, 1) := by decide +kernel
theorem dX9_numberOf_7 : decode cX9_numberOf 7 = .ok (.isub, 1) := by decide +kernel
theorem dX9_numberOf_8 : decode cX9_numberOf 8 = .ok (.invokestatic 63, 3) := by decide +kernel
theorem dX9_numberOf_11 : decode cX9_numberOf 11 = .ok (.ifCond .eq 12, 3) := by decide +kernel
theorem dX9_numberOf_14 : decode cX9_numberOf 14 = .ok (.aload_n 0, 1) := by decide +kernel
theorem dX9_numberOf_15 : decode cX9_numberOf 15 = .ok (.getfield 50, 3) := by decide +kernel
theorem dX9_numberOf_18 : decode cX9_numberOf 18 = .ok (.iload_n 1, 1) := by decide +kernel
theorem dX9_numberOf_19 : decode cX9_numberOf 19 = .ok (.iaload, 1) := by decide +kernel
theorem dX9_numberOf_20 : decode cX9_numberOf 20 = .ok (.goto 4, 3) := by decide +kernel
theorem dX9_numberOf_23 : decode cX9_numberOf 23 = .ok (.iconst (-1), 1) := by decide +kernel
theorem dX9_numberOf_24 : decode cX9_numberOf 24 = .ok (.ireturn, 1) := by decide +kernel
abbrev dpX9_numberOf : Nat := 1
def fX9_numberOf (a0 : Nat) (x1 : Int32) : St → Option (Int32 × St) :=
 gI 10 a0 3 fun v1 =>
 cl (fX11_within x1 0 (v1 - 1)) fun v2 =>
 br ((bi v2) = 0) (rt (-1))
 (gR 10 a0 5 fun v3 =>
 nn v3 fun a5 =>
 aI 15 a5 x1 fun v4 =>
 rt v4)
set_option maxHeartbeats 4000000 in
set_option maxRecDepth 100000 in
theorem mX9_numberOf {E : Ev} {l : Launch} (a0 : Nat) (x1 : Int32) : MF E l dpX9_numberOf yX9_numberOf cX9_numberOf 2 (some .int) rvI [.ref (E.1 + a0), .int x1] (fX9_numberOf a0 x1) := by
  refine MF.of (lv := [(0, .ref (E.1 + a0)), (1, .int x1)]) (by decide) (Nat.le_of_ble_eq_true rfl) rfl ?_
  unfold fX9_numberOf
  refine sn_iload_n (pc := 0) (j := 1) dX9_numberOf_0 rfl rfl ?_
  refine sn_iconst (pc := 1) (v := 0) dX9_numberOf_1 (by decide) ?_
  refine sn_aload_n (pc := 2) (j := 0) dX9_numberOf_2 rfl rfl ?_
  refine sn_gI (pc := 3) dX9_numberOf_3 flX9_35 rfl (fun v1 => ?_)
  refine sn_iconst (pc := 6) (v := 1) dX9_numberOf_6 (by decide) ?_
  refine sn_isub (pc := 7) dX9_numberOf_7 ?_
  refine sn_callSN (pc := 8) dX9_numberOf_8 iX11_within wt2_96 (List.mem_of_getElem? (i := 14) rfl) (mX11_within x1 0 (v1 - 1)) (by decide) rfl rfl (Nat.le_of_ble_eq_true rfl) (fun v2 => ?_)
  refine sn_if_eq (pc := 11) (tgt := 23) dX9_numberOf_11 (by decide) ?_ ?_
  · refine sn_iconst (pc := 23) (v := (-1)) dX9_numberOf_23 (by decide) ?_
    exact sn_iret (pc := 24) dX9_numberOf_24 rfl
  · refine sn_aload_n (pc := 14) (j := 0) dX9_numberOf_14 rfl rfl ?_
    refine sn_gR (pc := 15) dX9_numberOf_15 flX9_50 rfl (fun v3 => ?_)
    refine sn_iload_n (pc := 18) (j := 1) dX9_numberOf_18 rfl rfl ?_
    rcases v3 with _ | a5
    · exact sn_no
    refine sn_nn ?_
    refine sn_iald (pc := 19) dX9_numberOf_19 (fun v4 => ?_)
    refine sn_goto (pc := 20) (tgt := 24) dX9_numberOf_20 (by decide) ?_
    exact sn_iret (pc := 24) dX9_numberOf_24 rfl
theorem iX9_numberOf : MI yX9_numberOf cX9_numberOf 2 (some .int) 1 := ⟨wt1_17, wt4_124, by decide +kernel, by decide⟩
-- NeedleHomes termOf(LNeedleHomes$TermList;I[I)I
theorem dX11_termOf_0 : decode cX11_termOf 0 = .ok (.aload_n 0, 1) := by decide +kernel
theorem dX11_termOf_1 : decode cX11_termOf 1 = .ok (.ifnonnull 7, 3) := by decide +kernel
theorem dX11_termOf_4 : decode cX11_termOf 4 = .ok (.iconst (-1), 1) := by decide +kernel
theorem dX11_termOf_5 : decode cX11_termOf 5 = .ok (.goto 9, 3) := by decide +kernel
theorem dX11_termOf_8 : decode cX11_termOf 8 = .ok (.aload_n 0, 1) := by decide +kernel
theorem dX11_termOf_9 : decode cX11_termOf 9 = .ok (.iload_n 1, 1) := by decide +kernel
theorem dX11_termOf_10 : decode cX11_termOf 10 = .ok (.aload_n 2, 1) := by decide +kernel
theorem dX11_termOf_11 : decode cX11_termOf 11 = .ok (.invokevirtual 385, 3) := by decide +kernel
theorem dX11_termOf_14 : decode cX11_termOf 14 = .ok (.istore_n 3, 1) := by decide +kernel
theorem dX11_termOf_15 : decode cX11_termOf 15 = .ok (.aload_n 0, 1) := by decide +kernel
theorem dX11_termOf_16 : decode cX11_termOf 16 = .ok (.ifnull 8, 3) := by decide +kernel
theorem dX11_termOf_19 : decode cX11_termOf 19 = .ok (.iload_n 3, 1) := by decide +kernel
theorem dX11_termOf_20 : decode cX11_termOf 20 = .ok (.iconst (-1), 1) := by decide +kernel
theorem dX11_termOf_21 : decode cX11_termOf 21 = .ok (.if_icmp .ne 10, 3) := by decide +kernel
theorem dX11_termOf_24 : decode cX11_termOf 24 = .ok (.iload_n 1, 1) := by decide +kernel
theorem dX11_termOf_25 : decode cX11_termOf 25 = .ok (.invokestatic 389, 3) := by decide +kernel
theorem dX11_termOf_28 : decode cX11_termOf 28 = .ok (.goto 8, 3) := by decide +kernel
theorem dX11_termOf_31 : decode cX11_termOf 31 = .ok (.aload_n 0, 1) := by decide +kernel
theorem dX11_termOf_32 : decode cX11_termOf 32 = .ok (.iload_n 3, 1) := by decide +kernel
theorem dX11_termOf_33 : decode cX11_termOf 33 = .ok (.invokevirtual 392, 3) := by decide +kernel
theorem dX11_termOf_36 : decode cX11_termOf 36 = .ok (.ireturn, 1) := by decide +kernel
abbrev dpX11_termOf : Nat := 3
def fX11_termOf_24 (x1 : Int32) : St → Option (Int32 × St) :=
 cl (fX11_termWithoutLine x1) fun v2001 =>
 rt v2001
set_option maxHeartbeats 4000000 in
set_option maxRecDepth 100000 in
theorem sfX11_termOf_24 {E : Ev} {l : Launch} (x1 : Int32) : Snd E l (dpX11_termOf, RX11, cX11_termOf, 4, (some .int), "termOf") rvI 24 [(1, .int x1)] [] (fX11_termOf_24 x1) := by
  unfold fX11_termOf_24
  refine sn_iload_n (pc := 24) (j := 0) dX11_termOf_24 rfl rfl ?_
  refine sn_callS (pc := 25) dX11_termOf_25 iX11_termWithoutLine wt4_119 wt4_118 (mX11_termWithoutLine x1) (by decide) rfl rfl (Nat.le_of_ble_eq_true rfl) (fun v2001 => ?_)
  refine sn_goto (pc := 28) (tgt := 36) dX11_termOf_28 (by decide) ?_
  exact sn_iret (pc := 36) dX11_termOf_36 rfl
def fX11_termOf_14 (x0 : Option Nat) (x1 : Int32) (y0 : Int32) : St → Option (Int32 × St) :=
 on x0 (fX11_termOf_24  x1)
 fun a1001 => br (y0 = (-1)) (fX11_termOf_24  x1)
 (ck 10 a1001 <| cl (fX9_numberOf a1001 y0) fun v1002 =>
 rt v1002)
set_option maxHeartbeats 4000000 in
set_option maxRecDepth 100000 in
theorem sfX11_termOf_14 {E : Ev} {l : Launch} (x0 : Option Nat) (x1 : Int32) (y0 : Int32) : Snd E l (dpX11_termOf, RX11, cX11_termOf, 4, (some .int), "termOf") rvI 14 [(0, rf E.1 x0), (1, .int x1)] [.int y0] (fX11_termOf_14 x0 x1 y0) := by
  unfold fX11_termOf_14
  refine sn_istore_n (pc := 14) (i := 3) (lv' := [(3, .int y0), (0, rf E.1 x0), (1, .int x1)]) dX11_termOf_14 rfl (by decide) rfl ?_
  refine sn_aloadR_n (pc := 15) (r := x0) (j := 1) dX11_termOf_15 rfl rfl ?_
  rcases x0 with _ | a1001
  · refine sn_onN ?_
    refine sn_ifnull_n (pc := 16) (tgt := 24) dX11_termOf_16 (by decide) ?_
    exact sn_sub (lv' := [(1, .int x1)]) [2] rfl (sfX11_termOf_24  x1)
  · refine sn_onS ?_
    refine sn_ifnull_s (pc := 16) dX11_termOf_16 ?_
    refine sn_iload_n (pc := 19) (j := 0) dX11_termOf_19 rfl rfl ?_
    refine sn_iconst (pc := 20) (v := (-1)) dX11_termOf_20 (by decide) ?_
    refine sn_icmp_ne (pc := 21) (tgt := 31) dX11_termOf_21 (by decide) ?_ ?_
    · refine sn_aload_n (pc := 31) (j := 1) dX11_termOf_31 rfl rfl ?_
      refine sn_iload_n (pc := 32) (j := 0) dX11_termOf_32 rfl rfl ?_
      refine sn_callV (ci := 9) (pc := 33) dX11_termOf_33 iX9_numberOf wt4_122 wt4_123 wt4_121 ⟨_, rfl, rfl⟩ (by decide) (mX9_numberOf a1001 y0) (by decide) rfl rfl (Nat.le_of_ble_eq_true rfl) (fun v1002 => ?_)
      exact sn_iret (pc := 36) dX11_termOf_36 rfl
    · exact sn_sub (lv' := [(1, .int x1)]) [2] rfl (sfX11_termOf_24  x1)
def fX11_termOf (x0 : Option Nat) (x1 : Int32) (x2 : Option Nat) : St → Option (Int32 × St) :=
 on x0 (fX11_termOf_14  none x1 (-1))
 fun a1 => ck 10 a1 <| cl (fX9_lineFor a1 x1 x2) fun v2 =>
 fX11_termOf_14  (some a1) x1 v2
set_option maxHeartbeats 4000000 in
set_option maxRecDepth 100000 in
theorem mX11_termOf {E : Ev} {l : Launch} (x0 : Option Nat) (x1 : Int32) (x2 : Option Nat) : MF E l dpX11_termOf yX11_termOf cX11_termOf 4 (some .int) rvI [rf E.1 x0, .int x1, rf E.1 x2] (fX11_termOf x0 x1 x2) := by
  refine MF.of (lv := [(0, rf E.1 x0), (1, .int x1), (2, rf E.1 x2)]) (by decide) (by simp [lg_sl, rf_cat, cat_int, cat_long, cat_ref]) (by simp [lv_args, rf_cat, cat_int, cat_long, cat_ref]) ?_
  unfold fX11_termOf
  refine sn_aloadR_n (pc := 0) (r := x0) (j := 0) dX11_termOf_0 rfl rfl ?_
  rcases x0 with _ | a1
  · refine sn_onN ?_
    refine sn_ifnonnull_n (pc := 1) dX11_termOf_1 ?_
    refine sn_iconst (pc := 4) (v := (-1)) dX11_termOf_4 (by decide) ?_
    refine sn_goto (pc := 5) (tgt := 14) dX11_termOf_5 (by decide) ?_
    exact sn_sub (lv' := [(0, rf E.1 none), (1, .int x1)]) [0, 1] rfl (sfX11_termOf_14  none x1 (-1))
  · refine sn_onS ?_
    refine sn_ifnonnull_s (pc := 1) (tgt := 8) dX11_termOf_1 (by decide) ?_
    refine sn_aload_n (pc := 8) (j := 0) dX11_termOf_8 rfl rfl ?_
    refine sn_iload_n (pc := 9) (j := 1) dX11_termOf_9 rfl rfl ?_
    refine sn_aloadR_n (pc := 10) (r := x2) (j := 2) dX11_termOf_10 rfl rfl ?_
    refine sn_callV (ci := 9) (pc := 11) dX11_termOf_11 iX9_lineFor wt4_107 wt4_108 wt4_106 ⟨_, rfl, rfl⟩ (by decide) (mX9_lineFor a1 x1 x2) (by decide) rfl rfl (Nat.le_of_ble_eq_true rfl) (fun v2 => ?_)
    exact sn_sub (lv' := [(0, .ref (E.1 + a1)), (1, .int x1)]) [0, 1] rfl (sfX11_termOf_14  (some a1) x1 v2)
theorem iX11_termOf : MI yX11_termOf cX11_termOf 4 (some .int) 3 := ⟨wt1_1, wt4_105, by decide +kernel, by decide⟩
-- NeedleHomes$Bill reckonLosses(LNeedleHomes$Piece;)V
theorem dX0_reckonLosses_0 : decode cX0_reckonLosses 0 = .ok (.iconst 0, 1) := by decide +kernel
theorem dX0_reckonLosses_1 : decode cX0_reckonLosses 1 = .ok (.aload_n 1, 1) := by decide +kernel
theorem dX0_reckonLosses_2 : decode cX0_reckonLosses 2 = .ok (.getfield 102, 3) := by decide +kernel
theorem dX0_reckonLosses_5 : decode cX0_reckonLosses 5 = .ok (.aload_n 0, 1) := by decide +kernel
theorem dX0_reckonLosses_6 : decode cX0_reckonLosses 6 = .ok (.getfield 27, 3) := by decide +kernel
theorem dX0_reckonLosses_9 : decode cX0_reckonLosses 9 = .ok (.isub, 1) := by decide +kernel
theorem dX0_reckonLosses_10 : decode cX0_reckonLosses 10 = .ok (.invokestatic 105, 3) := by decide +kernel
theorem dX0_reckonLosses_13 : decode cX0_reckonLosses 13 = .ok (.istore_n 2, 1) := by decide +kernel
theorem dX0_reckonLosses_14 : decode cX0_reckonLosses 14 = .ok (.aload_n 0, 1) := by decide +kernel
theorem dX0_reckonLosses_15 : decode cX0_reckonLosses 15 = .ok (.aload_n 1, 1) := by decide +kernel
theorem dX0_reckonLosses_16 : decode cX0_reckonLosses 16 = .ok (.getfield 71, 3) := by decide +kernel
theorem dX0_reckonLosses_19 : decode cX0_reckonLosses 19 = .ok (.aload_n 0, 1) := by decide +kernel
theorem dX0_reckonLosses_20 : decode cX0_reckonLosses 20 = .ok (.getfield 67, 3) := by decide +kernel
theorem dX0_reckonLosses_23 : decode cX0_reckonLosses 23 = .ok (.iconst 2, 1) := by decide +kernel
theorem dX0_reckonLosses_24 : decode cX0_reckonLosses 24 = .ok (.aload_n 0, 1) := by decide +kernel
theorem dX0_reckonLosses_25 : decode cX0_reckonLosses 25 = .ok (.getfield 9, 3) := by decide +kernel
theorem dX0_reckonLosses_28 : decode cX0_reckonLosses 28 = .ok (.invokestatic 82, 3) := by decide +kernel
theorem dX0_reckonLosses_31 : decode cX0_reckonLosses 31 = .ok (.imul, 1) := by decide +kernel
theorem dX0_reckonLosses_32 : decode cX0_reckonLosses 32 = .ok (.iload_n 2, 1) := by decide +kernel
theorem dX0_reckonLosses_33 : decode cX0_reckonLosses 33 = .ok (.aload_n 0, 1) := by decide +kernel
theorem dX0_reckonLosses_34 : decode cX0_reckonLosses 34 = .ok (.getfield 67, 3) := by decide +kernel
theorem dX0_reckonLosses_37 : decode cX0_reckonLosses 37 = .ok (.iconst 3, 1) := by decide +kernel
theorem dX0_reckonLosses_38 : decode cX0_reckonLosses 38 = .ok (.aload_n 0, 1) := by decide +kernel
theorem dX0_reckonLosses_39 : decode cX0_reckonLosses 39 = .ok (.getfield 9, 3) := by decide +kernel
theorem dX0_reckonLosses_42 : decode cX0_reckonLosses 42 = .ok (.invokestatic 82, 3) := by decide +kernel
theorem dX0_reckonLosses_45 : decode cX0_reckonLosses 45 = .ok (.imul, 1) := by decide +kernel
theorem dX0_reckonLosses_46 : decode cX0_reckonLosses 46 = .ok (.iadd, 1) := by decide +kernel
theorem dX0_reckonLosses_47 : decode cX0_reckonLosses 47 = .ok (.putfield 30, 3) := by decide +kernel
theorem dX0_reckonLosses_50 : decode cX0_reckonLosses 50 = .ok (.aload_n 0, 1) := by decide +kernel
theorem dX0_reckonLosses_51 : decode cX0_reckonLosses 51 = .ok (.aload_n 0, 1) := by decide +kernel
theorem dX0_reckonLosses_52 : decode cX0_reckonLosses 52 = .ok (.getfield 30, 3) := by decide +kernel
theorem dX0_reckonLosses_55 : decode cX0_reckonLosses 55 = .ok (.aload_n 0, 1) := by decide +kernel
theorem dX0_reckonLosses_56 : decode cX0_reckonLosses 56 = .ok (.getfield 19, 3) := by decide +kernel
theorem dX0_reckonLosses_59 : decode cX0_reckonLosses 59 = .ok (.invokestatic 110, 3) := by decide +kernel
theorem dX0_reckonLosses_62 : decode cX0_reckonLosses 62 = .ok (.putfield 30, 3) := by decide +kernel
theorem dX0_reckonLosses_65 : decode cX0_reckonLosses 65 = .ok (.aload_n 0, 1) := by decide +kernel
theorem dX0_reckonLosses_66 : decode cX0_reckonLosses 66 = .ok (.aload_n 0, 1) := by decide +kernel
theorem dX0_reckonLosses_67 : decode cX0_reckonLosses 67 = .ok (.getfield 19, 3) := by decide +kernel
theorem dX0_reckonLosses_70 : decode cX0_reckonLosses 70 = .ok (.aload_n 0, 1) := by decide +kernel
theorem dX0_reckonLosses_71 : decode cX0_reckonLosses 71 = .ok (.getfield 30, 3) := by decide +kernel
theorem dX0_reckonLosses_74 : decode cX0_reckonLosses 74 = .ok (.isub, 1) := by decide +kernel
theorem dX0_reckonLosses_75 : decode cX0_reckonLosses 75 = .ok (.i2l, 1) := by decide +kernel
theorem dX0_reckonLosses_76 : decode cX0_reckonLosses 76 = .ok (.aload_n 0, 1) := by decide +kernel
theorem dX0_reckonLosses_77 : decode cX0_reckonLosses 77 = .ok (.getfield 67, 3) := by decide +kernel
theorem dX0_reckonLosses_80 : decode cX0_reckonLosses 80 = .ok (.iconst 5, 1) := by decide +kernel
theorem dX0_reckonLosses_81 : decode cX0_reckonLosses 81 = .ok (.aload_n 0, 1) := by decide +kernel
theorem dX0_reckonLosses_82 : decode cX0_reckonLosses 82 = .ok (.getfield 9, 3) := by decide +kernel
theorem dX0_reckonLosses_85 : decode cX0_reckonLosses 85 = .ok (.invokestatic 82, 3) := by decide +kernel
theorem dX0_reckonLosses_88 : decode cX0_reckonLosses 88 = .ok (.i2l, 1) := by decide +kernel
theorem dX0_reckonLosses_89 : decode cX0_reckonLosses 89 = .ok (.lmul, 1) := by decide +kernel
theorem dX0_reckonLosses_90 : decode cX0_reckonLosses 90 = .ok (.ldc2_w 100, 3) := by decide +kernel
theorem dX0_reckonLosses_93 : decode cX0_reckonLosses 93 = .ok (.ldiv, 1) := by decide +kernel
theorem dX0_reckonLosses_94 : decode cX0_reckonLosses 94 = .ok (.l2i, 1) := by decide +kernel
theorem dX0_reckonLosses_95 : decode cX0_reckonLosses 95 = .ok (.putfield 33, 3) := by decide +kernel
theorem dX0_reckonLosses_98 : decode cX0_reckonLosses 98 = .ok (.return_, 1) := by decide +kernel
abbrev dpX0_reckonLosses : Nat := 4
def fX0_reckonLosses (a0 : Nat) (x1 : Option Nat) : St → Option (Unit × St) :=
 nn x1 fun a2 =>
 gI 8 a2 4 fun v1 =>
 gI 1 a0 2 fun v3 =>
 gI 8 a2 5 fun v4 =>
 gR 1 a0 5 fun v5 =>
 gR 1 a0 6 fun v6 =>
 cl (fX11_termOf v5 2 v6) fun v7 =>
 gR 1 a0 5 fun v8 =>
 gR 1 a0 6 fun v9 =>
 cl (fX11_termOf v8 3 v9) fun v10 =>
 pI 1 a0 3 ((v4 * v7) + ((mxI 0 (v1 - v3)) * v10)) <|
 gI 1 a0 3 fun v11 =>
 gI 1 a0 1 fun v12 =>
 pI 1 a0 3 (mnI v11 v12) <|
 gI 1 a0 1 fun v13 =>
 gI 1 a0 3 fun v14 =>
 gR 1 a0 5 fun v15 =>
 gR 1 a0 6 fun v16 =>
 cl (fX11_termOf v15 5 v16) fun v17 =>
 dvJ 100 <|
 pI 1 a0 4 (((((v13 - v14).toInt64) * v17.toInt64) / 100).toInt32) <|
 rt ()
set_option maxHeartbeats 4000000 in
set_option maxRecDepth 100000 in
theorem mX0_reckonLosses {E : Ev} {l : Launch} (a0 : Nat) (x1 : Option Nat) : MF E l dpX0_reckonLosses yX0_reckonLosses cX0_reckonLosses 3 none rvV [.ref (E.1 + a0), rf E.1 x1] (fX0_reckonLosses a0 x1) := by
  refine MF.of (lv := [(0, .ref (E.1 + a0)), (1, rf E.1 x1)]) (by decide) (by simp [lg_sl, rf_cat, cat_int, cat_long, cat_ref]) (by simp [lv_args, rf_cat, cat_int, cat_long, cat_ref]) ?_
  unfold fX0_reckonLosses
  refine sn_iconst (pc := 0) (v := 0) dX0_reckonLosses_0 (by decide) ?_
  refine sn_aloadR_n (pc := 1) (r := x1) (j := 1) dX0_reckonLosses_1 rfl rfl ?_
  rcases x1 with _ | a2
  · exact sn_no
  refine sn_nn ?_
  refine sn_gI (pc := 2) dX0_reckonLosses_2 flX0_102 rfl (fun v1 => ?_)
  refine sn_aload_n (pc := 5) (j := 0) dX0_reckonLosses_5 rfl rfl ?_
  refine sn_gI (pc := 6) dX0_reckonLosses_6 flX0_27 rfl (fun v3 => ?_)
  refine sn_isub (pc := 9) dX0_reckonLosses_9 ?_
  refine sn_mmax (pc := 10) dX0_reckonLosses_10 wt4_228 wt2_119 wt1_11 wt2_120 (by decide) (Nat.le_of_ble_eq_true rfl) ?_
  refine sn_istore_n (pc := 13) (i := 2) (lv' := [(2, .int (mxI 0 (v1 - v3))), (0, .ref (E.1 + a0)), (1, .ref (E.1 + a2))]) dX0_reckonLosses_13 rfl (by decide) rfl ?_
  refine sn_aload_n (pc := 14) (j := 1) dX0_reckonLosses_14 rfl rfl ?_
  refine sn_aload_n (pc := 15) (j := 2) dX0_reckonLosses_15 rfl rfl ?_
  refine sn_gI (pc := 16) dX0_reckonLosses_16 flX0_71 rfl (fun v4 => ?_)
  refine sn_aload_n (pc := 19) (j := 1) dX0_reckonLosses_19 rfl rfl ?_
  refine sn_gR (pc := 20) dX0_reckonLosses_20 flX0_67 rfl (fun v5 => ?_)
  refine sn_iconst (pc := 23) (v := 2) dX0_reckonLosses_23 (by decide) ?_
  refine sn_aload_n (pc := 24) (j := 1) dX0_reckonLosses_24 rfl rfl ?_
  refine sn_gR (pc := 25) dX0_reckonLosses_25 flX0_9 rfl (fun v6 => ?_)
  refine sn_callSN (pc := 28) dX0_reckonLosses_28 iX11_termOf wt4_104 (List.mem_of_getElem? (i := 17) rfl) (mX11_termOf v5 2 v6) (by decide) rfl rfl (Nat.le_of_ble_eq_true rfl) (fun v7 => ?_)
  refine sn_imul (pc := 31) dX0_reckonLosses_31 ?_
  refine sn_iload_n (pc := 32) (j := 0) dX0_reckonLosses_32 rfl rfl ?_
  refine sn_aload_n (pc := 33) (j := 1) dX0_reckonLosses_33 rfl rfl ?_
  refine sn_gR (pc := 34) dX0_reckonLosses_34 flX0_67 rfl (fun v8 => ?_)
  refine sn_iconst (pc := 37) (v := 3) dX0_reckonLosses_37 (by decide) ?_
  refine sn_aload_n (pc := 38) (j := 1) dX0_reckonLosses_38 rfl rfl ?_
  refine sn_gR (pc := 39) dX0_reckonLosses_39 flX0_9 rfl (fun v9 => ?_)
  refine sn_callSN (pc := 42) dX0_reckonLosses_42 iX11_termOf wt4_104 (List.mem_of_getElem? (i := 17) rfl) (mX11_termOf v8 3 v9) (by decide) rfl rfl (Nat.le_of_ble_eq_true rfl) (fun v10 => ?_)
  refine sn_imul (pc := 45) dX0_reckonLosses_45 ?_
  refine sn_iadd (pc := 46) dX0_reckonLosses_46 ?_
  refine sn_pI (pc := 47) dX0_reckonLosses_47 flX0_30 rfl rfl (Or.inl rfl) ?_
  refine sn_aload_n (pc := 50) (j := 1) dX0_reckonLosses_50 rfl rfl ?_
  refine sn_aload_n (pc := 51) (j := 1) dX0_reckonLosses_51 rfl rfl ?_
  refine sn_gI (pc := 52) dX0_reckonLosses_52 flX0_30 rfl (fun v11 => ?_)
  refine sn_aload_n (pc := 55) (j := 1) dX0_reckonLosses_55 rfl rfl ?_
  refine sn_gI (pc := 56) dX0_reckonLosses_56 flX0_19 rfl (fun v12 => ?_)
  refine sn_mmin (pc := 59) dX0_reckonLosses_59 wt4_229 wt2_116 wt1_11 wt2_117 (by decide) (Nat.le_of_ble_eq_true rfl) ?_
  refine sn_pI (pc := 62) dX0_reckonLosses_62 flX0_30 rfl rfl (Or.inl rfl) ?_
  refine sn_aload_n (pc := 65) (j := 1) dX0_reckonLosses_65 rfl rfl ?_
  refine sn_aload_n (pc := 66) (j := 1) dX0_reckonLosses_66 rfl rfl ?_
  refine sn_gI (pc := 67) dX0_reckonLosses_67 flX0_19 rfl (fun v13 => ?_)
  refine sn_aload_n (pc := 70) (j := 1) dX0_reckonLosses_70 rfl rfl ?_
  refine sn_gI (pc := 71) dX0_reckonLosses_71 flX0_30 rfl (fun v14 => ?_)
  refine sn_isub (pc := 74) dX0_reckonLosses_74 ?_
  refine sn_i2l (pc := 75) dX0_reckonLosses_75 ?_
  refine sn_aload_n (pc := 76) (j := 1) dX0_reckonLosses_76 rfl rfl ?_
  refine sn_gR (pc := 77) dX0_reckonLosses_77 flX0_67 rfl (fun v15 => ?_)
  refine sn_iconst (pc := 80) (v := 5) dX0_reckonLosses_80 (by decide) ?_
  refine sn_aload_n (pc := 81) (j := 1) dX0_reckonLosses_81 rfl rfl ?_
  refine sn_gR (pc := 82) dX0_reckonLosses_82 flX0_9 rfl (fun v16 => ?_)
  refine sn_callSN (pc := 85) dX0_reckonLosses_85 iX11_termOf wt4_104 (List.mem_of_getElem? (i := 17) rfl) (mX11_termOf v15 5 v16) (by decide) rfl rfl (Nat.le_of_ble_eq_true rfl) (fun v17 => ?_)
  refine sn_i2l (pc := 88) dX0_reckonLosses_88 ?_
  refine sn_lmul (pc := 89) dX0_reckonLosses_89 ?_
  refine sn_ldc2 (pc := 90) (v := 100) dX0_reckonLosses_90 wt4_222 ?_
  refine sn_ldiv (pc := 93) dX0_reckonLosses_93 ?_
  refine sn_l2i (pc := 94) dX0_reckonLosses_94 ?_
  refine sn_pI (pc := 95) dX0_reckonLosses_95 flX0_33 rfl rfl (Or.inl rfl) ?_
  exact sn_vret (pc := 98) dX0_reckonLosses_98 rfl
theorem iX0_reckonLosses : MI yX0_reckonLosses cX0_reckonLosses 3 none 1 := ⟨wt1_7, wt4_227, by decide +kernel, by decide⟩
-- NeedleHomes isColour(I)Z
theorem dX11_isColour_0 : decode cX11_isColour 0 = .ok (.iload_n 0, 1) := by decide +kernel
theorem dX11_isColour_1 : decode cX11_isColour 1 = .ok (.iconst 0, 1) := by decide +kernel
theorem dX11_isColour_2 : decode cX11_isColour 2 = .ok (.iconst 3, 1) := by decide +kernel
theorem dX11_isColour_3 : decode cX11_isColour 3 = .ok (.invokestatic 67, 3) := by decide +kernel
theorem dX11_isColour_6 : decode cX11_isColour 6 = .ok (.ireturn, 1) := by decide +kernel
abbrev dpX11_isColour : Nat := 1
def fX11_isColour (x0 : Int32) : St → Option (Bool × St) :=
 cl (fX11_within x0 0 3) fun v1 =>
 rtZ (bi v1)
set_option maxHeartbeats 4000000 in
set_option maxRecDepth 100000 in
theorem mX11_isColour {E : Ev} {l : Launch} (x0 : Int32) : MF E l dpX11_isColour yX11_isColour cX11_isColour 1 (some .boolean) rvZ [.int x0] (fX11_isColour x0) := by
  refine MF.of (lv := [(0, .int x0)]) (by decide) (Nat.le_of_ble_eq_true rfl) rfl ?_
  unfold fX11_isColour
  refine sn_iload_n (pc := 0) (j := 0) dX11_isColour_0 rfl rfl ?_
  refine sn_iconst (pc := 1) (v := 0) dX11_isColour_1 (by decide) ?_
  refine sn_iconst (pc := 2) (v := 3) dX11_isColour_2 (by decide) ?_
  refine sn_callS (pc := 3) dX11_isColour_3 iX11_within wt2_96 wt2_95 (mX11_within x0 0 3) (by decide) rfl rfl (Nat.le_of_ble_eq_true rfl) (fun v1 => ?_)
  exact sn_zret (pc := 6) dX11_isColour_6 rfl
theorem iX11_isColour : MI yX11_isColour cX11_isColour 1 (some .boolean) 1 := ⟨wt1_1, wt2_166, by decide +kernel, by decide⟩
-- NeedleHomes isStitch(I)Z
theorem dX11_isStitch_0 : decode cX11_isStitch 0 = .ok (.iload_n 0, 1) := by decide +kernel
theorem dX11_isStitch_1 : decode cX11_isStitch 1 = .ok (.iconst 0, 1) := by decide +kernel
theorem dX11_isStitch_2 : decode cX11_isStitch 2 = .ok (.iconst 5, 1) := by decide +kernel
theorem dX11_isStitch_3 : decode cX11_isStitch 3 = .ok (.invokestatic 67, 3) := by decide +kernel
theorem dX11_isStitch_6 : decode cX11_isStitch 6 = .ok (.ireturn, 1) := by decide +kernel
abbrev dpX11_isStitch : Nat := 1
def fX11_isStitch (x0 : Int32) : St → Option (Bool × St) :=
 cl (fX11_within x0 0 5) fun v1 =>
 rtZ (bi v1)
set_option maxHeartbeats 4000000 in
set_option maxRecDepth 100000 in
theorem mX11_isStitch {E : Ev} {l : Launch} (x0 : Int32) : MF E l dpX11_isStitch yX11_isStitch cX11_isStitch 1 (some .boolean) rvZ [.int x0] (fX11_isStitch x0) := by
  refine MF.of (lv := [(0, .int x0)]) (by decide) (Nat.le_of_ble_eq_true rfl) rfl ?_
  unfold fX11_isStitch
  refine sn_iload_n (pc := 0) (j := 0) dX11_isStitch_0 rfl rfl ?_
  refine sn_iconst (pc := 1) (v := 0) dX11_isStitch_1 (by decide) ?_
  refine sn_iconst (pc := 2) (v := 5) dX11_isStitch_2 (by decide) ?_
  refine sn_callS (pc := 3) dX11_isStitch_3 iX11_within wt2_96 wt2_95 (mX11_within x0 0 5) (by decide) rfl rfl (Nat.le_of_ble_eq_true rfl) (fun v1 => ?_)
  exact sn_zret (pc := 6) dX11_isStitch_6 rfl
theorem iX11_isStitch : MI yX11_isStitch cX11_isStitch 1 (some .boolean) 1 := ⟨wt1_1, wt3_198, by decide +kernel, by decide⟩
-- NeedleHomes$Pattern countOf(II)I
theorem dX5_countOf_0 : decode cX5_countOf 0 = .ok (.iload_n 1, 1) := by decide +kernel
theorem dX5_countOf_1 : decode cX5_countOf 1 = .ok (.invokestatic 31, 3) := by decide +kernel
theorem dX5_countOf_4 : decode cX5_countOf 4 = .ok (.ifCond .eq 23, 3) := by decide +kernel
theorem dX5_countOf_7 : decode cX5_countOf 7 = .ok (.iload_n 2, 1) := by decide +kernel
theorem dX5_countOf_8 : decode cX5_countOf 8 = .ok (.invokestatic 35, 3) := by decide +kernel
theorem dX5_countOf_11 : decode cX5_countOf 11 = .ok (.ifCond .eq 16, 3) := by decide +kernel
theorem dX5_countOf_14 : decode cX5_countOf 14 = .ok (.aload_n 0, 1) := by decide +kernel
theorem dX5_countOf_15 : decode cX5_countOf 15 = .ok (.getfield 9, 3) := by decide +kernel
theorem dX5_countOf_18 : decode cX5_countOf 18 = .ok (.iload_n 1, 1) := by decide +kernel
theorem dX5_countOf_19 : decode cX5_countOf 19 = .ok (.iconst 4, 1) := by decide +kernel
theorem dX5_countOf_20 : decode cX5_countOf 20 = .ok (.imul, 1) := by decide +kernel
theorem dX5_countOf_21 : decode cX5_countOf 21 = .ok (.iload_n 2, 1) := by decide +kernel
theorem dX5_countOf_22 : decode cX5_countOf 22 = .ok (.iadd, 1) := by decide +kernel
theorem dX5_countOf_23 : decode cX5_countOf 23 = .ok (.iaload, 1) := by decide +kernel
theorem dX5_countOf_24 : decode cX5_countOf 24 = .ok (.goto 4, 3) := by decide +kernel
theorem dX5_countOf_27 : decode cX5_countOf 27 = .ok (.iconst 0, 1) := by decide +kernel
theorem dX5_countOf_28 : decode cX5_countOf 28 = .ok (.ireturn, 1) := by decide +kernel
abbrev dpX5_countOf : Nat := 2
def fX5_countOf (a0 : Nat) (x1 : Int32) (x2 : Int32) : St → Option (Int32 × St) :=
 cl (fX11_isStitch x1) fun v1 =>
 br ((bi v1) = 0) (rt 0)
 (cl (fX11_isColour x2) fun v2 =>
 br ((bi v2) = 0) (rt 0)
 (gR 6 a0 3 fun v3 =>
 nn v3 fun a5 =>
 aI 15 a5 ((x1 * 4) + x2) fun v4 =>
 rt v4))
set_option maxHeartbeats 4000000 in
set_option maxRecDepth 100000 in
theorem mX5_countOf {E : Ev} {l : Launch} (a0 : Nat) (x1 : Int32) (x2 : Int32) : MF E l dpX5_countOf yX5_countOf cX5_countOf 3 (some .int) rvI [.ref (E.1 + a0), .int x1, .int x2] (fX5_countOf a0 x1 x2) := by
  refine MF.of (lv := [(0, .ref (E.1 + a0)), (1, .int x1), (2, .int x2)]) (by decide) (Nat.le_of_ble_eq_true rfl) rfl ?_
  unfold fX5_countOf
  refine sn_iload_n (pc := 0) (j := 1) dX5_countOf_0 rfl rfl ?_
  refine sn_callSN (pc := 1) dX5_countOf_1 iX11_isStitch wt3_197 (List.mem_of_getElem? (i := 11) rfl) (mX11_isStitch x1) (by decide) rfl rfl (Nat.le_of_ble_eq_true rfl) (fun v1 => ?_)
  refine sn_if_eq (pc := 4) (tgt := 27) dX5_countOf_4 (by decide) ?_ ?_
  · refine sn_iconst (pc := 27) (v := 0) dX5_countOf_27 (by decide) ?_
    exact sn_iret (pc := 28) dX5_countOf_28 rfl
  · refine sn_iload_n (pc := 7) (j := 2) dX5_countOf_7 rfl rfl ?_
    refine sn_callSN (pc := 8) dX5_countOf_8 iX11_isColour wt2_165 (List.mem_of_getElem? (i := 12) rfl) (mX11_isColour x2) (by decide) rfl rfl (Nat.le_of_ble_eq_true rfl) (fun v2 => ?_)
    refine sn_if_eq (pc := 11) (tgt := 27) dX5_countOf_11 (by decide) ?_ ?_
    · refine sn_iconst (pc := 27) (v := 0) dX5_countOf_27 (by decide) ?_
      exact sn_iret (pc := 28) dX5_countOf_28 rfl
    · refine sn_aload_n (pc := 14) (j := 0) dX5_countOf_14 rfl rfl ?_
      refine sn_gR (pc := 15) dX5_countOf_15 flX5_9 rfl (fun v3 => ?_)
      refine sn_iload_n (pc := 18) (j := 1) dX5_countOf_18 rfl rfl ?_
      refine sn_iconst (pc := 19) (v := 4) dX5_countOf_19 (by decide) ?_
      refine sn_imul (pc := 20) dX5_countOf_20 ?_
      refine sn_iload_n (pc := 21) (j := 2) dX5_countOf_21 rfl rfl ?_
      refine sn_iadd (pc := 22) dX5_countOf_22 ?_
      rcases v3 with _ | a5
      · exact sn_no
      refine sn_nn ?_
      refine sn_iald (pc := 23) dX5_countOf_23 (fun v4 => ?_)
      refine sn_goto (pc := 24) (tgt := 28) dX5_countOf_24 (by decide) ?_
      exact sn_iret (pc := 28) dX5_countOf_28 rfl
theorem iX5_countOf : MI yX5_countOf cX5_countOf 3 (some .int) 2 := ⟨wt1_12, wt3_203, by decide +kernel, by decide⟩
-- NeedleHomes$Bill reckonStitches(LNeedleHomes$Pattern;)V
theorem dX0_reckonStitches_0 : decode cX0_reckonStitches 0 = .ok (.iconst 0, 1) := by decide +kernel
theorem dX0_reckonStitches_1 : decode cX0_reckonStitches 1 = .ok (.istore_n 2, 1) := by decide +kernel
theorem dX0_reckonStitches_2 : decode cX0_reckonStitches 2 = .ok (.iload_n 2, 1) := by decide +kernel
theorem dX0_reckonStitches_3 : decode cX0_reckonStitches 3 = .ok (.bipush 6, 2) := by decide +kernel
theorem dX0_reckonStitches_5 : decode cX0_reckonStitches 5 = .ok (.if_icmp .ge 112, 3) := by decide +kernel
theorem dX0_reckonStitches_8 : decode cX0_reckonStitches 8 = .ok (.iconst 0, 1) := by decide +kernel
theorem dX0_reckonStitches_9 : decode cX0_reckonStitches 9 = .ok (.istore_n 3, 1) := by decide +kernel
theorem dX0_reckonStitches_10 : decode cX0_reckonStitches 10 = .ok (.iload_n 3, 1) := by decide +kernel
theorem dX0_reckonStitches_11 : decode cX0_reckonStitches 11 = .ok (.iconst 4, 1) := by decide +kernel
theorem dX0_reckonStitches_12 : decode cX0_reckonStitches 12 = .ok (.if_icmp .ge 99, 3) := by decide +kernel
theorem dX0_reckonStitches_15 : decode cX0_reckonStitches 15 = .ok (.aload_n 1, 1) := by decide +kernel
theorem dX0_reckonStitches_16 : decode cX0_reckonStitches 16 = .ok (.iload_n 2, 1) := by decide +kernel
theorem dX0_reckonStitches_17 : decode cX0_reckonStitches 17 = .ok (.iload_n 3, 1) := by decide +kernel
theorem dX0_reckonStitches_18 : decode cX0_reckonStitches 18 = .ok (.invokevirtual 94, 3) := by decide +kernel
theorem dX0_reckonStitches_21 : decode cX0_reckonStitches 21 = .ok (.i2l, 1) := by decide +kernel
theorem dX0_reckonStitches_22 : decode cX0_reckonStitches 22 = .ok (.lstore 4, 2) := by decide +kernel
theorem dX0_reckonStitches_24 : decode cX0_reckonStitches 24 = .ok (.lload 4, 2) := by decide +kernel
theorem dX0_reckonStitches_26 : decode cX0_reckonStitches 26 = .ok (.lconst 0, 1) := by decide +kernel
theorem dX0_reckonStitches_27 : decode cX0_reckonStitches 27 = .ok (.lcmp, 1) := by decide +kernel
theorem dX0_reckonStitches_28 : decode cX0_reckonStitches 28 = .ok (.ifCond .le 77, 3) := by decide +kernel
theorem dX0_reckonStitches_31 : decode cX0_reckonStitches 31 = .ok (.aload_n 0, 1) := by decide +kernel
theorem dX0_reckonStitches_32 : decode cX0_reckonStitches 32 = .ok (.getfield 9, 3) := by decide +kernel
theorem dX0_reckonStitches_35 : decode cX0_reckonStitches 35 = .ok (.iconst 0, 1) := by decide +kernel
theorem dX0_reckonStitches_36 : decode cX0_reckonStitches 36 = .ok (.iload_n 2, 1) := by decide +kernel
theorem dX0_reckonStitches_37 : decode cX0_reckonStitches 37 = .ok (.iastore, 1) := by decide +kernel
theorem dX0_reckonStitches_38 : decode cX0_reckonStitches 38 = .ok (.aload_n 0, 1) := by decide +kernel
theorem dX0_reckonStitches_39 : decode cX0_reckonStitches 39 = .ok (.getfield 9, 3) := by decide +kernel
theorem dX0_reckonStitches_42 : decode cX0_reckonStitches 42 = .ok (.iconst 1, 1) := by decide +kernel
theorem dX0_reckonStitches_43 : decode cX0_reckonStitches 43 = .ok (.iload_n 3, 1) := by decide +kernel
theorem dX0_reckonStitches_44 : decode cX0_reckonStitches 44 = .ok (.iastore, 1) := by decide +kernel
theorem dX0_reckonStitches_45 : decode cX0_reckonStitches 45 = .ok (.aload_n 0, 1) := by decide +kernel
theorem dX0_reckonStitches_46 : decode cX0_reckonStitches 46 = .ok (.dup, 1) := by decide +kernel
theorem dX0_reckonStitches_47 : decode cX0_reckonStitches 47 = .ok (.getfield 15, 3) := by decide +kernel
theorem dX0_reckonStitches_50 : decode cX0_reckonStitches 50 = .ok (.lload 4, 2) := by decide +kernel
theorem dX0_reckonStitches_52 : decode cX0_reckonStitches 52 = .ok (.aload_n 0, 1) := by decide +kernel
theorem dX0_reckonStitches_53 : decode cX0_reckonStitches 53 = .ok (.getfield 67, 3) := by decide +kernel
theorem dX0_reckonStitches_56 : decode cX0_reckonStitches 56 = .ok (.iconst 1, 1) := by decide +kernel
theorem dX0_reckonStitches_57 : decode cX0_reckonStitches 57 = .ok (.aload_n 0, 1) := by decide +kernel
theorem dX0_reckonStitches_58 : decode cX0_reckonStitches 58 = .ok (.getfield 9, 3) := by decide +kernel
theorem dX0_reckonStitches_61 : decode cX0_reckonStitches 61 = .ok (.invokestatic 82, 3) := by decide +kernel
theorem dX0_reckonStitches_64 : decode cX0_reckonStitches 64 = .ok (.i2l, 1) := by decide +kernel
theorem dX0_reckonStitches_65 : decode cX0_reckonStitches 65 = .ok (.lmul, 1) := by decide +kernel
theorem dX0_reckonStitches_66 : decode cX0_reckonStitches 66 = .ok (.ldc2_w 100, 3) := by decide +kernel
theorem dX0_reckonStitches_69 : decode cX0_reckonStitches 69 = .ok (.ldiv, 1) := by decide +kernel
theorem dX0_reckonStitches_70 : decode cX0_reckonStitches 70 = .ok (.l2i, 1) := by decide +kernel
theorem dX0_reckonStitches_71 : decode cX0_reckonStitches 71 = .ok (.iadd, 1) := by decide +kernel
theorem dX0_reckonStitches_72 : decode cX0_reckonStitches 72 = .ok (.putfield 15, 3) := by decide +kernel
theorem dX0_reckonStitches_75 : decode cX0_reckonStitches 75 = .ok (.aload_n 0, 1) := by decide +kernel
theorem dX0_reckonStitches_76 : decode cX0_reckonStitches 76 = .ok (.dup, 1) := by decide +kernel
theorem dX0_reckonStitches_77 : decode cX0_reckonStitches 77 = .ok (.getfield 19, 3) := by decide +kernel
theorem dX0_reckonStitches_80 : decode cX0_reckonStitches 80 = .ok (.lload 4, 2) := by decide +kernel
theorem dX0_reckonStitches_82 : decode cX0_reckonStitches 82 = .ok (.aload_n 0, 1) := by decide +kernel
theorem dX0_reckonStitches_83 : decode cX0_reckonStitches 83 = .ok (.getfield 67, 3) := by decide +kernel
theorem dX0_reckonStitches_86 : decode cX0_reckonStitches 86 = .ok (.iconst 0, 1) := by decide +kernel
theorem dX0_reckonStitches_87 : decode cX0_reckonStitches 87 = .ok (.aload_n 0, 1) := by decide +kernel
theorem dX0_reckonStitches_88 : decode cX0_reckonStitches 88 = .ok (.getfield 9, 3) := by decide +kernel
theorem dX0_reckonStitches_91 : decode cX0_reckonStitches 91 = .ok (.invokestatic 82, 3) := by decide +kernel
theorem dX0_reckonStitches_94 : decode cX0_reckonStitches 94 = .ok (.i2l, 1) := by decide +kernel
theorem dX0_reckonStitches_95 : decode cX0_reckonStitches 95 = .ok (.lmul, 1) := by decide +kernel
theorem dX0_reckonStitches_96 : decode cX0_reckonStitches 96 = .ok (.ldc2_w 100, 3) := by decide +kernel
theorem dX0_reckonStitches_99 : decode cX0_reckonStitches 99 = .ok (.ldiv, 1) := by decide +kernel
theorem dX0_reckonStitches_100 : decode cX0_reckonStitches 100 = .ok (.l2i, 1) := by decide +kernel
theorem dX0_reckonStitches_101 : decode cX0_reckonStitches 101 = .ok (.iadd, 1) := by decide +kernel
theorem dX0_reckonStitches_102 : decode cX0_reckonStitches 102 = .ok (.putfield 19, 3) := by decide +kernel
theorem dX0_reckonStitches_105 : decode cX0_reckonStitches 105 = .ok (.iinc 3 1, 3) := by decide +kernel
theorem dX0_reckonStitches_108 : decode cX0_reckonStitches 108 = .ok (.goto (-98), 3) := by decide +kernel
theorem dX0_reckonStitches_111 : decode cX0_reckonStitches 111 = .ok (.iinc 2 1, 3) := by decide +kernel
theorem dX0_reckonStitches_114 : decode cX0_reckonStitches 114 = .ok (.goto (-112), 3) := by decide +kernel
theorem dX0_reckonStitches_117 : decode cX0_reckonStitches 117 = .ok (.return_, 1) := by decide +kernel
abbrev dpX0_reckonStitches : Nat := 4
def fX0_reckonStitches_105 (k2 : (Nat × Option Nat × Int32) → St → Option (Unit × St)) (k10 : (Nat × Option Nat × Int32 × Int32) → St → Option (Unit × St)) (a0 : Nat) (x1 : Option Nat) (x2 : Int32) (x3 : Int32) : St → Option (Unit × St) :=
 k10 (a0, x1, x2, (x3 + 1))
set_option maxHeartbeats 4000000 in
set_option maxRecDepth 100000 in
theorem sfX0_reckonStitches_105 {E : Ev} {l : Launch} (k2 : (Nat × Option Nat × Int32) → St → Option (Unit × St)) (hk2 : ∀ p : Nat × Option Nat × Int32, Snd E l (dpX0_reckonStitches, RX0, cX0_reckonStitches, 6, none, "reckonStitches") rvV 2 [(0, .ref (E.1 + p.1)), (1, rf E.1 p.2.1), (2, .int p.2.2)] [] (k2 p)) (k10 : (Nat × Option Nat × Int32 × Int32) → St → Option (Unit × St)) (hk10 : ∀ p : Nat × Option Nat × Int32 × Int32, Snd E l (dpX0_reckonStitches, RX0, cX0_reckonStitches, 6, none, "reckonStitches") rvV 10 [(0, .ref (E.1 + p.1)), (1, rf E.1 p.2.1), (2, .int p.2.2.1), (3, .int p.2.2.2)] [] (k10 p)) (a0 : Nat) (x1 : Option Nat) (x2 : Int32) (x3 : Int32) : Snd E l (dpX0_reckonStitches, RX0, cX0_reckonStitches, 6, none, "reckonStitches") rvV 105 [(0, .ref (E.1 + a0)), (1, rf E.1 x1), (2, .int x2), (3, .int x3)] [] (fX0_reckonStitches_105 k2 k10 a0 x1 x2 x3) := by
  unfold fX0_reckonStitches_105
  refine sn_iinc (pc := 105) (v := x3 + 1) (lv' := [(3, .int (x3 + 1)), (0, .ref (E.1 + a0)), (1, rf E.1 x1), (2, .int x2)]) (j := 3) dX0_reckonStitches_105 rfl rfl (by decide) rfl ?_
  refine sn_goto (pc := 108) (tgt := 10) dX0_reckonStitches_108 (by decide) ?_
  exact sn_sub (lv' := [(0, .ref (E.1 + a0)), (1, rf E.1 x1), (2, .int x2), (3, .int (x3 + 1))]) [1, 2, 3, 0] rfl (hk10 (a0, x1, x2, (x3 + 1)))
def fX0_reckonStitches_10 (k2 : (Nat × Option Nat × Int32) → St → Option (Unit × St)) (k10 : (Nat × Option Nat × Int32 × Int32) → St → Option (Unit × St)) (a0 : Nat) (x1 : Option Nat) (x2 : Int32) (x3 : Int32) : St → Option (Unit × St) :=
 br (4 ≤ x3) (k2 (a0, x1, (x2 + 1)))
 (nn x1 fun a2001 =>
 ck 6 a2001 <| cl (fX5_countOf a2001 x2 x3) fun v2002 =>
 br ((lg_cmp v2002.toInt64 0) ≤ 0) (fX0_reckonStitches_105 k2 k10 a0 (some a2001) x2 x3)
 (gR 1 a0 6 fun v2003 =>
 nn v2003 fun a2004 =>
 wI a2004 0 x2 <|
 gR 1 a0 6 fun v2005 =>
 nn v2005 fun a2006 =>
 wI a2006 1 x3 <|
 gI 1 a0 0 fun v2007 =>
 gR 1 a0 5 fun v2008 =>
 gR 1 a0 6 fun v2009 =>
 cl (fX11_termOf v2008 1 v2009) fun v2010 =>
 dvJ 100 <|
 pI 1 a0 0 (v2007 + (((v2002.toInt64 * v2010.toInt64) / 100).toInt32)) <|
 gI 1 a0 1 fun v2011 =>
 gR 1 a0 5 fun v2012 =>
 gR 1 a0 6 fun v2013 =>
 cl (fX11_termOf v2012 0 v2013) fun v2014 =>
 dvJ 100 <|
 pI 1 a0 1 (v2011 + (((v2002.toInt64 * v2014.toInt64) / 100).toInt32)) <|
 fX0_reckonStitches_105 k2 k10 a0 (some a2001) x2 x3))
set_option maxHeartbeats 4000000 in
set_option maxRecDepth 100000 in
theorem sfX0_reckonStitches_10 {E : Ev} {l : Launch} (k2 : (Nat × Option Nat × Int32) → St → Option (Unit × St)) (hk2 : ∀ p : Nat × Option Nat × Int32, Snd E l (dpX0_reckonStitches, RX0, cX0_reckonStitches, 6, none, "reckonStitches") rvV 2 [(0, .ref (E.1 + p.1)), (1, rf E.1 p.2.1), (2, .int p.2.2)] [] (k2 p)) (k10 : (Nat × Option Nat × Int32 × Int32) → St → Option (Unit × St)) (hk10 : ∀ p : Nat × Option Nat × Int32 × Int32, Snd E l (dpX0_reckonStitches, RX0, cX0_reckonStitches, 6, none, "reckonStitches") rvV 10 [(0, .ref (E.1 + p.1)), (1, rf E.1 p.2.1), (2, .int p.2.2.1), (3, .int p.2.2.2)] [] (k10 p)) (a0 : Nat) (x1 : Option Nat) (x2 : Int32) (x3 : Int32) : Snd E l (dpX0_reckonStitches, RX0, cX0_reckonStitches, 6, none, "reckonStitches") rvV 10 [(0, .ref (E.1 + a0)), (1, rf E.1 x1), (2, .int x2), (3, .int x3)] [] (fX0_reckonStitches_10 k2 k10 a0 x1 x2 x3) := by
  unfold fX0_reckonStitches_10
  refine sn_iload_n (pc := 10) (j := 3) dX0_reckonStitches_10 rfl rfl ?_
  refine sn_iconst (pc := 11) (v := 4) dX0_reckonStitches_11 (by decide) ?_
  refine sn_icmp_ge (pc := 12) (tgt := 111) dX0_reckonStitches_12 (by decide) ?_ ?_
  · refine sn_iinc (pc := 111) (v := x2 + 1) (lv' := [(2, .int (x2 + 1)), (0, .ref (E.1 + a0)), (1, rf E.1 x1), (3, .int x3)]) (j := 2) dX0_reckonStitches_111 rfl rfl (by decide) (by simp [rf_some, rf_cat, cat_int, cat_long, cat_ref]) ?_
    refine sn_goto (pc := 114) (tgt := 2) dX0_reckonStitches_114 (by decide) ?_
    exact sn_sub (lv' := [(0, .ref (E.1 + a0)), (1, rf E.1 x1), (2, .int (x2 + 1))]) [1, 2, 0] rfl (hk2 (a0, x1, (x2 + 1)))
  · refine sn_aloadR_n (pc := 15) (r := x1) (j := 1) dX0_reckonStitches_15 rfl rfl ?_
    refine sn_iload_n (pc := 16) (j := 2) dX0_reckonStitches_16 rfl rfl ?_
    refine sn_iload_n (pc := 17) (j := 3) dX0_reckonStitches_17 rfl rfl ?_
    rcases x1 with _ | a2001
    · exact sn_no
    refine sn_nn ?_
    refine sn_callV (ci := 5) (pc := 18) dX0_reckonStitches_18 iX5_countOf wt3_201 wt3_202 wt4_220 ⟨_, rfl, rfl⟩ (by decide) (mX5_countOf a2001 x2 x3) (by decide) rfl rfl (Nat.le_of_ble_eq_true rfl) (fun v2002 => ?_)
    refine sn_i2l (pc := 21) dX0_reckonStitches_21 ?_
    refine sn_lstore (pc := 22) (i := 4) (lv' := [(4, .long v2002.toInt64), (0, .ref (E.1 + a0)), (1, .ref (E.1 + a2001)), (2, .int x2), (3, .int x3)]) dX0_reckonStitches_22 (by decide) rfl ?_
    refine sn_lload (pc := 24) (j := 0) dX0_reckonStitches_24 rfl ?_
    refine sn_lconst (pc := 26) (v := 0) dX0_reckonStitches_26 (by decide) ?_
    refine sn_lcmp (pc := 27) dX0_reckonStitches_27 ?_
    refine sn_if_le (pc := 28) (tgt := 105) dX0_reckonStitches_28 (by decide) ?_ ?_
    · exact sn_sub (lv' := [(0, .ref (E.1 + a0)), (1, .ref (E.1 + a2001)), (2, .int x2), (3, .int x3)]) [1, 2, 3, 4] rfl (sfX0_reckonStitches_105 k2 hk2 k10 hk10 a0 (some a2001) x2 x3)
    · refine sn_aload_n (pc := 31) (j := 1) dX0_reckonStitches_31 rfl rfl ?_
      refine sn_gR (pc := 32) dX0_reckonStitches_32 flX0_9 rfl (fun v2003 => ?_)
      refine sn_iconst (pc := 35) (v := 0) dX0_reckonStitches_35 (by decide) ?_
      refine sn_iload_n (pc := 36) (j := 3) dX0_reckonStitches_36 rfl rfl ?_
      rcases v2003 with _ | a2004
      · exact sn_no
      refine sn_nn ?_
      refine sn_iast (pc := 37) dX0_reckonStitches_37 ?_
      refine sn_aload_n (pc := 38) (j := 1) dX0_reckonStitches_38 rfl rfl ?_
      refine sn_gR (pc := 39) dX0_reckonStitches_39 flX0_9 rfl (fun v2005 => ?_)
      refine sn_iconst (pc := 42) (v := 1) dX0_reckonStitches_42 (by decide) ?_
      refine sn_iload_n (pc := 43) (j := 4) dX0_reckonStitches_43 rfl rfl ?_
      rcases v2005 with _ | a2006
      · exact sn_no
      refine sn_nn ?_
      refine sn_iast (pc := 44) dX0_reckonStitches_44 ?_
      refine sn_aload_n (pc := 45) (j := 1) dX0_reckonStitches_45 rfl rfl ?_
      refine sn_dup (pc := 46) dX0_reckonStitches_46 rfl ?_
      refine sn_gI (pc := 47) dX0_reckonStitches_47 flX0_15 rfl (fun v2007 => ?_)
      refine sn_lload (pc := 50) (j := 0) dX0_reckonStitches_50 rfl ?_
      refine sn_aload_n (pc := 52) (j := 1) dX0_reckonStitches_52 rfl rfl ?_
      refine sn_gR (pc := 53) dX0_reckonStitches_53 flX0_67 rfl (fun v2008 => ?_)
      refine sn_iconst (pc := 56) (v := 1) dX0_reckonStitches_56 (by decide) ?_
      refine sn_aload_n (pc := 57) (j := 1) dX0_reckonStitches_57 rfl rfl ?_
      refine sn_gR (pc := 58) dX0_reckonStitches_58 flX0_9 rfl (fun v2009 => ?_)
      refine sn_callSN (pc := 61) dX0_reckonStitches_61 iX11_termOf wt4_104 (List.mem_of_getElem? (i := 17) rfl) (mX11_termOf v2008 1 v2009) (by decide) rfl rfl (Nat.le_of_ble_eq_true rfl) (fun v2010 => ?_)
      refine sn_i2l (pc := 64) dX0_reckonStitches_64 ?_
      refine sn_lmul (pc := 65) dX0_reckonStitches_65 ?_
      refine sn_ldc2 (pc := 66) (v := 100) dX0_reckonStitches_66 wt4_222 ?_
      refine sn_ldiv (pc := 69) dX0_reckonStitches_69 ?_
      refine sn_l2i (pc := 70) dX0_reckonStitches_70 ?_
      refine sn_iadd (pc := 71) dX0_reckonStitches_71 ?_
      refine sn_pI (pc := 72) dX0_reckonStitches_72 flX0_15 rfl rfl (Or.inl rfl) ?_
      refine sn_aload_n (pc := 75) (j := 1) dX0_reckonStitches_75 rfl rfl ?_
      refine sn_dup (pc := 76) dX0_reckonStitches_76 rfl ?_
      refine sn_gI (pc := 77) dX0_reckonStitches_77 flX0_19 rfl (fun v2011 => ?_)
      refine sn_lload (pc := 80) (j := 0) dX0_reckonStitches_80 rfl ?_
      refine sn_aload_n (pc := 82) (j := 1) dX0_reckonStitches_82 rfl rfl ?_
      refine sn_gR (pc := 83) dX0_reckonStitches_83 flX0_67 rfl (fun v2012 => ?_)
      refine sn_iconst (pc := 86) (v := 0) dX0_reckonStitches_86 (by decide) ?_
      refine sn_aload_n (pc := 87) (j := 1) dX0_reckonStitches_87 rfl rfl ?_
      refine sn_gR (pc := 88) dX0_reckonStitches_88 flX0_9 rfl (fun v2013 => ?_)
      refine sn_callSN (pc := 91) dX0_reckonStitches_91 iX11_termOf wt4_104 (List.mem_of_getElem? (i := 17) rfl) (mX11_termOf v2012 0 v2013) (by decide) rfl rfl (Nat.le_of_ble_eq_true rfl) (fun v2014 => ?_)
      refine sn_i2l (pc := 94) dX0_reckonStitches_94 ?_
      refine sn_lmul (pc := 95) dX0_reckonStitches_95 ?_
      refine sn_ldc2 (pc := 96) (v := 100) dX0_reckonStitches_96 wt4_222 ?_
      refine sn_ldiv (pc := 99) dX0_reckonStitches_99 ?_
      refine sn_l2i (pc := 100) dX0_reckonStitches_100 ?_
      refine sn_iadd (pc := 101) dX0_reckonStitches_101 ?_
      refine sn_pI (pc := 102) dX0_reckonStitches_102 flX0_19 rfl rfl (Or.inl rfl) ?_
      exact sn_sub (lv' := [(0, .ref (E.1 + a0)), (1, .ref (E.1 + a2001)), (2, .int x2), (3, .int x3)]) [1, 2, 3, 4] rfl (sfX0_reckonStitches_105 k2 hk2 k10 hk10 a0 (some a2001) x2 x3)
def fX0_reckonStitches_2 (k2 : (Nat × Option Nat × Int32) → St → Option (Unit × St)) (a0 : Nat) (x1 : Option Nat) (x2 : Int32) : St → Option (Unit × St) :=
 br (6 ≤ x2) (rt ())
 (itr (fun k (p : Nat × Option Nat × Int32 × Int32) => fX0_reckonStitches_10 k2 k p.1 p.2.1 p.2.2.1 p.2.2.2) FU (a0, x1, x2, 0))
set_option maxHeartbeats 4000000 in
set_option maxRecDepth 100000 in
theorem sfX0_reckonStitches_2 {E : Ev} {l : Launch} (k2 : (Nat × Option Nat × Int32) → St → Option (Unit × St)) (hk2 : ∀ p : Nat × Option Nat × Int32, Snd E l (dpX0_reckonStitches, RX0, cX0_reckonStitches, 6, none, "reckonStitches") rvV 2 [(0, .ref (E.1 + p.1)), (1, rf E.1 p.2.1), (2, .int p.2.2)] [] (k2 p)) (a0 : Nat) (x1 : Option Nat) (x2 : Int32) : Snd E l (dpX0_reckonStitches, RX0, cX0_reckonStitches, 6, none, "reckonStitches") rvV 2 [(0, .ref (E.1 + a0)), (1, rf E.1 x1), (2, .int x2)] [] (fX0_reckonStitches_2 k2 a0 x1 x2) := by
  unfold fX0_reckonStitches_2
  refine sn_iload_n (pc := 2) (j := 2) dX0_reckonStitches_2 rfl rfl ?_
  refine sn_bipush (pc := 3) (v := 6) dX0_reckonStitches_3 (by decide) ?_
  refine sn_icmp_ge (pc := 5) (tgt := 117) dX0_reckonStitches_5 (by decide) ?_ ?_
  · exact sn_vret (pc := 117) dX0_reckonStitches_117 rfl
  · refine sn_iconst (pc := 8) (v := 0) dX0_reckonStitches_8 (by decide) ?_
    refine sn_istore_n (pc := 9) (i := 3) (lv' := [(3, .int 0), (0, .ref (E.1 + a0)), (1, rf E.1 x1), (2, .int x2)]) dX0_reckonStitches_9 rfl (by decide) rfl ?_
    exact sn_sub (lv' := [(0, .ref (E.1 + a0)), (1, rf E.1 x1), (2, .int x2), (3, .int 0)]) [1, 2, 3, 0] rfl (sn_itr (lvf := fun p => [(0, .ref (E.1 + p.1)), (1, rf E.1 p.2.1), (2, .int p.2.2.1), (3, .int p.2.2.2)]) (stf := fun p => []) (fun k hk p => sfX0_reckonStitches_10 k2 hk2 k hk p.1 p.2.1 p.2.2.1 p.2.2.2) FU (a0, x1, x2, 0))
def fX0_reckonStitches (a0 : Nat) (x1 : Option Nat) : St → Option (Unit × St) :=
 itr (fun k (p : Nat × Option Nat × Int32) => fX0_reckonStitches_2  k p.1 p.2.1 p.2.2) FU (a0, x1, 0)
set_option maxHeartbeats 4000000 in
set_option maxRecDepth 100000 in
theorem mX0_reckonStitches {E : Ev} {l : Launch} (a0 : Nat) (x1 : Option Nat) : MF E l dpX0_reckonStitches yX0_reckonStitches cX0_reckonStitches 6 none rvV [.ref (E.1 + a0), rf E.1 x1] (fX0_reckonStitches a0 x1) := by
  refine MF.of (lv := [(0, .ref (E.1 + a0)), (1, rf E.1 x1)]) (by decide) (by simp [lg_sl, rf_cat, cat_int, cat_long, cat_ref]) (by simp [lv_args, rf_cat, cat_int, cat_long, cat_ref]) ?_
  unfold fX0_reckonStitches
  refine sn_iconst (pc := 0) (v := 0) dX0_reckonStitches_0 (by decide) ?_
  refine sn_istore_n (pc := 1) (i := 2) (lv' := [(2, .int 0), (0, .ref (E.1 + a0)), (1, rf E.1 x1)]) dX0_reckonStitches_1 rfl (by decide) (by simp [rf_some, rf_cat, cat_int, cat_long, cat_ref]) ?_
  exact sn_sub (lv' := [(0, .ref (E.1 + a0)), (1, rf E.1 x1), (2, .int 0)]) [1, 2, 0] rfl (sn_itr (lvf := fun p => [(0, .ref (E.1 + p.1)), (1, rf E.1 p.2.1), (2, .int p.2.2)]) (stf := fun p => []) (fun k hk p => sfX0_reckonStitches_2  k hk p.1 p.2.1 p.2.2) FU (a0, x1, 0))
theorem iX0_reckonStitches : MI yX0_reckonStitches cX0_reckonStitches 6 none 1 := ⟨wt1_7, wt4_219, by decide +kernel, by decide⟩
-- NeedleHomes$World handAt(I)LNeedleHomes$Hand;
theorem dX10_handAt_0 : decode cX10_handAt 0 = .ok (.iload_n 1, 1) := by decide +kernel
theorem dX10_handAt_1 : decode cX10_handAt 1 = .ok (.iconst 0, 1) := by decide +kernel
theorem dX10_handAt_2 : decode cX10_handAt 2 = .ok (.aload_n 0, 1) := by decide +kernel
theorem dX10_handAt_3 : decode cX10_handAt 3 = .ok (.getfield 87, 3) := by decide +kernel
theorem dX10_handAt_6 : decode cX10_handAt 6 = .ok (.iconst 1, 1) := by decide +kernel
theorem dX10_handAt_7 : decode cX10_handAt 7 = .ok (.isub, 1) := by decide +kernel
theorem dX10_handAt_8 : decode cX10_handAt 8 = .ok (.invokestatic 139, 3) := by decide +kernel
theorem dX10_handAt_11 : decode cX10_handAt 11 = .ok (.ifCond .eq 18, 3) := by decide +kernel
theorem dX10_handAt_14 : decode cX10_handAt 14 = .ok (.iload_n 1, 1) := by decide +kernel
theorem dX10_handAt_15 : decode cX10_handAt 15 = .ok (.bipush 12, 2) := by decide +kernel
theorem dX10_handAt_17 : decode cX10_handAt 17 = .ok (.if_icmp .ge 12, 3) := by decide +kernel
theorem dX10_handAt_20 : decode cX10_handAt 20 = .ok (.aload_n 0, 1) := by decide +kernel
theorem dX10_handAt_21 : decode cX10_handAt 21 = .ok (.getfield 33, 3) := by decide +kernel
theorem dX10_handAt_24 : decode cX10_handAt 24 = .ok (.iload_n 1, 1) := by decide +kernel
theorem dX10_handAt_25 : decode cX10_handAt 25 = .ok (.aaload, 1) := by decide +kernel
theorem dX10_handAt_26 : decode cX10_handAt 26 = .ok (.goto 4, 3) := by decide +kernel
theorem dX10_handAt_29 : decode cX10_handAt 29 = .ok (.aconst_null, 1) := by decide +kernel
theorem dX10_handAt_30 : decode cX10_handAt 30 = .ok (.areturn, 1) := by decide +kernel
abbrev dpX10_handAt : Nat := 1
def fX10_handAt (a0 : Nat) (x1 : Int32) : St → Option ((Option Nat) × St) :=
 gI 11 a0 10 fun v1 =>
 cl (fX11_within x1 0 (v1 - 1)) fun v2 =>
 br ((bi v2) = 0) (rt none)
 (br (12 ≤ x1) (rt none)
 (gR 11 a0 9 fun v3 =>
 nn v3 fun a5 =>
 aR 18 a5 x1 fun v4 =>
 rt v4))
set_option maxHeartbeats 4000000 in
set_option maxRecDepth 100000 in
theorem mX10_handAt {E : Ev} {l : Launch} (a0 : Nat) (x1 : Int32) : MF E l dpX10_handAt yX10_handAt cX10_handAt 2 (some (.object "NeedleHomes$Hand")) (rvR E.1) [.ref (E.1 + a0), .int x1] (fX10_handAt a0 x1) := by
  refine MF.of (lv := [(0, .ref (E.1 + a0)), (1, .int x1)]) (by decide) (Nat.le_of_ble_eq_true rfl) rfl ?_
  unfold fX10_handAt
  refine sn_iload_n (pc := 0) (j := 1) dX10_handAt_0 rfl rfl ?_
  refine sn_iconst (pc := 1) (v := 0) dX10_handAt_1 (by decide) ?_
  refine sn_aload_n (pc := 2) (j := 0) dX10_handAt_2 rfl rfl ?_
  refine sn_gI (pc := 3) dX10_handAt_3 flX10_87 rfl (fun v1 => ?_)
  refine sn_iconst (pc := 6) (v := 1) dX10_handAt_6 (by decide) ?_
  refine sn_isub (pc := 7) dX10_handAt_7 ?_
  refine sn_callSN (pc := 8) dX10_handAt_8 iX11_within wt2_96 (List.mem_of_getElem? (i := 9) rfl) (mX11_within x1 0 (v1 - 1)) (by decide) rfl rfl (Nat.le_of_ble_eq_true rfl) (fun v2 => ?_)
  refine sn_if_eq (pc := 11) (tgt := 29) dX10_handAt_11 (by decide) ?_ ?_
  · refine sn_null (pc := 29) dX10_handAt_29 ?_
    exact sn_aret (pc := 30) (v := none) dX10_handAt_30 rfl (Or.inl ⟨_, rfl⟩)
  · refine sn_iload_n (pc := 14) (j := 1) dX10_handAt_14 rfl rfl ?_
    refine sn_bipush (pc := 15) (v := 12) dX10_handAt_15 (by decide) ?_
    refine sn_icmp_ge (pc := 17) (tgt := 29) dX10_handAt_17 (by decide) ?_ ?_
    · refine sn_null (pc := 29) dX10_handAt_29 ?_
      exact sn_aret (pc := 30) (v := none) dX10_handAt_30 rfl (Or.inl ⟨_, rfl⟩)
    · refine sn_aload_n (pc := 20) (j := 0) dX10_handAt_20 rfl rfl ?_
      refine sn_gR (pc := 21) dX10_handAt_21 flX10_33 rfl (fun v3 => ?_)
      refine sn_iload_n (pc := 24) (j := 1) dX10_handAt_24 rfl rfl ?_
      rcases v3 with _ | a5
      · exact sn_no
      refine sn_nn ?_
      refine sn_aald (t := 4) (pc := 25) dX10_handAt_25 (by decide) rfl (fun v4 => ?_)
      refine sn_goto (pc := 26) (tgt := 30) dX10_handAt_26 (by decide) ?_
      exact sn_aret (pc := 30) (v := v4) dX10_handAt_30 rfl (Or.inl ⟨_, rfl⟩)
theorem iX10_handAt : MI yX10_handAt cX10_handAt 2 (some (.object "NeedleHomes$Hand")) 1 := ⟨wt1_2, wt4_56, by decide +kernel, by decide⟩
-- NeedleHomes$World listAt(I)LNeedleHomes$TermList;
theorem dX10_listAt_0 : decode cX10_listAt 0 = .ok (.iload_n 1, 1) := by decide +kernel
theorem dX10_listAt_1 : decode cX10_listAt 1 = .ok (.iconst 0, 1) := by decide +kernel
theorem dX10_listAt_2 : decode cX10_listAt 2 = .ok (.aload_n 0, 1) := by decide +kernel
theorem dX10_listAt_3 : decode cX10_listAt 3 = .ok (.getfield 84, 3) := by decide +kernel
theorem dX10_listAt_6 : decode cX10_listAt 6 = .ok (.iconst 1, 1) := by decide +kernel
theorem dX10_listAt_7 : decode cX10_listAt 7 = .ok (.isub, 1) := by decide +kernel
theorem dX10_listAt_8 : decode cX10_listAt 8 = .ok (.invokestatic 139, 3) := by decide +kernel
theorem dX10_listAt_11 : decode cX10_listAt 11 = .ok (.ifCond .eq 18, 3) := by decide +kernel
theorem dX10_listAt_14 : decode cX10_listAt 14 = .ok (.iload_n 1, 1) := by decide +kernel
theorem dX10_listAt_15 : decode cX10_listAt 15 = .ok (.bipush 10, 2) := by decide +kernel
theorem dX10_listAt_17 : decode cX10_listAt 17 = .ok (.if_icmp .ge 12, 3) := by decide +kernel
theorem dX10_listAt_20 : decode cX10_listAt 20 = .ok (.aload_n 0, 1) := by decide +kernel
theorem dX10_listAt_21 : decode cX10_listAt 21 = .ok (.getfield 27, 3) := by decide +kernel
theorem dX10_listAt_24 : decode cX10_listAt 24 = .ok (.iload_n 1, 1) := by decide +kernel
theorem dX10_listAt_25 : decode cX10_listAt 25 = .ok (.aaload, 1) := by decide +kernel
theorem dX10_listAt_26 : decode cX10_listAt 26 = .ok (.goto 4, 3) := by decide +kernel
theorem dX10_listAt_29 : decode cX10_listAt 29 = .ok (.aconst_null, 1) := by decide +kernel
theorem dX10_listAt_30 : decode cX10_listAt 30 = .ok (.areturn, 1) := by decide +kernel
abbrev dpX10_listAt : Nat := 1
def fX10_listAt (a0 : Nat) (x1 : Int32) : St → Option ((Option Nat) × St) :=
 gI 11 a0 8 fun v1 =>
 cl (fX11_within x1 0 (v1 - 1)) fun v2 =>
 br ((bi v2) = 0) (rt none)
 (br (10 ≤ x1) (rt none)
 (gR 11 a0 7 fun v3 =>
 nn v3 fun a5 =>
 aR 21 a5 x1 fun v4 =>
 rt v4))
set_option maxHeartbeats 4000000 in
set_option maxRecDepth 100000 in
theorem mX10_listAt {E : Ev} {l : Launch} (a0 : Nat) (x1 : Int32) : MF E l dpX10_listAt yX10_listAt cX10_listAt 2 (some (.object "NeedleHomes$TermList")) (rvR E.1) [.ref (E.1 + a0), .int x1] (fX10_listAt a0 x1) := by
  refine MF.of (lv := [(0, .ref (E.1 + a0)), (1, .int x1)]) (by decide) (Nat.le_of_ble_eq_true rfl) rfl ?_
  unfold fX10_listAt
  refine sn_iload_n (pc := 0) (j := 1) dX10_listAt_0 rfl rfl ?_
  refine sn_iconst (pc := 1) (v := 0) dX10_listAt_1 (by decide) ?_
  refine sn_aload_n (pc := 2) (j := 0) dX10_listAt_2 rfl rfl ?_
  refine sn_gI (pc := 3) dX10_listAt_3 flX10_84 rfl (fun v1 => ?_)
  refine sn_iconst (pc := 6) (v := 1) dX10_listAt_6 (by decide) ?_
  refine sn_isub (pc := 7) dX10_listAt_7 ?_
  refine sn_callSN (pc := 8) dX10_listAt_8 iX11_within wt2_96 (List.mem_of_getElem? (i := 9) rfl) (mX11_within x1 0 (v1 - 1)) (by decide) rfl rfl (Nat.le_of_ble_eq_true rfl) (fun v2 => ?_)
  refine sn_if_eq (pc := 11) (tgt := 29) dX10_listAt_11 (by decide) ?_ ?_
  · refine sn_null (pc := 29) dX10_listAt_29 ?_
    exact sn_aret (pc := 30) (v := none) dX10_listAt_30 rfl (Or.inl ⟨_, rfl⟩)
  · refine sn_iload_n (pc := 14) (j := 1) dX10_listAt_14 rfl rfl ?_
    refine sn_bipush (pc := 15) (v := 10) dX10_listAt_15 (by decide) ?_
    refine sn_icmp_ge (pc := 17) (tgt := 29) dX10_listAt_17 (by decide) ?_ ?_
    · refine sn_null (pc := 29) dX10_listAt_29 ?_
      exact sn_aret (pc := 30) (v := none) dX10_listAt_30 rfl (Or.inl ⟨_, rfl⟩)
    · refine sn_aload_n (pc := 20) (j := 0) dX10_listAt_20 rfl rfl ?_
      refine sn_gR (pc := 21) dX10_listAt_21 flX10_27 rfl (fun v3 => ?_)
      refine sn_iload_n (pc := 24) (j := 1) dX10_listAt_24 rfl rfl ?_
      rcases v3 with _ | a5
      · exact sn_no
      refine sn_nn ?_
      refine sn_aald (t := 7) (pc := 25) dX10_listAt_25 (by decide) rfl (fun v4 => ?_)
      refine sn_goto (pc := 26) (tgt := 30) dX10_listAt_26 (by decide) ?_
      exact sn_aret (pc := 30) (v := v4) dX10_listAt_30 rfl (Or.inl ⟨_, rfl⟩)
theorem iX10_listAt : MI yX10_listAt cX10_listAt 2 (some (.object "NeedleHomes$TermList")) 1 := ⟨wt1_2, wt3_238, by decide +kernel, by decide⟩
-- NeedleHomes$World listKnown(III)I
theorem dX10_listKnown_0 : decode cX10_listKnown 0 = .ok (.iconst (-1), 1) := by decide +kernel
theorem dX10_listKnown_1 : decode cX10_listKnown 1 = .ok (.istore 4, 2) := by decide +kernel
theorem dX10_listKnown_3 : decode cX10_listKnown 3 = .ok (.iconst (-1), 1) := by decide +kernel
theorem dX10_listKnown_4 : decode cX10_listKnown 4 = .ok (.istore 5, 2) := by decide +kernel
theorem dX10_listKnown_6 : decode cX10_listKnown 6 = .ok (.iconst 0, 1) := by decide +kernel
theorem dX10_listKnown_7 : decode cX10_listKnown 7 = .ok (.istore 6, 2) := by decide +kernel
theorem dX10_listKnown_9 : decode cX10_listKnown 9 = .ok (.iload 6, 2) := by decide +kernel
theorem dX10_listKnown_11 : decode cX10_listKnown 11 = .ok (.aload_n 0, 1) := by decide +kernel
theorem dX10_listKnown_12 : decode cX10_listKnown 12 = .ok (.getfield 84, 3) := by decide +kernel
theorem dX10_listKnown_15 : decode cX10_listKnown 15 = .ok (.if_icmp .ge 70, 3) := by decide +kernel
theorem dX10_listKnown_18 : decode cX10_listKnown 18 = .ok (.aload_n 0, 1) := by decide +kernel
theorem dX10_listKnown_19 : decode cX10_listKnown 19 = .ok (.iload 6, 2) := by decide +kernel
theorem dX10_listKnown_21 : decode cX10_listKnown 21 = .ok (.invokevirtual 143, 3) := by decide +kernel
theorem dX10_listKnown_24 : decode cX10_listKnown 24 = .ok (.astore 7, 2) := by decide +kernel
theorem dX10_listKnown_26 : decode cX10_listKnown 26 = .ok (.aload 7, 2) := by decide +kernel
theorem dX10_listKnown_28 : decode cX10_listKnown 28 = .ok (.ifnull 51, 3) := by decide +kernel
theorem dX10_listKnown_31 : decode cX10_listKnown 31 = .ok (.aload 7, 2) := by decide +kernel
theorem dX10_listKnown_33 : decode cX10_listKnown 33 = .ok (.getfield 147, 3) := by decide +kernel
theorem dX10_listKnown_36 : decode cX10_listKnown 36 = .ok (.iload_n 1, 1) := by decide +kernel
theorem dX10_listKnown_37 : decode cX10_listKnown 37 = .ok (.if_icmp .ne 42, 3) := by decide +kernel
theorem dX10_listKnown_40 : decode cX10_listKnown 40 = .ok (.aload 7, 2) := by decide +kernel
theorem dX10_listKnown_42 : decode cX10_listKnown 42 = .ok (.getfield 148, 3) := by decide +kernel
theorem dX10_listKnown_45 : decode cX10_listKnown 45 = .ok (.iload_n 3, 1) := by decide +kernel
theorem dX10_listKnown_46 : decode cX10_listKnown 46 = .ok (.if_icmp .gt 33, 3) := by decide +kernel
theorem dX10_listKnown_49 : decode cX10_listKnown 49 = .ok (.aload 7, 2) := by decide +kernel
theorem dX10_listKnown_51 : decode cX10_listKnown 51 = .ok (.getfield 151, 3) := by decide +kernel
theorem dX10_listKnown_54 : decode cX10_listKnown 54 = .ok (.iload_n 2, 1) := by decide +kernel
theorem dX10_listKnown_55 : decode cX10_listKnown 55 = .ok (.if_icmp .gt 24, 3) := by decide +kernel
theorem dX10_listKnown_58 : decode cX10_listKnown 58 = .ok (.aload 7, 2) := by decide +kernel
theorem dX10_listKnown_60 : decode cX10_listKnown 60 = .ok (.getfield 151, 3) := by decide +kernel
theorem dX10_listKnown_63 : decode cX10_listKnown 63 = .ok (.iload 5, 2) := by decide +kernel
theorem dX10_listKnown_65 : decode cX10_listKnown 65 = .ok (.if_icmp .lt 14, 3) := by decide +kernel
theorem dX10_listKnown_68 : decode cX10_listKnown 68 = .ok (.iload 6, 2) := by decide +kernel
theorem dX10_listKnown_70 : decode cX10_listKnown 70 = .ok (.istore 4, 2) := by decide +kernel
theorem dX10_listKnown_72 : decode cX10_listKnown 72 = .ok (.aload 7, 2) := by decide +kernel
theorem dX10_listKnown_74 : decode cX10_listKnown 74 = .ok (.getfield 151, 3) := by decide +kernel
theorem dX10_listKnown_77 : decode cX10_listKnown 77 = .ok (.istore 5, 2) := by decide +kernel
theorem dX10_listKnown_79 : decode cX10_listKnown 79 = .ok (.iinc 6 1, 3) := by decide +kernel
theorem dX10_listKnown_82 : decode cX10_listKnown 82 = .ok (.goto (-73), 3) := by decide +kernel
theorem dX10_listKnown_85 : decode cX10_listKnown 85 = .ok (.iload 4, 2) := by decide +kernel
theorem dX10_listKnown_87 : decode cX10_listKnown 87 = .ok (.ireturn, 1) := by decide +kernel
abbrev dpX10_listKnown : Nat := 2
def fX10_listKnown_79 (k9 : (Nat × Int32 × Int32 × Int32 × Int32 × Int32 × Int32) → St → Option (Int32 × St)) (a0 : Nat) (x1 : Int32) (x2 : Int32) (x3 : Int32) (x4 : Int32) (x5 : Int32) (x6 : Int32) : St → Option (Int32 × St) :=
 k9 (a0, x1, x2, x3, x4, x5, (x6 + 1))
set_option maxHeartbeats 4000000 in
set_option maxRecDepth 100000 in
theorem sfX10_listKnown_79 {E : Ev} {l : Launch} (k9 : (Nat × Int32 × Int32 × Int32 × Int32 × Int32 × Int32) → St → Option (Int32 × St)) (hk9 : ∀ p : Nat × Int32 × Int32 × Int32 × Int32 × Int32 × Int32, Snd E l (dpX10_listKnown, RX10, cX10_listKnown, 8, (some .int), "listKnown") rvI 9 [(0, .ref (E.1 + p.1)), (1, .int p.2.1), (2, .int p.2.2.1), (3, .int p.2.2.2.1), (4, .int p.2.2.2.2.1), (5, .int p.2.2.2.2.2.1), (6, .int p.2.2.2.2.2.2)] [] (k9 p)) (a0 : Nat) (x1 : Int32) (x2 : Int32) (x3 : Int32) (x4 : Int32) (x5 : Int32) (x6 : Int32) : Snd E l (dpX10_listKnown, RX10, cX10_listKnown, 8, (some .int), "listKnown") rvI 79 [(0, .ref (E.1 + a0)), (1, .int x1), (2, .int x2), (3, .int x3), (4, .int x4), (5, .int x5), (6, .int x6)] [] (fX10_listKnown_79 k9 a0 x1 x2 x3 x4 x5 x6) := by
  unfold fX10_listKnown_79
  refine sn_iinc (pc := 79) (v := x6 + 1) (lv' := [(6, .int (x6 + 1)), (0, .ref (E.1 + a0)), (1, .int x1), (2, .int x2), (3, .int x3), (4, .int x4), (5, .int x5)]) (j := 6) dX10_listKnown_79 rfl rfl (by decide) rfl ?_
  refine sn_goto (pc := 82) (tgt := 9) dX10_listKnown_82 (by decide) ?_
  exact sn_sub (lv' := [(0, .ref (E.1 + a0)), (1, .int x1), (2, .int x2), (3, .int x3), (4, .int x4), (5, .int x5), (6, .int (x6 + 1))]) [1, 2, 3, 4, 5, 6, 0] rfl (hk9 (a0, x1, x2, x3, x4, x5, (x6 + 1)))
def fX10_listKnown_9 (k9 : (Nat × Int32 × Int32 × Int32 × Int32 × Int32 × Int32) → St → Option (Int32 × St)) (a0 : Nat) (x1 : Int32) (x2 : Int32) (x3 : Int32) (x4 : Int32) (x5 : Int32) (x6 : Int32) : St → Option (Int32 × St) :=
 gI 11 a0 8 fun v1001 =>
 br (v1001 ≤ x6) (rt x4)
 (ck 11 a0 <| cl (fX10_listAt a0 x6) fun v1002 =>
 on v1002 (fX10_listKnown_79 k9 a0 x1 x2 x3 x4 x5 x6)
 fun a1003 => gI 10 a1003 0 fun v1004 =>
 br (v1004 = x1) (gI 10 a1003 2 fun v1005 =>
 br (x3 < v1005) (fX10_listKnown_79 k9 a0 x1 x2 x3 x4 x5 x6)
 (gI 10 a1003 1 fun v1006 =>
 br (x2 < v1006) (fX10_listKnown_79 k9 a0 x1 x2 x3 x4 x5 x6)
 (gI 10 a1003 1 fun v1007 =>
 br (v1007 < x5) (fX10_listKnown_79 k9 a0 x1 x2 x3 x4 x5 x6)
 (gI 10 a1003 1 fun v1008 =>
 fX10_listKnown_79 k9 a0 x1 x2 x3 x6 v1008 x6))))
 (fX10_listKnown_79 k9 a0 x1 x2 x3 x4 x5 x6))
set_option maxHeartbeats 4000000 in
set_option maxRecDepth 100000 in
theorem sfX10_listKnown_9 {E : Ev} {l : Launch} (k9 : (Nat × Int32 × Int32 × Int32 × Int32 × Int32 × Int32) → St → Option (Int32 × St)) (hk9 : ∀ p : Nat × Int32 × Int32 × Int32 × Int32 × Int32 × Int32, Snd E l (dpX10_listKnown, RX10, cX10_listKnown, 8, (some .int), "listKnown") rvI 9 [(0, .ref (E.1 + p.1)), (1, .int p.2.1), (2, .int p.2.2.1), (3, .int p.2.2.2.1), (4, .int p.2.2.2.2.1), (5, .int p.2.2.2.2.2.1), (6, .int p.2.2.2.2.2.2)] [] (k9 p)) (a0 : Nat) (x1 : Int32) (x2 : Int32) (x3 : Int32) (x4 : Int32) (x5 : Int32) (x6 : Int32) : Snd E l (dpX10_listKnown, RX10, cX10_listKnown, 8, (some .int), "listKnown") rvI 9 [(0, .ref (E.1 + a0)), (1, .int x1), (2, .int x2), (3, .int x3), (4, .int x4), (5, .int x5), (6, .int x6)] [] (fX10_listKnown_9 k9 a0 x1 x2 x3 x4 x5 x6) := by
  unfold fX10_listKnown_9
  refine sn_iload (pc := 9) (j := 6) dX10_listKnown_9 rfl ?_
  refine sn_aload_n (pc := 11) (j := 0) dX10_listKnown_11 rfl rfl ?_
  refine sn_gI (pc := 12) dX10_listKnown_12 flX10_84 rfl (fun v1001 => ?_)
  refine sn_icmp_ge (pc := 15) (tgt := 85) dX10_listKnown_15 (by decide) ?_ ?_
  · refine sn_iload (pc := 85) (j := 4) dX10_listKnown_85 rfl ?_
    exact sn_iret (pc := 87) dX10_listKnown_87 rfl
  · refine sn_aload_n (pc := 18) (j := 0) dX10_listKnown_18 rfl rfl ?_
    refine sn_iload (pc := 19) (j := 6) dX10_listKnown_19 rfl ?_
    refine sn_callV (ci := 10) (pc := 21) dX10_listKnown_21 iX10_listAt wt3_236 wt3_237 wt3_235 ⟨_, rfl, rfl⟩ (by decide) (mX10_listAt a0 x6) (by decide) rfl rfl (Nat.le_of_ble_eq_true rfl) (fun v1002 => ?_)
    refine sn_astoreR (pc := 24) (r := v1002) (i := 7) (lv' := [(7, rf E.1 v1002), (0, .ref (E.1 + a0)), (1, .int x1), (2, .int x2), (3, .int x3), (4, .int x4), (5, .int x5), (6, .int x6)]) dX10_listKnown_24 (by decide) rfl ?_
    refine sn_aloadR (pc := 26) (r := v1002) (j := 0) dX10_listKnown_26 rfl ?_
    rcases v1002 with _ | a1003
    · refine sn_onN ?_
      refine sn_ifnull_n (pc := 28) (tgt := 79) dX10_listKnown_28 (by decide) ?_
      exact sn_sub (lv' := [(0, .ref (E.1 + a0)), (1, .int x1), (2, .int x2), (3, .int x3), (4, .int x4), (5, .int x5), (6, .int x6)]) [1, 2, 3, 4, 5, 6, 7] rfl (sfX10_listKnown_79 k9 hk9 a0 x1 x2 x3 x4 x5 x6)
    · refine sn_onS ?_
      refine sn_ifnull_s (pc := 28) dX10_listKnown_28 ?_
      refine sn_aload (pc := 31) (j := 0) dX10_listKnown_31 rfl ?_
      refine sn_gI (pc := 33) dX10_listKnown_33 flX10_147 rfl (fun v1004 => ?_)
      refine sn_iload_n (pc := 36) (j := 2) dX10_listKnown_36 rfl rfl ?_
      refine sn_icmp_ne (pc := 37) (tgt := 79) dX10_listKnown_37 (by decide) ?_ ?_
      · exact sn_sub (lv' := [(0, .ref (E.1 + a0)), (1, .int x1), (2, .int x2), (3, .int x3), (4, .int x4), (5, .int x5), (6, .int x6)]) [1, 2, 3, 4, 5, 6, 7] rfl (sfX10_listKnown_79 k9 hk9 a0 x1 x2 x3 x4 x5 x6)
      · refine sn_aload (pc := 40) (j := 0) dX10_listKnown_40 rfl ?_
        refine sn_gI (pc := 42) dX10_listKnown_42 flX10_148 rfl (fun v1005 => ?_)
        refine sn_iload_n (pc := 45) (j := 4) dX10_listKnown_45 rfl rfl ?_
        refine sn_icmp_gt (pc := 46) (tgt := 79) dX10_listKnown_46 (by decide) ?_ ?_
        · exact sn_sub (lv' := [(0, .ref (E.1 + a0)), (1, .int x1), (2, .int x2), (3, .int x3), (4, .int x4), (5, .int x5), (6, .int x6)]) [1, 2, 3, 4, 5, 6, 7] rfl (sfX10_listKnown_79 k9 hk9 a0 x1 x2 x3 x4 x5 x6)
        · refine sn_aload (pc := 49) (j := 0) dX10_listKnown_49 rfl ?_
          refine sn_gI (pc := 51) dX10_listKnown_51 flX10_151 rfl (fun v1006 => ?_)
          refine sn_iload_n (pc := 54) (j := 3) dX10_listKnown_54 rfl rfl ?_
          refine sn_icmp_gt (pc := 55) (tgt := 79) dX10_listKnown_55 (by decide) ?_ ?_
          · exact sn_sub (lv' := [(0, .ref (E.1 + a0)), (1, .int x1), (2, .int x2), (3, .int x3), (4, .int x4), (5, .int x5), (6, .int x6)]) [1, 2, 3, 4, 5, 6, 7] rfl (sfX10_listKnown_79 k9 hk9 a0 x1 x2 x3 x4 x5 x6)
          · refine sn_aload (pc := 58) (j := 0) dX10_listKnown_58 rfl ?_
            refine sn_gI (pc := 60) dX10_listKnown_60 flX10_151 rfl (fun v1007 => ?_)
            refine sn_iload (pc := 63) (j := 6) dX10_listKnown_63 rfl ?_
            refine sn_icmp_lt (pc := 65) (tgt := 79) dX10_listKnown_65 (by decide) ?_ ?_
            · exact sn_sub (lv' := [(0, .ref (E.1 + a0)), (1, .int x1), (2, .int x2), (3, .int x3), (4, .int x4), (5, .int x5), (6, .int x6)]) [1, 2, 3, 4, 5, 6, 7] rfl (sfX10_listKnown_79 k9 hk9 a0 x1 x2 x3 x4 x5 x6)
            · refine sn_iload (pc := 68) (j := 7) dX10_listKnown_68 rfl ?_
              refine sn_istore (pc := 70) (i := 4) (lv' := [(4, .int x6), (7, .ref (E.1 + a1003)), (0, .ref (E.1 + a0)), (1, .int x1), (2, .int x2), (3, .int x3), (5, .int x5), (6, .int x6)]) dX10_listKnown_70 (by decide) rfl ?_
              refine sn_aload (pc := 72) (j := 1) dX10_listKnown_72 rfl ?_
              refine sn_gI (pc := 74) dX10_listKnown_74 flX10_151 rfl (fun v1008 => ?_)
              refine sn_istore (pc := 77) (i := 5) (lv' := [(5, .int v1008), (4, .int x6), (7, .ref (E.1 + a1003)), (0, .ref (E.1 + a0)), (1, .int x1), (2, .int x2), (3, .int x3), (6, .int x6)]) dX10_listKnown_77 (by decide) rfl ?_
              exact sn_sub (lv' := [(0, .ref (E.1 + a0)), (1, .int x1), (2, .int x2), (3, .int x3), (4, .int x6), (5, .int v1008), (6, .int x6)]) [3, 4, 5, 6, 1, 0, 7] rfl (sfX10_listKnown_79 k9 hk9 a0 x1 x2 x3 x6 v1008 x6)
def fX10_listKnown (a0 : Nat) (x1 : Int32) (x2 : Int32) (x3 : Int32) : St → Option (Int32 × St) :=
 itr (fun k (p : Nat × Int32 × Int32 × Int32 × Int32 × Int32 × Int32) => fX10_listKnown_9  k p.1 p.2.1 p.2.2.1 p.2.2.2.1 p.2.2.2.2.1 p.2.2.2.2.2.1 p.2.2.2.2.2.2) FU (a0, x1, x2, x3, (-1), (-1), 0)
set_option maxHeartbeats 4000000 in
set_option maxRecDepth 100000 in
theorem mX10_listKnown {E : Ev} {l : Launch} (a0 : Nat) (x1 : Int32) (x2 : Int32) (x3 : Int32) : MF E l dpX10_listKnown yX10_listKnown cX10_listKnown 8 (some .int) rvI [.ref (E.1 + a0), .int x1, .int x2, .int x3] (fX10_listKnown a0 x1 x2 x3) := by
  refine MF.of (lv := [(0, .ref (E.1 + a0)), (1, .int x1), (2, .int x2), (3, .int x3)]) (by decide) (Nat.le_of_ble_eq_true rfl) rfl ?_
  unfold fX10_listKnown
  refine sn_iconst (pc := 0) (v := (-1)) dX10_listKnown_0 (by decide) ?_
  refine sn_istore (pc := 1) (i := 4) (lv' := [(4, .int (-1)), (0, .ref (E.1 + a0)), (1, .int x1), (2, .int x2), (3, .int x3)]) dX10_listKnown_1 (by decide) rfl ?_
  refine sn_iconst (pc := 3) (v := (-1)) dX10_listKnown_3 (by decide) ?_
  refine sn_istore (pc := 4) (i := 5) (lv' := [(5, .int (-1)), (4, .int (-1)), (0, .ref (E.1 + a0)), (1, .int x1), (2, .int x2), (3, .int x3)]) dX10_listKnown_4 (by decide) rfl ?_
  refine sn_iconst (pc := 6) (v := 0) dX10_listKnown_6 (by decide) ?_
  refine sn_istore (pc := 7) (i := 6) (lv' := [(6, .int 0), (5, .int (-1)), (4, .int (-1)), (0, .ref (E.1 + a0)), (1, .int x1), (2, .int x2), (3, .int x3)]) dX10_listKnown_7 (by decide) rfl ?_
  exact sn_sub (lv' := [(0, .ref (E.1 + a0)), (1, .int x1), (2, .int x2), (3, .int x3), (4, .int (-1)), (5, .int (-1)), (6, .int 0)]) [3, 4, 5, 6, 2, 1, 0] rfl (sn_itr (lvf := fun p => [(0, .ref (E.1 + p.1)), (1, .int p.2.1), (2, .int p.2.2.1), (3, .int p.2.2.2.1), (4, .int p.2.2.2.2.1), (5, .int p.2.2.2.2.2.1), (6, .int p.2.2.2.2.2.2)]) (stf := fun p => []) (fun k hk p => sfX10_listKnown_9  k hk p.1 p.2.1 p.2.2.1 p.2.2.2.1 p.2.2.2.2.1 p.2.2.2.2.2.1 p.2.2.2.2.2.2) FU (a0, x1, x2, x3, (-1), (-1), 0))
theorem iX10_listKnown : MI yX10_listKnown cX10_listKnown 8 (some .int) 3 := ⟨wt1_2, wt3_234, by decide +kernel, by decide⟩
-- NeedleHomes$World patternAt(I)LNeedleHomes$Pattern;
theorem dX10_patternAt_0 : decode cX10_patternAt 0 = .ok (.iload_n 1, 1) := by decide +kernel
theorem dX10_patternAt_1 : decode cX10_patternAt 1 = .ok (.iconst 0, 1) := by decide +kernel
theorem dX10_patternAt_2 : decode cX10_patternAt 2 = .ok (.aload_n 0, 1) := by decide +kernel
theorem dX10_patternAt_3 : decode cX10_patternAt 3 = .ok (.getfield 81, 3) := by decide +kernel
theorem dX10_patternAt_6 : decode cX10_patternAt 6 = .ok (.iconst 1, 1) := by decide +kernel
theorem dX10_patternAt_7 : decode cX10_patternAt 7 = .ok (.isub, 1) := by decide +kernel
theorem dX10_patternAt_8 : decode cX10_patternAt 8 = .ok (.invokestatic 139, 3) := by decide +kernel
theorem dX10_patternAt_11 : decode cX10_patternAt 11 = .ok (.ifCond .eq 18, 3) := by decide +kernel
theorem dX10_patternAt_14 : decode cX10_patternAt 14 = .ok (.iload_n 1, 1) := by decide +kernel
theorem dX10_patternAt_15 : decode cX10_patternAt 15 = .ok (.bipush 8, 2) := by decide +kernel
theorem dX10_patternAt_17 : decode cX10_patternAt 17 = .ok (.if_icmp .ge 12, 3) := by decide +kernel
theorem dX10_patternAt_20 : decode cX10_patternAt 20 = .ok (.aload_n 0, 1) := by decide +kernel
theorem dX10_patternAt_21 : decode cX10_patternAt 21 = .ok (.getfield 21, 3) := by decide +kernel
theorem dX10_patternAt_24 : decode cX10_patternAt 24 = .ok (.iload_n 1, 1) := by decide +kernel
theorem dX10_patternAt_25 : decode cX10_patternAt 25 = .ok (.aaload, 1) := by decide +kernel
theorem dX10_patternAt_26 : decode cX10_patternAt 26 = .ok (.goto 4, 3) := by decide +kernel
theorem dX10_patternAt_29 : decode cX10_patternAt 29 = .ok (.aconst_null, 1) := by decide +kernel
theorem dX10_patternAt_30 : decode cX10_patternAt 30 = .ok (.areturn, 1) := by decide +kernel
abbrev dpX10_patternAt : Nat := 1
def fX10_patternAt (a0 : Nat) (x1 : Int32) : St → Option ((Option Nat) × St) :=
 gI 11 a0 6 fun v1 =>
 cl (fX11_within x1 0 (v1 - 1)) fun v2 =>
 br ((bi v2) = 0) (rt none)
 (br (8 ≤ x1) (rt none)
 (gR 11 a0 5 fun v3 =>
 nn v3 fun a5 =>
 aR 19 a5 x1 fun v4 =>
 rt v4))
set_option maxHeartbeats 4000000 in
set_option maxRecDepth 100000 in
theorem mX10_patternAt {E : Ev} {l : Launch} (a0 : Nat) (x1 : Int32) : MF E l dpX10_patternAt yX10_patternAt cX10_patternAt 2 (some (.object "NeedleHomes$Pattern")) (rvR E.1) [.ref (E.1 + a0), .int x1] (fX10_patternAt a0 x1) := by
  refine MF.of (lv := [(0, .ref (E.1 + a0)), (1, .int x1)]) (by decide) (Nat.le_of_ble_eq_true rfl) rfl ?_
  unfold fX10_patternAt
  refine sn_iload_n (pc := 0) (j := 1) dX10_patternAt_0 rfl rfl ?_
  refine sn_iconst (pc := 1) (v := 0) dX10_patternAt_1 (by decide) ?_
  refine sn_aload_n (pc := 2) (j := 0) dX10_patternAt_2 rfl rfl ?_
  refine sn_gI (pc := 3) dX10_patternAt_3 flX10_81 rfl (fun v1 => ?_)
  refine sn_iconst (pc := 6) (v := 1) dX10_patternAt_6 (by decide) ?_
  refine sn_isub (pc := 7) dX10_patternAt_7 ?_
  refine sn_callSN (pc := 8) dX10_patternAt_8 iX11_within wt2_96 (List.mem_of_getElem? (i := 9) rfl) (mX11_within x1 0 (v1 - 1)) (by decide) rfl rfl (Nat.le_of_ble_eq_true rfl) (fun v2 => ?_)
  refine sn_if_eq (pc := 11) (tgt := 29) dX10_patternAt_11 (by decide) ?_ ?_
  · refine sn_null (pc := 29) dX10_patternAt_29 ?_
    exact sn_aret (pc := 30) (v := none) dX10_patternAt_30 rfl (Or.inl ⟨_, rfl⟩)
  · refine sn_iload_n (pc := 14) (j := 1) dX10_patternAt_14 rfl rfl ?_
    refine sn_bipush (pc := 15) (v := 8) dX10_patternAt_15 (by decide) ?_
    refine sn_icmp_ge (pc := 17) (tgt := 29) dX10_patternAt_17 (by decide) ?_ ?_
    · refine sn_null (pc := 29) dX10_patternAt_29 ?_
      exact sn_aret (pc := 30) (v := none) dX10_patternAt_30 rfl (Or.inl ⟨_, rfl⟩)
    · refine sn_aload_n (pc := 20) (j := 0) dX10_patternAt_20 rfl rfl ?_
      refine sn_gR (pc := 21) dX10_patternAt_21 flX10_21 rfl (fun v3 => ?_)
      refine sn_iload_n (pc := 24) (j := 1) dX10_patternAt_24 rfl rfl ?_
      rcases v3 with _ | a5
      · exact sn_no
      refine sn_nn ?_
      refine sn_aald (t := 5) (pc := 25) dX10_patternAt_25 (by decide) rfl (fun v4 => ?_)
      refine sn_goto (pc := 26) (tgt := 30) dX10_patternAt_26 (by decide) ?_
      exact sn_aret (pc := 30) (v := v4) dX10_patternAt_30 rfl (Or.inl ⟨_, rfl⟩)
theorem iX10_patternAt : MI yX10_patternAt cX10_patternAt 2 (some (.object "NeedleHomes$Pattern")) 1 := ⟨wt1_2, wt3_195, by decide +kernel, by decide⟩
-- NeedleHomes$Hand hasHay(I)Z
theorem dX2_hasHay_0 : decode cX2_hasHay 0 = .ok (.iload_n 1, 1) := by decide +kernel
theorem dX2_hasHay_1 : decode cX2_hasHay 1 = .ok (.iconst 0, 1) := by decide +kernel
theorem dX2_hasHay_2 : decode cX2_hasHay 2 = .ok (.sipush 142, 3) := by decide +kernel
theorem dX2_hasHay_5 : decode cX2_hasHay 5 = .ok (.invokestatic 46, 3) := by decide +kernel
theorem dX2_hasHay_8 : decode cX2_hasHay 8 = .ok (.ifCond .eq 27, 3) := by decide +kernel
theorem dX2_hasHay_11 : decode cX2_hasHay 11 = .ok (.aload_n 0, 1) := by decide +kernel
theorem dX2_hasHay_12 : decode cX2_hasHay 12 = .ok (.getfield 15, 3) := by decide +kernel
theorem dX2_hasHay_15 : decode cX2_hasHay 15 = .ok (.iload_n 1, 1) := by decide +kernel
theorem dX2_hasHay_16 : decode cX2_hasHay 16 = .ok (.bipush 32, 2) := by decide +kernel
theorem dX2_hasHay_18 : decode cX2_hasHay 18 = .ok (.idiv, 1) := by decide +kernel
theorem dX2_hasHay_19 : decode cX2_hasHay 19 = .ok (.iaload, 1) := by decide +kernel
theorem dX2_hasHay_20 : decode cX2_hasHay 20 = .ok (.iload_n 1, 1) := by decide +kernel
theorem dX2_hasHay_21 : decode cX2_hasHay 21 = .ok (.bipush 32, 2) := by decide +kernel
theorem dX2_hasHay_23 : decode cX2_hasHay 23 = .ok (.irem, 1) := by decide +kernel
theorem dX2_hasHay_24 : decode cX2_hasHay 24 = .ok (.ishr, 1) := by decide +kernel
theorem dX2_hasHay_25 : decode cX2_hasHay 25 = .ok (.iconst 1, 1) := by decide +kernel
theorem dX2_hasHay_26 : decode cX2_hasHay 26 = .ok (.iand, 1) := by decide +kernel
theorem dX2_hasHay_27 : decode cX2_hasHay 27 = .ok (.iconst 1, 1) := by decide +kernel
theorem dX2_hasHay_28 : decode cX2_hasHay 28 = .ok (.if_icmp .ne 7, 3) := by decide +kernel
theorem dX2_hasHay_31 : decode cX2_hasHay 31 = .ok (.iconst 1, 1) := by decide +kernel
theorem dX2_hasHay_32 : decode cX2_hasHay 32 = .ok (.goto 4, 3) := by decide +kernel
theorem dX2_hasHay_35 : decode cX2_hasHay 35 = .ok (.iconst 0, 1) := by decide +kernel
theorem dX2_hasHay_36 : decode cX2_hasHay 36 = .ok (.ireturn, 1) := by decide +kernel
abbrev dpX2_hasHay : Nat := 1
def fX2_hasHay (a0 : Nat) (x1 : Int32) : St → Option (Bool × St) :=
 cl (fX11_within x1 0 142) fun v1 =>
 br ((bi v1) = 0) (rtZ 0)
 (gR 3 a0 6 fun v2 =>
 dv 32 <|
 nn v2 fun a4 =>
 aI 15 a4 (x1 / 32) fun v3 =>
 dv 32 <|
 br (((v3 >>> ((irm x1 32) &&& 31)) &&& 1) = 1) (rtZ 1)
 (rtZ 0))
set_option maxHeartbeats 4000000 in
set_option maxRecDepth 100000 in
theorem mX2_hasHay {E : Ev} {l : Launch} (a0 : Nat) (x1 : Int32) : MF E l dpX2_hasHay yX2_hasHay cX2_hasHay 2 (some .boolean) rvZ [.ref (E.1 + a0), .int x1] (fX2_hasHay a0 x1) := by
  refine MF.of (lv := [(0, .ref (E.1 + a0)), (1, .int x1)]) (by decide) (Nat.le_of_ble_eq_true rfl) rfl ?_
  unfold fX2_hasHay
  refine sn_iload_n (pc := 0) (j := 1) dX2_hasHay_0 rfl rfl ?_
  refine sn_iconst (pc := 1) (v := 0) dX2_hasHay_1 (by decide) ?_
  refine sn_sipush (pc := 2) (v := 142) dX2_hasHay_2 (by decide) ?_
  refine sn_callSN (pc := 5) dX2_hasHay_5 iX11_within wt2_96 (List.mem_of_getElem? (i := 13) rfl) (mX11_within x1 0 142) (by decide) rfl rfl (Nat.le_of_ble_eq_true rfl) (fun v1 => ?_)
  refine sn_if_eq (pc := 8) (tgt := 35) dX2_hasHay_8 (by decide) ?_ ?_
  · refine sn_iconst (pc := 35) (v := 0) dX2_hasHay_35 (by decide) ?_
    exact sn_zret (pc := 36) dX2_hasHay_36 rfl
  · refine sn_aload_n (pc := 11) (j := 0) dX2_hasHay_11 rfl rfl ?_
    refine sn_gR (pc := 12) dX2_hasHay_12 flX2_15 rfl (fun v2 => ?_)
    refine sn_iload_n (pc := 15) (j := 1) dX2_hasHay_15 rfl rfl ?_
    refine sn_bipush (pc := 16) (v := 32) dX2_hasHay_16 (by decide) ?_
    refine sn_idiv (pc := 18) dX2_hasHay_18 ?_
    rcases v2 with _ | a4
    · exact sn_no
    refine sn_nn ?_
    refine sn_iald (pc := 19) dX2_hasHay_19 (fun v3 => ?_)
    refine sn_iload_n (pc := 20) (j := 1) dX2_hasHay_20 rfl rfl ?_
    refine sn_bipush (pc := 21) (v := 32) dX2_hasHay_21 (by decide) ?_
    refine sn_irem (pc := 23) dX2_hasHay_23 ?_
    refine sn_ishr (pc := 24) dX2_hasHay_24 ?_
    refine sn_iconst (pc := 25) (v := 1) dX2_hasHay_25 (by decide) ?_
    refine sn_iand (pc := 26) dX2_hasHay_26 ?_
    refine sn_iconst (pc := 27) (v := 1) dX2_hasHay_27 (by decide) ?_
    refine sn_icmp_ne (pc := 28) (tgt := 35) dX2_hasHay_28 (by decide) ?_ ?_
    · refine sn_iconst (pc := 35) (v := 0) dX2_hasHay_35 (by decide) ?_
      exact sn_zret (pc := 36) dX2_hasHay_36 rfl
    · refine sn_iconst (pc := 31) (v := 1) dX2_hasHay_31 (by decide) ?_
      refine sn_goto (pc := 32) (tgt := 36) dX2_hasHay_32 (by decide) ?_
      exact sn_zret (pc := 36) dX2_hasHay_36 rfl
theorem iX2_hasHay : MI yX2_hasHay cX2_hasHay 2 (some .boolean) 1 := ⟨wt1_19, wt4_101, by decide +kernel, by decide⟩
