-- NeedleHomesModel list(II)I
theorem dX12_list_0 : decode cX12_list 0 = .ok (.aload_n 0, 1) := by decide +kernel
theorem dX12_list_1 : decode cX12_list 1 = .ok (.invokevirtual 169, 3) := by decide +kernel
theorem dX12_list_4 : decode cX12_list 4 = .ok (.aload_n 0, 1) := by decide +kernel
theorem dX12_list_5 : decode cX12_list 5 = .ok (.getfield 7, 3) := by decide +kernel
theorem dX12_list_8 : decode cX12_list 8 = .ok (.iconst 1, 1) := by decide +kernel
theorem dX12_list_9 : decode cX12_list 9 = .ok (.iaload, 1) := by decide +kernel
theorem dX12_list_10 : decode cX12_list 10 = .ok (.bipush 10, 2) := by decide +kernel
theorem dX12_list_12 : decode cX12_list 12 = .ok (.if_icmp .eq 23, 3) := by decide +kernel
theorem dX12_list_15 : decode cX12_list 15 = .ok (.iload_n 1, 1) := by decide +kernel
theorem dX12_list_16 : decode cX12_list 16 = .ok (.iconst 0, 1) := by decide +kernel
theorem dX12_list_17 : decode cX12_list 17 = .ok (.iconst 2, 1) := by decide +kernel
theorem dX12_list_18 : decode cX12_list 18 = .ok (.invokestatic 51, 3) := by decide +kernel
theorem dX12_list_21 : decode cX12_list 21 = .ok (.ifCond .eq 14, 3) := by decide +kernel
theorem dX12_list_24 : decode cX12_list 24 = .ok (.iload_n 2, 1) := by decide +kernel
theorem dX12_list_25 : decode cX12_list 25 = .ok (.iconst 0, 1) := by decide +kernel
theorem dX12_list_26 : decode cX12_list 26 = .ok (.sipush 142, 3) := by decide +kernel
theorem dX12_list_29 : decode cX12_list 29 = .ok (.invokestatic 51, 3) := by decide +kernel
theorem dX12_list_32 : decode cX12_list 32 = .ok (.ifCond .ne 6, 3) := by decide +kernel
theorem dX12_list_35 : decode cX12_list 35 = .ok (.bipush (-2), 2) := by decide +kernel
theorem dX12_list_37 : decode cX12_list 37 = .ok (.ireturn, 1) := by decide +kernel
theorem dX12_list_38 : decode cX12_list 38 = .ok (.aload_n 0, 1) := by decide +kernel
theorem dX12_list_39 : decode cX12_list 39 = .ok (.iconst 0, 1) := by decide +kernel
theorem dX12_list_40 : decode cX12_list 40 = .ok (.putfield 189, 3) := by decide +kernel
theorem dX12_list_43 : decode cX12_list 43 = .ok (.aload_n 0, 1) := by decide +kernel
theorem dX12_list_44 : decode cX12_list 44 = .ok (.invokevirtual 123, 3) := by decide +kernel
theorem dX12_list_47 : decode cX12_list 47 = .ok (.aload_n 0, 1) := by decide +kernel
theorem dX12_list_48 : decode cX12_list 48 = .ok (.getfield 119, 3) := by decide +kernel
theorem dX12_list_51 : decode cX12_list 51 = .ok (.ifCond .ne 17, 3) := by decide +kernel
theorem dX12_list_54 : decode cX12_list 54 = .ok (.aload_n 0, 1) := by decide +kernel
theorem dX12_list_55 : decode cX12_list 55 = .ok (.getfield 93, 3) := by decide +kernel
theorem dX12_list_58 : decode cX12_list 58 = .ok (.ifCond .eq 10, 3) := by decide +kernel
theorem dX12_list_61 : decode cX12_list 61 = .ok (.aload_n 0, 1) := by decide +kernel
theorem dX12_list_62 : decode cX12_list 62 = .ok (.invokevirtual 198, 3) := by decide +kernel
theorem dX12_list_65 : decode cX12_list 65 = .ok (.goto (-18), 3) := by decide +kernel
theorem dX12_list_68 : decode cX12_list 68 = .ok (.aload_n 0, 1) := by decide +kernel
theorem dX12_list_69 : decode cX12_list 69 = .ok (.getfield 7, 3) := by decide +kernel
theorem dX12_list_72 : decode cX12_list 72 = .ok (.bipush 6, 2) := by decide +kernel
theorem dX12_list_74 : decode cX12_list 74 = .ok (.iaload, 1) := by decide +kernel
theorem dX12_list_75 : decode cX12_list 75 = .ok (.ifCond .eq 5, 3) := by decide +kernel
theorem dX12_list_78 : decode cX12_list 78 = .ok (.iconst (-1), 1) := by decide +kernel
theorem dX12_list_79 : decode cX12_list 79 = .ok (.ireturn, 1) := by decide +kernel
theorem dX12_list_80 : decode cX12_list 80 = .ok (.sipush 240, 3) := by decide +kernel
theorem dX12_list_83 : decode cX12_list 83 = .ok (.sipush 320, 3) := by decide +kernel
theorem dX12_list_86 : decode cX12_list 86 = .ok (.aload_n 0, 1) := by decide +kernel
theorem dX12_list_87 : decode cX12_list 87 = .ok (.getfield 7, 3) := by decide +kernel
theorem dX12_list_90 : decode cX12_list 90 = .ok (.iconst 1, 1) := by decide +kernel
theorem dX12_list_91 : decode cX12_list 91 = .ok (.iaload, 1) := by decide +kernel
theorem dX12_list_92 : decode cX12_list 92 = .ok (.imul, 1) := by decide +kernel
theorem dX12_list_93 : decode cX12_list 93 = .ok (.iadd, 1) := by decide +kernel
theorem dX12_list_94 : decode cX12_list 94 = .ok (.istore_n 3, 1) := by decide +kernel
theorem dX12_list_95 : decode cX12_list 95 = .ok (.aload_n 0, 1) := by decide +kernel
theorem dX12_list_96 : decode cX12_list 96 = .ok (.getfield 7, 3) := by decide +kernel
theorem dX12_list_99 : decode cX12_list 99 = .ok (.iload_n 3, 1) := by decide +kernel
theorem dX12_list_100 : decode cX12_list 100 = .ok (.iload_n 1, 1) := by decide +kernel
theorem dX12_list_101 : decode cX12_list 101 = .ok (.iastore, 1) := by decide +kernel
theorem dX12_list_102 : decode cX12_list 102 = .ok (.aload_n 0, 1) := by decide +kernel
theorem dX12_list_103 : decode cX12_list 103 = .ok (.getfield 7, 3) := by decide +kernel
theorem dX12_list_106 : decode cX12_list 106 = .ok (.iload_n 3, 1) := by decide +kernel
theorem dX12_list_107 : decode cX12_list 107 = .ok (.iconst 1, 1) := by decide +kernel
theorem dX12_list_108 : decode cX12_list 108 = .ok (.iadd, 1) := by decide +kernel
theorem dX12_list_109 : decode cX12_list 109 = .ok (.iload_n 2, 1) := by decide +kernel
theorem dX12_list_110 : decode cX12_list 110 = .ok (.iastore, 1) := by decide +kernel
theorem dX12_list_111 : decode cX12_list 111 = .ok (.aload_n 0, 1) := by decide +kernel
theorem dX12_list_112 : decode cX12_list 112 = .ok (.getfield 7, 3) := by decide +kernel
theorem dX12_list_115 : decode cX12_list 115 = .ok (.iload_n 3, 1) := by decide +kernel
theorem dX12_list_116 : decode cX12_list 116 = .ok (.iconst 2, 1) := by decide +kernel
theorem dX12_list_117 : decode cX12_list 117 = .ok (.iadd, 1) := by decide +kernel
theorem dX12_list_118 : decode cX12_list 118 = .ok (.aload_n 0, 1) := by decide +kernel
theorem dX12_list_119 : decode cX12_list 119 = .ok (.getfield 7, 3) := by decide +kernel
theorem dX12_list_122 : decode cX12_list 122 = .ok (.iconst 4, 1) := by decide +kernel
theorem dX12_list_123 : decode cX12_list 123 = .ok (.iaload, 1) := by decide +kernel
theorem dX12_list_124 : decode cX12_list 124 = .ok (.iastore, 1) := by decide +kernel
theorem dX12_list_125 : decode cX12_list 125 = .ok (.aload_n 0, 1) := by decide +kernel
theorem dX12_list_126 : decode cX12_list 126 = .ok (.getfield 7, 3) := by decide +kernel
theorem dX12_list_129 : decode cX12_list 129 = .ok (.iload_n 3, 1) := by decide +kernel
theorem dX12_list_130 : decode cX12_list 130 = .ok (.iconst 3, 1) := by decide +kernel
theorem dX12_list_131 : decode cX12_list 131 = .ok (.iadd, 1) := by decide +kernel
theorem dX12_list_132 : decode cX12_list 132 = .ok (.aload_n 0, 1) := by decide +kernel
theorem dX12_list_133 : decode cX12_list 133 = .ok (.getfield 189, 3) := by decide +kernel
theorem dX12_list_136 : decode cX12_list 136 = .ok (.iastore, 1) := by decide +kernel
theorem dX12_list_137 : decode cX12_list 137 = .ok (.iconst 0, 1) := by decide +kernel
theorem dX12_list_138 : decode cX12_list 138 = .ok (.istore 4, 2) := by decide +kernel
theorem dX12_list_140 : decode cX12_list 140 = .ok (.iload 4, 2) := by decide +kernel
theorem dX12_list_142 : decode cX12_list 142 = .ok (.sipush 304, 3) := by decide +kernel
theorem dX12_list_145 : decode cX12_list 145 = .ok (.if_icmp .ge 27, 3) := by decide +kernel
theorem dX12_list_148 : decode cX12_list 148 = .ok (.aload_n 0, 1) := by decide +kernel
theorem dX12_list_149 : decode cX12_list 149 = .ok (.getfield 7, 3) := by decide +kernel
theorem dX12_list_152 : decode cX12_list 152 = .ok (.iload_n 3, 1) := by decide +kernel
theorem dX12_list_153 : decode cX12_list 153 = .ok (.iconst 4, 1) := by decide +kernel
theorem dX12_list_154 : decode cX12_list 154 = .ok (.iadd, 1) := by decide +kernel
theorem dX12_list_155 : decode cX12_list 155 = .ok (.iload 4, 2) := by decide +kernel
theorem dX12_list_157 : decode cX12_list 157 = .ok (.iadd, 1) := by decide +kernel
theorem dX12_list_158 : decode cX12_list 158 = .ok (.aload_n 0, 1) := by decide +kernel
theorem dX12_list_159 : decode cX12_list 159 = .ok (.getfield 30, 3) := by decide +kernel
theorem dX12_list_162 : decode cX12_list 162 = .ok (.iload 4, 2) := by decide +kernel
theorem dX12_list_164 : decode cX12_list 164 = .ok (.iaload, 1) := by decide +kernel
theorem dX12_list_165 : decode cX12_list 165 = .ok (.iastore, 1) := by decide +kernel
theorem dX12_list_166 : decode cX12_list 166 = .ok (.iinc 4 1, 3) := by decide +kernel
theorem dX12_list_169 : decode cX12_list 169 = .ok (.goto (-29), 3) := by decide +kernel
theorem dX12_list_172 : decode cX12_list 172 = .ok (.aload_n 0, 1) := by decide +kernel
theorem dX12_list_173 : decode cX12_list 173 = .ok (.getfield 7, 3) := by decide +kernel
theorem dX12_list_176 : decode cX12_list 176 = .ok (.iconst 1, 1) := by decide +kernel
theorem dX12_list_177 : decode cX12_list 177 = .ok (.dup2, 1) := by decide +kernel
theorem dX12_list_178 : decode cX12_list 178 = .ok (.iaload, 1) := by decide +kernel
theorem dX12_list_179 : decode cX12_list 179 = .ok (.iconst 1, 1) := by decide +kernel
theorem dX12_list_180 : decode cX12_list 180 = .ok (.iadd, 1) := by decide +kernel
theorem dX12_list_181 : decode cX12_list 181 = .ok (.iastore, 1) := by decide +kernel
theorem dX12_list_182 : decode cX12_list 182 = .ok (.aload_n 0, 1) := by decide +kernel
theorem dX12_list_183 : decode cX12_list 183 = .ok (.getfield 7, 3) := by decide +kernel
theorem dX12_list_186 : decode cX12_list 186 = .ok (.iconst 1, 1) := by decide +kernel
theorem dX12_list_187 : decode cX12_list 187 = .ok (.iaload, 1) := by decide +kernel
theorem dX12_list_188 : decode cX12_list 188 = .ok (.iconst 1, 1) := by decide +kernel
theorem dX12_list_189 : decode cX12_list 189 = .ok (.isub, 1) := by decide +kernel
theorem dX12_list_190 : decode cX12_list 190 = .ok (.ireturn, 1) := by decide +kernel
abbrev dpX12_list : Nat := 7
def fX12_list_140 (k140 : (Nat × Int32 × Int32) → St → Option (Int32 × St)) (a0 : Nat) (x3 : Int32) (x4 : Int32) : St → Option (Int32 × St) :=
 br (304 ≤ x4) (gR 13 a0 0 fun v3001 =>
 nn v3001 fun a3003 =>
 aI 15 a3003 1 fun v3002 =>
 wI a3003 1 (v3002 + 1) <|
 gR 13 a0 0 fun v3004 =>
 nn v3004 fun a3006 =>
 aI 15 a3006 1 fun v3005 =>
 rt (v3005 - 1))
 (gR 13 a0 0 fun v3007 =>
 gR 13 a0 16 fun v3008 =>
 nn v3008 fun a3010 =>
 aI 15 a3010 x4 fun v3009 =>
 nn v3007 fun a3011 =>
 wI a3011 ((x3 + 4) + x4) v3009 <|
 k140 (a0, x3, (x4 + 1)))
set_option maxHeartbeats 4000000 in
set_option maxRecDepth 100000 in
theorem sfX12_list_140 {E : Ev} {l : Launch} (k140 : (Nat × Int32 × Int32) → St → Option (Int32 × St)) (hk140 : ∀ p : Nat × Int32 × Int32, Snd E l (dpX12_list, RX12, cX12_list, 5, (some .int), "list") rvI 140 [(0, .ref (E.1 + p.1)), (3, .int p.2.1), (4, .int p.2.2)] [] (k140 p)) (a0 : Nat) (x3 : Int32) (x4 : Int32) : Snd E l (dpX12_list, RX12, cX12_list, 5, (some .int), "list") rvI 140 [(0, .ref (E.1 + a0)), (3, .int x3), (4, .int x4)] [] (fX12_list_140 k140 a0 x3 x4) := by
  unfold fX12_list_140
  refine sn_iload (pc := 140) (j := 2) dX12_list_140 rfl ?_
  refine sn_sipush (pc := 142) (v := 304) dX12_list_142 (by decide) ?_
  refine sn_icmp_ge (pc := 145) (tgt := 172) dX12_list_145 (by decide) ?_ ?_
  · refine sn_aload_n (pc := 172) (j := 0) dX12_list_172 rfl rfl ?_
    refine sn_gR (pc := 173) dX12_list_173 flX12_7 rfl (fun v3001 => ?_)
    refine sn_iconst (pc := 176) (v := 1) dX12_list_176 (by decide) ?_
    refine sn_dup2 (pc := 177) dX12_list_177 rfl (rf_cat _ _) ?_
    rcases v3001 with _ | a3003
    · exact sn_no
    refine sn_nn ?_
    refine sn_iald (pc := 178) dX12_list_178 (fun v3002 => ?_)
    refine sn_iconst (pc := 179) (v := 1) dX12_list_179 (by decide) ?_
    refine sn_iadd (pc := 180) dX12_list_180 ?_
    refine sn_iast (pc := 181) dX12_list_181 ?_
    refine sn_aload_n (pc := 182) (j := 0) dX12_list_182 rfl rfl ?_
    refine sn_gR (pc := 183) dX12_list_183 flX12_7 rfl (fun v3004 => ?_)
    refine sn_iconst (pc := 186) (v := 1) dX12_list_186 (by decide) ?_
    rcases v3004 with _ | a3006
    · exact sn_no
    refine sn_nn ?_
    refine sn_iald (pc := 187) dX12_list_187 (fun v3005 => ?_)
    refine sn_iconst (pc := 188) (v := 1) dX12_list_188 (by decide) ?_
    refine sn_isub (pc := 189) dX12_list_189 ?_
    exact sn_iret (pc := 190) dX12_list_190 rfl
  · refine sn_aload_n (pc := 148) (j := 0) dX12_list_148 rfl rfl ?_
    refine sn_gR (pc := 149) dX12_list_149 flX12_7 rfl (fun v3007 => ?_)
    refine sn_iload_n (pc := 152) (j := 1) dX12_list_152 rfl rfl ?_
    refine sn_iconst (pc := 153) (v := 4) dX12_list_153 (by decide) ?_
    refine sn_iadd (pc := 154) dX12_list_154 ?_
    refine sn_iload (pc := 155) (j := 2) dX12_list_155 rfl ?_
    refine sn_iadd (pc := 157) dX12_list_157 ?_
    refine sn_aload_n (pc := 158) (j := 0) dX12_list_158 rfl rfl ?_
    refine sn_gR (pc := 159) dX12_list_159 flX12_30 rfl (fun v3008 => ?_)
    refine sn_iload (pc := 162) (j := 2) dX12_list_162 rfl ?_
    rcases v3008 with _ | a3010
    · exact sn_no
    refine sn_nn ?_
    refine sn_iald (pc := 164) dX12_list_164 (fun v3009 => ?_)
    rcases v3007 with _ | a3011
    · exact sn_no
    refine sn_nn ?_
    refine sn_iast (pc := 165) dX12_list_165 ?_
    refine sn_iinc (pc := 166) (v := x4 + 1) (lv' := [(4, .int (x4 + 1)), (0, .ref (E.1 + a0)), (3, .int x3)]) (j := 2) dX12_list_166 rfl rfl (by decide) rfl ?_
    refine sn_goto (pc := 169) (tgt := 140) dX12_list_169 (by decide) ?_
    exact sn_sub (lv' := [(0, .ref (E.1 + a0)), (3, .int x3), (4, .int (x4 + 1))]) [1, 2, 0] rfl (hk140 (a0, x3, (x4 + 1)))
def fX12_list_68 (a0 : Nat) (x1 : Int32) (x2 : Int32) : St → Option (Int32 × St) :=
 gR 13 a0 0 fun v2001 =>
 nn v2001 fun a2003 =>
 aI 15 a2003 6 fun v2002 =>
 br (v2002 = 0) (gR 13 a0 0 fun v2004 =>
 nn v2004 fun a2006 =>
 aI 15 a2006 1 fun v2005 =>
 gR 13 a0 0 fun v2007 =>
 nn v2007 fun a2008 =>
 wI a2008 (240 + (320 * v2005)) x1 <|
 gR 13 a0 0 fun v2009 =>
 nn v2009 fun a2010 =>
 wI a2010 ((240 + (320 * v2005)) + 1) x2 <|
 gR 13 a0 0 fun v2011 =>
 gR 13 a0 0 fun v2012 =>
 nn v2012 fun a2014 =>
 aI 15 a2014 4 fun v2013 =>
 nn v2011 fun a2015 =>
 wI a2015 ((240 + (320 * v2005)) + 2) v2013 <|
 gR 13 a0 0 fun v2016 =>
 gI 13 a0 15 fun v2017 =>
 nn v2016 fun a2018 =>
 wI a2018 ((240 + (320 * v2005)) + 3) v2017 <|
 itr (fun k (p : Nat × Int32 × Int32) => fX12_list_140  k p.1 p.2.1 p.2.2) FU (a0, (240 + (320 * v2005)), 0))
 (rt (-1))
set_option maxHeartbeats 4000000 in
set_option maxRecDepth 100000 in
theorem sfX12_list_68 {E : Ev} {l : Launch} (a0 : Nat) (x1 : Int32) (x2 : Int32) : Snd E l (dpX12_list, RX12, cX12_list, 5, (some .int), "list") rvI 68 [(0, .ref (E.1 + a0)), (1, .int x1), (2, .int x2)] [] (fX12_list_68 a0 x1 x2) := by
  unfold fX12_list_68
  refine sn_aload_n (pc := 68) (j := 0) dX12_list_68 rfl rfl ?_
  refine sn_gR (pc := 69) dX12_list_69 flX12_7 rfl (fun v2001 => ?_)
  refine sn_bipush (pc := 72) (v := 6) dX12_list_72 (by decide) ?_
  rcases v2001 with _ | a2003
  · exact sn_no
  refine sn_nn ?_
  refine sn_iald (pc := 74) dX12_list_74 (fun v2002 => ?_)
  refine sn_if_eq (pc := 75) (tgt := 80) dX12_list_75 (by decide) ?_ ?_
  · refine sn_sipush (pc := 80) (v := 240) dX12_list_80 (by decide) ?_
    refine sn_sipush (pc := 83) (v := 320) dX12_list_83 (by decide) ?_
    refine sn_aload_n (pc := 86) (j := 0) dX12_list_86 rfl rfl ?_
    refine sn_gR (pc := 87) dX12_list_87 flX12_7 rfl (fun v2004 => ?_)
    refine sn_iconst (pc := 90) (v := 1) dX12_list_90 (by decide) ?_
    rcases v2004 with _ | a2006
    · exact sn_no
    refine sn_nn ?_
    refine sn_iald (pc := 91) dX12_list_91 (fun v2005 => ?_)
    refine sn_imul (pc := 92) dX12_list_92 ?_
    refine sn_iadd (pc := 93) dX12_list_93 ?_
    refine sn_istore_n (pc := 94) (i := 3) (lv' := [(3, .int (240 + (320 * v2005))), (0, .ref (E.1 + a0)), (1, .int x1), (2, .int x2)]) dX12_list_94 rfl (by decide) rfl ?_
    refine sn_aload_n (pc := 95) (j := 1) dX12_list_95 rfl rfl ?_
    refine sn_gR (pc := 96) dX12_list_96 flX12_7 rfl (fun v2007 => ?_)
    refine sn_iload_n (pc := 99) (j := 0) dX12_list_99 rfl rfl ?_
    refine sn_iload_n (pc := 100) (j := 2) dX12_list_100 rfl rfl ?_
    rcases v2007 with _ | a2008
    · exact sn_no
    refine sn_nn ?_
    refine sn_iast (pc := 101) dX12_list_101 ?_
    refine sn_aload_n (pc := 102) (j := 1) dX12_list_102 rfl rfl ?_
    refine sn_gR (pc := 103) dX12_list_103 flX12_7 rfl (fun v2009 => ?_)
    refine sn_iload_n (pc := 106) (j := 0) dX12_list_106 rfl rfl ?_
    refine sn_iconst (pc := 107) (v := 1) dX12_list_107 (by decide) ?_
    refine sn_iadd (pc := 108) dX12_list_108 ?_
    refine sn_iload_n (pc := 109) (j := 3) dX12_list_109 rfl rfl ?_
    rcases v2009 with _ | a2010
    · exact sn_no
    refine sn_nn ?_
    refine sn_iast (pc := 110) dX12_list_110 ?_
    refine sn_aload_n (pc := 111) (j := 1) dX12_list_111 rfl rfl ?_
    refine sn_gR (pc := 112) dX12_list_112 flX12_7 rfl (fun v2011 => ?_)
    refine sn_iload_n (pc := 115) (j := 0) dX12_list_115 rfl rfl ?_
    refine sn_iconst (pc := 116) (v := 2) dX12_list_116 (by decide) ?_
    refine sn_iadd (pc := 117) dX12_list_117 ?_
    refine sn_aload_n (pc := 118) (j := 1) dX12_list_118 rfl rfl ?_
    refine sn_gR (pc := 119) dX12_list_119 flX12_7 rfl (fun v2012 => ?_)
    refine sn_iconst (pc := 122) (v := 4) dX12_list_122 (by decide) ?_
    rcases v2012 with _ | a2014
    · exact sn_no
    refine sn_nn ?_
    refine sn_iald (pc := 123) dX12_list_123 (fun v2013 => ?_)
    rcases v2011 with _ | a2015
    · exact sn_no
    refine sn_nn ?_
    refine sn_iast (pc := 124) dX12_list_124 ?_
    refine sn_aload_n (pc := 125) (j := 1) dX12_list_125 rfl rfl ?_
    refine sn_gR (pc := 126) dX12_list_126 flX12_7 rfl (fun v2016 => ?_)
    refine sn_iload_n (pc := 129) (j := 0) dX12_list_129 rfl rfl ?_
    refine sn_iconst (pc := 130) (v := 3) dX12_list_130 (by decide) ?_
    refine sn_iadd (pc := 131) dX12_list_131 ?_
    refine sn_aload_n (pc := 132) (j := 1) dX12_list_132 rfl rfl ?_
    refine sn_gI (pc := 133) dX12_list_133 flX12_189 rfl (fun v2017 => ?_)
    rcases v2016 with _ | a2018
    · exact sn_no
    refine sn_nn ?_
    refine sn_iast (pc := 136) dX12_list_136 ?_
    refine sn_iconst (pc := 137) (v := 0) dX12_list_137 (by decide) ?_
    refine sn_istore (pc := 138) (i := 4) (lv' := [(4, .int 0), (3, .int (240 + (320 * v2005))), (0, .ref (E.1 + a0)), (1, .int x1), (2, .int x2)]) dX12_list_138 (by decide) rfl ?_
    exact sn_sub (lv' := [(0, .ref (E.1 + a0)), (3, .int (240 + (320 * v2005))), (4, .int 0)]) [2, 1, 0] rfl (sn_itr (lvf := fun p => [(0, .ref (E.1 + p.1)), (3, .int p.2.1), (4, .int p.2.2)]) (stf := fun p => []) (fun k hk p => sfX12_list_140  k hk p.1 p.2.1 p.2.2) FU (a0, (240 + (320 * v2005)), 0))
  · refine sn_iconst (pc := 78) (v := (-1)) dX12_list_78 (by decide) ?_
    exact sn_iret (pc := 79) dX12_list_79 rfl
def fX12_list_47 (k47 : (Nat × Int32 × Int32) → St → Option (Int32 × St)) (a0 : Nat) (x1 : Int32) (x2 : Int32) : St → Option (Int32 × St) :=
 gI 13 a0 9 fun v1001 =>
 br (v1001 = 0) (gI 13 a0 5 fun v1002 =>
 br (v1002 = 0) (fX12_list_68  a0 x1 x2)
 (ck 13 a0 <| cl (fX12_aLine a0) fun v1003 =>
 k47 (a0, x1, x2)))
 (fX12_list_68  a0 x1 x2)
set_option maxHeartbeats 4000000 in
set_option maxRecDepth 100000 in
theorem sfX12_list_47 {E : Ev} {l : Launch} (k47 : (Nat × Int32 × Int32) → St → Option (Int32 × St)) (hk47 : ∀ p : Nat × Int32 × Int32, Snd E l (dpX12_list, RX12, cX12_list, 5, (some .int), "list") rvI 47 [(0, .ref (E.1 + p.1)), (1, .int p.2.1), (2, .int p.2.2)] [] (k47 p)) (a0 : Nat) (x1 : Int32) (x2 : Int32) : Snd E l (dpX12_list, RX12, cX12_list, 5, (some .int), "list") rvI 47 [(0, .ref (E.1 + a0)), (1, .int x1), (2, .int x2)] [] (fX12_list_47 k47 a0 x1 x2) := by
  unfold fX12_list_47
  refine sn_aload_n (pc := 47) (j := 0) dX12_list_47 rfl rfl ?_
  refine sn_gI (pc := 48) dX12_list_48 flX12_119 rfl (fun v1001 => ?_)
  refine sn_if_ne (pc := 51) (tgt := 68) dX12_list_51 (by decide) ?_ ?_
  · exact sn_sub (lv' := [(0, .ref (E.1 + a0)), (1, .int x1), (2, .int x2)]) [0, 1, 2] rfl (sfX12_list_68  a0 x1 x2)
  · refine sn_aload_n (pc := 54) (j := 0) dX12_list_54 rfl rfl ?_
    refine sn_gI (pc := 55) dX12_list_55 flX12_93 rfl (fun v1002 => ?_)
    refine sn_if_eq (pc := 58) (tgt := 68) dX12_list_58 (by decide) ?_ ?_
    · exact sn_sub (lv' := [(0, .ref (E.1 + a0)), (1, .int x1), (2, .int x2)]) [0, 1, 2] rfl (sfX12_list_68  a0 x1 x2)
    · refine sn_aload_n (pc := 61) (j := 0) dX12_list_61 rfl rfl ?_
      refine sn_callV (ci := 12) (pc := 62) dX12_list_62 iX12_aLine wt7_14 ws_56 wt7_12 ⟨_, rfl, rfl⟩ (by decide) (mX12_aLine a0) (by decide) rfl rfl (Nat.le_of_ble_eq_true rfl) (fun v1003 => ?_)
      refine sn_goto (pc := 65) (tgt := 47) dX12_list_65 (by decide) ?_
      exact sn_sub (lv' := [(0, .ref (E.1 + a0)), (1, .int x1), (2, .int x2)]) [0, 1, 2] rfl (hk47 (a0, x1, x2))
def fX12_list (a0 : Nat) (x1 : Int32) (x2 : Int32) : St → Option (Int32 × St) :=
 ck 13 a0 <| cl (fX12_begins a0) fun v1 =>
 gR 13 a0 0 fun v2 =>
 nn v2 fun a4 =>
 aI 15 a4 1 fun v3 =>
 br (v3 = 10) (rt (-2))
 (cl (fX12_isIn x1 0 2) fun v5 =>
 br ((bi v5) = 0) (rt (-2))
 (cl (fX12_isIn x2 0 142) fun v6 =>
 br ((bi v6) = 0) (rt (-2))
 (pI 13 a0 15 0 <|
 ck 13 a0 <| cl (fX12_step a0) fun v7 =>
 itr (fun k (p : Nat × Int32 × Int32) => fX12_list_47  k p.1 p.2.1 p.2.2) FU (a0, x1, x2))))
set_option maxHeartbeats 4000000 in
set_option maxRecDepth 100000 in
theorem mX12_list {E : Ev} {l : Launch} (a0 : Nat) (x1 : Int32) (x2 : Int32) : MF E l dpX12_list yX12_list cX12_list 5 (some .int) rvI [.ref (E.1 + a0), .int x1, .int x2] (fX12_list a0 x1 x2) := by
  refine MF.of (lv := [(0, .ref (E.1 + a0)), (1, .int x1), (2, .int x2)]) (by decide) (Nat.le_of_ble_eq_true rfl) rfl ?_
  unfold fX12_list
  refine sn_aload_n (pc := 0) (j := 0) dX12_list_0 rfl rfl ?_
  refine sn_callV (ci := 12) (pc := 1) dX12_list_1 iX12_begins wt6_135 ws_40 wt6_133 ⟨_, rfl, rfl⟩ (by decide) (mX12_begins a0) (by decide) rfl rfl (Nat.le_of_ble_eq_true rfl) (fun v1 => ?_)
  refine sn_aload_n (pc := 4) (j := 0) dX12_list_4 rfl rfl ?_
  refine sn_gR (pc := 5) dX12_list_5 flX12_7 rfl (fun v2 => ?_)
  refine sn_iconst (pc := 8) (v := 1) dX12_list_8 (by decide) ?_
  rcases v2 with _ | a4
  · exact sn_no
  refine sn_nn ?_
  refine sn_iald (pc := 9) dX12_list_9 (fun v3 => ?_)
  refine sn_bipush (pc := 10) (v := 10) dX12_list_10 (by decide) ?_
  refine sn_icmp_eq (pc := 12) (tgt := 35) dX12_list_12 (by decide) ?_ ?_
  · refine sn_bipush (pc := 35) (v := (-2)) dX12_list_35 (by decide) ?_
    exact sn_iret (pc := 37) dX12_list_37 rfl
  · refine sn_iload_n (pc := 15) (j := 1) dX12_list_15 rfl rfl ?_
    refine sn_iconst (pc := 16) (v := 0) dX12_list_16 (by decide) ?_
    refine sn_iconst (pc := 17) (v := 2) dX12_list_17 (by decide) ?_
    refine sn_callS (pc := 18) dX12_list_18 iX12_isIn wt6_138 wt6_137 (mX12_isIn x1 0 2) (by decide) rfl rfl (Nat.le_of_ble_eq_true rfl) (fun v5 => ?_)
    refine sn_if_eq (pc := 21) (tgt := 35) dX12_list_21 (by decide) ?_ ?_
    · refine sn_bipush (pc := 35) (v := (-2)) dX12_list_35 (by decide) ?_
      exact sn_iret (pc := 37) dX12_list_37 rfl
    · refine sn_iload_n (pc := 24) (j := 2) dX12_list_24 rfl rfl ?_
      refine sn_iconst (pc := 25) (v := 0) dX12_list_25 (by decide) ?_
      refine sn_sipush (pc := 26) (v := 142) dX12_list_26 (by decide) ?_
      refine sn_callS (pc := 29) dX12_list_29 iX12_isIn wt6_138 wt6_137 (mX12_isIn x2 0 142) (by decide) rfl rfl (Nat.le_of_ble_eq_true rfl) (fun v6 => ?_)
      refine sn_if_ne (pc := 32) (tgt := 38) dX12_list_32 (by decide) ?_ ?_
      · refine sn_aload_n (pc := 38) (j := 0) dX12_list_38 rfl rfl ?_
        refine sn_iconst (pc := 39) (v := 0) dX12_list_39 (by decide) ?_
        refine sn_pI (pc := 40) dX12_list_40 flX12_189 rfl rfl (Or.inl rfl) ?_
        refine sn_aload_n (pc := 43) (j := 0) dX12_list_43 rfl rfl ?_
        refine sn_callV (ci := 12) (pc := 44) dX12_list_44 iX12_step wt6_147 ws_42 wt6_145 ⟨_, rfl, rfl⟩ (by decide) (mX12_step a0) (by decide) rfl rfl (Nat.le_of_ble_eq_true rfl) (fun v7 => ?_)
        exact sn_sub (lv' := [(0, .ref (E.1 + a0)), (1, .int x1), (2, .int x2)]) [0, 1, 2] rfl (sn_itr (lvf := fun p => [(0, .ref (E.1 + p.1)), (1, .int p.2.1), (2, .int p.2.2)]) (stf := fun p => []) (fun k hk p => sfX12_list_47  k hk p.1 p.2.1 p.2.2) FU (a0, x1, x2))
      · refine sn_bipush (pc := 35) (v := (-2)) dX12_list_35 (by decide) ?_
        exact sn_iret (pc := 37) dX12_list_37 rfl
theorem iX12_list : MI yX12_list cX12_list 5 (some .int) 2 := ⟨wt1_10, wt7_11, by decide +kernel, by decide⟩
-- NeedleHomesModel listOf(III)I
theorem dX12_listOf_0 : decode cX12_listOf 0 = .ok (.iconst (-1), 1) := by decide +kernel
theorem dX12_listOf_1 : decode cX12_listOf 1 = .ok (.istore 4, 2) := by decide +kernel
theorem dX12_listOf_3 : decode cX12_listOf 3 = .ok (.iconst 0, 1) := by decide +kernel
theorem dX12_listOf_4 : decode cX12_listOf 4 = .ok (.istore 5, 2) := by decide +kernel
theorem dX12_listOf_6 : decode cX12_listOf 6 = .ok (.iload 5, 2) := by decide +kernel
theorem dX12_listOf_8 : decode cX12_listOf 8 = .ok (.aload_n 0, 1) := by decide +kernel
theorem dX12_listOf_9 : decode cX12_listOf 9 = .ok (.getfield 7, 3) := by decide +kernel
theorem dX12_listOf_12 : decode cX12_listOf 12 = .ok (.iconst 1, 1) := by decide +kernel
theorem dX12_listOf_13 : decode cX12_listOf 13 = .ok (.iaload, 1) := by decide +kernel
theorem dX12_listOf_14 : decode cX12_listOf 14 = .ok (.if_icmp .ge 99, 3) := by decide +kernel
theorem dX12_listOf_17 : decode cX12_listOf 17 = .ok (.sipush 240, 3) := by decide +kernel
theorem dX12_listOf_20 : decode cX12_listOf 20 = .ok (.sipush 320, 3) := by decide +kernel
theorem dX12_listOf_23 : decode cX12_listOf 23 = .ok (.iload 5, 2) := by decide +kernel
theorem dX12_listOf_25 : decode cX12_listOf 25 = .ok (.imul, 1) := by decide +kernel
theorem dX12_listOf_26 : decode cX12_listOf 26 = .ok (.iadd, 1) := by decide +kernel
theorem dX12_listOf_27 : decode cX12_listOf 27 = .ok (.istore 6, 2) := by decide +kernel
theorem dX12_listOf_29 : decode cX12_listOf 29 = .ok (.aload_n 0, 1) := by decide +kernel
theorem dX12_listOf_30 : decode cX12_listOf 30 = .ok (.getfield 7, 3) := by decide +kernel
theorem dX12_listOf_33 : decode cX12_listOf 33 = .ok (.iload 6, 2) := by decide +kernel
theorem dX12_listOf_35 : decode cX12_listOf 35 = .ok (.iaload, 1) := by decide +kernel
theorem dX12_listOf_36 : decode cX12_listOf 36 = .ok (.iload_n 1, 1) := by decide +kernel
theorem dX12_listOf_37 : decode cX12_listOf 37 = .ok (.if_icmp .ne 70, 3) := by decide +kernel
theorem dX12_listOf_40 : decode cX12_listOf 40 = .ok (.aload_n 0, 1) := by decide +kernel
theorem dX12_listOf_41 : decode cX12_listOf 41 = .ok (.getfield 7, 3) := by decide +kernel
theorem dX12_listOf_44 : decode cX12_listOf 44 = .ok (.iload 6, 2) := by decide +kernel
theorem dX12_listOf_46 : decode cX12_listOf 46 = .ok (.iconst 1, 1) := by decide +kernel
theorem dX12_listOf_47 : decode cX12_listOf 47 = .ok (.iadd, 1) := by decide +kernel
theorem dX12_listOf_48 : decode cX12_listOf 48 = .ok (.iaload, 1) := by decide +kernel
theorem dX12_listOf_49 : decode cX12_listOf 49 = .ok (.iload_n 2, 1) := by decide +kernel
theorem dX12_listOf_50 : decode cX12_listOf 50 = .ok (.if_icmp .gt 57, 3) := by decide +kernel
theorem dX12_listOf_53 : decode cX12_listOf 53 = .ok (.aload_n 0, 1) := by decide +kernel
theorem dX12_listOf_54 : decode cX12_listOf 54 = .ok (.getfield 7, 3) := by decide +kernel
theorem dX12_listOf_57 : decode cX12_listOf 57 = .ok (.iload 6, 2) := by decide +kernel
theorem dX12_listOf_59 : decode cX12_listOf 59 = .ok (.iconst 2, 1) := by decide +kernel
theorem dX12_listOf_60 : decode cX12_listOf 60 = .ok (.iadd, 1) := by decide +kernel
theorem dX12_listOf_61 : decode cX12_listOf 61 = .ok (.iaload, 1) := by decide +kernel
theorem dX12_listOf_62 : decode cX12_listOf 62 = .ok (.iload_n 3, 1) := by decide +kernel
theorem dX12_listOf_63 : decode cX12_listOf 63 = .ok (.if_icmp .le 6, 3) := by decide +kernel
theorem dX12_listOf_66 : decode cX12_listOf 66 = .ok (.goto 41, 3) := by decide +kernel
theorem dX12_listOf_69 : decode cX12_listOf 69 = .ok (.iload 4, 2) := by decide +kernel
theorem dX12_listOf_71 : decode cX12_listOf 71 = .ok (.ifCond .lt 32, 3) := by decide +kernel
theorem dX12_listOf_74 : decode cX12_listOf 74 = .ok (.aload_n 0, 1) := by decide +kernel
theorem dX12_listOf_75 : decode cX12_listOf 75 = .ok (.getfield 7, 3) := by decide +kernel
theorem dX12_listOf_78 : decode cX12_listOf 78 = .ok (.iload 6, 2) := by decide +kernel
theorem dX12_listOf_80 : decode cX12_listOf 80 = .ok (.iconst 1, 1) := by decide +kernel
theorem dX12_listOf_81 : decode cX12_listOf 81 = .ok (.iadd, 1) := by decide +kernel
theorem dX12_listOf_82 : decode cX12_listOf 82 = .ok (.iaload, 1) := by decide +kernel
theorem dX12_listOf_83 : decode cX12_listOf 83 = .ok (.aload_n 0, 1) := by decide +kernel
theorem dX12_listOf_84 : decode cX12_listOf 84 = .ok (.getfield 7, 3) := by decide +kernel
theorem dX12_listOf_87 : decode cX12_listOf 87 = .ok (.sipush 240, 3) := by decide +kernel
theorem dX12_listOf_90 : decode cX12_listOf 90 = .ok (.sipush 320, 3) := by decide +kernel
theorem dX12_listOf_93 : decode cX12_listOf 93 = .ok (.iload 4, 2) := by decide +kernel
theorem dX12_listOf_95 : decode cX12_listOf 95 = .ok (.imul, 1) := by decide +kernel
theorem dX12_listOf_96 : decode cX12_listOf 96 = .ok (.iadd, 1) := by decide +kernel
theorem dX12_listOf_97 : decode cX12_listOf 97 = .ok (.iconst 1, 1) := by decide +kernel
theorem dX12_listOf_98 : decode cX12_listOf 98 = .ok (.iadd, 1) := by decide +kernel
theorem dX12_listOf_99 : decode cX12_listOf 99 = .ok (.iaload, 1) := by decide +kernel
theorem dX12_listOf_100 : decode cX12_listOf 100 = .ok (.if_icmp .lt 7, 3) := by decide +kernel
theorem dX12_listOf_103 : decode cX12_listOf 103 = .ok (.iload 5, 2) := by decide +kernel
theorem dX12_listOf_105 : decode cX12_listOf 105 = .ok (.istore 4, 2) := by decide +kernel
theorem dX12_listOf_107 : decode cX12_listOf 107 = .ok (.iinc 5 1, 3) := by decide +kernel
theorem dX12_listOf_110 : decode cX12_listOf 110 = .ok (.goto (-104), 3) := by decide +kernel
theorem dX12_listOf_113 : decode cX12_listOf 113 = .ok (.iload 4, 2) := by decide +kernel
theorem dX12_listOf_115 : decode cX12_listOf 115 = .ok (.ireturn, 1) := by decide +kernel
abbrev dpX12_listOf : Nat := 0
def fX12_listOf_107 (k6 : (Nat × Int32 × Int32 × Int32 × Int32 × Int32) → St → Option (Int32 × St)) (a0 : Nat) (x1 : Int32) (x2 : Int32) (x3 : Int32) (x4 : Int32) (x5 : Int32) : St → Option (Int32 × St) :=
 k6 (a0, x1, x2, x3, x4, (x5 + 1))
set_option maxHeartbeats 4000000 in
set_option maxRecDepth 100000 in
theorem sfX12_listOf_107 {E : Ev} {l : Launch} (k6 : (Nat × Int32 × Int32 × Int32 × Int32 × Int32) → St → Option (Int32 × St)) (hk6 : ∀ p : Nat × Int32 × Int32 × Int32 × Int32 × Int32, Snd E l (dpX12_listOf, RX12, cX12_listOf, 7, (some .int), "listOf") rvI 6 [(0, .ref (E.1 + p.1)), (1, .int p.2.1), (2, .int p.2.2.1), (3, .int p.2.2.2.1), (4, .int p.2.2.2.2.1), (5, .int p.2.2.2.2.2)] [] (k6 p)) (a0 : Nat) (x1 : Int32) (x2 : Int32) (x3 : Int32) (x4 : Int32) (x5 : Int32) : Snd E l (dpX12_listOf, RX12, cX12_listOf, 7, (some .int), "listOf") rvI 107 [(0, .ref (E.1 + a0)), (1, .int x1), (2, .int x2), (3, .int x3), (4, .int x4), (5, .int x5)] [] (fX12_listOf_107 k6 a0 x1 x2 x3 x4 x5) := by
  unfold fX12_listOf_107
  refine sn_iinc (pc := 107) (v := x5 + 1) (lv' := [(5, .int (x5 + 1)), (0, .ref (E.1 + a0)), (1, .int x1), (2, .int x2), (3, .int x3), (4, .int x4)]) (j := 5) dX12_listOf_107 rfl rfl (by decide) rfl ?_
  refine sn_goto (pc := 110) (tgt := 6) dX12_listOf_110 (by decide) ?_
  exact sn_sub (lv' := [(0, .ref (E.1 + a0)), (1, .int x1), (2, .int x2), (3, .int x3), (4, .int x4), (5, .int (x5 + 1))]) [1, 2, 3, 4, 5, 0] rfl (hk6 (a0, x1, x2, x3, x4, (x5 + 1)))
def fX12_listOf_103 (k6 : (Nat × Int32 × Int32 × Int32 × Int32 × Int32) → St → Option (Int32 × St)) (a0 : Nat) (x1 : Int32) (x2 : Int32) (x3 : Int32) (x5 : Int32) : St → Option (Int32 × St) :=
 fX12_listOf_107 k6 a0 x1 x2 x3 x5 x5
set_option maxHeartbeats 4000000 in
set_option maxRecDepth 100000 in
theorem sfX12_listOf_103 {E : Ev} {l : Launch} (k6 : (Nat × Int32 × Int32 × Int32 × Int32 × Int32) → St → Option (Int32 × St)) (hk6 : ∀ p : Nat × Int32 × Int32 × Int32 × Int32 × Int32, Snd E l (dpX12_listOf, RX12, cX12_listOf, 7, (some .int), "listOf") rvI 6 [(0, .ref (E.1 + p.1)), (1, .int p.2.1), (2, .int p.2.2.1), (3, .int p.2.2.2.1), (4, .int p.2.2.2.2.1), (5, .int p.2.2.2.2.2)] [] (k6 p)) (a0 : Nat) (x1 : Int32) (x2 : Int32) (x3 : Int32) (x5 : Int32) : Snd E l (dpX12_listOf, RX12, cX12_listOf, 7, (some .int), "listOf") rvI 103 [(0, .ref (E.1 + a0)), (1, .int x1), (2, .int x2), (3, .int x3), (5, .int x5)] [] (fX12_listOf_103 k6 a0 x1 x2 x3 x5) := by
  unfold fX12_listOf_103
  refine sn_iload (pc := 103) (j := 4) dX12_listOf_103 rfl ?_
  refine sn_istore (pc := 105) (i := 4) (lv' := [(4, .int x5), (0, .ref (E.1 + a0)), (1, .int x1), (2, .int x2), (3, .int x3), (5, .int x5)]) dX12_listOf_105 (by decide) rfl ?_
  exact sn_sub (lv' := [(0, .ref (E.1 + a0)), (1, .int x1), (2, .int x2), (3, .int x3), (4, .int x5), (5, .int x5)]) [1, 2, 3, 4, 0, 5] rfl (sfX12_listOf_107 k6 hk6 a0 x1 x2 x3 x5 x5)
def fX12_listOf_6 (k6 : (Nat × Int32 × Int32 × Int32 × Int32 × Int32) → St → Option (Int32 × St)) (a0 : Nat) (x1 : Int32) (x2 : Int32) (x3 : Int32) (x4 : Int32) (x5 : Int32) : St → Option (Int32 × St) :=
 gR 13 a0 0 fun v1001 =>
 nn v1001 fun a1003 =>
 aI 15 a1003 1 fun v1002 =>
 br (v1002 ≤ x5) (rt x4)
 (gR 13 a0 0 fun v1004 =>
 nn v1004 fun a1006 =>
 aI 15 a1006 (240 + (320 * x5)) fun v1005 =>
 br (v1005 = x1) (gR 13 a0 0 fun v1007 =>
 nn v1007 fun a1009 =>
 aI 15 a1009 ((240 + (320 * x5)) + 1) fun v1008 =>
 br (x2 < v1008) (fX12_listOf_107 k6 a0 x1 x2 x3 x4 x5)
 (gR 13 a0 0 fun v1010 =>
 nn v1010 fun a1012 =>
 aI 15 a1012 ((240 + (320 * x5)) + 2) fun v1011 =>
 br (v1011 ≤ x3) (br (x4 < 0) (fX12_listOf_103 k6 a0 x1 x2 x3 x5)
 (gR 13 a0 0 fun v1013 =>
 nn v1013 fun a1015 =>
 aI 15 a1015 ((240 + (320 * x5)) + 1) fun v1014 =>
 gR 13 a0 0 fun v1016 =>
 nn v1016 fun a1018 =>
 aI 15 a1018 ((240 + (320 * x4)) + 1) fun v1017 =>
 br (v1014 < v1017) (fX12_listOf_107 k6 a0 x1 x2 x3 x4 x5)
 (fX12_listOf_103 k6 a0 x1 x2 x3 x5)))
 (fX12_listOf_107 k6 a0 x1 x2 x3 x4 x5)))
 (fX12_listOf_107 k6 a0 x1 x2 x3 x4 x5))
set_option maxHeartbeats 4000000 in
set_option maxRecDepth 100000 in
theorem sfX12_listOf_6 {E : Ev} {l : Launch} (k6 : (Nat × Int32 × Int32 × Int32 × Int32 × Int32) → St → Option (Int32 × St)) (hk6 : ∀ p : Nat × Int32 × Int32 × Int32 × Int32 × Int32, Snd E l (dpX12_listOf, RX12, cX12_listOf, 7, (some .int), "listOf") rvI 6 [(0, .ref (E.1 + p.1)), (1, .int p.2.1), (2, .int p.2.2.1), (3, .int p.2.2.2.1), (4, .int p.2.2.2.2.1), (5, .int p.2.2.2.2.2)] [] (k6 p)) (a0 : Nat) (x1 : Int32) (x2 : Int32) (x3 : Int32) (x4 : Int32) (x5 : Int32) : Snd E l (dpX12_listOf, RX12, cX12_listOf, 7, (some .int), "listOf") rvI 6 [(0, .ref (E.1 + a0)), (1, .int x1), (2, .int x2), (3, .int x3), (4, .int x4), (5, .int x5)] [] (fX12_listOf_6 k6 a0 x1 x2 x3 x4 x5) := by
  unfold fX12_listOf_6
  refine sn_iload (pc := 6) (j := 5) dX12_listOf_6 rfl ?_
  refine sn_aload_n (pc := 8) (j := 0) dX12_listOf_8 rfl rfl ?_
  refine sn_gR (pc := 9) dX12_listOf_9 flX12_7 rfl (fun v1001 => ?_)
  refine sn_iconst (pc := 12) (v := 1) dX12_listOf_12 (by decide) ?_
  rcases v1001 with _ | a1003
  · exact sn_no
  refine sn_nn ?_
  refine sn_iald (pc := 13) dX12_listOf_13 (fun v1002 => ?_)
  refine sn_icmp_ge (pc := 14) (tgt := 113) dX12_listOf_14 (by decide) ?_ ?_
  · refine sn_iload (pc := 113) (j := 4) dX12_listOf_113 rfl ?_
    exact sn_iret (pc := 115) dX12_listOf_115 rfl
  · refine sn_sipush (pc := 17) (v := 240) dX12_listOf_17 (by decide) ?_
    refine sn_sipush (pc := 20) (v := 320) dX12_listOf_20 (by decide) ?_
    refine sn_iload (pc := 23) (j := 5) dX12_listOf_23 rfl ?_
    refine sn_imul (pc := 25) dX12_listOf_25 ?_
    refine sn_iadd (pc := 26) dX12_listOf_26 ?_
    refine sn_istore (pc := 27) (i := 6) (lv' := [(6, .int (240 + (320 * x5))), (0, .ref (E.1 + a0)), (1, .int x1), (2, .int x2), (3, .int x3), (4, .int x4), (5, .int x5)]) dX12_listOf_27 (by decide) rfl ?_
    refine sn_aload_n (pc := 29) (j := 1) dX12_listOf_29 rfl rfl ?_
    refine sn_gR (pc := 30) dX12_listOf_30 flX12_7 rfl (fun v1004 => ?_)
    refine sn_iload (pc := 33) (j := 0) dX12_listOf_33 rfl ?_
    rcases v1004 with _ | a1006
    · exact sn_no
    refine sn_nn ?_
    refine sn_iald (pc := 35) dX12_listOf_35 (fun v1005 => ?_)
    refine sn_iload_n (pc := 36) (j := 2) dX12_listOf_36 rfl rfl ?_
    refine sn_icmp_ne (pc := 37) (tgt := 107) dX12_listOf_37 (by decide) ?_ ?_
    · exact sn_sub (lv' := [(0, .ref (E.1 + a0)), (1, .int x1), (2, .int x2), (3, .int x3), (4, .int x4), (5, .int x5)]) [1, 2, 3, 4, 5, 6] rfl (sfX12_listOf_107 k6 hk6 a0 x1 x2 x3 x4 x5)
    · refine sn_aload_n (pc := 40) (j := 1) dX12_listOf_40 rfl rfl ?_
      refine sn_gR (pc := 41) dX12_listOf_41 flX12_7 rfl (fun v1007 => ?_)
      refine sn_iload (pc := 44) (j := 0) dX12_listOf_44 rfl ?_
      refine sn_iconst (pc := 46) (v := 1) dX12_listOf_46 (by decide) ?_
      refine sn_iadd (pc := 47) dX12_listOf_47 ?_
      rcases v1007 with _ | a1009
      · exact sn_no
      refine sn_nn ?_
      refine sn_iald (pc := 48) dX12_listOf_48 (fun v1008 => ?_)
      refine sn_iload_n (pc := 49) (j := 3) dX12_listOf_49 rfl rfl ?_
      refine sn_icmp_gt (pc := 50) (tgt := 107) dX12_listOf_50 (by decide) ?_ ?_
      · exact sn_sub (lv' := [(0, .ref (E.1 + a0)), (1, .int x1), (2, .int x2), (3, .int x3), (4, .int x4), (5, .int x5)]) [1, 2, 3, 4, 5, 6] rfl (sfX12_listOf_107 k6 hk6 a0 x1 x2 x3 x4 x5)
      · refine sn_aload_n (pc := 53) (j := 1) dX12_listOf_53 rfl rfl ?_
        refine sn_gR (pc := 54) dX12_listOf_54 flX12_7 rfl (fun v1010 => ?_)
        refine sn_iload (pc := 57) (j := 0) dX12_listOf_57 rfl ?_
        refine sn_iconst (pc := 59) (v := 2) dX12_listOf_59 (by decide) ?_
        refine sn_iadd (pc := 60) dX12_listOf_60 ?_
        rcases v1010 with _ | a1012
        · exact sn_no
        refine sn_nn ?_
        refine sn_iald (pc := 61) dX12_listOf_61 (fun v1011 => ?_)
        refine sn_iload_n (pc := 62) (j := 4) dX12_listOf_62 rfl rfl ?_
        refine sn_icmp_le (pc := 63) (tgt := 69) dX12_listOf_63 (by decide) ?_ ?_
        · refine sn_iload (pc := 69) (j := 5) dX12_listOf_69 rfl ?_
          refine sn_if_lt (pc := 71) (tgt := 103) dX12_listOf_71 (by decide) ?_ ?_
          · exact sn_sub (lv' := [(0, .ref (E.1 + a0)), (1, .int x1), (2, .int x2), (3, .int x3), (5, .int x5)]) [1, 2, 3, 4, 6] rfl (sfX12_listOf_103 k6 hk6 a0 x1 x2 x3 x5)
          · refine sn_aload_n (pc := 74) (j := 1) dX12_listOf_74 rfl rfl ?_
            refine sn_gR (pc := 75) dX12_listOf_75 flX12_7 rfl (fun v1013 => ?_)
            refine sn_iload (pc := 78) (j := 0) dX12_listOf_78 rfl ?_
            refine sn_iconst (pc := 80) (v := 1) dX12_listOf_80 (by decide) ?_
            refine sn_iadd (pc := 81) dX12_listOf_81 ?_
            rcases v1013 with _ | a1015
            · exact sn_no
            refine sn_nn ?_
            refine sn_iald (pc := 82) dX12_listOf_82 (fun v1014 => ?_)
            refine sn_aload_n (pc := 83) (j := 1) dX12_listOf_83 rfl rfl ?_
            refine sn_gR (pc := 84) dX12_listOf_84 flX12_7 rfl (fun v1016 => ?_)
            refine sn_sipush (pc := 87) (v := 240) dX12_listOf_87 (by decide) ?_
            refine sn_sipush (pc := 90) (v := 320) dX12_listOf_90 (by decide) ?_
            refine sn_iload (pc := 93) (j := 5) dX12_listOf_93 rfl ?_
            refine sn_imul (pc := 95) dX12_listOf_95 ?_
            refine sn_iadd (pc := 96) dX12_listOf_96 ?_
            refine sn_iconst (pc := 97) (v := 1) dX12_listOf_97 (by decide) ?_
            refine sn_iadd (pc := 98) dX12_listOf_98 ?_
            rcases v1016 with _ | a1018
            · exact sn_no
            refine sn_nn ?_
            refine sn_iald (pc := 99) dX12_listOf_99 (fun v1017 => ?_)
            refine sn_icmp_lt (pc := 100) (tgt := 107) dX12_listOf_100 (by decide) ?_ ?_
            · exact sn_sub (lv' := [(0, .ref (E.1 + a0)), (1, .int x1), (2, .int x2), (3, .int x3), (4, .int x4), (5, .int x5)]) [1, 2, 3, 4, 5, 6] rfl (sfX12_listOf_107 k6 hk6 a0 x1 x2 x3 x4 x5)
            · exact sn_sub (lv' := [(0, .ref (E.1 + a0)), (1, .int x1), (2, .int x2), (3, .int x3), (5, .int x5)]) [1, 2, 3, 4, 6] rfl (sfX12_listOf_103 k6 hk6 a0 x1 x2 x3 x5)
        · refine sn_goto (pc := 66) (tgt := 107) dX12_listOf_66 (by decide) ?_
          exact sn_sub (lv' := [(0, .ref (E.1 + a0)), (1, .int x1), (2, .int x2), (3, .int x3), (4, .int x4), (5, .int x5)]) [1, 2, 3, 4, 5, 6] rfl (sfX12_listOf_107 k6 hk6 a0 x1 x2 x3 x4 x5)
def fX12_listOf (a0 : Nat) (x1 : Int32) (x2 : Int32) (x3 : Int32) : St → Option (Int32 × St) :=
 itr (fun k (p : Nat × Int32 × Int32 × Int32 × Int32 × Int32) => fX12_listOf_6  k p.1 p.2.1 p.2.2.1 p.2.2.2.1 p.2.2.2.2.1 p.2.2.2.2.2) FU (a0, x1, x2, x3, (-1), 0)
set_option maxHeartbeats 4000000 in
set_option maxRecDepth 100000 in
theorem mX12_listOf {E : Ev} {l : Launch} (a0 : Nat) (x1 : Int32) (x2 : Int32) (x3 : Int32) : MF E l dpX12_listOf yX12_listOf cX12_listOf 7 (some .int) rvI [.ref (E.1 + a0), .int x1, .int x2, .int x3] (fX12_listOf a0 x1 x2 x3) := by
  refine MF.of (lv := [(0, .ref (E.1 + a0)), (1, .int x1), (2, .int x2), (3, .int x3)]) (by decide) (Nat.le_of_ble_eq_true rfl) rfl ?_
  unfold fX12_listOf
  refine sn_iconst (pc := 0) (v := (-1)) dX12_listOf_0 (by decide) ?_
  refine sn_istore (pc := 1) (i := 4) (lv' := [(4, .int (-1)), (0, .ref (E.1 + a0)), (1, .int x1), (2, .int x2), (3, .int x3)]) dX12_listOf_1 (by decide) rfl ?_
  refine sn_iconst (pc := 3) (v := 0) dX12_listOf_3 (by decide) ?_
  refine sn_istore (pc := 4) (i := 5) (lv' := [(5, .int 0), (4, .int (-1)), (0, .ref (E.1 + a0)), (1, .int x1), (2, .int x2), (3, .int x3)]) dX12_listOf_4 (by decide) rfl ?_
  exact sn_sub (lv' := [(0, .ref (E.1 + a0)), (1, .int x1), (2, .int x2), (3, .int x3), (4, .int (-1)), (5, .int 0)]) [2, 3, 4, 5, 1, 0] rfl (sn_itr (lvf := fun p => [(0, .ref (E.1 + p.1)), (1, .int p.2.1), (2, .int p.2.2.1), (3, .int p.2.2.2.1), (4, .int p.2.2.2.2.1), (5, .int p.2.2.2.2.2)]) (stf := fun p => []) (fun k hk p => sfX12_listOf_6  k hk p.1 p.2.1 p.2.2.1 p.2.2.2.1 p.2.2.2.2.1 p.2.2.2.2.2) FU (a0, x1, x2, x3, (-1), 0))
theorem iX12_listOf : MI yX12_listOf cX12_listOf 7 (some .int) 3 := ⟨wt1_10, wt7_31, by decide +kernel, by decide⟩
-- NeedleHomesModel lists(III)I
theorem dX12_lists_0 : decode cX12_lists 0 = .ok (.iload_n 1, 1) := by decide +kernel
theorem dX12_lists_1 : decode cX12_lists 1 = .ok (.iconst 0, 1) := by decide +kernel
theorem dX12_lists_2 : decode cX12_lists 2 = .ok (.iconst 2, 1) := by decide +kernel
theorem dX12_lists_3 : decode cX12_lists 3 = .ok (.invokestatic 51, 3) := by decide +kernel
theorem dX12_lists_6 : decode cX12_lists 6 = .ok (.ifCond .eq 38, 3) := by decide +kernel
theorem dX12_lists_9 : decode cX12_lists 9 = .ok (.iload_n 2, 1) := by decide +kernel
theorem dX12_lists_10 : decode cX12_lists 10 = .ok (.iconst 0, 1) := by decide +kernel
theorem dX12_lists_11 : decode cX12_lists 11 = .ok (.sipush 142, 3) := by decide +kernel
theorem dX12_lists_14 : decode cX12_lists 14 = .ok (.invokestatic 51, 3) := by decide +kernel
theorem dX12_lists_17 : decode cX12_lists 17 = .ok (.ifCond .eq 27, 3) := by decide +kernel
theorem dX12_lists_20 : decode cX12_lists 20 = .ok (.iload_n 3, 1) := by decide +kernel
theorem dX12_lists_21 : decode cX12_lists 21 = .ok (.iconst 0, 1) := by decide +kernel
theorem dX12_lists_22 : decode cX12_lists 22 = .ok (.aload_n 0, 1) := by decide +kernel
theorem dX12_lists_23 : decode cX12_lists 23 = .ok (.getfield 7, 3) := by decide +kernel
theorem dX12_lists_26 : decode cX12_lists 26 = .ok (.iconst 4, 1) := by decide +kernel
theorem dX12_lists_27 : decode cX12_lists 27 = .ok (.iaload, 1) := by decide +kernel
theorem dX12_lists_28 : decode cX12_lists 28 = .ok (.invokestatic 51, 3) := by decide +kernel
theorem dX12_lists_31 : decode cX12_lists 31 = .ok (.ifCond .eq 13, 3) := by decide +kernel
theorem dX12_lists_34 : decode cX12_lists 34 = .ok (.aload_n 0, 1) := by decide +kernel
theorem dX12_lists_35 : decode cX12_lists 35 = .ok (.iload_n 1, 1) := by decide +kernel
theorem dX12_lists_36 : decode cX12_lists 36 = .ok (.iload_n 2, 1) := by decide +kernel
theorem dX12_lists_37 : decode cX12_lists 37 = .ok (.iload_n 3, 1) := by decide +kernel
theorem dX12_lists_38 : decode cX12_lists 38 = .ok (.invokevirtual 201, 3) := by decide +kernel
theorem dX12_lists_41 : decode cX12_lists 41 = .ok (.goto 5, 3) := by decide +kernel
theorem dX12_lists_44 : decode cX12_lists 44 = .ok (.bipush (-2), 2) := by decide +kernel
theorem dX12_lists_46 : decode cX12_lists 46 = .ok (.ireturn, 1) := by decide +kernel
abbrev dpX12_lists : Nat := 1
def fX12_lists (a0 : Nat) (x1 : Int32) (x2 : Int32) (x3 : Int32) : St → Option (Int32 × St) :=
 cl (fX12_isIn x1 0 2) fun v1 =>
 br ((bi v1) = 0) (rt (-2))
 (cl (fX12_isIn x2 0 142) fun v2 =>
 br ((bi v2) = 0) (rt (-2))
 (gR 13 a0 0 fun v3 =>
 nn v3 fun a5 =>
 aI 15 a5 4 fun v4 =>
 cl (fX12_isIn x3 0 v4) fun v6 =>
 br ((bi v6) = 0) (rt (-2))
 (ck 13 a0 <| cl (fX12_listOf a0 x1 x2 x3) fun v7 =>
 rt v7)))
set_option maxHeartbeats 4000000 in
set_option maxRecDepth 100000 in
theorem mX12_lists {E : Ev} {l : Launch} (a0 : Nat) (x1 : Int32) (x2 : Int32) (x3 : Int32) : MF E l dpX12_lists yX12_lists cX12_lists 4 (some .int) rvI [.ref (E.1 + a0), .int x1, .int x2, .int x3] (fX12_lists a0 x1 x2 x3) := by
  refine MF.of (lv := [(0, .ref (E.1 + a0)), (1, .int x1), (2, .int x2), (3, .int x3)]) (by decide) (Nat.le_of_ble_eq_true rfl) rfl ?_
  unfold fX12_lists
  refine sn_iload_n (pc := 0) (j := 1) dX12_lists_0 rfl rfl ?_
  refine sn_iconst (pc := 1) (v := 0) dX12_lists_1 (by decide) ?_
  refine sn_iconst (pc := 2) (v := 2) dX12_lists_2 (by decide) ?_
  refine sn_callS (pc := 3) dX12_lists_3 iX12_isIn wt6_138 wt6_137 (mX12_isIn x1 0 2) (by decide) rfl rfl (Nat.le_of_ble_eq_true rfl) (fun v1 => ?_)
  refine sn_if_eq (pc := 6) (tgt := 44) dX12_lists_6 (by decide) ?_ ?_
  · refine sn_bipush (pc := 44) (v := (-2)) dX12_lists_44 (by decide) ?_
    exact sn_iret (pc := 46) dX12_lists_46 rfl
  · refine sn_iload_n (pc := 9) (j := 2) dX12_lists_9 rfl rfl ?_
    refine sn_iconst (pc := 10) (v := 0) dX12_lists_10 (by decide) ?_
    refine sn_sipush (pc := 11) (v := 142) dX12_lists_11 (by decide) ?_
    refine sn_callS (pc := 14) dX12_lists_14 iX12_isIn wt6_138 wt6_137 (mX12_isIn x2 0 142) (by decide) rfl rfl (Nat.le_of_ble_eq_true rfl) (fun v2 => ?_)
    refine sn_if_eq (pc := 17) (tgt := 44) dX12_lists_17 (by decide) ?_ ?_
    · refine sn_bipush (pc := 44) (v := (-2)) dX12_lists_44 (by decide) ?_
      exact sn_iret (pc := 46) dX12_lists_46 rfl
    · refine sn_iload_n (pc := 20) (j := 3) dX12_lists_20 rfl rfl ?_
      refine sn_iconst (pc := 21) (v := 0) dX12_lists_21 (by decide) ?_
      refine sn_aload_n (pc := 22) (j := 0) dX12_lists_22 rfl rfl ?_
      refine sn_gR (pc := 23) dX12_lists_23 flX12_7 rfl (fun v3 => ?_)
      refine sn_iconst (pc := 26) (v := 4) dX12_lists_26 (by decide) ?_
      rcases v3 with _ | a5
      · exact sn_no
      refine sn_nn ?_
      refine sn_iald (pc := 27) dX12_lists_27 (fun v4 => ?_)
      refine sn_callS (pc := 28) dX12_lists_28 iX12_isIn wt6_138 wt6_137 (mX12_isIn x3 0 v4) (by decide) rfl rfl (Nat.le_of_ble_eq_true rfl) (fun v6 => ?_)
      refine sn_if_eq (pc := 31) (tgt := 44) dX12_lists_31 (by decide) ?_ ?_
      · refine sn_bipush (pc := 44) (v := (-2)) dX12_lists_44 (by decide) ?_
        exact sn_iret (pc := 46) dX12_lists_46 rfl
      · refine sn_aload_n (pc := 34) (j := 0) dX12_lists_34 rfl rfl ?_
        refine sn_iload_n (pc := 35) (j := 1) dX12_lists_35 rfl rfl ?_
        refine sn_iload_n (pc := 36) (j := 2) dX12_lists_36 rfl rfl ?_
        refine sn_iload_n (pc := 37) (j := 3) dX12_lists_37 rfl rfl ?_
        refine sn_callV (ci := 12) (pc := 38) dX12_lists_38 iX12_listOf wt7_30 ws_59 wt7_28 ⟨_, rfl, rfl⟩ (by decide) (mX12_listOf a0 x1 x2 x3) (by decide) rfl rfl (Nat.le_of_ble_eq_true rfl) (fun v7 => ?_)
        refine sn_goto (pc := 41) (tgt := 46) dX12_lists_41 (by decide) ?_
        exact sn_iret (pc := 46) dX12_lists_46 rfl
theorem iX12_lists : MI yX12_lists cX12_lists 4 (some .int) 3 := ⟨wt1_10, wt7_27, by decide +kernel, by decide⟩
-- NeedleHomesModel day(I)Z
theorem dX12_day_0 : decode cX12_day 0 = .ok (.iload_n 1, 1) := by decide +kernel
theorem dX12_day_1 : decode cX12_day 1 = .ok (.aload_n 0, 1) := by decide +kernel
theorem dX12_day_2 : decode cX12_day 2 = .ok (.getfield 7, 3) := by decide +kernel
theorem dX12_day_5 : decode cX12_day 5 = .ok (.iconst 4, 1) := by decide +kernel
theorem dX12_day_6 : decode cX12_day 6 = .ok (.iaload, 1) := by decide +kernel
theorem dX12_day_7 : decode cX12_day 7 = .ok (.sipush 999, 3) := by decide +kernel
theorem dX12_day_10 : decode cX12_day 10 = .ok (.invokestatic 51, 3) := by decide +kernel
theorem dX12_day_13 : decode cX12_day 13 = .ok (.ifCond .ne 5, 3) := by decide +kernel
theorem dX12_day_16 : decode cX12_day 16 = .ok (.iconst 0, 1) := by decide +kernel
theorem dX12_day_17 : decode cX12_day 17 = .ok (.ireturn, 1) := by decide +kernel
theorem dX12_day_18 : decode cX12_day 18 = .ok (.aload_n 0, 1) := by decide +kernel
theorem dX12_day_19 : decode cX12_day 19 = .ok (.getfield 7, 3) := by decide +kernel
theorem dX12_day_22 : decode cX12_day 22 = .ok (.iconst 4, 1) := by decide +kernel
theorem dX12_day_23 : decode cX12_day 23 = .ok (.iload_n 1, 1) := by decide +kernel
theorem dX12_day_24 : decode cX12_day 24 = .ok (.iastore, 1) := by decide +kernel
theorem dX12_day_25 : decode cX12_day 25 = .ok (.iconst 1, 1) := by decide +kernel
theorem dX12_day_26 : decode cX12_day 26 = .ok (.ireturn, 1) := by decide +kernel
abbrev dpX12_day : Nat := 1
def fX12_day (a0 : Nat) (x1 : Int32) : St → Option (Bool × St) :=
 gR 13 a0 0 fun v1 =>
 nn v1 fun a3 =>
 aI 15 a3 4 fun v2 =>
 cl (fX12_isIn x1 v2 999) fun v4 =>
 br ((bi v4) = 0) (rtZ 0)
 (gR 13 a0 0 fun v5 =>
 nn v5 fun a6 =>
 wI a6 4 x1 <|
 rtZ 1)
set_option maxHeartbeats 4000000 in
set_option maxRecDepth 100000 in
theorem mX12_day {E : Ev} {l : Launch} (a0 : Nat) (x1 : Int32) : MF E l dpX12_day yX12_day cX12_day 2 (some .boolean) rvZ [.ref (E.1 + a0), .int x1] (fX12_day a0 x1) := by
  refine MF.of (lv := [(0, .ref (E.1 + a0)), (1, .int x1)]) (by decide) (Nat.le_of_ble_eq_true rfl) rfl ?_
  unfold fX12_day
  refine sn_iload_n (pc := 0) (j := 1) dX12_day_0 rfl rfl ?_
  refine sn_aload_n (pc := 1) (j := 0) dX12_day_1 rfl rfl ?_
  refine sn_gR (pc := 2) dX12_day_2 flX12_7 rfl (fun v1 => ?_)
  refine sn_iconst (pc := 5) (v := 4) dX12_day_5 (by decide) ?_
  rcases v1 with _ | a3
  · exact sn_no
  refine sn_nn ?_
  refine sn_iald (pc := 6) dX12_day_6 (fun v2 => ?_)
  refine sn_sipush (pc := 7) (v := 999) dX12_day_7 (by decide) ?_
  refine sn_callS (pc := 10) dX12_day_10 iX12_isIn wt6_138 wt6_137 (mX12_isIn x1 v2 999) (by decide) rfl rfl (Nat.le_of_ble_eq_true rfl) (fun v4 => ?_)
  refine sn_if_ne (pc := 13) (tgt := 18) dX12_day_13 (by decide) ?_ ?_
  · refine sn_aload_n (pc := 18) (j := 0) dX12_day_18 rfl rfl ?_
    refine sn_gR (pc := 19) dX12_day_19 flX12_7 rfl (fun v5 => ?_)
    refine sn_iconst (pc := 22) (v := 4) dX12_day_22 (by decide) ?_
    refine sn_iload_n (pc := 23) (j := 1) dX12_day_23 rfl rfl ?_
    rcases v5 with _ | a6
    · exact sn_no
    refine sn_nn ?_
    refine sn_iast (pc := 24) dX12_day_24 ?_
    refine sn_iconst (pc := 25) (v := 1) dX12_day_25 (by decide) ?_
    exact sn_zret (pc := 26) dX12_day_26 rfl
  · refine sn_iconst (pc := 16) (v := 0) dX12_day_16 (by decide) ?_
    exact sn_zret (pc := 17) dX12_day_17 rfl
theorem iX12_day : MI yX12_day cX12_day 2 (some .boolean) 1 := ⟨wt1_10, wt7_35, by decide +kernel, by decide⟩
-- NeedleHomesModel hasHay(II)Z
theorem dX12_hasHay_0 : decode cX12_hasHay 0 = .ok (.iload_n 2, 1) := by decide +kernel
theorem dX12_hasHay_1 : decode cX12_hasHay 1 = .ok (.sipush 143, 3) := by decide +kernel
theorem dX12_hasHay_4 : decode cX12_hasHay 4 = .ok (.if_icmp .ge 20, 3) := by decide +kernel
theorem dX12_hasHay_7 : decode cX12_hasHay 7 = .ok (.aload_n 0, 1) := by decide +kernel
theorem dX12_hasHay_8 : decode cX12_hasHay 8 = .ok (.iload_n 1, 1) := by decide +kernel
theorem dX12_hasHay_9 : decode cX12_hasHay 9 = .ok (.bipush 16, 2) := by decide +kernel
theorem dX12_hasHay_11 : decode cX12_hasHay 11 = .ok (.iload_n 2, 1) := by decide +kernel
theorem dX12_hasHay_12 : decode cX12_hasHay 12 = .ok (.iadd, 1) := by decide +kernel
theorem dX12_hasHay_13 : decode cX12_hasHay 13 = .ok (.invokevirtual 211, 3) := by decide +kernel
theorem dX12_hasHay_16 : decode cX12_hasHay 16 = .ok (.iconst 1, 1) := by decide +kernel
theorem dX12_hasHay_17 : decode cX12_hasHay 17 = .ok (.if_icmp .ne 7, 3) := by decide +kernel
theorem dX12_hasHay_20 : decode cX12_hasHay 20 = .ok (.iconst 1, 1) := by decide +kernel
theorem dX12_hasHay_21 : decode cX12_hasHay 21 = .ok (.goto 4, 3) := by decide +kernel
theorem dX12_hasHay_24 : decode cX12_hasHay 24 = .ok (.iconst 0, 1) := by decide +kernel
theorem dX12_hasHay_25 : decode cX12_hasHay 25 = .ok (.ireturn, 1) := by decide +kernel
abbrev dpX12_hasHay : Nat := 1
def fX12_hasHay (a0 : Nat) (x1 : Int32) (x2 : Int32) : St → Option (Bool × St) :=
 br (143 ≤ x2) (rtZ 0)
 (ck 13 a0 <| cl (fX12_handOf a0 x1 (16 + x2)) fun v1 =>
 br (v1 = 1) (rtZ 1)
 (rtZ 0))
set_option maxHeartbeats 4000000 in
set_option maxRecDepth 100000 in
theorem mX12_hasHay {E : Ev} {l : Launch} (a0 : Nat) (x1 : Int32) (x2 : Int32) : MF E l dpX12_hasHay yX12_hasHay cX12_hasHay 3 (some .boolean) rvZ [.ref (E.1 + a0), .int x1, .int x2] (fX12_hasHay a0 x1 x2) := by
  refine MF.of (lv := [(0, .ref (E.1 + a0)), (1, .int x1), (2, .int x2)]) (by decide) (Nat.le_of_ble_eq_true rfl) rfl ?_
  unfold fX12_hasHay
  refine sn_iload_n (pc := 0) (j := 2) dX12_hasHay_0 rfl rfl ?_
  refine sn_sipush (pc := 1) (v := 143) dX12_hasHay_1 (by decide) ?_
  refine sn_icmp_ge (pc := 4) (tgt := 24) dX12_hasHay_4 (by decide) ?_ ?_
  · refine sn_iconst (pc := 24) (v := 0) dX12_hasHay_24 (by decide) ?_
    exact sn_zret (pc := 25) dX12_hasHay_25 rfl
  · refine sn_aload_n (pc := 7) (j := 0) dX12_hasHay_7 rfl rfl ?_
    refine sn_iload_n (pc := 8) (j := 1) dX12_hasHay_8 rfl rfl ?_
    refine sn_bipush (pc := 9) (v := 16) dX12_hasHay_9 (by decide) ?_
    refine sn_iload_n (pc := 11) (j := 2) dX12_hasHay_11 rfl rfl ?_
    refine sn_iadd (pc := 12) dX12_hasHay_12 ?_
    refine sn_callV (ci := 12) (pc := 13) dX12_hasHay_13 iX12_handOf wt7_50 ws_62 wt7_48 ⟨_, rfl, rfl⟩ (by decide) (mX12_handOf a0 x1 (16 + x2)) (by decide) rfl rfl (Nat.le_of_ble_eq_true rfl) (fun v1 => ?_)
    refine sn_iconst (pc := 16) (v := 1) dX12_hasHay_16 (by decide) ?_
    refine sn_icmp_ne (pc := 17) (tgt := 24) dX12_hasHay_17 (by decide) ?_ ?_
    · refine sn_iconst (pc := 24) (v := 0) dX12_hasHay_24 (by decide) ?_
      exact sn_zret (pc := 25) dX12_hasHay_25 rfl
    · refine sn_iconst (pc := 20) (v := 1) dX12_hasHay_20 (by decide) ?_
      refine sn_goto (pc := 21) (tgt := 25) dX12_hasHay_21 (by decide) ?_
      exact sn_zret (pc := 25) dX12_hasHay_25 rfl
theorem iX12_hasHay : MI yX12_hasHay cX12_hasHay 3 (some .boolean) 2 := ⟨wt1_10, wt7_55, by decide +kernel, by decide⟩
-- NeedleHomesModel asks(IIII)V
theorem dX12_asks_0 : decode cX12_asks 0 = .ok (.aload_n 0, 1) := by decide +kernel
theorem dX12_asks_1 : decode cX12_asks 1 = .ok (.aload_n 0, 1) := by decide +kernel
theorem dX12_asks_2 : decode cX12_asks 2 = .ok (.iload_n 1, 1) := by decide +kernel
theorem dX12_asks_3 : decode cX12_asks 3 = .ok (.iconst 0, 1) := by decide +kernel
theorem dX12_asks_4 : decode cX12_asks 4 = .ok (.invokevirtual 182, 3) := by decide +kernel
theorem dX12_asks_7 : decode cX12_asks 7 = .ok (.putfield 205, 3) := by decide +kernel
theorem dX12_asks_10 : decode cX12_asks 10 = .ok (.aload_n 0, 1) := by decide +kernel
theorem dX12_asks_11 : decode cX12_asks 11 = .ok (.aload_n 0, 1) := by decide +kernel
theorem dX12_asks_12 : decode cX12_asks 12 = .ok (.iload_n 1, 1) := by decide +kernel
theorem dX12_asks_13 : decode cX12_asks 13 = .ok (.iconst 2, 1) := by decide +kernel
theorem dX12_asks_14 : decode cX12_asks 14 = .ok (.invokevirtual 182, 3) := by decide +kernel
theorem dX12_asks_17 : decode cX12_asks 17 = .ok (.bipush 100, 2) := by decide +kernel
theorem dX12_asks_19 : decode cX12_asks 19 = .ok (.idiv, 1) := by decide +kernel
theorem dX12_asks_20 : decode cX12_asks 20 = .ok (.sipush 9999, 3) := by decide +kernel
theorem dX12_asks_23 : decode cX12_asks 23 = .ok (.if_icmp .ge 15, 3) := by decide +kernel
theorem dX12_asks_26 : decode cX12_asks 26 = .ok (.aload_n 0, 1) := by decide +kernel
theorem dX12_asks_27 : decode cX12_asks 27 = .ok (.iload_n 1, 1) := by decide +kernel
theorem dX12_asks_28 : decode cX12_asks 28 = .ok (.iconst 2, 1) := by decide +kernel
theorem dX12_asks_29 : decode cX12_asks 29 = .ok (.invokevirtual 182, 3) := by decide +kernel
theorem dX12_asks_32 : decode cX12_asks 32 = .ok (.bipush 100, 2) := by decide +kernel
theorem dX12_asks_34 : decode cX12_asks 34 = .ok (.idiv, 1) := by decide +kernel
theorem dX12_asks_35 : decode cX12_asks 35 = .ok (.goto 6, 3) := by decide +kernel
theorem dX12_asks_38 : decode cX12_asks 38 = .ok (.sipush 9999, 3) := by decide +kernel
theorem dX12_asks_41 : decode cX12_asks 41 = .ok (.putfield 208, 3) := by decide +kernel
theorem dX12_asks_44 : decode cX12_asks 44 = .ok (.aload_n 0, 1) := by decide +kernel
theorem dX12_asks_45 : decode cX12_asks 45 = .ok (.aload_n 0, 1) := by decide +kernel
theorem dX12_asks_46 : decode cX12_asks 46 = .ok (.iload_n 2, 1) := by decide +kernel
theorem dX12_asks_47 : decode cX12_asks 47 = .ok (.iconst 0, 1) := by decide +kernel
theorem dX12_asks_48 : decode cX12_asks 48 = .ok (.invokevirtual 211, 3) := by decide +kernel
theorem dX12_asks_51 : decode cX12_asks 51 = .ok (.putfield 214, 3) := by decide +kernel
theorem dX12_asks_54 : decode cX12_asks 54 = .ok (.aload_n 0, 1) := by decide +kernel
theorem dX12_asks_55 : decode cX12_asks 55 = .ok (.iload 4, 2) := by decide +kernel
theorem dX12_asks_57 : decode cX12_asks 57 = .ok (.putfield 217, 3) := by decide +kernel
theorem dX12_asks_60 : decode cX12_asks 60 = .ok (.aload_n 0, 1) := by decide +kernel
theorem dX12_asks_61 : decode cX12_asks 61 = .ok (.iload_n 3, 1) := by decide +kernel
theorem dX12_asks_62 : decode cX12_asks 62 = .ok (.putfield 220, 3) := by decide +kernel
theorem dX12_asks_65 : decode cX12_asks 65 = .ok (.aload_n 0, 1) := by decide +kernel
theorem dX12_asks_66 : decode cX12_asks 66 = .ok (.aload_n 0, 1) := by decide +kernel
theorem dX12_asks_67 : decode cX12_asks 67 = .ok (.iload_n 2, 1) := by decide +kernel
theorem dX12_asks_68 : decode cX12_asks 68 = .ok (.iload_n 3, 1) := by decide +kernel
theorem dX12_asks_69 : decode cX12_asks 69 = .ok (.invokevirtual 223, 3) := by decide +kernel
theorem dX12_asks_72 : decode cX12_asks 72 = .ok (.ifCond .eq 7, 3) := by decide +kernel
theorem dX12_asks_75 : decode cX12_asks 75 = .ok (.iconst 1, 1) := by decide +kernel
theorem dX12_asks_76 : decode cX12_asks 76 = .ok (.goto 4, 3) := by decide +kernel
theorem dX12_asks_79 : decode cX12_asks 79 = .ok (.iconst 0, 1) := by decide +kernel
theorem dX12_asks_80 : decode cX12_asks 80 = .ok (.putfield 226, 3) := by decide +kernel
theorem dX12_asks_83 : decode cX12_asks 83 = .ok (.return_, 1) := by decide +kernel
abbrev dpX12_asks : Nat := 2
def fX12_asks_41 (a0 : Nat) (x2 : Int32) (x3 : Int32) (x4 : Int32) (y0 : Int32) (y1 : Nat) : St → Option (Unit × St) :=
 pI 13 y1 21 y0 <|
 ck 13 a0 <| cl (fX12_handOf a0 x2 0) fun v1001 =>
 pI 13 a0 22 v1001 <|
 pI 13 a0 23 x4 <|
 pI 13 a0 24 x3 <|
 ck 13 a0 <| cl (fX12_hasHay a0 x2 x3) fun v1002 =>
 br ((bi v1002) = 0) (pI 13 a0 25 0 <|
 rt ())
 (pI 13 a0 25 1 <|
 rt ())
set_option maxHeartbeats 4000000 in
set_option maxRecDepth 100000 in
theorem sfX12_asks_41 {E : Ev} {l : Launch} (a0 : Nat) (x2 : Int32) (x3 : Int32) (x4 : Int32) (y0 : Int32) (y1 : Nat) : Snd E l (dpX12_asks, RX12, cX12_asks, 5, none, "asks") rvV 41 [(0, .ref (E.1 + a0)), (2, .int x2), (3, .int x3), (4, .int x4)] [.int y0, .ref (E.1 + y1)] (fX12_asks_41 a0 x2 x3 x4 y0 y1) := by
  unfold fX12_asks_41
  refine sn_pI (pc := 41) dX12_asks_41 flX12_208 rfl rfl (Or.inl rfl) ?_
  refine sn_aload_n (pc := 44) (j := 0) dX12_asks_44 rfl rfl ?_
  refine sn_aload_n (pc := 45) (j := 0) dX12_asks_45 rfl rfl ?_
  refine sn_iload_n (pc := 46) (j := 1) dX12_asks_46 rfl rfl ?_
  refine sn_iconst (pc := 47) (v := 0) dX12_asks_47 (by decide) ?_
  refine sn_callV (ci := 12) (pc := 48) dX12_asks_48 iX12_handOf wt7_50 ws_62 wt7_48 ⟨_, rfl, rfl⟩ (by decide) (mX12_handOf a0 x2 0) (by decide) rfl rfl (Nat.le_of_ble_eq_true rfl) (fun v1001 => ?_)
  refine sn_pI (pc := 51) dX12_asks_51 flX12_214 rfl rfl (Or.inl rfl) ?_
  refine sn_aload_n (pc := 54) (j := 0) dX12_asks_54 rfl rfl ?_
  refine sn_iload (pc := 55) (j := 3) dX12_asks_55 rfl ?_
  refine sn_pI (pc := 57) dX12_asks_57 flX12_217 rfl rfl (Or.inl rfl) ?_
  refine sn_aload_n (pc := 60) (j := 0) dX12_asks_60 rfl rfl ?_
  refine sn_iload_n (pc := 61) (j := 2) dX12_asks_61 rfl rfl ?_
  refine sn_pI (pc := 62) dX12_asks_62 flX12_220 rfl rfl (Or.inl rfl) ?_
  refine sn_aload_n (pc := 65) (j := 0) dX12_asks_65 rfl rfl ?_
  refine sn_aload_n (pc := 66) (j := 0) dX12_asks_66 rfl rfl ?_
  refine sn_iload_n (pc := 67) (j := 1) dX12_asks_67 rfl rfl ?_
  refine sn_iload_n (pc := 68) (j := 2) dX12_asks_68 rfl rfl ?_
  refine sn_callV (ci := 12) (pc := 69) dX12_asks_69 iX12_hasHay wt7_54 ws_63 wt7_52 ⟨_, rfl, rfl⟩ (by decide) (mX12_hasHay a0 x2 x3) (by decide) rfl rfl (Nat.le_of_ble_eq_true rfl) (fun v1002 => ?_)
  refine sn_if_eq (pc := 72) (tgt := 79) dX12_asks_72 (by decide) ?_ ?_
  · refine sn_iconst (pc := 79) (v := 0) dX12_asks_79 (by decide) ?_
    refine sn_pI (pc := 80) dX12_asks_80 flX12_226 rfl rfl (Or.inl rfl) ?_
    exact sn_vret (pc := 83) dX12_asks_83 rfl
  · refine sn_iconst (pc := 75) (v := 1) dX12_asks_75 (by decide) ?_
    refine sn_goto (pc := 76) (tgt := 80) dX12_asks_76 (by decide) ?_
    refine sn_pI (pc := 80) dX12_asks_80 flX12_226 rfl rfl (Or.inl rfl) ?_
    exact sn_vret (pc := 83) dX12_asks_83 rfl
def fX12_asks (a0 : Nat) (x1 : Int32) (x2 : Int32) (x3 : Int32) (x4 : Int32) : St → Option (Unit × St) :=
 ck 13 a0 <| cl (fX12_patternOf a0 x1 0) fun v1 =>
 pI 13 a0 20 v1 <|
 ck 13 a0 <| cl (fX12_patternOf a0 x1 2) fun v2 =>
 dv 100 <|
 br (9999 ≤ (v2 / 100)) (fX12_asks_41  a0 x2 x3 x4 9999 a0)
 (ck 13 a0 <| cl (fX12_patternOf a0 x1 2) fun v3 =>
 dv 100 <|
 fX12_asks_41  a0 x2 x3 x4 (v3 / 100) a0)
set_option maxHeartbeats 4000000 in
set_option maxRecDepth 100000 in
theorem mX12_asks {E : Ev} {l : Launch} (a0 : Nat) (x1 : Int32) (x2 : Int32) (x3 : Int32) (x4 : Int32) : MF E l dpX12_asks yX12_asks cX12_asks 5 none rvV [.ref (E.1 + a0), .int x1, .int x2, .int x3, .int x4] (fX12_asks a0 x1 x2 x3 x4) := by
  refine MF.of (lv := [(0, .ref (E.1 + a0)), (1, .int x1), (2, .int x2), (3, .int x3), (4, .int x4)]) (by decide) (Nat.le_of_ble_eq_true rfl) rfl ?_
  unfold fX12_asks
  refine sn_aload_n (pc := 0) (j := 0) dX12_asks_0 rfl rfl ?_
  refine sn_aload_n (pc := 1) (j := 0) dX12_asks_1 rfl rfl ?_
  refine sn_iload_n (pc := 2) (j := 1) dX12_asks_2 rfl rfl ?_
  refine sn_iconst (pc := 3) (v := 0) dX12_asks_3 (by decide) ?_
  refine sn_callV (ci := 12) (pc := 4) dX12_asks_4 iX12_patternOf wt6_239 ws_55 wt6_237 ⟨_, rfl, rfl⟩ (by decide) (mX12_patternOf a0 x1 0) (by decide) rfl rfl (Nat.le_of_ble_eq_true rfl) (fun v1 => ?_)
  refine sn_pI (pc := 7) dX12_asks_7 flX12_205 rfl rfl (Or.inl rfl) ?_
  refine sn_aload_n (pc := 10) (j := 0) dX12_asks_10 rfl rfl ?_
  refine sn_aload_n (pc := 11) (j := 0) dX12_asks_11 rfl rfl ?_
  refine sn_iload_n (pc := 12) (j := 1) dX12_asks_12 rfl rfl ?_
  refine sn_iconst (pc := 13) (v := 2) dX12_asks_13 (by decide) ?_
  refine sn_callV (ci := 12) (pc := 14) dX12_asks_14 iX12_patternOf wt6_239 ws_55 wt6_237 ⟨_, rfl, rfl⟩ (by decide) (mX12_patternOf a0 x1 2) (by decide) rfl rfl (Nat.le_of_ble_eq_true rfl) (fun v2 => ?_)
  refine sn_bipush (pc := 17) (v := 100) dX12_asks_17 (by decide) ?_
  refine sn_idiv (pc := 19) dX12_asks_19 ?_
  refine sn_sipush (pc := 20) (v := 9999) dX12_asks_20 (by decide) ?_
  refine sn_icmp_ge (pc := 23) (tgt := 38) dX12_asks_23 (by decide) ?_ ?_
  · refine sn_sipush (pc := 38) (v := 9999) dX12_asks_38 (by decide) ?_
    exact sn_sub (lv' := [(0, .ref (E.1 + a0)), (2, .int x2), (3, .int x3), (4, .int x4)]) [0, 2, 3, 4] rfl (sfX12_asks_41  a0 x2 x3 x4 9999 a0)
  · refine sn_aload_n (pc := 26) (j := 0) dX12_asks_26 rfl rfl ?_
    refine sn_iload_n (pc := 27) (j := 1) dX12_asks_27 rfl rfl ?_
    refine sn_iconst (pc := 28) (v := 2) dX12_asks_28 (by decide) ?_
    refine sn_callV (ci := 12) (pc := 29) dX12_asks_29 iX12_patternOf wt6_239 ws_55 wt6_237 ⟨_, rfl, rfl⟩ (by decide) (mX12_patternOf a0 x1 2) (by decide) rfl rfl (Nat.le_of_ble_eq_true rfl) (fun v3 => ?_)
    refine sn_bipush (pc := 32) (v := 100) dX12_asks_32 (by decide) ?_
    refine sn_idiv (pc := 34) dX12_asks_34 ?_
    refine sn_goto (pc := 35) (tgt := 41) dX12_asks_35 (by decide) ?_
    exact sn_sub (lv' := [(0, .ref (E.1 + a0)), (2, .int x2), (3, .int x3), (4, .int x4)]) [0, 2, 3, 4] rfl (sfX12_asks_41  a0 x2 x3 x4 (v3 / 100) a0)
theorem iX12_asks : MI yX12_asks cX12_asks 5 none 4 := ⟨wt1_10, wt7_47, by decide +kernel, by decide⟩
-- NeedleHomesModel asked(I)I
theorem dX12_asked_0 : decode cX12_asked 0 = .ok (.iload_n 1, 1) := by decide +kernel
theorem dX12_asked_1 : decode cX12_asked 1 = .ok (.tableswitch 78 10 16 #[43, 48, 53, 58, 63, 68, 73], 43) := by decide +kernel
theorem dX12_asked_44 : decode cX12_asked 44 = .ok (.aload_n 0, 1) := by decide +kernel
theorem dX12_asked_45 : decode cX12_asked 45 = .ok (.getfield 226, 3) := by decide +kernel
theorem dX12_asked_48 : decode cX12_asked 48 = .ok (.ireturn, 1) := by decide +kernel
theorem dX12_asked_49 : decode cX12_asked 49 = .ok (.aload_n 0, 1) := by decide +kernel
theorem dX12_asked_50 : decode cX12_asked 50 = .ok (.getfield 229, 3) := by decide +kernel
theorem dX12_asked_53 : decode cX12_asked 53 = .ok (.ireturn, 1) := by decide +kernel
theorem dX12_asked_54 : decode cX12_asked 54 = .ok (.aload_n 0, 1) := by decide +kernel
theorem dX12_asked_55 : decode cX12_asked 55 = .ok (.getfield 232, 3) := by decide +kernel
theorem dX12_asked_58 : decode cX12_asked 58 = .ok (.ireturn, 1) := by decide +kernel
theorem dX12_asked_59 : decode cX12_asked 59 = .ok (.aload_n 0, 1) := by decide +kernel
theorem dX12_asked_60 : decode cX12_asked 60 = .ok (.getfield 205, 3) := by decide +kernel
theorem dX12_asked_63 : decode cX12_asked 63 = .ok (.ireturn, 1) := by decide +kernel
theorem dX12_asked_64 : decode cX12_asked 64 = .ok (.aload_n 0, 1) := by decide +kernel
theorem dX12_asked_65 : decode cX12_asked 65 = .ok (.getfield 208, 3) := by decide +kernel
theorem dX12_asked_68 : decode cX12_asked 68 = .ok (.ireturn, 1) := by decide +kernel
theorem dX12_asked_69 : decode cX12_asked 69 = .ok (.aload_n 0, 1) := by decide +kernel
theorem dX12_asked_70 : decode cX12_asked 70 = .ok (.getfield 214, 3) := by decide +kernel
theorem dX12_asked_73 : decode cX12_asked 73 = .ok (.ireturn, 1) := by decide +kernel
theorem dX12_asked_74 : decode cX12_asked 74 = .ok (.aload_n 0, 1) := by decide +kernel
theorem dX12_asked_75 : decode cX12_asked 75 = .ok (.getfield 217, 3) := by decide +kernel
theorem dX12_asked_78 : decode cX12_asked 78 = .ok (.ireturn, 1) := by decide +kernel
theorem dX12_asked_79 : decode cX12_asked 79 = .ok (.aload_n 0, 1) := by decide +kernel
theorem dX12_asked_80 : decode cX12_asked 80 = .ok (.getfield 220, 3) := by decide +kernel
theorem dX12_asked_83 : decode cX12_asked 83 = .ok (.ireturn, 1) := by decide +kernel
abbrev dpX12_asked : Nat := 0
def fX12_asked (a0 : Nat) (x1 : Int32) : St → Option (Int32 × St) :=
 br (x1 = 10) (gI 13 a0 25 fun v1 =>
 rt v1) <|
 br (x1 = 11) (gI 13 a0 18 fun v2 =>
 rt v2) <|
 br (x1 = 12) (gI 13 a0 19 fun v3 =>
 rt v3) <|
 br (x1 = 13) (gI 13 a0 20 fun v4 =>
 rt v4) <|
 br (x1 = 14) (gI 13 a0 21 fun v5 =>
 rt v5) <|
 br (x1 = 15) (gI 13 a0 22 fun v6 =>
 rt v6) <|
 br (x1 = 16) (gI 13 a0 23 fun v7 =>
 rt v7) <|
 (gI 13 a0 24 fun v8 =>
 rt v8)
set_option maxHeartbeats 4000000 in
set_option maxRecDepth 100000 in
theorem mX12_asked {E : Ev} {l : Launch} (a0 : Nat) (x1 : Int32) : MF E l dpX12_asked yX12_asked cX12_asked 2 (some .int) rvI [.ref (E.1 + a0), .int x1] (fX12_asked a0 x1) := by
  refine MF.of (lv := [(0, .ref (E.1 + a0)), (1, .int x1)]) (by decide) (Nat.le_of_ble_eq_true rfl) rfl ?_
  unfold fX12_asked
  refine sn_iload_n (pc := 0) (j := 1) dX12_asked_0 rfl rfl ?_
  refine sw_start ?_
  refine sw_case (tgt := 44) 10 dX12_asked_1 (by decide) (by decide) rfl (by decide) ?_ ?_
  · refine sn_aload_n (pc := 44) (j := 0) dX12_asked_44 rfl rfl ?_
    refine sn_gI (pc := 45) dX12_asked_45 flX12_226 rfl (fun v1 => ?_)
    exact sn_iret (pc := 48) dX12_asked_48 rfl
  refine sw_case (tgt := 49) 11 dX12_asked_1 (by decide) (by decide) rfl (by decide) ?_ ?_
  · refine sn_aload_n (pc := 49) (j := 0) dX12_asked_49 rfl rfl ?_
    refine sn_gI (pc := 50) dX12_asked_50 flX12_229 rfl (fun v2 => ?_)
    exact sn_iret (pc := 53) dX12_asked_53 rfl
  refine sw_case (tgt := 54) 12 dX12_asked_1 (by decide) (by decide) rfl (by decide) ?_ ?_
  · refine sn_aload_n (pc := 54) (j := 0) dX12_asked_54 rfl rfl ?_
    refine sn_gI (pc := 55) dX12_asked_55 flX12_232 rfl (fun v3 => ?_)
    exact sn_iret (pc := 58) dX12_asked_58 rfl
  refine sw_case (tgt := 59) 13 dX12_asked_1 (by decide) (by decide) rfl (by decide) ?_ ?_
  · refine sn_aload_n (pc := 59) (j := 0) dX12_asked_59 rfl rfl ?_
    refine sn_gI (pc := 60) dX12_asked_60 flX12_205 rfl (fun v4 => ?_)
    exact sn_iret (pc := 63) dX12_asked_63 rfl
  refine sw_case (tgt := 64) 14 dX12_asked_1 (by decide) (by decide) rfl (by decide) ?_ ?_
  · refine sn_aload_n (pc := 64) (j := 0) dX12_asked_64 rfl rfl ?_
    refine sn_gI (pc := 65) dX12_asked_65 flX12_208 rfl (fun v5 => ?_)
    exact sn_iret (pc := 68) dX12_asked_68 rfl
  refine sw_case (tgt := 69) 15 dX12_asked_1 (by decide) (by decide) rfl (by decide) ?_ ?_
  · refine sn_aload_n (pc := 69) (j := 0) dX12_asked_69 rfl rfl ?_
    refine sn_gI (pc := 70) dX12_asked_70 flX12_214 rfl (fun v6 => ?_)
    exact sn_iret (pc := 73) dX12_asked_73 rfl
  refine sw_case (tgt := 74) 16 dX12_asked_1 (by decide) (by decide) rfl (by decide) ?_ ?_
  · refine sn_aload_n (pc := 74) (j := 0) dX12_asked_74 rfl rfl ?_
    refine sn_gI (pc := 75) dX12_asked_75 flX12_217 rfl (fun v7 => ?_)
    exact sn_iret (pc := 78) dX12_asked_78 rfl
  refine sw_dflt (tgt := 79) dX12_asked_1 (fun hc => ?_) (by decide) ?_
  · obtain ⟨⟨⟨⟨⟨⟨⟨-, q0⟩, q1⟩, q2⟩, q3⟩, q4⟩, q5⟩, q6⟩ := hc
    have q0 := ne_toInt q0
    have q1 := ne_toInt q1
    have q2 := ne_toInt q2
    have q3 := ne_toInt q3
    have q4 := ne_toInt q4
    have q5 := ne_toInt q5
    have q6 := ne_toInt q6
    have e0 : (10 : Int32).toInt = 10 := by decide
    have e1 : (11 : Int32).toInt = 11 := by decide
    have e2 : (12 : Int32).toInt = 12 := by decide
    have e3 : (13 : Int32).toInt = 13 := by decide
    have e4 : (14 : Int32).toInt = 14 := by decide
    have e5 : (15 : Int32).toInt = 15 := by decide
    have e6 : (16 : Int32).toInt = 16 := by decide
    rw [e0] at q0
    rw [e1] at q1
    rw [e2] at q2
    rw [e3] at q3
    rw [e4] at q4
    rw [e5] at q5
    rw [e6] at q6
    omega
  · refine sn_aload_n (pc := 79) (j := 0) dX12_asked_79 rfl rfl ?_
    refine sn_gI (pc := 80) dX12_asked_80 flX12_220 rfl (fun v8 => ?_)
    exact sn_iret (pc := 83) dX12_asked_83 rfl
theorem iX12_asked : MI yX12_asked cX12_asked 2 (some .int) 1 := ⟨wt1_10, wt7_70, by decide +kernel, by decide⟩
-- NeedleHomesModel holds(I)Z
theorem dX12_holds_0 : decode cX12_holds 0 = .ok (.iconst 1, 1) := by decide +kernel
theorem dX12_holds_1 : decode cX12_holds 1 = .ok (.istore_n 2, 1) := by decide +kernel
theorem dX12_holds_2 : decode cX12_holds 2 = .ok (.iconst 0, 1) := by decide +kernel
theorem dX12_holds_3 : decode cX12_holds 3 = .ok (.istore_n 3, 1) := by decide +kernel
theorem dX12_holds_4 : decode cX12_holds 4 = .ok (.iload_n 3, 1) := by decide +kernel
theorem dX12_holds_5 : decode cX12_holds 5 = .ok (.aload_n 0, 1) := by decide +kernel
theorem dX12_holds_6 : decode cX12_holds 6 = .ok (.getfield 7, 3) := by decide +kernel
theorem dX12_holds_9 : decode cX12_holds 9 = .ok (.iload_n 1, 1) := by decide +kernel
theorem dX12_holds_10 : decode cX12_holds 10 = .ok (.iconst 1, 1) := by decide +kernel
theorem dX12_holds_11 : decode cX12_holds 11 = .ok (.iadd, 1) := by decide +kernel
theorem dX12_holds_12 : decode cX12_holds 12 = .ok (.iaload, 1) := by decide +kernel
theorem dX12_holds_13 : decode cX12_holds 13 = .ok (.if_icmp .ge 147, 3) := by decide +kernel
theorem dX12_holds_16 : decode cX12_holds 16 = .ok (.iload_n 2, 1) := by decide +kernel
theorem dX12_holds_17 : decode cX12_holds 17 = .ok (.ifCond .eq 143, 3) := by decide +kernel
theorem dX12_holds_20 : decode cX12_holds 20 = .ok (.iload_n 1, 1) := by decide +kernel
theorem dX12_holds_21 : decode cX12_holds 21 = .ok (.iconst 2, 1) := by decide +kernel
theorem dX12_holds_22 : decode cX12_holds 22 = .ok (.iadd, 1) := by decide +kernel
theorem dX12_holds_23 : decode cX12_holds 23 = .ok (.iconst 4, 1) := by decide +kernel
theorem dX12_holds_24 : decode cX12_holds 24 = .ok (.iload_n 3, 1) := by decide +kernel
theorem dX12_holds_25 : decode cX12_holds 25 = .ok (.imul, 1) := by decide +kernel
theorem dX12_holds_26 : decode cX12_holds 26 = .ok (.iadd, 1) := by decide +kernel
theorem dX12_holds_27 : decode cX12_holds 27 = .ok (.istore 4, 2) := by decide +kernel
theorem dX12_holds_29 : decode cX12_holds 29 = .ok (.aload_n 0, 1) := by decide +kernel
theorem dX12_holds_30 : decode cX12_holds 30 = .ok (.aload_n 0, 1) := by decide +kernel
theorem dX12_holds_31 : decode cX12_holds 31 = .ok (.getfield 7, 3) := by decide +kernel
theorem dX12_holds_34 : decode cX12_holds 34 = .ok (.iload 4, 2) := by decide +kernel
theorem dX12_holds_36 : decode cX12_holds 36 = .ok (.iconst 1, 1) := by decide +kernel
theorem dX12_holds_37 : decode cX12_holds 37 = .ok (.iadd, 1) := by decide +kernel
theorem dX12_holds_38 : decode cX12_holds 38 = .ok (.iaload, 1) := by decide +kernel
theorem dX12_holds_39 : decode cX12_holds 39 = .ok (.invokevirtual 235, 3) := by decide +kernel
theorem dX12_holds_42 : decode cX12_holds 42 = .ok (.istore 5, 2) := by decide +kernel
theorem dX12_holds_44 : decode cX12_holds 44 = .ok (.aload_n 0, 1) := by decide +kernel
theorem dX12_holds_45 : decode cX12_holds 45 = .ok (.getfield 7, 3) := by decide +kernel
theorem dX12_holds_48 : decode cX12_holds 48 = .ok (.iload 4, 2) := by decide +kernel
theorem dX12_holds_50 : decode cX12_holds 50 = .ok (.iconst 3, 1) := by decide +kernel
theorem dX12_holds_51 : decode cX12_holds 51 = .ok (.iadd, 1) := by decide +kernel
theorem dX12_holds_52 : decode cX12_holds 52 = .ok (.iaload, 1) := by decide +kernel
theorem dX12_holds_53 : decode cX12_holds 53 = .ok (.istore 6, 2) := by decide +kernel
theorem dX12_holds_55 : decode cX12_holds 55 = .ok (.aload_n 0, 1) := by decide +kernel
theorem dX12_holds_56 : decode cX12_holds 56 = .ok (.getfield 7, 3) := by decide +kernel
theorem dX12_holds_59 : decode cX12_holds 59 = .ok (.iload 4, 2) := by decide +kernel
theorem dX12_holds_61 : decode cX12_holds 61 = .ok (.iconst 2, 1) := by decide +kernel
theorem dX12_holds_62 : decode cX12_holds 62 = .ok (.iadd, 1) := by decide +kernel
theorem dX12_holds_63 : decode cX12_holds 63 = .ok (.iaload, 1) := by decide +kernel
theorem dX12_holds_64 : decode cX12_holds 64 = .ok (.bipush 60, 2) := by decide +kernel
theorem dX12_holds_66 : decode cX12_holds 66 = .ok (.if_icmp .ne 18, 3) := by decide +kernel
theorem dX12_holds_69 : decode cX12_holds 69 = .ok (.iload 5, 2) := by decide +kernel
theorem dX12_holds_71 : decode cX12_holds 71 = .ok (.iload 6, 2) := by decide +kernel
theorem dX12_holds_73 : decode cX12_holds 73 = .ok (.if_icmp .ge 7, 3) := by decide +kernel
theorem dX12_holds_76 : decode cX12_holds 76 = .ok (.iconst 1, 1) := by decide +kernel
theorem dX12_holds_77 : decode cX12_holds 77 = .ok (.goto 48, 3) := by decide +kernel
theorem dX12_holds_80 : decode cX12_holds 80 = .ok (.iconst 0, 1) := by decide +kernel
theorem dX12_holds_81 : decode cX12_holds 81 = .ok (.goto 44, 3) := by decide +kernel
theorem dX12_holds_84 : decode cX12_holds 84 = .ok (.aload_n 0, 1) := by decide +kernel
theorem dX12_holds_85 : decode cX12_holds 85 = .ok (.getfield 7, 3) := by decide +kernel
theorem dX12_holds_88 : decode cX12_holds 88 = .ok (.iload 4, 2) := by decide +kernel
theorem dX12_holds_90 : decode cX12_holds 90 = .ok (.iconst 2, 1) := by decide +kernel
theorem dX12_holds_91 : decode cX12_holds 91 = .ok (.iadd, 1) := by decide +kernel
theorem dX12_holds_92 : decode cX12_holds 92 = .ok (.iaload, 1) := by decide +kernel
theorem dX12_holds_93 : decode cX12_holds 93 = .ok (.bipush 62, 2) := by decide +kernel
theorem dX12_holds_95 : decode cX12_holds 95 = .ok (.if_icmp .ne 18, 3) := by decide +kernel
theorem dX12_holds_98 : decode cX12_holds 98 = .ok (.iload 5, 2) := by decide +kernel
theorem dX12_holds_100 : decode cX12_holds 100 = .ok (.iload 6, 2) := by decide +kernel
theorem dX12_holds_102 : decode cX12_holds 102 = .ok (.if_icmp .le 7, 3) := by decide +kernel
theorem dX12_holds_105 : decode cX12_holds 105 = .ok (.iconst 1, 1) := by decide +kernel
theorem dX12_holds_106 : decode cX12_holds 106 = .ok (.goto 19, 3) := by decide +kernel
theorem dX12_holds_109 : decode cX12_holds 109 = .ok (.iconst 0, 1) := by decide +kernel
theorem dX12_holds_110 : decode cX12_holds 110 = .ok (.goto 15, 3) := by decide +kernel
theorem dX12_holds_113 : decode cX12_holds 113 = .ok (.iload 5, 2) := by decide +kernel
theorem dX12_holds_115 : decode cX12_holds 115 = .ok (.iload 6, 2) := by decide +kernel
theorem dX12_holds_117 : decode cX12_holds 117 = .ok (.if_icmp .ne 7, 3) := by decide +kernel
theorem dX12_holds_120 : decode cX12_holds 120 = .ok (.iconst 1, 1) := by decide +kernel
theorem dX12_holds_121 : decode cX12_holds 121 = .ok (.goto 4, 3) := by decide +kernel
theorem dX12_holds_124 : decode cX12_holds 124 = .ok (.iconst 0, 1) := by decide +kernel
theorem dX12_holds_125 : decode cX12_holds 125 = .ok (.istore 7, 2) := by decide +kernel
theorem dX12_holds_127 : decode cX12_holds 127 = .ok (.iload 7, 2) := by decide +kernel
theorem dX12_holds_129 : decode cX12_holds 129 = .ok (.aload_n 0, 1) := by decide +kernel
theorem dX12_holds_130 : decode cX12_holds 130 = .ok (.getfield 7, 3) := by decide +kernel
theorem dX12_holds_133 : decode cX12_holds 133 = .ok (.iload 4, 2) := by decide +kernel
theorem dX12_holds_135 : decode cX12_holds 135 = .ok (.iaload, 1) := by decide +kernel
theorem dX12_holds_136 : decode cX12_holds 136 = .ok (.iconst 1, 1) := by decide +kernel
theorem dX12_holds_137 : decode cX12_holds 137 = .ok (.if_icmp .ne 7, 3) := by decide +kernel
theorem dX12_holds_140 : decode cX12_holds 140 = .ok (.iconst 1, 1) := by decide +kernel
theorem dX12_holds_141 : decode cX12_holds 141 = .ok (.goto 4, 3) := by decide +kernel
theorem dX12_holds_144 : decode cX12_holds 144 = .ok (.iconst 0, 1) := by decide +kernel
theorem dX12_holds_145 : decode cX12_holds 145 = .ok (.if_icmp .eq 7, 3) := by decide +kernel
theorem dX12_holds_148 : decode cX12_holds 148 = .ok (.iconst 1, 1) := by decide +kernel
theorem dX12_holds_149 : decode cX12_holds 149 = .ok (.goto 4, 3) := by decide +kernel
theorem dX12_holds_152 : decode cX12_holds 152 = .ok (.iconst 0, 1) := by decide +kernel
theorem dX12_holds_153 : decode cX12_holds 153 = .ok (.istore_n 2, 1) := by decide +kernel
theorem dX12_holds_154 : decode cX12_holds 154 = .ok (.iinc 3 1, 3) := by decide +kernel
theorem dX12_holds_157 : decode cX12_holds 157 = .ok (.goto (-153), 3) := by decide +kernel
theorem dX12_holds_160 : decode cX12_holds 160 = .ok (.iload_n 2, 1) := by decide +kernel
theorem dX12_holds_161 : decode cX12_holds 161 = .ok (.ireturn, 1) := by decide +kernel
abbrev dpX12_holds : Nat := 1
def fX12_holds_153 (k4 : (Nat × Int32 × Int32 × Int32) → St → Option (Bool × St)) (a0 : Nat) (x1 : Int32) (x3 : Int32) (y0 : Int32) : St → Option (Bool × St) :=
 k4 (a0, x1, y0, (x3 + 1))
set_option maxHeartbeats 4000000 in
set_option maxRecDepth 100000 in
theorem sfX12_holds_153 {E : Ev} {l : Launch} (k4 : (Nat × Int32 × Int32 × Int32) → St → Option (Bool × St)) (hk4 : ∀ p : Nat × Int32 × Int32 × Int32, Snd E l (dpX12_holds, RX12, cX12_holds, 8, (some .boolean), "holds") rvZ 4 [(0, .ref (E.1 + p.1)), (1, .int p.2.1), (2, .int p.2.2.1), (3, .int p.2.2.2)] [] (k4 p)) (a0 : Nat) (x1 : Int32) (x3 : Int32) (y0 : Int32) : Snd E l (dpX12_holds, RX12, cX12_holds, 8, (some .boolean), "holds") rvZ 153 [(0, .ref (E.1 + a0)), (1, .int x1), (3, .int x3)] [.int y0] (fX12_holds_153 k4 a0 x1 x3 y0) := by
  unfold fX12_holds_153
  refine sn_istore_n (pc := 153) (i := 2) (lv' := [(2, .int y0), (0, .ref (E.1 + a0)), (1, .int x1), (3, .int x3)]) dX12_holds_153 rfl (by decide) rfl ?_
  refine sn_iinc (pc := 154) (v := x3 + 1) (lv' := [(3, .int (x3 + 1)), (2, .int y0), (0, .ref (E.1 + a0)), (1, .int x1)]) (j := 3) dX12_holds_154 rfl rfl (by decide) rfl ?_
  refine sn_goto (pc := 157) (tgt := 4) dX12_holds_157 (by decide) ?_
  exact sn_sub (lv' := [(0, .ref (E.1 + a0)), (1, .int x1), (2, .int y0), (3, .int (x3 + 1))]) [2, 3, 1, 0] rfl (hk4 (a0, x1, y0, (x3 + 1)))
def fX12_holds_145 (k4 : (Nat × Int32 × Int32 × Int32) → St → Option (Bool × St)) (a0 : Nat) (x1 : Int32) (x3 : Int32) (y0 : Int32) (y1 : Int32) : St → Option (Bool × St) :=
 br (y1 = y0) (fX12_holds_153 k4 a0 x1 x3 0)
 (fX12_holds_153 k4 a0 x1 x3 1)
set_option maxHeartbeats 4000000 in
set_option maxRecDepth 100000 in
theorem sfX12_holds_145 {E : Ev} {l : Launch} (k4 : (Nat × Int32 × Int32 × Int32) → St → Option (Bool × St)) (hk4 : ∀ p : Nat × Int32 × Int32 × Int32, Snd E l (dpX12_holds, RX12, cX12_holds, 8, (some .boolean), "holds") rvZ 4 [(0, .ref (E.1 + p.1)), (1, .int p.2.1), (2, .int p.2.2.1), (3, .int p.2.2.2)] [] (k4 p)) (a0 : Nat) (x1 : Int32) (x3 : Int32) (y0 : Int32) (y1 : Int32) : Snd E l (dpX12_holds, RX12, cX12_holds, 8, (some .boolean), "holds") rvZ 145 [(0, .ref (E.1 + a0)), (1, .int x1), (3, .int x3)] [.int y0, .int y1] (fX12_holds_145 k4 a0 x1 x3 y0 y1) := by
  unfold fX12_holds_145
  refine sn_icmp_eq (pc := 145) (tgt := 152) dX12_holds_145 (by decide) ?_ ?_
  · refine sn_iconst (pc := 152) (v := 0) dX12_holds_152 (by decide) ?_
    exact sn_sub (lv' := [(0, .ref (E.1 + a0)), (1, .int x1), (3, .int x3)]) [0, 1, 2] rfl (sfX12_holds_153 k4 hk4 a0 x1 x3 0)
  · refine sn_iconst (pc := 148) (v := 1) dX12_holds_148 (by decide) ?_
    refine sn_goto (pc := 149) (tgt := 153) dX12_holds_149 (by decide) ?_
    exact sn_sub (lv' := [(0, .ref (E.1 + a0)), (1, .int x1), (3, .int x3)]) [0, 1, 2] rfl (sfX12_holds_153 k4 hk4 a0 x1 x3 1)
def fX12_holds_125 (k4 : (Nat × Int32 × Int32 × Int32) → St → Option (Bool × St)) (a0 : Nat) (x1 : Int32) (x3 : Int32) (x4 : Int32) (y0 : Int32) : St → Option (Bool × St) :=
 gR 13 a0 0 fun v2001 =>
 nn v2001 fun a2003 =>
 aI 15 a2003 x4 fun v2002 =>
 br (v2002 = 1) (fX12_holds_145 k4 a0 x1 x3 1 y0)
 (fX12_holds_145 k4 a0 x1 x3 0 y0)
set_option maxHeartbeats 4000000 in
set_option maxRecDepth 100000 in
theorem sfX12_holds_125 {E : Ev} {l : Launch} (k4 : (Nat × Int32 × Int32 × Int32) → St → Option (Bool × St)) (hk4 : ∀ p : Nat × Int32 × Int32 × Int32, Snd E l (dpX12_holds, RX12, cX12_holds, 8, (some .boolean), "holds") rvZ 4 [(0, .ref (E.1 + p.1)), (1, .int p.2.1), (2, .int p.2.2.1), (3, .int p.2.2.2)] [] (k4 p)) (a0 : Nat) (x1 : Int32) (x3 : Int32) (x4 : Int32) (y0 : Int32) : Snd E l (dpX12_holds, RX12, cX12_holds, 8, (some .boolean), "holds") rvZ 125 [(0, .ref (E.1 + a0)), (1, .int x1), (3, .int x3), (4, .int x4)] [.int y0] (fX12_holds_125 k4 a0 x1 x3 x4 y0) := by
  unfold fX12_holds_125
  refine sn_istore (pc := 125) (i := 7) (lv' := [(7, .int y0), (0, .ref (E.1 + a0)), (1, .int x1), (3, .int x3), (4, .int x4)]) dX12_holds_125 (by decide) rfl ?_
  refine sn_iload (pc := 127) (j := 0) dX12_holds_127 rfl ?_
  refine sn_aload_n (pc := 129) (j := 1) dX12_holds_129 rfl rfl ?_
  refine sn_gR (pc := 130) dX12_holds_130 flX12_7 rfl (fun v2001 => ?_)
  refine sn_iload (pc := 133) (j := 4) dX12_holds_133 rfl ?_
  rcases v2001 with _ | a2003
  · exact sn_no
  refine sn_nn ?_
  refine sn_iald (pc := 135) dX12_holds_135 (fun v2002 => ?_)
  refine sn_iconst (pc := 136) (v := 1) dX12_holds_136 (by decide) ?_
  refine sn_icmp_ne (pc := 137) (tgt := 144) dX12_holds_137 (by decide) ?_ ?_
  · refine sn_iconst (pc := 144) (v := 0) dX12_holds_144 (by decide) ?_
    exact sn_sub (lv' := [(0, .ref (E.1 + a0)), (1, .int x1), (3, .int x3)]) [1, 2, 3] rfl (sfX12_holds_145 k4 hk4 a0 x1 x3 0 y0)
  · refine sn_iconst (pc := 140) (v := 1) dX12_holds_140 (by decide) ?_
    refine sn_goto (pc := 141) (tgt := 145) dX12_holds_141 (by decide) ?_
    exact sn_sub (lv' := [(0, .ref (E.1 + a0)), (1, .int x1), (3, .int x3)]) [1, 2, 3] rfl (sfX12_holds_145 k4 hk4 a0 x1 x3 1 y0)
def fX12_holds_4 (k4 : (Nat × Int32 × Int32 × Int32) → St → Option (Bool × St)) (a0 : Nat) (x1 : Int32) (x2 : Int32) (x3 : Int32) : St → Option (Bool × St) :=
 gR 13 a0 0 fun v1001 =>
 nn v1001 fun a1003 =>
 aI 15 a1003 (x1 + 1) fun v1002 =>
 br (v1002 ≤ x3) (rtZ x2)
 (br (x2 = 0) (rtZ x2)
 (gR 13 a0 0 fun v1004 =>
 nn v1004 fun a1006 =>
 aI 15 a1006 (((x1 + 2) + (4 * x3)) + 1) fun v1005 =>
 ck 13 a0 <| cl (fX12_asked a0 v1005) fun v1007 =>
 gR 13 a0 0 fun v1008 =>
 nn v1008 fun a1010 =>
 aI 15 a1010 (((x1 + 2) + (4 * x3)) + 3) fun v1009 =>
 gR 13 a0 0 fun v1011 =>
 nn v1011 fun a1013 =>
 aI 15 a1013 (((x1 + 2) + (4 * x3)) + 2) fun v1012 =>
 br (v1012 = 60) (br (v1009 ≤ v1007) (fX12_holds_125 k4 a0 x1 x3 ((x1 + 2) + (4 * x3)) 0)
 (fX12_holds_125 k4 a0 x1 x3 ((x1 + 2) + (4 * x3)) 1))
 (gR 13 a0 0 fun v1014 =>
 nn v1014 fun a1016 =>
 aI 15 a1016 (((x1 + 2) + (4 * x3)) + 2) fun v1015 =>
 br (v1015 = 62) (br (v1007 ≤ v1009) (fX12_holds_125 k4 a0 x1 x3 ((x1 + 2) + (4 * x3)) 0)
 (fX12_holds_125 k4 a0 x1 x3 ((x1 + 2) + (4 * x3)) 1))
 (br (v1007 = v1009) (fX12_holds_125 k4 a0 x1 x3 ((x1 + 2) + (4 * x3)) 1)
 (fX12_holds_125 k4 a0 x1 x3 ((x1 + 2) + (4 * x3)) 0)))))
set_option maxHeartbeats 4000000 in
set_option maxRecDepth 100000 in
theorem sfX12_holds_4 {E : Ev} {l : Launch} (k4 : (Nat × Int32 × Int32 × Int32) → St → Option (Bool × St)) (hk4 : ∀ p : Nat × Int32 × Int32 × Int32, Snd E l (dpX12_holds, RX12, cX12_holds, 8, (some .boolean), "holds") rvZ 4 [(0, .ref (E.1 + p.1)), (1, .int p.2.1), (2, .int p.2.2.1), (3, .int p.2.2.2)] [] (k4 p)) (a0 : Nat) (x1 : Int32) (x2 : Int32) (x3 : Int32) : Snd E l (dpX12_holds, RX12, cX12_holds, 8, (some .boolean), "holds") rvZ 4 [(0, .ref (E.1 + a0)), (1, .int x1), (2, .int x2), (3, .int x3)] [] (fX12_holds_4 k4 a0 x1 x2 x3) := by
  unfold fX12_holds_4
  refine sn_iload_n (pc := 4) (j := 3) dX12_holds_4 rfl rfl ?_
  refine sn_aload_n (pc := 5) (j := 0) dX12_holds_5 rfl rfl ?_
  refine sn_gR (pc := 6) dX12_holds_6 flX12_7 rfl (fun v1001 => ?_)
  refine sn_iload_n (pc := 9) (j := 1) dX12_holds_9 rfl rfl ?_
  refine sn_iconst (pc := 10) (v := 1) dX12_holds_10 (by decide) ?_
  refine sn_iadd (pc := 11) dX12_holds_11 ?_
  rcases v1001 with _ | a1003
  · exact sn_no
  refine sn_nn ?_
  refine sn_iald (pc := 12) dX12_holds_12 (fun v1002 => ?_)
  refine sn_icmp_ge (pc := 13) (tgt := 160) dX12_holds_13 (by decide) ?_ ?_
  · refine sn_iload_n (pc := 160) (j := 2) dX12_holds_160 rfl rfl ?_
    exact sn_zret (pc := 161) dX12_holds_161 rfl
  · refine sn_iload_n (pc := 16) (j := 2) dX12_holds_16 rfl rfl ?_
    refine sn_if_eq (pc := 17) (tgt := 160) dX12_holds_17 (by decide) ?_ ?_
    · refine sn_iload_n (pc := 160) (j := 2) dX12_holds_160 rfl rfl ?_
      exact sn_zret (pc := 161) dX12_holds_161 rfl
    · refine sn_iload_n (pc := 20) (j := 1) dX12_holds_20 rfl rfl ?_
      refine sn_iconst (pc := 21) (v := 2) dX12_holds_21 (by decide) ?_
      refine sn_iadd (pc := 22) dX12_holds_22 ?_
      refine sn_iconst (pc := 23) (v := 4) dX12_holds_23 (by decide) ?_
      refine sn_iload_n (pc := 24) (j := 3) dX12_holds_24 rfl rfl ?_
      refine sn_imul (pc := 25) dX12_holds_25 ?_
      refine sn_iadd (pc := 26) dX12_holds_26 ?_
      refine sn_istore (pc := 27) (i := 4) (lv' := [(4, .int ((x1 + 2) + (4 * x3))), (0, .ref (E.1 + a0)), (1, .int x1), (2, .int x2), (3, .int x3)]) dX12_holds_27 (by decide) rfl ?_
      refine sn_aload_n (pc := 29) (j := 1) dX12_holds_29 rfl rfl ?_
      refine sn_aload_n (pc := 30) (j := 1) dX12_holds_30 rfl rfl ?_
      refine sn_gR (pc := 31) dX12_holds_31 flX12_7 rfl (fun v1004 => ?_)
      refine sn_iload (pc := 34) (j := 0) dX12_holds_34 rfl ?_
      refine sn_iconst (pc := 36) (v := 1) dX12_holds_36 (by decide) ?_
      refine sn_iadd (pc := 37) dX12_holds_37 ?_
      rcases v1004 with _ | a1006
      · exact sn_no
      refine sn_nn ?_
      refine sn_iald (pc := 38) dX12_holds_38 (fun v1005 => ?_)
      refine sn_callV (ci := 12) (pc := 39) dX12_holds_39 iX12_asked wt7_69 ws_66 wt7_67 ⟨_, rfl, rfl⟩ (by decide) (mX12_asked a0 v1005) (by decide) rfl rfl (Nat.le_of_ble_eq_true rfl) (fun v1007 => ?_)
      refine sn_istore (pc := 42) (i := 5) (lv' := [(5, .int v1007), (4, .int ((x1 + 2) + (4 * x3))), (0, .ref (E.1 + a0)), (1, .int x1), (2, .int x2), (3, .int x3)]) dX12_holds_42 (by decide) rfl ?_
      refine sn_aload_n (pc := 44) (j := 2) dX12_holds_44 rfl rfl ?_
      refine sn_gR (pc := 45) dX12_holds_45 flX12_7 rfl (fun v1008 => ?_)
      refine sn_iload (pc := 48) (j := 1) dX12_holds_48 rfl ?_
      refine sn_iconst (pc := 50) (v := 3) dX12_holds_50 (by decide) ?_
      refine sn_iadd (pc := 51) dX12_holds_51 ?_
      rcases v1008 with _ | a1010
      · exact sn_no
      refine sn_nn ?_
      refine sn_iald (pc := 52) dX12_holds_52 (fun v1009 => ?_)
      refine sn_istore (pc := 53) (i := 6) (lv' := [(6, .int v1009), (5, .int v1007), (4, .int ((x1 + 2) + (4 * x3))), (0, .ref (E.1 + a0)), (1, .int x1), (2, .int x2), (3, .int x3)]) dX12_holds_53 (by decide) rfl ?_
      refine sn_aload_n (pc := 55) (j := 3) dX12_holds_55 rfl rfl ?_
      refine sn_gR (pc := 56) dX12_holds_56 flX12_7 rfl (fun v1011 => ?_)
      refine sn_iload (pc := 59) (j := 2) dX12_holds_59 rfl ?_
      refine sn_iconst (pc := 61) (v := 2) dX12_holds_61 (by decide) ?_
      refine sn_iadd (pc := 62) dX12_holds_62 ?_
      rcases v1011 with _ | a1013
      · exact sn_no
      refine sn_nn ?_
      refine sn_iald (pc := 63) dX12_holds_63 (fun v1012 => ?_)
      refine sn_bipush (pc := 64) (v := 60) dX12_holds_64 (by decide) ?_
      refine sn_icmp_ne (pc := 66) (tgt := 84) dX12_holds_66 (by decide) ?_ ?_
      · refine sn_aload_n (pc := 84) (j := 3) dX12_holds_84 rfl rfl ?_
        refine sn_gR (pc := 85) dX12_holds_85 flX12_7 rfl (fun v1014 => ?_)
        refine sn_iload (pc := 88) (j := 2) dX12_holds_88 rfl ?_
        refine sn_iconst (pc := 90) (v := 2) dX12_holds_90 (by decide) ?_
        refine sn_iadd (pc := 91) dX12_holds_91 ?_
        rcases v1014 with _ | a1016
        · exact sn_no
        refine sn_nn ?_
        refine sn_iald (pc := 92) dX12_holds_92 (fun v1015 => ?_)
        refine sn_bipush (pc := 93) (v := 62) dX12_holds_93 (by decide) ?_
        refine sn_icmp_ne (pc := 95) (tgt := 113) dX12_holds_95 (by decide) ?_ ?_
        · refine sn_iload (pc := 113) (j := 1) dX12_holds_113 rfl ?_
          refine sn_iload (pc := 115) (j := 0) dX12_holds_115 rfl ?_
          refine sn_icmp_ne (pc := 117) (tgt := 124) dX12_holds_117 (by decide) ?_ ?_
          · refine sn_iconst (pc := 124) (v := 0) dX12_holds_124 (by decide) ?_
            exact sn_sub (lv' := [(0, .ref (E.1 + a0)), (1, .int x1), (3, .int x3), (4, .int ((x1 + 2) + (4 * x3)))]) [3, 4, 6, 2] rfl (sfX12_holds_125 k4 hk4 a0 x1 x3 ((x1 + 2) + (4 * x3)) 0)
          · refine sn_iconst (pc := 120) (v := 1) dX12_holds_120 (by decide) ?_
            refine sn_goto (pc := 121) (tgt := 125) dX12_holds_121 (by decide) ?_
            exact sn_sub (lv' := [(0, .ref (E.1 + a0)), (1, .int x1), (3, .int x3), (4, .int ((x1 + 2) + (4 * x3)))]) [3, 4, 6, 2] rfl (sfX12_holds_125 k4 hk4 a0 x1 x3 ((x1 + 2) + (4 * x3)) 1)
        · refine sn_iload (pc := 98) (j := 1) dX12_holds_98 rfl ?_
          refine sn_iload (pc := 100) (j := 0) dX12_holds_100 rfl ?_
          refine sn_icmp_le (pc := 102) (tgt := 109) dX12_holds_102 (by decide) ?_ ?_
          · refine sn_iconst (pc := 109) (v := 0) dX12_holds_109 (by decide) ?_
            refine sn_goto (pc := 110) (tgt := 125) dX12_holds_110 (by decide) ?_
            exact sn_sub (lv' := [(0, .ref (E.1 + a0)), (1, .int x1), (3, .int x3), (4, .int ((x1 + 2) + (4 * x3)))]) [3, 4, 6, 2] rfl (sfX12_holds_125 k4 hk4 a0 x1 x3 ((x1 + 2) + (4 * x3)) 0)
          · refine sn_iconst (pc := 105) (v := 1) dX12_holds_105 (by decide) ?_
            refine sn_goto (pc := 106) (tgt := 125) dX12_holds_106 (by decide) ?_
            exact sn_sub (lv' := [(0, .ref (E.1 + a0)), (1, .int x1), (3, .int x3), (4, .int ((x1 + 2) + (4 * x3)))]) [3, 4, 6, 2] rfl (sfX12_holds_125 k4 hk4 a0 x1 x3 ((x1 + 2) + (4 * x3)) 1)
      · refine sn_iload (pc := 69) (j := 1) dX12_holds_69 rfl ?_
        refine sn_iload (pc := 71) (j := 0) dX12_holds_71 rfl ?_
        refine sn_icmp_ge (pc := 73) (tgt := 80) dX12_holds_73 (by decide) ?_ ?_
        · refine sn_iconst (pc := 80) (v := 0) dX12_holds_80 (by decide) ?_
          refine sn_goto (pc := 81) (tgt := 125) dX12_holds_81 (by decide) ?_
          exact sn_sub (lv' := [(0, .ref (E.1 + a0)), (1, .int x1), (3, .int x3), (4, .int ((x1 + 2) + (4 * x3)))]) [3, 4, 6, 2] rfl (sfX12_holds_125 k4 hk4 a0 x1 x3 ((x1 + 2) + (4 * x3)) 0)
        · refine sn_iconst (pc := 76) (v := 1) dX12_holds_76 (by decide) ?_
          refine sn_goto (pc := 77) (tgt := 125) dX12_holds_77 (by decide) ?_
          exact sn_sub (lv' := [(0, .ref (E.1 + a0)), (1, .int x1), (3, .int x3), (4, .int ((x1 + 2) + (4 * x3)))]) [3, 4, 6, 2] rfl (sfX12_holds_125 k4 hk4 a0 x1 x3 ((x1 + 2) + (4 * x3)) 1)
def fX12_holds (a0 : Nat) (x1 : Int32) : St → Option (Bool × St) :=
 itr (fun k (p : Nat × Int32 × Int32 × Int32) => fX12_holds_4  k p.1 p.2.1 p.2.2.1 p.2.2.2) FU (a0, x1, 1, 0)
set_option maxHeartbeats 4000000 in
set_option maxRecDepth 100000 in
theorem mX12_holds {E : Ev} {l : Launch} (a0 : Nat) (x1 : Int32) : MF E l dpX12_holds yX12_holds cX12_holds 8 (some .boolean) rvZ [.ref (E.1 + a0), .int x1] (fX12_holds a0 x1) := by
  refine MF.of (lv := [(0, .ref (E.1 + a0)), (1, .int x1)]) (by decide) (Nat.le_of_ble_eq_true rfl) rfl ?_
  unfold fX12_holds
  refine sn_iconst (pc := 0) (v := 1) dX12_holds_0 (by decide) ?_
  refine sn_istore_n (pc := 1) (i := 2) (lv' := [(2, .int 1), (0, .ref (E.1 + a0)), (1, .int x1)]) dX12_holds_1 rfl (by decide) rfl ?_
  refine sn_iconst (pc := 2) (v := 0) dX12_holds_2 (by decide) ?_
  refine sn_istore_n (pc := 3) (i := 3) (lv' := [(3, .int 0), (2, .int 1), (0, .ref (E.1 + a0)), (1, .int x1)]) dX12_holds_3 rfl (by decide) rfl ?_
  exact sn_sub (lv' := [(0, .ref (E.1 + a0)), (1, .int x1), (2, .int 1), (3, .int 0)]) [2, 3, 1, 0] rfl (sn_itr (lvf := fun p => [(0, .ref (E.1 + p.1)), (1, .int p.2.1), (2, .int p.2.2.1), (3, .int p.2.2.2)]) (stf := fun p => []) (fun k hk p => sfX12_holds_4  k hk p.1 p.2.1 p.2.2.1 p.2.2.2) FU (a0, x1, 1, 0))
theorem iX12_holds : MI yX12_holds cX12_holds 8 (some .boolean) 1 := ⟨wt1_10, wt7_66, by decide +kernel, by decide⟩
-- NeedleHomesModel without(I)I
theorem dX12_without_0 : decode cX12_without 0 = .ok (.iload_n 0, 1) := by decide +kernel
theorem dX12_without_1 : decode cX12_without 1 = .ok (.ifCond .ne 8, 3) := by decide +kernel
theorem dX12_without_4 : decode cX12_without 4 = .ok (.bipush 10, 2) := by decide +kernel
theorem dX12_without_6 : decode cX12_without 6 = .ok (.goto 23, 3) := by decide +kernel
theorem dX12_without_9 : decode cX12_without 9 = .ok (.iload_n 0, 1) := by decide +kernel
theorem dX12_without_10 : decode cX12_without 10 = .ok (.iconst 1, 1) := by decide +kernel
theorem dX12_without_11 : decode cX12_without 11 = .ok (.if_icmp .ne 7, 3) := by decide +kernel
theorem dX12_without_14 : decode cX12_without 14 = .ok (.iconst 5, 1) := by decide +kernel
theorem dX12_without_15 : decode cX12_without 15 = .ok (.goto 14, 3) := by decide +kernel
theorem dX12_without_18 : decode cX12_without 18 = .ok (.iload_n 0, 1) := by decide +kernel
theorem dX12_without_19 : decode cX12_without 19 = .ok (.iconst 4, 1) := by decide +kernel
theorem dX12_without_20 : decode cX12_without 20 = .ok (.if_icmp .ne 8, 3) := by decide +kernel
theorem dX12_without_23 : decode cX12_without 23 = .ok (.bipush 7, 2) := by decide +kernel
theorem dX12_without_25 : decode cX12_without 25 = .ok (.goto 4, 3) := by decide +kernel
theorem dX12_without_28 : decode cX12_without 28 = .ok (.iconst 0, 1) := by decide +kernel
theorem dX12_without_29 : decode cX12_without 29 = .ok (.ireturn, 1) := by decide +kernel
abbrev dpX12_without : Nat := 0
def fX12_without (x0 : Int32) : St → Option (Int32 × St) :=
 br (x0 = 0) (rt 10)
 (br (x0 = 1) (rt 5)
 (br (x0 = 4) (rt 7)
 (rt 0)))
set_option maxHeartbeats 4000000 in
set_option maxRecDepth 100000 in
theorem mX12_without {E : Ev} {l : Launch} (x0 : Int32) : MF E l dpX12_without yX12_without cX12_without 1 (some .int) rvI [.int x0] (fX12_without x0) := by
  refine MF.of (lv := [(0, .int x0)]) (by decide) (Nat.le_of_ble_eq_true rfl) rfl ?_
  unfold fX12_without
  refine sn_iload_n (pc := 0) (j := 0) dX12_without_0 rfl rfl ?_
  refine sn_if_ne (pc := 1) (tgt := 9) dX12_without_1 (by decide) ?_ ?_
  · refine sn_iload_n (pc := 9) (j := 0) dX12_without_9 rfl rfl ?_
    refine sn_iconst (pc := 10) (v := 1) dX12_without_10 (by decide) ?_
    refine sn_icmp_ne (pc := 11) (tgt := 18) dX12_without_11 (by decide) ?_ ?_
    · refine sn_iload_n (pc := 18) (j := 0) dX12_without_18 rfl rfl ?_
      refine sn_iconst (pc := 19) (v := 4) dX12_without_19 (by decide) ?_
      refine sn_icmp_ne (pc := 20) (tgt := 28) dX12_without_20 (by decide) ?_ ?_
      · refine sn_iconst (pc := 28) (v := 0) dX12_without_28 (by decide) ?_
        exact sn_iret (pc := 29) dX12_without_29 rfl
      · refine sn_bipush (pc := 23) (v := 7) dX12_without_23 (by decide) ?_
        refine sn_goto (pc := 25) (tgt := 29) dX12_without_25 (by decide) ?_
        exact sn_iret (pc := 29) dX12_without_29 rfl
    · refine sn_iconst (pc := 14) (v := 5) dX12_without_14 (by decide) ?_
      refine sn_goto (pc := 15) (tgt := 29) dX12_without_15 (by decide) ?_
      exact sn_iret (pc := 29) dX12_without_29 rfl
  · refine sn_bipush (pc := 4) (v := 10) dX12_without_4 (by decide) ?_
    refine sn_goto (pc := 6) (tgt := 29) dX12_without_6 (by decide) ?_
    exact sn_iret (pc := 29) dX12_without_29 rfl
theorem iX12_without : MI yX12_without cX12_without 1 (some .int) 1 := ⟨wt1_10, wt7_62, by decide +kernel, by decide⟩
-- NeedleHomesModel termOf(IIII)I
theorem dX12_termOf_0 : decode cX12_termOf 0 = .ok (.aload_n 0, 1) := by decide +kernel
theorem dX12_termOf_1 : decode cX12_termOf 1 = .ok (.iload_n 2, 1) := by decide +kernel
theorem dX12_termOf_2 : decode cX12_termOf 2 = .ok (.iconst 2, 1) := by decide +kernel
theorem dX12_termOf_3 : decode cX12_termOf 3 = .ok (.if_icmp .ge 7, 3) := by decide +kernel
theorem dX12_termOf_6 : decode cX12_termOf 6 = .ok (.iload_n 3, 1) := by decide +kernel
theorem dX12_termOf_7 : decode cX12_termOf 7 = .ok (.goto 5, 3) := by decide +kernel
theorem dX12_termOf_10 : decode cX12_termOf 10 = .ok (.bipush 9, 2) := by decide +kernel
theorem dX12_termOf_12 : decode cX12_termOf 12 = .ok (.putfield 229, 3) := by decide +kernel
theorem dX12_termOf_15 : decode cX12_termOf 15 = .ok (.aload_n 0, 1) := by decide +kernel
theorem dX12_termOf_16 : decode cX12_termOf 16 = .ok (.iload_n 2, 1) := by decide +kernel
theorem dX12_termOf_17 : decode cX12_termOf 17 = .ok (.iconst 2, 1) := by decide +kernel
theorem dX12_termOf_18 : decode cX12_termOf 18 = .ok (.if_icmp .ge 8, 3) := by decide +kernel
theorem dX12_termOf_21 : decode cX12_termOf 21 = .ok (.iload 4, 2) := by decide +kernel
theorem dX12_termOf_23 : decode cX12_termOf 23 = .ok (.goto 5, 3) := by decide +kernel
theorem dX12_termOf_26 : decode cX12_termOf 26 = .ok (.bipush 9, 2) := by decide +kernel
theorem dX12_termOf_28 : decode cX12_termOf 28 = .ok (.putfield 232, 3) := by decide +kernel
theorem dX12_termOf_31 : decode cX12_termOf 31 = .ok (.iload_n 1, 1) := by decide +kernel
theorem dX12_termOf_32 : decode cX12_termOf 32 = .ok (.ifCond .ge 8, 3) := by decide +kernel
theorem dX12_termOf_35 : decode cX12_termOf 35 = .ok (.iload_n 2, 1) := by decide +kernel
theorem dX12_termOf_36 : decode cX12_termOf 36 = .ok (.invokestatic 238, 3) := by decide +kernel
theorem dX12_termOf_39 : decode cX12_termOf 39 = .ok (.ireturn, 1) := by decide +kernel
theorem dX12_termOf_40 : decode cX12_termOf 40 = .ok (.sipush 240, 3) := by decide +kernel
theorem dX12_termOf_43 : decode cX12_termOf 43 = .ok (.sipush 320, 3) := by decide +kernel
theorem dX12_termOf_46 : decode cX12_termOf 46 = .ok (.iload_n 1, 1) := by decide +kernel
theorem dX12_termOf_47 : decode cX12_termOf 47 = .ok (.imul, 1) := by decide +kernel
theorem dX12_termOf_48 : decode cX12_termOf 48 = .ok (.iadd, 1) := by decide +kernel
theorem dX12_termOf_49 : decode cX12_termOf 49 = .ok (.istore 5, 2) := by decide +kernel
theorem dX12_termOf_51 : decode cX12_termOf 51 = .ok (.iconst 0, 1) := by decide +kernel
theorem dX12_termOf_52 : decode cX12_termOf 52 = .ok (.istore 6, 2) := by decide +kernel
theorem dX12_termOf_54 : decode cX12_termOf 54 = .ok (.iload 6, 2) := by decide +kernel
theorem dX12_termOf_56 : decode cX12_termOf 56 = .ok (.aload_n 0, 1) := by decide +kernel
theorem dX12_termOf_57 : decode cX12_termOf 57 = .ok (.getfield 7, 3) := by decide +kernel
theorem dX12_termOf_60 : decode cX12_termOf 60 = .ok (.iload 5, 2) := by decide +kernel
theorem dX12_termOf_62 : decode cX12_termOf 62 = .ok (.iconst 3, 1) := by decide +kernel
theorem dX12_termOf_63 : decode cX12_termOf 63 = .ok (.iadd, 1) := by decide +kernel
theorem dX12_termOf_64 : decode cX12_termOf 64 = .ok (.iaload, 1) := by decide +kernel
theorem dX12_termOf_65 : decode cX12_termOf 65 = .ok (.if_icmp .ge 52, 3) := by decide +kernel
theorem dX12_termOf_68 : decode cX12_termOf 68 = .ok (.iload 5, 2) := by decide +kernel
theorem dX12_termOf_70 : decode cX12_termOf 70 = .ok (.iconst 4, 1) := by decide +kernel
theorem dX12_termOf_71 : decode cX12_termOf 71 = .ok (.iadd, 1) := by decide +kernel
theorem dX12_termOf_72 : decode cX12_termOf 72 = .ok (.bipush 19, 2) := by decide +kernel
theorem dX12_termOf_74 : decode cX12_termOf 74 = .ok (.iload 6, 2) := by decide +kernel
theorem dX12_termOf_76 : decode cX12_termOf 76 = .ok (.imul, 1) := by decide +kernel
theorem dX12_termOf_77 : decode cX12_termOf 77 = .ok (.iadd, 1) := by decide +kernel
theorem dX12_termOf_78 : decode cX12_termOf 78 = .ok (.istore 7, 2) := by decide +kernel
theorem dX12_termOf_80 : decode cX12_termOf 80 = .ok (.aload_n 0, 1) := by decide +kernel
theorem dX12_termOf_81 : decode cX12_termOf 81 = .ok (.getfield 7, 3) := by decide +kernel
theorem dX12_termOf_84 : decode cX12_termOf 84 = .ok (.iload 7, 2) := by decide +kernel
theorem dX12_termOf_86 : decode cX12_termOf 86 = .ok (.iaload, 1) := by decide +kernel
theorem dX12_termOf_87 : decode cX12_termOf 87 = .ok (.iload_n 2, 1) := by decide +kernel
theorem dX12_termOf_88 : decode cX12_termOf 88 = .ok (.if_icmp .ne 23, 3) := by decide +kernel
theorem dX12_termOf_91 : decode cX12_termOf 91 = .ok (.aload_n 0, 1) := by decide +kernel
theorem dX12_termOf_92 : decode cX12_termOf 92 = .ok (.iload 7, 2) := by decide +kernel
theorem dX12_termOf_94 : decode cX12_termOf 94 = .ok (.invokevirtual 241, 3) := by decide +kernel
theorem dX12_termOf_97 : decode cX12_termOf 97 = .ok (.ifCond .eq 14, 3) := by decide +kernel
theorem dX12_termOf_100 : decode cX12_termOf 100 = .ok (.aload_n 0, 1) := by decide +kernel
theorem dX12_termOf_101 : decode cX12_termOf 101 = .ok (.getfield 7, 3) := by decide +kernel
theorem dX12_termOf_104 : decode cX12_termOf 104 = .ok (.iload 7, 2) := by decide +kernel
theorem dX12_termOf_106 : decode cX12_termOf 106 = .ok (.bipush 18, 2) := by decide +kernel
theorem dX12_termOf_108 : decode cX12_termOf 108 = .ok (.iadd, 1) := by decide +kernel
theorem dX12_termOf_109 : decode cX12_termOf 109 = .ok (.iaload, 1) := by decide +kernel
theorem dX12_termOf_110 : decode cX12_termOf 110 = .ok (.ireturn, 1) := by decide +kernel
theorem dX12_termOf_111 : decode cX12_termOf 111 = .ok (.iinc 6 1, 3) := by decide +kernel
theorem dX12_termOf_114 : decode cX12_termOf 114 = .ok (.goto (-60), 3) := by decide +kernel
theorem dX12_termOf_117 : decode cX12_termOf 117 = .ok (.iload_n 2, 1) := by decide +kernel
theorem dX12_termOf_118 : decode cX12_termOf 118 = .ok (.invokestatic 238, 3) := by decide +kernel
theorem dX12_termOf_121 : decode cX12_termOf 121 = .ok (.ireturn, 1) := by decide +kernel
abbrev dpX12_termOf : Nat := 2
def fX12_termOf_111 (k54 : (Nat × Int32 × Int32 × Int32) → St → Option (Int32 × St)) (a0 : Nat) (x2 : Int32) (x5 : Int32) (x6 : Int32) : St → Option (Int32 × St) :=
 k54 (a0, x2, x5, (x6 + 1))
set_option maxHeartbeats 4000000 in
set_option maxRecDepth 100000 in
theorem sfX12_termOf_111 {E : Ev} {l : Launch} (k54 : (Nat × Int32 × Int32 × Int32) → St → Option (Int32 × St)) (hk54 : ∀ p : Nat × Int32 × Int32 × Int32, Snd E l (dpX12_termOf, RX12, cX12_termOf, 8, (some .int), "termOf") rvI 54 [(0, .ref (E.1 + p.1)), (2, .int p.2.1), (5, .int p.2.2.1), (6, .int p.2.2.2)] [] (k54 p)) (a0 : Nat) (x2 : Int32) (x5 : Int32) (x6 : Int32) : Snd E l (dpX12_termOf, RX12, cX12_termOf, 8, (some .int), "termOf") rvI 111 [(0, .ref (E.1 + a0)), (2, .int x2), (5, .int x5), (6, .int x6)] [] (fX12_termOf_111 k54 a0 x2 x5 x6) := by
  unfold fX12_termOf_111
  refine sn_iinc (pc := 111) (v := x6 + 1) (lv' := [(6, .int (x6 + 1)), (0, .ref (E.1 + a0)), (2, .int x2), (5, .int x5)]) (j := 3) dX12_termOf_111 rfl rfl (by decide) rfl ?_
  refine sn_goto (pc := 114) (tgt := 54) dX12_termOf_114 (by decide) ?_
  exact sn_sub (lv' := [(0, .ref (E.1 + a0)), (2, .int x2), (5, .int x5), (6, .int (x6 + 1))]) [1, 2, 3, 0] rfl (hk54 (a0, x2, x5, (x6 + 1)))
def fX12_termOf_54 (k54 : (Nat × Int32 × Int32 × Int32) → St → Option (Int32 × St)) (a0 : Nat) (x2 : Int32) (x5 : Int32) (x6 : Int32) : St → Option (Int32 × St) :=
 gR 13 a0 0 fun v3001 =>
 nn v3001 fun a3003 =>
 aI 15 a3003 (x5 + 3) fun v3002 =>
 br (v3002 ≤ x6) (cl (fX12_without x2) fun v3004 =>
 rt v3004)
 (gR 13 a0 0 fun v3005 =>
 nn v3005 fun a3007 =>
 aI 15 a3007 ((x5 + 4) + (19 * x6)) fun v3006 =>
 br (v3006 = x2) (ck 13 a0 <| cl (fX12_holds a0 ((x5 + 4) + (19 * x6))) fun v3008 =>
 br ((bi v3008) = 0) (fX12_termOf_111 k54 a0 x2 x5 x6)
 (gR 13 a0 0 fun v3009 =>
 nn v3009 fun a3011 =>
 aI 15 a3011 (((x5 + 4) + (19 * x6)) + 18) fun v3010 =>
 rt v3010))
 (fX12_termOf_111 k54 a0 x2 x5 x6))
set_option maxHeartbeats 4000000 in
set_option maxRecDepth 100000 in
theorem sfX12_termOf_54 {E : Ev} {l : Launch} (k54 : (Nat × Int32 × Int32 × Int32) → St → Option (Int32 × St)) (hk54 : ∀ p : Nat × Int32 × Int32 × Int32, Snd E l (dpX12_termOf, RX12, cX12_termOf, 8, (some .int), "termOf") rvI 54 [(0, .ref (E.1 + p.1)), (2, .int p.2.1), (5, .int p.2.2.1), (6, .int p.2.2.2)] [] (k54 p)) (a0 : Nat) (x2 : Int32) (x5 : Int32) (x6 : Int32) : Snd E l (dpX12_termOf, RX12, cX12_termOf, 8, (some .int), "termOf") rvI 54 [(0, .ref (E.1 + a0)), (2, .int x2), (5, .int x5), (6, .int x6)] [] (fX12_termOf_54 k54 a0 x2 x5 x6) := by
  unfold fX12_termOf_54
  refine sn_iload (pc := 54) (j := 3) dX12_termOf_54 rfl ?_
  refine sn_aload_n (pc := 56) (j := 0) dX12_termOf_56 rfl rfl ?_
  refine sn_gR (pc := 57) dX12_termOf_57 flX12_7 rfl (fun v3001 => ?_)
  refine sn_iload (pc := 60) (j := 2) dX12_termOf_60 rfl ?_
  refine sn_iconst (pc := 62) (v := 3) dX12_termOf_62 (by decide) ?_
  refine sn_iadd (pc := 63) dX12_termOf_63 ?_
  rcases v3001 with _ | a3003
  · exact sn_no
  refine sn_nn ?_
  refine sn_iald (pc := 64) dX12_termOf_64 (fun v3002 => ?_)
  refine sn_icmp_ge (pc := 65) (tgt := 117) dX12_termOf_65 (by decide) ?_ ?_
  · refine sn_iload_n (pc := 117) (j := 1) dX12_termOf_117 rfl rfl ?_
    refine sn_callS (pc := 118) dX12_termOf_118 iX12_without wt7_61 wt7_60 (mX12_without x2) (by decide) rfl rfl (Nat.le_of_ble_eq_true rfl) (fun v3004 => ?_)
    exact sn_iret (pc := 121) dX12_termOf_121 rfl
  · refine sn_iload (pc := 68) (j := 2) dX12_termOf_68 rfl ?_
    refine sn_iconst (pc := 70) (v := 4) dX12_termOf_70 (by decide) ?_
    refine sn_iadd (pc := 71) dX12_termOf_71 ?_
    refine sn_bipush (pc := 72) (v := 19) dX12_termOf_72 (by decide) ?_
    refine sn_iload (pc := 74) (j := 3) dX12_termOf_74 rfl ?_
    refine sn_imul (pc := 76) dX12_termOf_76 ?_
    refine sn_iadd (pc := 77) dX12_termOf_77 ?_
    refine sn_istore (pc := 78) (i := 7) (lv' := [(7, .int ((x5 + 4) + (19 * x6))), (0, .ref (E.1 + a0)), (2, .int x2), (5, .int x5), (6, .int x6)]) dX12_termOf_78 (by decide) rfl ?_
    refine sn_aload_n (pc := 80) (j := 1) dX12_termOf_80 rfl rfl ?_
    refine sn_gR (pc := 81) dX12_termOf_81 flX12_7 rfl (fun v3005 => ?_)
    refine sn_iload (pc := 84) (j := 0) dX12_termOf_84 rfl ?_
    rcases v3005 with _ | a3007
    · exact sn_no
    refine sn_nn ?_
    refine sn_iald (pc := 86) dX12_termOf_86 (fun v3006 => ?_)
    refine sn_iload_n (pc := 87) (j := 2) dX12_termOf_87 rfl rfl ?_
    refine sn_icmp_ne (pc := 88) (tgt := 111) dX12_termOf_88 (by decide) ?_ ?_
    · exact sn_sub (lv' := [(0, .ref (E.1 + a0)), (2, .int x2), (5, .int x5), (6, .int x6)]) [1, 2, 3, 4] rfl (sfX12_termOf_111 k54 hk54 a0 x2 x5 x6)
    · refine sn_aload_n (pc := 91) (j := 1) dX12_termOf_91 rfl rfl ?_
      refine sn_iload (pc := 92) (j := 0) dX12_termOf_92 rfl ?_
      refine sn_callV (ci := 12) (pc := 94) dX12_termOf_94 iX12_holds wt7_65 ws_65 wt7_63 ⟨_, rfl, rfl⟩ (by decide) (mX12_holds a0 ((x5 + 4) + (19 * x6))) (by decide) rfl rfl (Nat.le_of_ble_eq_true rfl) (fun v3008 => ?_)
      refine sn_if_eq (pc := 97) (tgt := 111) dX12_termOf_97 (by decide) ?_ ?_
      · exact sn_sub (lv' := [(0, .ref (E.1 + a0)), (2, .int x2), (5, .int x5), (6, .int x6)]) [1, 2, 3, 4] rfl (sfX12_termOf_111 k54 hk54 a0 x2 x5 x6)
      · refine sn_aload_n (pc := 100) (j := 1) dX12_termOf_100 rfl rfl ?_
        refine sn_gR (pc := 101) dX12_termOf_101 flX12_7 rfl (fun v3009 => ?_)
        refine sn_iload (pc := 104) (j := 0) dX12_termOf_104 rfl ?_
        refine sn_bipush (pc := 106) (v := 18) dX12_termOf_106 (by decide) ?_
        refine sn_iadd (pc := 108) dX12_termOf_108 ?_
        rcases v3009 with _ | a3011
        · exact sn_no
        refine sn_nn ?_
        refine sn_iald (pc := 109) dX12_termOf_109 (fun v3010 => ?_)
        exact sn_iret (pc := 110) dX12_termOf_110 rfl
def fX12_termOf_28 (a0 : Nat) (x1 : Int32) (x2 : Int32) (y0 : Int32) (y1 : Nat) : St → Option (Int32 × St) :=
 pI 13 y1 19 y0 <|
 br (0 ≤ x1) (itr (fun k (p : Nat × Int32 × Int32 × Int32) => fX12_termOf_54  k p.1 p.2.1 p.2.2.1 p.2.2.2) FU (a0, x2, (240 + (320 * x1)), 0))
 (cl (fX12_without x2) fun v2001 =>
 rt v2001)
set_option maxHeartbeats 4000000 in
set_option maxRecDepth 100000 in
theorem sfX12_termOf_28 {E : Ev} {l : Launch} (a0 : Nat) (x1 : Int32) (x2 : Int32) (y0 : Int32) (y1 : Nat) : Snd E l (dpX12_termOf, RX12, cX12_termOf, 8, (some .int), "termOf") rvI 28 [(0, .ref (E.1 + a0)), (1, .int x1), (2, .int x2)] [.int y0, .ref (E.1 + y1)] (fX12_termOf_28 a0 x1 x2 y0 y1) := by
  unfold fX12_termOf_28
  refine sn_pI (pc := 28) dX12_termOf_28 flX12_232 rfl rfl (Or.inl rfl) ?_
  refine sn_iload_n (pc := 31) (j := 1) dX12_termOf_31 rfl rfl ?_
  refine sn_if_ge (pc := 32) (tgt := 40) dX12_termOf_32 (by decide) ?_ ?_
  · refine sn_sipush (pc := 40) (v := 240) dX12_termOf_40 (by decide) ?_
    refine sn_sipush (pc := 43) (v := 320) dX12_termOf_43 (by decide) ?_
    refine sn_iload_n (pc := 46) (j := 1) dX12_termOf_46 rfl rfl ?_
    refine sn_imul (pc := 47) dX12_termOf_47 ?_
    refine sn_iadd (pc := 48) dX12_termOf_48 ?_
    refine sn_istore (pc := 49) (i := 5) (lv' := [(5, .int (240 + (320 * x1))), (0, .ref (E.1 + a0)), (1, .int x1), (2, .int x2)]) dX12_termOf_49 (by decide) rfl ?_
    refine sn_iconst (pc := 51) (v := 0) dX12_termOf_51 (by decide) ?_
    refine sn_istore (pc := 52) (i := 6) (lv' := [(6, .int 0), (5, .int (240 + (320 * x1))), (0, .ref (E.1 + a0)), (1, .int x1), (2, .int x2)]) dX12_termOf_52 (by decide) rfl ?_
    exact sn_sub (lv' := [(0, .ref (E.1 + a0)), (2, .int x2), (5, .int (240 + (320 * x1))), (6, .int 0)]) [2, 4, 1, 0] rfl (sn_itr (lvf := fun p => [(0, .ref (E.1 + p.1)), (2, .int p.2.1), (5, .int p.2.2.1), (6, .int p.2.2.2)]) (stf := fun p => []) (fun k hk p => sfX12_termOf_54  k hk p.1 p.2.1 p.2.2.1 p.2.2.2) FU (a0, x2, (240 + (320 * x1)), 0))
  · refine sn_iload_n (pc := 35) (j := 2) dX12_termOf_35 rfl rfl ?_
    refine sn_callS (pc := 36) dX12_termOf_36 iX12_without wt7_61 wt7_60 (mX12_without x2) (by decide) rfl rfl (Nat.le_of_ble_eq_true rfl) (fun v2001 => ?_)
    exact sn_iret (pc := 39) dX12_termOf_39 rfl
def fX12_termOf_12 (a0 : Nat) (x1 : Int32) (x2 : Int32) (x4 : Int32) (y0 : Int32) (y1 : Nat) : St → Option (Int32 × St) :=
 pI 13 y1 18 y0 <|
 br (2 ≤ x2) (fX12_termOf_28  a0 x1 x2 9 a0)
 (fX12_termOf_28  a0 x1 x2 x4 a0)
set_option maxHeartbeats 4000000 in
set_option maxRecDepth 100000 in
theorem sfX12_termOf_12 {E : Ev} {l : Launch} (a0 : Nat) (x1 : Int32) (x2 : Int32) (x4 : Int32) (y0 : Int32) (y1 : Nat) : Snd E l (dpX12_termOf, RX12, cX12_termOf, 8, (some .int), "termOf") rvI 12 [(0, .ref (E.1 + a0)), (1, .int x1), (2, .int x2), (4, .int x4)] [.int y0, .ref (E.1 + y1)] (fX12_termOf_12 a0 x1 x2 x4 y0 y1) := by
  unfold fX12_termOf_12
  refine sn_pI (pc := 12) dX12_termOf_12 flX12_229 rfl rfl (Or.inl rfl) ?_
  refine sn_aload_n (pc := 15) (j := 0) dX12_termOf_15 rfl rfl ?_
  refine sn_iload_n (pc := 16) (j := 2) dX12_termOf_16 rfl rfl ?_
  refine sn_iconst (pc := 17) (v := 2) dX12_termOf_17 (by decide) ?_
  refine sn_icmp_ge (pc := 18) (tgt := 26) dX12_termOf_18 (by decide) ?_ ?_
  · refine sn_bipush (pc := 26) (v := 9) dX12_termOf_26 (by decide) ?_
    exact sn_sub (lv' := [(0, .ref (E.1 + a0)), (1, .int x1), (2, .int x2)]) [0, 1, 2] rfl (sfX12_termOf_28  a0 x1 x2 9 a0)
  · refine sn_iload (pc := 21) (j := 3) dX12_termOf_21 rfl ?_
    refine sn_goto (pc := 23) (tgt := 28) dX12_termOf_23 (by decide) ?_
    exact sn_sub (lv' := [(0, .ref (E.1 + a0)), (1, .int x1), (2, .int x2)]) [0, 1, 2] rfl (sfX12_termOf_28  a0 x1 x2 x4 a0)
def fX12_termOf (a0 : Nat) (x1 : Int32) (x2 : Int32) (x3 : Int32) (x4 : Int32) : St → Option (Int32 × St) :=
 br (2 ≤ x2) (fX12_termOf_12  a0 x1 x2 x4 9 a0)
 (fX12_termOf_12  a0 x1 x2 x4 x3 a0)
set_option maxHeartbeats 4000000 in
set_option maxRecDepth 100000 in
theorem mX12_termOf {E : Ev} {l : Launch} (a0 : Nat) (x1 : Int32) (x2 : Int32) (x3 : Int32) (x4 : Int32) : MF E l dpX12_termOf yX12_termOf cX12_termOf 8 (some .int) rvI [.ref (E.1 + a0), .int x1, .int x2, .int x3, .int x4] (fX12_termOf a0 x1 x2 x3 x4) := by
  refine MF.of (lv := [(0, .ref (E.1 + a0)), (1, .int x1), (2, .int x2), (3, .int x3), (4, .int x4)]) (by decide) (Nat.le_of_ble_eq_true rfl) rfl ?_
  unfold fX12_termOf
  refine sn_aload_n (pc := 0) (j := 0) dX12_termOf_0 rfl rfl ?_
  refine sn_iload_n (pc := 1) (j := 2) dX12_termOf_1 rfl rfl ?_
  refine sn_iconst (pc := 2) (v := 2) dX12_termOf_2 (by decide) ?_
  refine sn_icmp_ge (pc := 3) (tgt := 10) dX12_termOf_3 (by decide) ?_ ?_
  · refine sn_bipush (pc := 10) (v := 9) dX12_termOf_10 (by decide) ?_
    exact sn_sub (lv' := [(0, .ref (E.1 + a0)), (1, .int x1), (2, .int x2), (4, .int x4)]) [0, 1, 2, 4] rfl (sfX12_termOf_12  a0 x1 x2 x4 9 a0)
  · refine sn_iload_n (pc := 6) (j := 3) dX12_termOf_6 rfl rfl ?_
    refine sn_goto (pc := 7) (tgt := 12) dX12_termOf_7 (by decide) ?_
    exact sn_sub (lv' := [(0, .ref (E.1 + a0)), (1, .int x1), (2, .int x2), (4, .int x4)]) [0, 1, 2, 4] rfl (sfX12_termOf_12  a0 x1 x2 x4 x3 a0)
theorem iX12_termOf : MI yX12_termOf cX12_termOf 8 (some .int) 4 := ⟨wt1_10, wt7_59, by decide +kernel, by decide⟩
