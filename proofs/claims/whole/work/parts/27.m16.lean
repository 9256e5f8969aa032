-- NeedleHomesModel billed(II)V
theorem dX12_billed_0 : decode cX12_billed 0 = .ok (.aload_n 0, 1) := by decide +kernel
theorem dX12_billed_1 : decode cX12_billed 1 = .ok (.iload_n 1, 1) := by decide +kernel
theorem dX12_billed_2 : decode cX12_billed 2 = .ok (.iload_n 2, 1) := by decide +kernel
theorem dX12_billed_3 : decode cX12_billed 3 = .ok (.aload_n 0, 1) := by decide +kernel
theorem dX12_billed_4 : decode cX12_billed 4 = .ok (.iload_n 1, 1) := by decide +kernel
theorem dX12_billed_5 : decode cX12_billed 5 = .ok (.iconst 4, 1) := by decide +kernel
theorem dX12_billed_6 : decode cX12_billed 6 = .ok (.invokevirtual 256, 3) := by decide +kernel
theorem dX12_billed_9 : decode cX12_billed 9 = .ok (.aload_n 0, 1) := by decide +kernel
theorem dX12_billed_10 : decode cX12_billed 10 = .ok (.iload_n 1, 1) := by decide +kernel
theorem dX12_billed_11 : decode cX12_billed 11 = .ok (.iconst 5, 1) := by decide +kernel
theorem dX12_billed_12 : decode cX12_billed 12 = .ok (.invokevirtual 256, 3) := by decide +kernel
theorem dX12_billed_15 : decode cX12_billed 15 = .ok (.invokevirtual 276, 3) := by decide +kernel
theorem dX12_billed_18 : decode cX12_billed 18 = .ok (.return_, 1) := by decide +kernel
abbrev dpX12_billed : Nat := 4
def fX12_billed (a0 : Nat) (x1 : Int32) (x2 : Int32) : St → Option (Unit × St) :=
 ck 13 a0 <| cl (fX12_pieceOf a0 x1 4) fun v1 =>
 ck 13 a0 <| cl (fX12_pieceOf a0 x1 5) fun v2 =>
 ck 13 a0 <| cl (fX12_bills a0 x1 x2 v1 v2) fun v3 =>
 rt ()
set_option maxHeartbeats 4000000 in
set_option maxRecDepth 100000 in
theorem mX12_billed {E : Ev} {l : Launch} (a0 : Nat) (x1 : Int32) (x2 : Int32) : MF E l dpX12_billed yX12_billed cX12_billed 3 none rvV [.ref (E.1 + a0), .int x1, .int x2] (fX12_billed a0 x1 x2) := by
  refine MF.of (lv := [(0, .ref (E.1 + a0)), (1, .int x1), (2, .int x2)]) (by decide) (Nat.le_of_ble_eq_true rfl) rfl ?_
  unfold fX12_billed
  refine sn_aload_n (pc := 0) (j := 0) dX12_billed_0 rfl rfl ?_
  refine sn_iload_n (pc := 1) (j := 1) dX12_billed_1 rfl rfl ?_
  refine sn_iload_n (pc := 2) (j := 2) dX12_billed_2 rfl rfl ?_
  refine sn_aload_n (pc := 3) (j := 0) dX12_billed_3 rfl rfl ?_
  refine sn_iload_n (pc := 4) (j := 1) dX12_billed_4 rfl rfl ?_
  refine sn_iconst (pc := 5) (v := 4) dX12_billed_5 (by decide) ?_
  refine sn_callV (ci := 12) (pc := 6) dX12_billed_6 iX12_pieceOf wt7_94 ws_67 wt7_92 ⟨_, rfl, rfl⟩ (by decide) (mX12_pieceOf a0 x1 4) (by decide) rfl rfl (Nat.le_of_ble_eq_true rfl) (fun v1 => ?_)
  refine sn_aload_n (pc := 9) (j := 0) dX12_billed_9 rfl rfl ?_
  refine sn_iload_n (pc := 10) (j := 1) dX12_billed_10 rfl rfl ?_
  refine sn_iconst (pc := 11) (v := 5) dX12_billed_11 (by decide) ?_
  refine sn_callV (ci := 12) (pc := 12) dX12_billed_12 iX12_pieceOf wt7_94 ws_67 wt7_92 ⟨_, rfl, rfl⟩ (by decide) (mX12_pieceOf a0 x1 5) (by decide) rfl rfl (Nat.le_of_ble_eq_true rfl) (fun v2 => ?_)
  refine sn_callV (ci := 12) (pc := 15) dX12_billed_15 iX12_bills wt7_106 ws_68 wt7_104 ⟨_, rfl, rfl⟩ (by decide) (mX12_bills a0 x1 x2 v1 v2) (by decide) rfl rfl (Nat.le_of_ble_eq_true rfl) (fun v3 => ?_)
  exact sn_vret (pc := 18) dX12_billed_18 rfl
theorem iX12_billed : MI yX12_billed cX12_billed 3 none 2 := ⟨wt1_10, wt7_120, by decide +kernel, by decide⟩
-- NeedleHomesModel in(III)I
theorem dX12_in_0 : decode cX12_in 0 = .ok (.aload_n 0, 1) := by decide +kernel
theorem dX12_in_1 : decode cX12_in 1 = .ok (.iload_n 1, 1) := by decide +kernel
theorem dX12_in_2 : decode cX12_in 2 = .ok (.iconst 3, 1) := by decide +kernel
theorem dX12_in_3 : decode cX12_in 3 = .ok (.invokevirtual 178, 3) := by decide +kernel
theorem dX12_in_6 : decode cX12_in 6 = .ok (.ifCond .eq 26, 3) := by decide +kernel
theorem dX12_in_9 : decode cX12_in 9 = .ok (.aload_n 0, 1) := by decide +kernel
theorem dX12_in_10 : decode cX12_in 10 = .ok (.iload_n 1, 1) := by decide +kernel
theorem dX12_in_11 : decode cX12_in 11 = .ok (.iconst 4, 1) := by decide +kernel
theorem dX12_in_12 : decode cX12_in 12 = .ok (.invokevirtual 256, 3) := by decide +kernel
theorem dX12_in_15 : decode cX12_in 15 = .ok (.ifCond .ge 17, 3) := by decide +kernel
theorem dX12_in_18 : decode cX12_in 18 = .ok (.iload_n 2, 1) := by decide +kernel
theorem dX12_in_19 : decode cX12_in 19 = .ok (.iconst 0, 1) := by decide +kernel
theorem dX12_in_20 : decode cX12_in 20 = .ok (.bipush 99, 2) := by decide +kernel
theorem dX12_in_22 : decode cX12_in 22 = .ok (.invokestatic 51, 3) := by decide +kernel
theorem dX12_in_25 : decode cX12_in 25 = .ok (.ifCond .eq 7, 3) := by decide +kernel
theorem dX12_in_28 : decode cX12_in 28 = .ok (.iload_n 3, 1) := by decide +kernel
theorem dX12_in_29 : decode cX12_in 29 = .ok (.ifCond .ge 5, 3) := by decide +kernel
theorem dX12_in_32 : decode cX12_in 32 = .ok (.iconst (-1), 1) := by decide +kernel
theorem dX12_in_33 : decode cX12_in 33 = .ok (.ireturn, 1) := by decide +kernel
theorem dX12_in_34 : decode cX12_in 34 = .ok (.sipush 5360, 3) := by decide +kernel
theorem dX12_in_37 : decode cX12_in 37 = .ok (.bipush 28, 2) := by decide +kernel
theorem dX12_in_39 : decode cX12_in 39 = .ok (.iload_n 1, 1) := by decide +kernel
theorem dX12_in_40 : decode cX12_in 40 = .ok (.imul, 1) := by decide +kernel
theorem dX12_in_41 : decode cX12_in 41 = .ok (.iadd, 1) := by decide +kernel
theorem dX12_in_42 : decode cX12_in 42 = .ok (.istore 4, 2) := by decide +kernel
theorem dX12_in_44 : decode cX12_in 44 = .ok (.sipush 3440, 3) := by decide +kernel
theorem dX12_in_47 : decode cX12_in 47 = .ok (.sipush 160, 3) := by decide +kernel
theorem dX12_in_50 : decode cX12_in 50 = .ok (.aload_n 0, 1) := by decide +kernel
theorem dX12_in_51 : decode cX12_in 51 = .ok (.getfield 7, 3) := by decide +kernel
theorem dX12_in_54 : decode cX12_in 54 = .ok (.iload 4, 2) := by decide +kernel
theorem dX12_in_56 : decode cX12_in 56 = .ok (.iconst 2, 1) := by decide +kernel
theorem dX12_in_57 : decode cX12_in 57 = .ok (.iadd, 1) := by decide +kernel
theorem dX12_in_58 : decode cX12_in 58 = .ok (.iaload, 1) := by decide +kernel
theorem dX12_in_59 : decode cX12_in 59 = .ok (.imul, 1) := by decide +kernel
theorem dX12_in_60 : decode cX12_in 60 = .ok (.iadd, 1) := by decide +kernel
theorem dX12_in_61 : decode cX12_in 61 = .ok (.istore 5, 2) := by decide +kernel
theorem dX12_in_63 : decode cX12_in 63 = .ok (.aload_n 0, 1) := by decide +kernel
theorem dX12_in_64 : decode cX12_in 64 = .ok (.iload_n 1, 1) := by decide +kernel
theorem dX12_in_65 : decode cX12_in 65 = .ok (.aload_n 0, 1) := by decide +kernel
theorem dX12_in_66 : decode cX12_in 66 = .ok (.getfield 7, 3) := by decide +kernel
theorem dX12_in_69 : decode cX12_in 69 = .ok (.iload 4, 2) := by decide +kernel
theorem dX12_in_71 : decode cX12_in 71 = .ok (.iconst 3, 1) := by decide +kernel
theorem dX12_in_72 : decode cX12_in 72 = .ok (.iadd, 1) := by decide +kernel
theorem dX12_in_73 : decode cX12_in 73 = .ok (.iaload, 1) := by decide +kernel
theorem dX12_in_74 : decode cX12_in 74 = .ok (.iconst (-1), 1) := by decide +kernel
theorem dX12_in_75 : decode cX12_in 75 = .ok (.iconst 0, 1) := by decide +kernel
theorem dX12_in_76 : decode cX12_in 76 = .ok (.invokevirtual 276, 3) := by decide +kernel
theorem dX12_in_79 : decode cX12_in 79 = .ok (.iload_n 3, 1) := by decide +kernel
theorem dX12_in_80 : decode cX12_in 80 = .ok (.aload_n 0, 1) := by decide +kernel
theorem dX12_in_81 : decode cX12_in 81 = .ok (.getfield 259, 3) := by decide +kernel
theorem dX12_in_84 : decode cX12_in 84 = .ok (.if_icmp .le 5, 3) := by decide +kernel
theorem dX12_in_87 : decode cX12_in 87 = .ok (.iconst (-1), 1) := by decide +kernel
theorem dX12_in_88 : decode cX12_in 88 = .ok (.ireturn, 1) := by decide +kernel
theorem dX12_in_89 : decode cX12_in 89 = .ok (.aload_n 0, 1) := by decide +kernel
theorem dX12_in_90 : decode cX12_in 90 = .ok (.iload_n 1, 1) := by decide +kernel
theorem dX12_in_91 : decode cX12_in 91 = .ok (.aload_n 0, 1) := by decide +kernel
theorem dX12_in_92 : decode cX12_in 92 = .ok (.getfield 7, 3) := by decide +kernel
theorem dX12_in_95 : decode cX12_in 95 = .ok (.iload 4, 2) := by decide +kernel
theorem dX12_in_97 : decode cX12_in 97 = .ok (.iconst 3, 1) := by decide +kernel
theorem dX12_in_98 : decode cX12_in 98 = .ok (.iadd, 1) := by decide +kernel
theorem dX12_in_99 : decode cX12_in 99 = .ok (.iaload, 1) := by decide +kernel
theorem dX12_in_100 : decode cX12_in 100 = .ok (.aload_n 0, 1) := by decide +kernel
theorem dX12_in_101 : decode cX12_in 101 = .ok (.getfield 7, 3) := by decide +kernel
theorem dX12_in_104 : decode cX12_in 104 = .ok (.iconst 4, 1) := by decide +kernel
theorem dX12_in_105 : decode cX12_in 105 = .ok (.iaload, 1) := by decide +kernel
theorem dX12_in_106 : decode cX12_in 106 = .ok (.iload_n 2, 1) := by decide +kernel
theorem dX12_in_107 : decode cX12_in 107 = .ok (.invokevirtual 276, 3) := by decide +kernel
theorem dX12_in_110 : decode cX12_in 110 = .ok (.aload_n 0, 1) := by decide +kernel
theorem dX12_in_111 : decode cX12_in 111 = .ok (.getfield 262, 3) := by decide +kernel
theorem dX12_in_114 : decode cX12_in 114 = .ok (.aload_n 0, 1) := by decide +kernel
theorem dX12_in_115 : decode cX12_in 115 = .ok (.getfield 270, 3) := by decide +kernel
theorem dX12_in_118 : decode cX12_in 118 = .ok (.isub, 1) := by decide +kernel
theorem dX12_in_119 : decode cX12_in 119 = .ok (.aload_n 0, 1) := by decide +kernel
theorem dX12_in_120 : decode cX12_in 120 = .ok (.getfield 273, 3) := by decide +kernel
theorem dX12_in_123 : decode cX12_in 123 = .ok (.isub, 1) := by decide +kernel
theorem dX12_in_124 : decode cX12_in 124 = .ok (.istore 6, 2) := by decide +kernel
theorem dX12_in_126 : decode cX12_in 126 = .ok (.iload 6, 2) := by decide +kernel
theorem dX12_in_128 : decode cX12_in 128 = .ok (.iconst 2, 1) := by decide +kernel
theorem dX12_in_129 : decode cX12_in 129 = .ok (.idiv, 1) := by decide +kernel
theorem dX12_in_130 : decode cX12_in 130 = .ok (.aload_n 0, 1) := by decide +kernel
theorem dX12_in_131 : decode cX12_in 131 = .ok (.getfield 7, 3) := by decide +kernel
theorem dX12_in_134 : decode cX12_in 134 = .ok (.iload 5, 2) := by decide +kernel
theorem dX12_in_136 : decode cX12_in 136 = .ok (.iconst 3, 1) := by decide +kernel
theorem dX12_in_137 : decode cX12_in 137 = .ok (.iadd, 1) := by decide +kernel
theorem dX12_in_138 : decode cX12_in 138 = .ok (.iaload, 1) := by decide +kernel
theorem dX12_in_139 : decode cX12_in 139 = .ok (.if_icmp .ge 10, 3) := by decide +kernel
theorem dX12_in_142 : decode cX12_in 142 = .ok (.iload 6, 2) := by decide +kernel
theorem dX12_in_144 : decode cX12_in 144 = .ok (.iconst 2, 1) := by decide +kernel
theorem dX12_in_145 : decode cX12_in 145 = .ok (.idiv, 1) := by decide +kernel
theorem dX12_in_146 : decode cX12_in 146 = .ok (.goto 12, 3) := by decide +kernel
theorem dX12_in_149 : decode cX12_in 149 = .ok (.aload_n 0, 1) := by decide +kernel
theorem dX12_in_150 : decode cX12_in 150 = .ok (.getfield 7, 3) := by decide +kernel
theorem dX12_in_153 : decode cX12_in 153 = .ok (.iload 5, 2) := by decide +kernel
theorem dX12_in_155 : decode cX12_in 155 = .ok (.iconst 3, 1) := by decide +kernel
theorem dX12_in_156 : decode cX12_in 156 = .ok (.iadd, 1) := by decide +kernel
theorem dX12_in_157 : decode cX12_in 157 = .ok (.iaload, 1) := by decide +kernel
theorem dX12_in_158 : decode cX12_in 158 = .ok (.istore 7, 2) := by decide +kernel
theorem dX12_in_160 : decode cX12_in 160 = .ok (.aload_n 0, 1) := by decide +kernel
theorem dX12_in_161 : decode cX12_in 161 = .ok (.getfield 7, 3) := by decide +kernel
theorem dX12_in_164 : decode cX12_in 164 = .ok (.iload 4, 2) := by decide +kernel
theorem dX12_in_166 : decode cX12_in 166 = .ok (.iconst 4, 1) := by decide +kernel
theorem dX12_in_167 : decode cX12_in 167 = .ok (.iadd, 1) := by decide +kernel
theorem dX12_in_168 : decode cX12_in 168 = .ok (.aload_n 0, 1) := by decide +kernel
theorem dX12_in_169 : decode cX12_in 169 = .ok (.getfield 7, 3) := by decide +kernel
theorem dX12_in_172 : decode cX12_in 172 = .ok (.iconst 4, 1) := by decide +kernel
theorem dX12_in_173 : decode cX12_in 173 = .ok (.iaload, 1) := by decide +kernel
theorem dX12_in_174 : decode cX12_in 174 = .ok (.iastore, 1) := by decide +kernel
theorem dX12_in_175 : decode cX12_in 175 = .ok (.aload_n 0, 1) := by decide +kernel
theorem dX12_in_176 : decode cX12_in 176 = .ok (.getfield 7, 3) := by decide +kernel
theorem dX12_in_179 : decode cX12_in 179 = .ok (.iload 4, 2) := by decide +kernel
theorem dX12_in_181 : decode cX12_in 181 = .ok (.iconst 5, 1) := by decide +kernel
theorem dX12_in_182 : decode cX12_in 182 = .ok (.iadd, 1) := by decide +kernel
theorem dX12_in_183 : decode cX12_in 183 = .ok (.iload_n 2, 1) := by decide +kernel
theorem dX12_in_184 : decode cX12_in 184 = .ok (.iastore, 1) := by decide +kernel
theorem dX12_in_185 : decode cX12_in 185 = .ok (.aload_n 0, 1) := by decide +kernel
theorem dX12_in_186 : decode cX12_in 186 = .ok (.getfield 7, 3) := by decide +kernel
theorem dX12_in_189 : decode cX12_in 189 = .ok (.iload 4, 2) := by decide +kernel
theorem dX12_in_191 : decode cX12_in 191 = .ok (.bipush 6, 2) := by decide +kernel
theorem dX12_in_193 : decode cX12_in 193 = .ok (.iadd, 1) := by decide +kernel
theorem dX12_in_194 : decode cX12_in 194 = .ok (.iload_n 3, 1) := by decide +kernel
theorem dX12_in_195 : decode cX12_in 195 = .ok (.iastore, 1) := by decide +kernel
theorem dX12_in_196 : decode cX12_in 196 = .ok (.aload_n 0, 1) := by decide +kernel
theorem dX12_in_197 : decode cX12_in 197 = .ok (.getfield 7, 3) := by decide +kernel
theorem dX12_in_200 : decode cX12_in 200 = .ok (.iload 4, 2) := by decide +kernel
theorem dX12_in_202 : decode cX12_in 202 = .ok (.bipush 7, 2) := by decide +kernel
theorem dX12_in_204 : decode cX12_in 204 = .ok (.iadd, 1) := by decide +kernel
theorem dX12_in_205 : decode cX12_in 205 = .ok (.iload 7, 2) := by decide +kernel
theorem dX12_in_207 : decode cX12_in 207 = .ok (.iastore, 1) := by decide +kernel
theorem dX12_in_208 : decode cX12_in 208 = .ok (.aload_n 0, 1) := by decide +kernel
theorem dX12_in_209 : decode cX12_in 209 = .ok (.getfield 7, 3) := by decide +kernel
theorem dX12_in_212 : decode cX12_in 212 = .ok (.iload 4, 2) := by decide +kernel
theorem dX12_in_214 : decode cX12_in 214 = .ok (.bipush 8, 2) := by decide +kernel
theorem dX12_in_216 : decode cX12_in 216 = .ok (.iadd, 1) := by decide +kernel
theorem dX12_in_217 : decode cX12_in 217 = .ok (.iload 6, 2) := by decide +kernel
theorem dX12_in_219 : decode cX12_in 219 = .ok (.iload 7, 2) := by decide +kernel
theorem dX12_in_221 : decode cX12_in 221 = .ok (.isub, 1) := by decide +kernel
theorem dX12_in_222 : decode cX12_in 222 = .ok (.iastore, 1) := by decide +kernel
theorem dX12_in_223 : decode cX12_in 223 = .ok (.aload_n 0, 1) := by decide +kernel
theorem dX12_in_224 : decode cX12_in 224 = .ok (.getfield 7, 3) := by decide +kernel
theorem dX12_in_227 : decode cX12_in 227 = .ok (.iload 4, 2) := by decide +kernel
theorem dX12_in_229 : decode cX12_in 229 = .ok (.bipush 9, 2) := by decide +kernel
theorem dX12_in_231 : decode cX12_in 231 = .ok (.iadd, 1) := by decide +kernel
theorem dX12_in_232 : decode cX12_in 232 = .ok (.aload_n 0, 1) := by decide +kernel
theorem dX12_in_233 : decode cX12_in 233 = .ok (.getfield 273, 3) := by decide +kernel
theorem dX12_in_236 : decode cX12_in 236 = .ok (.iastore, 1) := by decide +kernel
theorem dX12_in_237 : decode cX12_in 237 = .ok (.aload_n 0, 1) := by decide +kernel
theorem dX12_in_238 : decode cX12_in 238 = .ok (.getfield 7, 3) := by decide +kernel
theorem dX12_in_241 : decode cX12_in 241 = .ok (.iload 5, 2) := by decide +kernel
theorem dX12_in_243 : decode cX12_in 243 = .ok (.iconst 3, 1) := by decide +kernel
theorem dX12_in_244 : decode cX12_in 244 = .ok (.iadd, 1) := by decide +kernel
theorem dX12_in_245 : decode cX12_in 245 = .ok (.dup2, 1) := by decide +kernel
theorem dX12_in_246 : decode cX12_in 246 = .ok (.iaload, 1) := by decide +kernel
theorem dX12_in_247 : decode cX12_in 247 = .ok (.iload 7, 2) := by decide +kernel
theorem dX12_in_249 : decode cX12_in 249 = .ok (.isub, 1) := by decide +kernel
theorem dX12_in_250 : decode cX12_in 250 = .ok (.iastore, 1) := by decide +kernel
theorem dX12_in_251 : decode cX12_in 251 = .ok (.aload_n 0, 1) := by decide +kernel
theorem dX12_in_252 : decode cX12_in 252 = .ok (.getfield 7, 3) := by decide +kernel
theorem dX12_in_255 : decode cX12_in 255 = .ok (.iload 5, 2) := by decide +kernel
theorem dX12_in_257 : decode cX12_in 257 = .ok (.iconst 4, 1) := by decide +kernel
theorem dX12_in_258 : decode cX12_in 258 = .ok (.iadd, 1) := by decide +kernel
theorem dX12_in_259 : decode cX12_in 259 = .ok (.dup2, 1) := by decide +kernel
theorem dX12_in_260 : decode cX12_in 260 = .ok (.iaload, 1) := by decide +kernel
theorem dX12_in_261 : decode cX12_in 261 = .ok (.iload 6, 2) := by decide +kernel
theorem dX12_in_263 : decode cX12_in 263 = .ok (.iload 7, 2) := by decide +kernel
theorem dX12_in_265 : decode cX12_in 265 = .ok (.isub, 1) := by decide +kernel
theorem dX12_in_266 : decode cX12_in 266 = .ok (.iadd, 1) := by decide +kernel
theorem dX12_in_267 : decode cX12_in 267 = .ok (.iastore, 1) := by decide +kernel
theorem dX12_in_268 : decode cX12_in 268 = .ok (.aload_n 0, 1) := by decide +kernel
theorem dX12_in_269 : decode cX12_in 269 = .ok (.getfield 7, 3) := by decide +kernel
theorem dX12_in_272 : decode cX12_in 272 = .ok (.bipush 10, 2) := by decide +kernel
theorem dX12_in_274 : decode cX12_in 274 = .ok (.aload_n 0, 1) := by decide +kernel
theorem dX12_in_275 : decode cX12_in 275 = .ok (.getfield 7, 3) := by decide +kernel
theorem dX12_in_278 : decode cX12_in 278 = .ok (.iload 5, 2) := by decide +kernel
theorem dX12_in_280 : decode cX12_in 280 = .ok (.iconst 2, 1) := by decide +kernel
theorem dX12_in_281 : decode cX12_in 281 = .ok (.iadd, 1) := by decide +kernel
theorem dX12_in_282 : decode cX12_in 282 = .ok (.iaload, 1) := by decide +kernel
theorem dX12_in_283 : decode cX12_in 283 = .ok (.iadd, 1) := by decide +kernel
theorem dX12_in_284 : decode cX12_in 284 = .ok (.dup2, 1) := by decide +kernel
theorem dX12_in_285 : decode cX12_in 285 = .ok (.iaload, 1) := by decide +kernel
theorem dX12_in_286 : decode cX12_in 286 = .ok (.aload_n 0, 1) := by decide +kernel
theorem dX12_in_287 : decode cX12_in 287 = .ok (.getfield 273, 3) := by decide +kernel
theorem dX12_in_290 : decode cX12_in 290 = .ok (.iadd, 1) := by decide +kernel
theorem dX12_in_291 : decode cX12_in 291 = .ok (.iastore, 1) := by decide +kernel
theorem dX12_in_292 : decode cX12_in 292 = .ok (.iload 6, 2) := by decide +kernel
theorem dX12_in_294 : decode cX12_in 294 = .ok (.iload 7, 2) := by decide +kernel
theorem dX12_in_296 : decode cX12_in 296 = .ok (.isub, 1) := by decide +kernel
theorem dX12_in_297 : decode cX12_in 297 = .ok (.ireturn, 1) := by decide +kernel
abbrev dpX12_in : Nat := 4
def fX12_in_158 (a0 : Nat) (x2 : Int32) (x3 : Int32) (x4 : Int32) (x5 : Int32) (x6 : Int32) (y0 : Int32) : St → Option (Int32 × St) :=
 gR 13 a0 0 fun v1001 =>
 gR 13 a0 0 fun v1002 =>
 nn v1002 fun a1004 =>
 aI 15 a1004 4 fun v1003 =>
 nn v1001 fun a1005 =>
 wI a1005 (x4 + 4) v1003 <|
 gR 13 a0 0 fun v1006 =>
 nn v1006 fun a1007 =>
 wI a1007 (x4 + 5) x2 <|
 gR 13 a0 0 fun v1008 =>
 nn v1008 fun a1009 =>
 wI a1009 (x4 + 6) x3 <|
 gR 13 a0 0 fun v1010 =>
 nn v1010 fun a1011 =>
 wI a1011 (x4 + 7) y0 <|
 gR 13 a0 0 fun v1012 =>
 nn v1012 fun a1013 =>
 wI a1013 (x4 + 8) (x6 - y0) <|
 gR 13 a0 0 fun v1014 =>
 gI 13 a0 30 fun v1015 =>
 nn v1014 fun a1016 =>
 wI a1016 (x4 + 9) v1015 <|
 gR 13 a0 0 fun v1017 =>
 nn v1017 fun a1019 =>
 aI 15 a1019 (x5 + 3) fun v1018 =>
 wI a1019 (x5 + 3) (v1018 - y0) <|
 gR 13 a0 0 fun v1020 =>
 nn v1020 fun a1022 =>
 aI 15 a1022 (x5 + 4) fun v1021 =>
 wI a1022 (x5 + 4) (v1021 + (x6 - y0)) <|
 gR 13 a0 0 fun v1023 =>
 gR 13 a0 0 fun v1024 =>
 nn v1024 fun a1026 =>
 aI 15 a1026 (x5 + 2) fun v1025 =>
 nn v1023 fun a1028 =>
 aI 15 a1028 (10 + v1025) fun v1027 =>
 gI 13 a0 30 fun v1029 =>
 wI a1028 (10 + v1025) (v1027 + v1029) <|
 rt (x6 - y0)
set_option maxHeartbeats 4000000 in
set_option maxRecDepth 100000 in
theorem sfX12_in_158 {E : Ev} {l : Launch} (a0 : Nat) (x2 : Int32) (x3 : Int32) (x4 : Int32) (x5 : Int32) (x6 : Int32) (y0 : Int32) : Snd E l (dpX12_in, RX12, cX12_in, 8, (some .int), "in") rvI 158 [(0, .ref (E.1 + a0)), (2, .int x2), (3, .int x3), (4, .int x4), (5, .int x5), (6, .int x6)] [.int y0] (fX12_in_158 a0 x2 x3 x4 x5 x6 y0) := by
  unfold fX12_in_158
  refine sn_istore (pc := 158) (i := 7) (lv' := [(7, .int y0), (0, .ref (E.1 + a0)), (2, .int x2), (3, .int x3), (4, .int x4), (5, .int x5), (6, .int x6)]) dX12_in_158 (by decide) rfl ?_
  refine sn_aload_n (pc := 160) (j := 1) dX12_in_160 rfl rfl ?_
  refine sn_gR (pc := 161) dX12_in_161 flX12_7 rfl (fun v1001 => ?_)
  refine sn_iload (pc := 164) (j := 4) dX12_in_164 rfl ?_
  refine sn_iconst (pc := 166) (v := 4) dX12_in_166 (by decide) ?_
  refine sn_iadd (pc := 167) dX12_in_167 ?_
  refine sn_aload_n (pc := 168) (j := 1) dX12_in_168 rfl rfl ?_
  refine sn_gR (pc := 169) dX12_in_169 flX12_7 rfl (fun v1002 => ?_)
  refine sn_iconst (pc := 172) (v := 4) dX12_in_172 (by decide) ?_
  rcases v1002 with _ | a1004
  · exact sn_no
  refine sn_nn ?_
  refine sn_iald (pc := 173) dX12_in_173 (fun v1003 => ?_)
  rcases v1001 with _ | a1005
  · exact sn_no
  refine sn_nn ?_
  refine sn_iast (pc := 174) dX12_in_174 ?_
  refine sn_aload_n (pc := 175) (j := 1) dX12_in_175 rfl rfl ?_
  refine sn_gR (pc := 176) dX12_in_176 flX12_7 rfl (fun v1006 => ?_)
  refine sn_iload (pc := 179) (j := 4) dX12_in_179 rfl ?_
  refine sn_iconst (pc := 181) (v := 5) dX12_in_181 (by decide) ?_
  refine sn_iadd (pc := 182) dX12_in_182 ?_
  refine sn_iload_n (pc := 183) (j := 2) dX12_in_183 rfl rfl ?_
  rcases v1006 with _ | a1007
  · exact sn_no
  refine sn_nn ?_
  refine sn_iast (pc := 184) dX12_in_184 ?_
  refine sn_aload_n (pc := 185) (j := 1) dX12_in_185 rfl rfl ?_
  refine sn_gR (pc := 186) dX12_in_186 flX12_7 rfl (fun v1008 => ?_)
  refine sn_iload (pc := 189) (j := 4) dX12_in_189 rfl ?_
  refine sn_bipush (pc := 191) (v := 6) dX12_in_191 (by decide) ?_
  refine sn_iadd (pc := 193) dX12_in_193 ?_
  refine sn_iload_n (pc := 194) (j := 3) dX12_in_194 rfl rfl ?_
  rcases v1008 with _ | a1009
  · exact sn_no
  refine sn_nn ?_
  refine sn_iast (pc := 195) dX12_in_195 ?_
  refine sn_aload_n (pc := 196) (j := 1) dX12_in_196 rfl rfl ?_
  refine sn_gR (pc := 197) dX12_in_197 flX12_7 rfl (fun v1010 => ?_)
  refine sn_iload (pc := 200) (j := 4) dX12_in_200 rfl ?_
  refine sn_bipush (pc := 202) (v := 7) dX12_in_202 (by decide) ?_
  refine sn_iadd (pc := 204) dX12_in_204 ?_
  refine sn_iload (pc := 205) (j := 0) dX12_in_205 rfl ?_
  rcases v1010 with _ | a1011
  · exact sn_no
  refine sn_nn ?_
  refine sn_iast (pc := 207) dX12_in_207 ?_
  refine sn_aload_n (pc := 208) (j := 1) dX12_in_208 rfl rfl ?_
  refine sn_gR (pc := 209) dX12_in_209 flX12_7 rfl (fun v1012 => ?_)
  refine sn_iload (pc := 212) (j := 4) dX12_in_212 rfl ?_
  refine sn_bipush (pc := 214) (v := 8) dX12_in_214 (by decide) ?_
  refine sn_iadd (pc := 216) dX12_in_216 ?_
  refine sn_iload (pc := 217) (j := 6) dX12_in_217 rfl ?_
  refine sn_iload (pc := 219) (j := 0) dX12_in_219 rfl ?_
  refine sn_isub (pc := 221) dX12_in_221 ?_
  rcases v1012 with _ | a1013
  · exact sn_no
  refine sn_nn ?_
  refine sn_iast (pc := 222) dX12_in_222 ?_
  refine sn_aload_n (pc := 223) (j := 1) dX12_in_223 rfl rfl ?_
  refine sn_gR (pc := 224) dX12_in_224 flX12_7 rfl (fun v1014 => ?_)
  refine sn_iload (pc := 227) (j := 4) dX12_in_227 rfl ?_
  refine sn_bipush (pc := 229) (v := 9) dX12_in_229 (by decide) ?_
  refine sn_iadd (pc := 231) dX12_in_231 ?_
  refine sn_aload_n (pc := 232) (j := 1) dX12_in_232 rfl rfl ?_
  refine sn_gI (pc := 233) dX12_in_233 flX12_273 rfl (fun v1015 => ?_)
  rcases v1014 with _ | a1016
  · exact sn_no
  refine sn_nn ?_
  refine sn_iast (pc := 236) dX12_in_236 ?_
  refine sn_aload_n (pc := 237) (j := 1) dX12_in_237 rfl rfl ?_
  refine sn_gR (pc := 238) dX12_in_238 flX12_7 rfl (fun v1017 => ?_)
  refine sn_iload (pc := 241) (j := 5) dX12_in_241 rfl ?_
  refine sn_iconst (pc := 243) (v := 3) dX12_in_243 (by decide) ?_
  refine sn_iadd (pc := 244) dX12_in_244 ?_
  refine sn_dup2 (pc := 245) dX12_in_245 rfl (rf_cat _ _) ?_
  rcases v1017 with _ | a1019
  · exact sn_no
  refine sn_nn ?_
  refine sn_iald (pc := 246) dX12_in_246 (fun v1018 => ?_)
  refine sn_iload (pc := 247) (j := 0) dX12_in_247 rfl ?_
  refine sn_isub (pc := 249) dX12_in_249 ?_
  refine sn_iast (pc := 250) dX12_in_250 ?_
  refine sn_aload_n (pc := 251) (j := 1) dX12_in_251 rfl rfl ?_
  refine sn_gR (pc := 252) dX12_in_252 flX12_7 rfl (fun v1020 => ?_)
  refine sn_iload (pc := 255) (j := 5) dX12_in_255 rfl ?_
  refine sn_iconst (pc := 257) (v := 4) dX12_in_257 (by decide) ?_
  refine sn_iadd (pc := 258) dX12_in_258 ?_
  refine sn_dup2 (pc := 259) dX12_in_259 rfl (rf_cat _ _) ?_
  rcases v1020 with _ | a1022
  · exact sn_no
  refine sn_nn ?_
  refine sn_iald (pc := 260) dX12_in_260 (fun v1021 => ?_)
  refine sn_iload (pc := 261) (j := 6) dX12_in_261 rfl ?_
  refine sn_iload (pc := 263) (j := 0) dX12_in_263 rfl ?_
  refine sn_isub (pc := 265) dX12_in_265 ?_
  refine sn_iadd (pc := 266) dX12_in_266 ?_
  refine sn_iast (pc := 267) dX12_in_267 ?_
  refine sn_aload_n (pc := 268) (j := 1) dX12_in_268 rfl rfl ?_
  refine sn_gR (pc := 269) dX12_in_269 flX12_7 rfl (fun v1023 => ?_)
  refine sn_bipush (pc := 272) (v := 10) dX12_in_272 (by decide) ?_
  refine sn_aload_n (pc := 274) (j := 1) dX12_in_274 rfl rfl ?_
  refine sn_gR (pc := 275) dX12_in_275 flX12_7 rfl (fun v1024 => ?_)
  refine sn_iload (pc := 278) (j := 5) dX12_in_278 rfl ?_
  refine sn_iconst (pc := 280) (v := 2) dX12_in_280 (by decide) ?_
  refine sn_iadd (pc := 281) dX12_in_281 ?_
  rcases v1024 with _ | a1026
  · exact sn_no
  refine sn_nn ?_
  refine sn_iald (pc := 282) dX12_in_282 (fun v1025 => ?_)
  refine sn_iadd (pc := 283) dX12_in_283 ?_
  refine sn_dup2 (pc := 284) dX12_in_284 rfl (rf_cat _ _) ?_
  rcases v1023 with _ | a1028
  · exact sn_no
  refine sn_nn ?_
  refine sn_iald (pc := 285) dX12_in_285 (fun v1027 => ?_)
  refine sn_aload_n (pc := 286) (j := 1) dX12_in_286 rfl rfl ?_
  refine sn_gI (pc := 287) dX12_in_287 flX12_273 rfl (fun v1029 => ?_)
  refine sn_iadd (pc := 290) dX12_in_290 ?_
  refine sn_iast (pc := 291) dX12_in_291 ?_
  refine sn_iload (pc := 292) (j := 6) dX12_in_292 rfl ?_
  refine sn_iload (pc := 294) (j := 0) dX12_in_294 rfl ?_
  refine sn_isub (pc := 296) dX12_in_296 ?_
  exact sn_iret (pc := 297) dX12_in_297 rfl
def fX12_in (a0 : Nat) (x1 : Int32) (x2 : Int32) (x3 : Int32) : St → Option (Int32 × St) :=
 ck 13 a0 <| cl (fX12_isOf a0 x1 3) fun v1 =>
 br ((bi v1) = 0) (rt (-1))
 (ck 13 a0 <| cl (fX12_pieceOf a0 x1 4) fun v2 =>
 br (0 ≤ v2) (rt (-1))
 (cl (fX12_isIn x2 0 99) fun v3 =>
 br ((bi v3) = 0) (rt (-1))
 (br (0 ≤ x3) (gR 13 a0 0 fun v4 =>
 nn v4 fun a6 =>
 aI 15 a6 ((5360 + (28 * x1)) + 2) fun v5 =>
 gR 13 a0 0 fun v7 =>
 nn v7 fun a9 =>
 aI 15 a9 ((5360 + (28 * x1)) + 3) fun v8 =>
 ck 13 a0 <| cl (fX12_bills a0 x1 v8 (-1) 0) fun v10 =>
 gI 13 a0 26 fun v11 =>
 br (x3 ≤ v11) (gR 13 a0 0 fun v12 =>
 nn v12 fun a14 =>
 aI 15 a14 ((5360 + (28 * x1)) + 3) fun v13 =>
 gR 13 a0 0 fun v15 =>
 nn v15 fun a17 =>
 aI 15 a17 4 fun v16 =>
 ck 13 a0 <| cl (fX12_bills a0 x1 v13 v16 x2) fun v18 =>
 gI 13 a0 27 fun v19 =>
 gI 13 a0 29 fun v20 =>
 gI 13 a0 30 fun v21 =>
 dv 2 <|
 gR 13 a0 0 fun v22 =>
 nn v22 fun a24 =>
 aI 15 a24 ((3440 + (160 * v5)) + 3) fun v23 =>
 br (v23 ≤ (((v19 - v20) - v21) / 2)) (gR 13 a0 0 fun v25 =>
 nn v25 fun a27 =>
 aI 15 a27 ((3440 + (160 * v5)) + 3) fun v26 =>
 fX12_in_158  a0 x2 x3 (5360 + (28 * x1)) (3440 + (160 * v5)) ((v19 - v20) - v21) v26)
 (dv 2 <|
 fX12_in_158  a0 x2 x3 (5360 + (28 * x1)) (3440 + (160 * v5)) ((v19 - v20) - v21) (((v19 - v20) - v21) / 2)))
 (rt (-1)))
 (rt (-1)))))
set_option maxHeartbeats 4000000 in
set_option maxRecDepth 100000 in
theorem mX12_in {E : Ev} {l : Launch} (a0 : Nat) (x1 : Int32) (x2 : Int32) (x3 : Int32) : MF E l dpX12_in yX12_in cX12_in 8 (some .int) rvI [.ref (E.1 + a0), .int x1, .int x2, .int x3] (fX12_in a0 x1 x2 x3) := by
  refine MF.of (lv := [(0, .ref (E.1 + a0)), (1, .int x1), (2, .int x2), (3, .int x3)]) (by decide) (Nat.le_of_ble_eq_true rfl) rfl ?_
  unfold fX12_in
  refine sn_aload_n (pc := 0) (j := 0) dX12_in_0 rfl rfl ?_
  refine sn_iload_n (pc := 1) (j := 1) dX12_in_1 rfl rfl ?_
  refine sn_iconst (pc := 2) (v := 3) dX12_in_2 (by decide) ?_
  refine sn_callV (ci := 12) (pc := 3) dX12_in_3 iX12_isOf wt6_235 ws_54 wt6_233 ⟨_, rfl, rfl⟩ (by decide) (mX12_isOf a0 x1 3) (by decide) rfl rfl (Nat.le_of_ble_eq_true rfl) (fun v1 => ?_)
  refine sn_if_eq (pc := 6) (tgt := 32) dX12_in_6 (by decide) ?_ ?_
  · refine sn_iconst (pc := 32) (v := (-1)) dX12_in_32 (by decide) ?_
    exact sn_iret (pc := 33) dX12_in_33 rfl
  · refine sn_aload_n (pc := 9) (j := 0) dX12_in_9 rfl rfl ?_
    refine sn_iload_n (pc := 10) (j := 1) dX12_in_10 rfl rfl ?_
    refine sn_iconst (pc := 11) (v := 4) dX12_in_11 (by decide) ?_
    refine sn_callV (ci := 12) (pc := 12) dX12_in_12 iX12_pieceOf wt7_94 ws_67 wt7_92 ⟨_, rfl, rfl⟩ (by decide) (mX12_pieceOf a0 x1 4) (by decide) rfl rfl (Nat.le_of_ble_eq_true rfl) (fun v2 => ?_)
    refine sn_if_ge (pc := 15) (tgt := 32) dX12_in_15 (by decide) ?_ ?_
    · refine sn_iconst (pc := 32) (v := (-1)) dX12_in_32 (by decide) ?_
      exact sn_iret (pc := 33) dX12_in_33 rfl
    · refine sn_iload_n (pc := 18) (j := 2) dX12_in_18 rfl rfl ?_
      refine sn_iconst (pc := 19) (v := 0) dX12_in_19 (by decide) ?_
      refine sn_bipush (pc := 20) (v := 99) dX12_in_20 (by decide) ?_
      refine sn_callS (pc := 22) dX12_in_22 iX12_isIn wt6_138 wt6_137 (mX12_isIn x2 0 99) (by decide) rfl rfl (Nat.le_of_ble_eq_true rfl) (fun v3 => ?_)
      refine sn_if_eq (pc := 25) (tgt := 32) dX12_in_25 (by decide) ?_ ?_
      · refine sn_iconst (pc := 32) (v := (-1)) dX12_in_32 (by decide) ?_
        exact sn_iret (pc := 33) dX12_in_33 rfl
      · refine sn_iload_n (pc := 28) (j := 3) dX12_in_28 rfl rfl ?_
        refine sn_if_ge (pc := 29) (tgt := 34) dX12_in_29 (by decide) ?_ ?_
        · refine sn_sipush (pc := 34) (v := 5360) dX12_in_34 (by decide) ?_
          refine sn_bipush (pc := 37) (v := 28) dX12_in_37 (by decide) ?_
          refine sn_iload_n (pc := 39) (j := 1) dX12_in_39 rfl rfl ?_
          refine sn_imul (pc := 40) dX12_in_40 ?_
          refine sn_iadd (pc := 41) dX12_in_41 ?_
          refine sn_istore (pc := 42) (i := 4) (lv' := [(4, .int (5360 + (28 * x1))), (0, .ref (E.1 + a0)), (1, .int x1), (2, .int x2), (3, .int x3)]) dX12_in_42 (by decide) rfl ?_
          refine sn_sipush (pc := 44) (v := 3440) dX12_in_44 (by decide) ?_
          refine sn_sipush (pc := 47) (v := 160) dX12_in_47 (by decide) ?_
          refine sn_aload_n (pc := 50) (j := 1) dX12_in_50 rfl rfl ?_
          refine sn_gR (pc := 51) dX12_in_51 flX12_7 rfl (fun v4 => ?_)
          refine sn_iload (pc := 54) (j := 0) dX12_in_54 rfl ?_
          refine sn_iconst (pc := 56) (v := 2) dX12_in_56 (by decide) ?_
          refine sn_iadd (pc := 57) dX12_in_57 ?_
          rcases v4 with _ | a6
          · exact sn_no
          refine sn_nn ?_
          refine sn_iald (pc := 58) dX12_in_58 (fun v5 => ?_)
          refine sn_imul (pc := 59) dX12_in_59 ?_
          refine sn_iadd (pc := 60) dX12_in_60 ?_
          refine sn_istore (pc := 61) (i := 5) (lv' := [(5, .int (3440 + (160 * v5))), (4, .int (5360 + (28 * x1))), (0, .ref (E.1 + a0)), (1, .int x1), (2, .int x2), (3, .int x3)]) dX12_in_61 (by decide) rfl ?_
          refine sn_aload_n (pc := 63) (j := 2) dX12_in_63 rfl rfl ?_
          refine sn_iload_n (pc := 64) (j := 3) dX12_in_64 rfl rfl ?_
          refine sn_aload_n (pc := 65) (j := 2) dX12_in_65 rfl rfl ?_
          refine sn_gR (pc := 66) dX12_in_66 flX12_7 rfl (fun v7 => ?_)
          refine sn_iload (pc := 69) (j := 1) dX12_in_69 rfl ?_
          refine sn_iconst (pc := 71) (v := 3) dX12_in_71 (by decide) ?_
          refine sn_iadd (pc := 72) dX12_in_72 ?_
          rcases v7 with _ | a9
          · exact sn_no
          refine sn_nn ?_
          refine sn_iald (pc := 73) dX12_in_73 (fun v8 => ?_)
          refine sn_iconst (pc := 74) (v := (-1)) dX12_in_74 (by decide) ?_
          refine sn_iconst (pc := 75) (v := 0) dX12_in_75 (by decide) ?_
          refine sn_callV (ci := 12) (pc := 76) dX12_in_76 iX12_bills wt7_106 ws_68 wt7_104 ⟨_, rfl, rfl⟩ (by decide) (mX12_bills a0 x1 v8 (-1) 0) (by decide) rfl rfl (Nat.le_of_ble_eq_true rfl) (fun v10 => ?_)
          refine sn_iload_n (pc := 79) (j := 5) dX12_in_79 rfl rfl ?_
          refine sn_aload_n (pc := 80) (j := 2) dX12_in_80 rfl rfl ?_
          refine sn_gI (pc := 81) dX12_in_81 flX12_259 rfl (fun v11 => ?_)
          refine sn_icmp_le (pc := 84) (tgt := 89) dX12_in_84 (by decide) ?_ ?_
          · refine sn_aload_n (pc := 89) (j := 2) dX12_in_89 rfl rfl ?_
            refine sn_iload_n (pc := 90) (j := 3) dX12_in_90 rfl rfl ?_
            refine sn_aload_n (pc := 91) (j := 2) dX12_in_91 rfl rfl ?_
            refine sn_gR (pc := 92) dX12_in_92 flX12_7 rfl (fun v12 => ?_)
            refine sn_iload (pc := 95) (j := 1) dX12_in_95 rfl ?_
            refine sn_iconst (pc := 97) (v := 3) dX12_in_97 (by decide) ?_
            refine sn_iadd (pc := 98) dX12_in_98 ?_
            rcases v12 with _ | a14
            · exact sn_no
            refine sn_nn ?_
            refine sn_iald (pc := 99) dX12_in_99 (fun v13 => ?_)
            refine sn_aload_n (pc := 100) (j := 2) dX12_in_100 rfl rfl ?_
            refine sn_gR (pc := 101) dX12_in_101 flX12_7 rfl (fun v15 => ?_)
            refine sn_iconst (pc := 104) (v := 4) dX12_in_104 (by decide) ?_
            rcases v15 with _ | a17
            · exact sn_no
            refine sn_nn ?_
            refine sn_iald (pc := 105) dX12_in_105 (fun v16 => ?_)
            refine sn_iload_n (pc := 106) (j := 4) dX12_in_106 rfl rfl ?_
            refine sn_callV (ci := 12) (pc := 107) dX12_in_107 iX12_bills wt7_106 ws_68 wt7_104 ⟨_, rfl, rfl⟩ (by decide) (mX12_bills a0 x1 v13 v16 x2) (by decide) rfl rfl (Nat.le_of_ble_eq_true rfl) (fun v18 => ?_)
            refine sn_aload_n (pc := 110) (j := 2) dX12_in_110 rfl rfl ?_
            refine sn_gI (pc := 111) dX12_in_111 flX12_262 rfl (fun v19 => ?_)
            refine sn_aload_n (pc := 114) (j := 2) dX12_in_114 rfl rfl ?_
            refine sn_gI (pc := 115) dX12_in_115 flX12_270 rfl (fun v20 => ?_)
            refine sn_isub (pc := 118) dX12_in_118 ?_
            refine sn_aload_n (pc := 119) (j := 2) dX12_in_119 rfl rfl ?_
            refine sn_gI (pc := 120) dX12_in_120 flX12_273 rfl (fun v21 => ?_)
            refine sn_isub (pc := 123) dX12_in_123 ?_
            refine sn_istore (pc := 124) (i := 6) (lv' := [(6, .int ((v19 - v20) - v21)), (5, .int (3440 + (160 * v5))), (4, .int (5360 + (28 * x1))), (0, .ref (E.1 + a0)), (1, .int x1), (2, .int x2), (3, .int x3)]) dX12_in_124 (by decide) rfl ?_
            refine sn_iload (pc := 126) (j := 0) dX12_in_126 rfl ?_
            refine sn_iconst (pc := 128) (v := 2) dX12_in_128 (by decide) ?_
            refine sn_idiv (pc := 129) dX12_in_129 ?_
            refine sn_aload_n (pc := 130) (j := 3) dX12_in_130 rfl rfl ?_
            refine sn_gR (pc := 131) dX12_in_131 flX12_7 rfl (fun v22 => ?_)
            refine sn_iload (pc := 134) (j := 1) dX12_in_134 rfl ?_
            refine sn_iconst (pc := 136) (v := 3) dX12_in_136 (by decide) ?_
            refine sn_iadd (pc := 137) dX12_in_137 ?_
            rcases v22 with _ | a24
            · exact sn_no
            refine sn_nn ?_
            refine sn_iald (pc := 138) dX12_in_138 (fun v23 => ?_)
            refine sn_icmp_ge (pc := 139) (tgt := 149) dX12_in_139 (by decide) ?_ ?_
            · refine sn_aload_n (pc := 149) (j := 3) dX12_in_149 rfl rfl ?_
              refine sn_gR (pc := 150) dX12_in_150 flX12_7 rfl (fun v25 => ?_)
              refine sn_iload (pc := 153) (j := 1) dX12_in_153 rfl ?_
              refine sn_iconst (pc := 155) (v := 3) dX12_in_155 (by decide) ?_
              refine sn_iadd (pc := 156) dX12_in_156 ?_
              rcases v25 with _ | a27
              · exact sn_no
              refine sn_nn ?_
              refine sn_iald (pc := 157) dX12_in_157 (fun v26 => ?_)
              exact sn_sub (lv' := [(0, .ref (E.1 + a0)), (2, .int x2), (3, .int x3), (4, .int (5360 + (28 * x1))), (5, .int (3440 + (160 * v5))), (6, .int ((v19 - v20) - v21))]) [3, 5, 6, 2, 1, 0] rfl (sfX12_in_158  a0 x2 x3 (5360 + (28 * x1)) (3440 + (160 * v5)) ((v19 - v20) - v21) v26)
            · refine sn_iload (pc := 142) (j := 0) dX12_in_142 rfl ?_
              refine sn_iconst (pc := 144) (v := 2) dX12_in_144 (by decide) ?_
              refine sn_idiv (pc := 145) dX12_in_145 ?_
              refine sn_goto (pc := 146) (tgt := 158) dX12_in_146 (by decide) ?_
              exact sn_sub (lv' := [(0, .ref (E.1 + a0)), (2, .int x2), (3, .int x3), (4, .int (5360 + (28 * x1))), (5, .int (3440 + (160 * v5))), (6, .int ((v19 - v20) - v21))]) [3, 5, 6, 2, 1, 0] rfl (sfX12_in_158  a0 x2 x3 (5360 + (28 * x1)) (3440 + (160 * v5)) ((v19 - v20) - v21) (((v19 - v20) - v21) / 2))
          · refine sn_iconst (pc := 87) (v := (-1)) dX12_in_87 (by decide) ?_
            exact sn_iret (pc := 88) dX12_in_88 rfl
        · refine sn_iconst (pc := 32) (v := (-1)) dX12_in_32 (by decide) ?_
          exact sn_iret (pc := 33) dX12_in_33 rfl
theorem iX12_in : MI yX12_in cX12_in 8 (some .int) 3 := ⟨wt1_10, wt7_103, by decide +kernel, by decide⟩
-- NeedleHomesModel piece(II)I
theorem dX12_piece_0 : decode cX12_piece 0 = .ok (.aload_n 0, 1) := by decide +kernel
theorem dX12_piece_1 : decode cX12_piece 1 = .ok (.iload_n 1, 1) := by decide +kernel
theorem dX12_piece_2 : decode cX12_piece 2 = .ok (.iconst 3, 1) := by decide +kernel
theorem dX12_piece_3 : decode cX12_piece 3 = .ok (.invokevirtual 178, 3) := by decide +kernel
theorem dX12_piece_6 : decode cX12_piece 6 = .ok (.ifCond .eq 22, 3) := by decide +kernel
theorem dX12_piece_9 : decode cX12_piece 9 = .ok (.iload_n 2, 1) := by decide +kernel
theorem dX12_piece_10 : decode cX12_piece 10 = .ok (.iconst 0, 1) := by decide +kernel
theorem dX12_piece_11 : decode cX12_piece 11 = .ok (.bipush 8, 2) := by decide +kernel
theorem dX12_piece_13 : decode cX12_piece 13 = .ok (.invokestatic 51, 3) := by decide +kernel
theorem dX12_piece_16 : decode cX12_piece 16 = .ok (.ifCond .eq 12, 3) := by decide +kernel
theorem dX12_piece_19 : decode cX12_piece 19 = .ok (.aload_n 0, 1) := by decide +kernel
theorem dX12_piece_20 : decode cX12_piece 20 = .ok (.iload_n 1, 1) := by decide +kernel
theorem dX12_piece_21 : decode cX12_piece 21 = .ok (.iload_n 2, 1) := by decide +kernel
theorem dX12_piece_22 : decode cX12_piece 22 = .ok (.invokevirtual 256, 3) := by decide +kernel
theorem dX12_piece_25 : decode cX12_piece 25 = .ok (.goto 5, 3) := by decide +kernel
theorem dX12_piece_28 : decode cX12_piece 28 = .ok (.bipush (-2), 2) := by decide +kernel
theorem dX12_piece_30 : decode cX12_piece 30 = .ok (.ireturn, 1) := by decide +kernel
abbrev dpX12_piece : Nat := 2
def fX12_piece (a0 : Nat) (x1 : Int32) (x2 : Int32) : St → Option (Int32 × St) :=
 ck 13 a0 <| cl (fX12_isOf a0 x1 3) fun v1 =>
 br ((bi v1) = 0) (rt (-2))
 (cl (fX12_isIn x2 0 8) fun v2 =>
 br ((bi v2) = 0) (rt (-2))
 (ck 13 a0 <| cl (fX12_pieceOf a0 x1 x2) fun v3 =>
 rt v3))
set_option maxHeartbeats 4000000 in
set_option maxRecDepth 100000 in
theorem mX12_piece {E : Ev} {l : Launch} (a0 : Nat) (x1 : Int32) (x2 : Int32) : MF E l dpX12_piece yX12_piece cX12_piece 3 (some .int) rvI [.ref (E.1 + a0), .int x1, .int x2] (fX12_piece a0 x1 x2) := by
  refine MF.of (lv := [(0, .ref (E.1 + a0)), (1, .int x1), (2, .int x2)]) (by decide) (Nat.le_of_ble_eq_true rfl) rfl ?_
  unfold fX12_piece
  refine sn_aload_n (pc := 0) (j := 0) dX12_piece_0 rfl rfl ?_
  refine sn_iload_n (pc := 1) (j := 1) dX12_piece_1 rfl rfl ?_
  refine sn_iconst (pc := 2) (v := 3) dX12_piece_2 (by decide) ?_
  refine sn_callV (ci := 12) (pc := 3) dX12_piece_3 iX12_isOf wt6_235 ws_54 wt6_233 ⟨_, rfl, rfl⟩ (by decide) (mX12_isOf a0 x1 3) (by decide) rfl rfl (Nat.le_of_ble_eq_true rfl) (fun v1 => ?_)
  refine sn_if_eq (pc := 6) (tgt := 28) dX12_piece_6 (by decide) ?_ ?_
  · refine sn_bipush (pc := 28) (v := (-2)) dX12_piece_28 (by decide) ?_
    exact sn_iret (pc := 30) dX12_piece_30 rfl
  · refine sn_iload_n (pc := 9) (j := 2) dX12_piece_9 rfl rfl ?_
    refine sn_iconst (pc := 10) (v := 0) dX12_piece_10 (by decide) ?_
    refine sn_bipush (pc := 11) (v := 8) dX12_piece_11 (by decide) ?_
    refine sn_callS (pc := 13) dX12_piece_13 iX12_isIn wt6_138 wt6_137 (mX12_isIn x2 0 8) (by decide) rfl rfl (Nat.le_of_ble_eq_true rfl) (fun v2 => ?_)
    refine sn_if_eq (pc := 16) (tgt := 28) dX12_piece_16 (by decide) ?_ ?_
    · refine sn_bipush (pc := 28) (v := (-2)) dX12_piece_28 (by decide) ?_
      exact sn_iret (pc := 30) dX12_piece_30 rfl
    · refine sn_aload_n (pc := 19) (j := 0) dX12_piece_19 rfl rfl ?_
      refine sn_iload_n (pc := 20) (j := 1) dX12_piece_20 rfl rfl ?_
      refine sn_iload_n (pc := 21) (j := 2) dX12_piece_21 rfl rfl ?_
      refine sn_callV (ci := 12) (pc := 22) dX12_piece_22 iX12_pieceOf wt7_94 ws_67 wt7_92 ⟨_, rfl, rfl⟩ (by decide) (mX12_pieceOf a0 x1 x2) (by decide) rfl rfl (Nat.le_of_ble_eq_true rfl) (fun v3 => ?_)
      refine sn_goto (pc := 25) (tgt := 30) dX12_piece_25 (by decide) ?_
      exact sn_iret (pc := 30) dX12_piece_30 rfl
theorem iX12_piece : MI yX12_piece cX12_piece 3 (some .int) 2 := ⟨wt1_10, wt7_112, by decide +kernel, by decide⟩
-- NeedleHomesModel bill(III)I
theorem dX12_bill_0 : decode cX12_bill 0 = .ok (.aload_n 0, 1) := by decide +kernel
theorem dX12_bill_1 : decode cX12_bill 1 = .ok (.iload_n 1, 1) := by decide +kernel
theorem dX12_bill_2 : decode cX12_bill 2 = .ok (.iconst 3, 1) := by decide +kernel
theorem dX12_bill_3 : decode cX12_bill 3 = .ok (.invokevirtual 178, 3) := by decide +kernel
theorem dX12_bill_6 : decode cX12_bill 6 = .ok (.ifCond .eq 17, 3) := by decide +kernel
theorem dX12_bill_9 : decode cX12_bill 9 = .ok (.iload_n 2, 1) := by decide +kernel
theorem dX12_bill_10 : decode cX12_bill 10 = .ok (.iconst 0, 1) := by decide +kernel
theorem dX12_bill_11 : decode cX12_bill 11 = .ok (.aload_n 0, 1) := by decide +kernel
theorem dX12_bill_12 : decode cX12_bill 12 = .ok (.getfield 7, 3) := by decide +kernel
theorem dX12_bill_15 : decode cX12_bill 15 = .ok (.iconst 4, 1) := by decide +kernel
theorem dX12_bill_16 : decode cX12_bill 16 = .ok (.iaload, 1) := by decide +kernel
theorem dX12_bill_17 : decode cX12_bill 17 = .ok (.invokestatic 51, 3) := by decide +kernel
theorem dX12_bill_20 : decode cX12_bill 20 = .ok (.ifCond .ne 5, 3) := by decide +kernel
theorem dX12_bill_23 : decode cX12_bill 23 = .ok (.iconst (-1), 1) := by decide +kernel
theorem dX12_bill_24 : decode cX12_bill 24 = .ok (.ireturn, 1) := by decide +kernel
theorem dX12_bill_25 : decode cX12_bill 25 = .ok (.aload_n 0, 1) := by decide +kernel
theorem dX12_bill_26 : decode cX12_bill 26 = .ok (.iload_n 1, 1) := by decide +kernel
theorem dX12_bill_27 : decode cX12_bill 27 = .ok (.iload_n 2, 1) := by decide +kernel
theorem dX12_bill_28 : decode cX12_bill 28 = .ok (.invokevirtual 279, 3) := by decide +kernel
theorem dX12_bill_31 : decode cX12_bill 31 = .ok (.iload_n 3, 1) := by decide +kernel
theorem dX12_bill_32 : decode cX12_bill 32 = .ok (.tableswitch 61 0 4 #[36, 41, 46, 51, 56], 36) := by decide +kernel
theorem dX12_bill_68 : decode cX12_bill 68 = .ok (.aload_n 0, 1) := by decide +kernel
theorem dX12_bill_69 : decode cX12_bill 69 = .ok (.getfield 259, 3) := by decide +kernel
theorem dX12_bill_72 : decode cX12_bill 72 = .ok (.ireturn, 1) := by decide +kernel
theorem dX12_bill_73 : decode cX12_bill 73 = .ok (.aload_n 0, 1) := by decide +kernel
theorem dX12_bill_74 : decode cX12_bill 74 = .ok (.getfield 262, 3) := by decide +kernel
theorem dX12_bill_77 : decode cX12_bill 77 = .ok (.ireturn, 1) := by decide +kernel
theorem dX12_bill_78 : decode cX12_bill 78 = .ok (.aload_n 0, 1) := by decide +kernel
theorem dX12_bill_79 : decode cX12_bill 79 = .ok (.getfield 267, 3) := by decide +kernel
theorem dX12_bill_82 : decode cX12_bill 82 = .ok (.ireturn, 1) := by decide +kernel
theorem dX12_bill_83 : decode cX12_bill 83 = .ok (.aload_n 0, 1) := by decide +kernel
theorem dX12_bill_84 : decode cX12_bill 84 = .ok (.getfield 270, 3) := by decide +kernel
theorem dX12_bill_87 : decode cX12_bill 87 = .ok (.ireturn, 1) := by decide +kernel
theorem dX12_bill_88 : decode cX12_bill 88 = .ok (.aload_n 0, 1) := by decide +kernel
theorem dX12_bill_89 : decode cX12_bill 89 = .ok (.getfield 273, 3) := by decide +kernel
theorem dX12_bill_92 : decode cX12_bill 92 = .ok (.ireturn, 1) := by decide +kernel
theorem dX12_bill_93 : decode cX12_bill 93 = .ok (.iconst (-1), 1) := by decide +kernel
theorem dX12_bill_94 : decode cX12_bill 94 = .ok (.ireturn, 1) := by decide +kernel
abbrev dpX12_bill : Nat := 5
def fX12_bill (a0 : Nat) (x1 : Int32) (x2 : Int32) (x3 : Int32) : St → Option (Int32 × St) :=
 ck 13 a0 <| cl (fX12_isOf a0 x1 3) fun v1 =>
 br ((bi v1) = 0) (rt (-1))
 (gR 13 a0 0 fun v2 =>
 nn v2 fun a4 =>
 aI 15 a4 4 fun v3 =>
 cl (fX12_isIn x2 0 v3) fun v5 =>
 br ((bi v5) = 0) (rt (-1))
 (ck 13 a0 <| cl (fX12_billed a0 x1 x2) fun v6 =>
 br (x3 = 0) (gI 13 a0 26 fun v7 =>
 rt v7) <|
 br (x3 = 1) (gI 13 a0 27 fun v8 =>
 rt v8) <|
 br (x3 = 2) (gI 13 a0 28 fun v9 =>
 rt v9) <|
 br (x3 = 3) (gI 13 a0 29 fun v10 =>
 rt v10) <|
 br (x3 = 4) (gI 13 a0 30 fun v11 =>
 rt v11) <|
 (rt (-1))))
set_option maxHeartbeats 4000000 in
set_option maxRecDepth 100000 in
theorem mX12_bill {E : Ev} {l : Launch} (a0 : Nat) (x1 : Int32) (x2 : Int32) (x3 : Int32) : MF E l dpX12_bill yX12_bill cX12_bill 4 (some .int) rvI [.ref (E.1 + a0), .int x1, .int x2, .int x3] (fX12_bill a0 x1 x2 x3) := by
  refine MF.of (lv := [(0, .ref (E.1 + a0)), (1, .int x1), (2, .int x2), (3, .int x3)]) (by decide) (Nat.le_of_ble_eq_true rfl) rfl ?_
  unfold fX12_bill
  refine sn_aload_n (pc := 0) (j := 0) dX12_bill_0 rfl rfl ?_
  refine sn_iload_n (pc := 1) (j := 1) dX12_bill_1 rfl rfl ?_
  refine sn_iconst (pc := 2) (v := 3) dX12_bill_2 (by decide) ?_
  refine sn_callV (ci := 12) (pc := 3) dX12_bill_3 iX12_isOf wt6_235 ws_54 wt6_233 ⟨_, rfl, rfl⟩ (by decide) (mX12_isOf a0 x1 3) (by decide) rfl rfl (Nat.le_of_ble_eq_true rfl) (fun v1 => ?_)
  refine sn_if_eq (pc := 6) (tgt := 23) dX12_bill_6 (by decide) ?_ ?_
  · refine sn_iconst (pc := 23) (v := (-1)) dX12_bill_23 (by decide) ?_
    exact sn_iret (pc := 24) dX12_bill_24 rfl
  · refine sn_iload_n (pc := 9) (j := 2) dX12_bill_9 rfl rfl ?_
    refine sn_iconst (pc := 10) (v := 0) dX12_bill_10 (by decide) ?_
    refine sn_aload_n (pc := 11) (j := 0) dX12_bill_11 rfl rfl ?_
    refine sn_gR (pc := 12) dX12_bill_12 flX12_7 rfl (fun v2 => ?_)
    refine sn_iconst (pc := 15) (v := 4) dX12_bill_15 (by decide) ?_
    rcases v2 with _ | a4
    · exact sn_no
    refine sn_nn ?_
    refine sn_iald (pc := 16) dX12_bill_16 (fun v3 => ?_)
    refine sn_callS (pc := 17) dX12_bill_17 iX12_isIn wt6_138 wt6_137 (mX12_isIn x2 0 v3) (by decide) rfl rfl (Nat.le_of_ble_eq_true rfl) (fun v5 => ?_)
    refine sn_if_ne (pc := 20) (tgt := 25) dX12_bill_20 (by decide) ?_ ?_
    · refine sn_aload_n (pc := 25) (j := 0) dX12_bill_25 rfl rfl ?_
      refine sn_iload_n (pc := 26) (j := 1) dX12_bill_26 rfl rfl ?_
      refine sn_iload_n (pc := 27) (j := 2) dX12_bill_27 rfl rfl ?_
      refine sn_callV (ci := 12) (pc := 28) dX12_bill_28 iX12_billed wt7_119 ws_69 wt7_117 ⟨_, rfl, rfl⟩ (by decide) (mX12_billed a0 x1 x2) (by decide) rfl rfl (Nat.le_of_ble_eq_true rfl) (fun v6 => ?_)
      refine sn_iload_n (pc := 31) (j := 3) dX12_bill_31 rfl rfl ?_
      refine sw_start ?_
      refine sw_case (tgt := 68) 0 dX12_bill_32 (by decide) (by decide) rfl (by decide) ?_ ?_
      · refine sn_aload_n (pc := 68) (j := 0) dX12_bill_68 rfl rfl ?_
        refine sn_gI (pc := 69) dX12_bill_69 flX12_259 rfl (fun v7 => ?_)
        exact sn_iret (pc := 72) dX12_bill_72 rfl
      refine sw_case (tgt := 73) 1 dX12_bill_32 (by decide) (by decide) rfl (by decide) ?_ ?_
      · refine sn_aload_n (pc := 73) (j := 0) dX12_bill_73 rfl rfl ?_
        refine sn_gI (pc := 74) dX12_bill_74 flX12_262 rfl (fun v8 => ?_)
        exact sn_iret (pc := 77) dX12_bill_77 rfl
      refine sw_case (tgt := 78) 2 dX12_bill_32 (by decide) (by decide) rfl (by decide) ?_ ?_
      · refine sn_aload_n (pc := 78) (j := 0) dX12_bill_78 rfl rfl ?_
        refine sn_gI (pc := 79) dX12_bill_79 flX12_267 rfl (fun v9 => ?_)
        exact sn_iret (pc := 82) dX12_bill_82 rfl
      refine sw_case (tgt := 83) 3 dX12_bill_32 (by decide) (by decide) rfl (by decide) ?_ ?_
      · refine sn_aload_n (pc := 83) (j := 0) dX12_bill_83 rfl rfl ?_
        refine sn_gI (pc := 84) dX12_bill_84 flX12_270 rfl (fun v10 => ?_)
        exact sn_iret (pc := 87) dX12_bill_87 rfl
      refine sw_case (tgt := 88) 4 dX12_bill_32 (by decide) (by decide) rfl (by decide) ?_ ?_
      · refine sn_aload_n (pc := 88) (j := 0) dX12_bill_88 rfl rfl ?_
        refine sn_gI (pc := 89) dX12_bill_89 flX12_273 rfl (fun v11 => ?_)
        exact sn_iret (pc := 92) dX12_bill_92 rfl
      refine sw_dflt (tgt := 93) dX12_bill_32 (fun hc => ?_) (by decide) ?_
      · obtain ⟨⟨⟨⟨⟨-, q0⟩, q1⟩, q2⟩, q3⟩, q4⟩ := hc
        have q0 := ne_toInt q0
        have q1 := ne_toInt q1
        have q2 := ne_toInt q2
        have q3 := ne_toInt q3
        have q4 := ne_toInt q4
        have e0 : (0 : Int32).toInt = 0 := by decide
        have e1 : (1 : Int32).toInt = 1 := by decide
        have e2 : (2 : Int32).toInt = 2 := by decide
        have e3 : (3 : Int32).toInt = 3 := by decide
        have e4 : (4 : Int32).toInt = 4 := by decide
        rw [e0] at q0
        rw [e1] at q1
        rw [e2] at q2
        rw [e3] at q3
        rw [e4] at q4
        omega
      · refine sn_iconst (pc := 93) (v := (-1)) dX12_bill_93 (by decide) ?_
        exact sn_iret (pc := 94) dX12_bill_94 rfl
    · refine sn_iconst (pc := 23) (v := (-1)) dX12_bill_23 (by decide) ?_
      exact sn_iret (pc := 24) dX12_bill_24 rfl
theorem iX12_bill : MI yX12_bill cX12_bill 4 (some .int) 3 := ⟨wt1_10, wt7_116, by decide +kernel, by decide⟩
-- NeedleHomesModel wronged(II)I
theorem dX12_wronged_0 : decode cX12_wronged 0 = .ok (.aload_n 0, 1) := by decide +kernel
theorem dX12_wronged_1 : decode cX12_wronged 1 = .ok (.iload_n 1, 1) := by decide +kernel
theorem dX12_wronged_2 : decode cX12_wronged 2 = .ok (.iconst 3, 1) := by decide +kernel
theorem dX12_wronged_3 : decode cX12_wronged 3 = .ok (.invokevirtual 178, 3) := by decide +kernel
theorem dX12_wronged_6 : decode cX12_wronged 6 = .ok (.ifCond .eq 26, 3) := by decide +kernel
theorem dX12_wronged_9 : decode cX12_wronged 9 = .ok (.aload_n 0, 1) := by decide +kernel
theorem dX12_wronged_10 : decode cX12_wronged 10 = .ok (.iload_n 1, 1) := by decide +kernel
theorem dX12_wronged_11 : decode cX12_wronged 11 = .ok (.iconst 4, 1) := by decide +kernel
theorem dX12_wronged_12 : decode cX12_wronged 12 = .ok (.invokevirtual 256, 3) := by decide +kernel
theorem dX12_wronged_15 : decode cX12_wronged 15 = .ok (.ifCond .lt 17, 3) := by decide +kernel
theorem dX12_wronged_18 : decode cX12_wronged 18 = .ok (.iload_n 2, 1) := by decide +kernel
theorem dX12_wronged_19 : decode cX12_wronged 19 = .ok (.iconst 0, 1) := by decide +kernel
theorem dX12_wronged_20 : decode cX12_wronged 20 = .ok (.aload_n 0, 1) := by decide +kernel
theorem dX12_wronged_21 : decode cX12_wronged 21 = .ok (.getfield 7, 3) := by decide +kernel
theorem dX12_wronged_24 : decode cX12_wronged 24 = .ok (.iconst 4, 1) := by decide +kernel
theorem dX12_wronged_25 : decode cX12_wronged 25 = .ok (.iaload, 1) := by decide +kernel
theorem dX12_wronged_26 : decode cX12_wronged 26 = .ok (.invokestatic 51, 3) := by decide +kernel
theorem dX12_wronged_29 : decode cX12_wronged 29 = .ok (.ifCond .ne 7, 3) := by decide +kernel
theorem dX12_wronged_32 : decode cX12_wronged 32 = .ok (.ldc_w 282, 3) := by decide +kernel
theorem dX12_wronged_35 : decode cX12_wronged 35 = .ok (.ireturn, 1) := by decide +kernel
theorem dX12_wronged_36 : decode cX12_wronged 36 = .ok (.aload_n 0, 1) := by decide +kernel
theorem dX12_wronged_37 : decode cX12_wronged 37 = .ok (.iload_n 1, 1) := by decide +kernel
theorem dX12_wronged_38 : decode cX12_wronged 38 = .ok (.aload_n 0, 1) := by decide +kernel
theorem dX12_wronged_39 : decode cX12_wronged 39 = .ok (.iload_n 1, 1) := by decide +kernel
theorem dX12_wronged_40 : decode cX12_wronged 40 = .ok (.iconst 3, 1) := by decide +kernel
theorem dX12_wronged_41 : decode cX12_wronged 41 = .ok (.invokevirtual 256, 3) := by decide +kernel
theorem dX12_wronged_44 : decode cX12_wronged 44 = .ok (.invokevirtual 279, 3) := by decide +kernel
theorem dX12_wronged_47 : decode cX12_wronged 47 = .ok (.aload_n 0, 1) := by decide +kernel
theorem dX12_wronged_48 : decode cX12_wronged 48 = .ok (.getfield 262, 3) := by decide +kernel
theorem dX12_wronged_51 : decode cX12_wronged 51 = .ok (.aload_n 0, 1) := by decide +kernel
theorem dX12_wronged_52 : decode cX12_wronged 52 = .ok (.getfield 270, 3) := by decide +kernel
theorem dX12_wronged_55 : decode cX12_wronged 55 = .ok (.isub, 1) := by decide +kernel
theorem dX12_wronged_56 : decode cX12_wronged 56 = .ok (.aload_n 0, 1) := by decide +kernel
theorem dX12_wronged_57 : decode cX12_wronged 57 = .ok (.getfield 273, 3) := by decide +kernel
theorem dX12_wronged_60 : decode cX12_wronged 60 = .ok (.isub, 1) := by decide +kernel
theorem dX12_wronged_61 : decode cX12_wronged 61 = .ok (.istore_n 3, 1) := by decide +kernel
theorem dX12_wronged_62 : decode cX12_wronged 62 = .ok (.aload_n 0, 1) := by decide +kernel
theorem dX12_wronged_63 : decode cX12_wronged 63 = .ok (.iload_n 1, 1) := by decide +kernel
theorem dX12_wronged_64 : decode cX12_wronged 64 = .ok (.iload_n 2, 1) := by decide +kernel
theorem dX12_wronged_65 : decode cX12_wronged 65 = .ok (.invokevirtual 279, 3) := by decide +kernel
theorem dX12_wronged_68 : decode cX12_wronged 68 = .ok (.aload_n 0, 1) := by decide +kernel
theorem dX12_wronged_69 : decode cX12_wronged 69 = .ok (.getfield 262, 3) := by decide +kernel
theorem dX12_wronged_72 : decode cX12_wronged 72 = .ok (.aload_n 0, 1) := by decide +kernel
theorem dX12_wronged_73 : decode cX12_wronged 73 = .ok (.getfield 270, 3) := by decide +kernel
theorem dX12_wronged_76 : decode cX12_wronged 76 = .ok (.isub, 1) := by decide +kernel
theorem dX12_wronged_77 : decode cX12_wronged 77 = .ok (.aload_n 0, 1) := by decide +kernel
theorem dX12_wronged_78 : decode cX12_wronged 78 = .ok (.getfield 273, 3) := by decide +kernel
theorem dX12_wronged_81 : decode cX12_wronged 81 = .ok (.isub, 1) := by decide +kernel
theorem dX12_wronged_82 : decode cX12_wronged 82 = .ok (.iload_n 3, 1) := by decide +kernel
theorem dX12_wronged_83 : decode cX12_wronged 83 = .ok (.isub, 1) := by decide +kernel
theorem dX12_wronged_84 : decode cX12_wronged 84 = .ok (.ireturn, 1) := by decide +kernel
abbrev dpX12_wronged : Nat := 5
def fX12_wronged (a0 : Nat) (x1 : Int32) (x2 : Int32) : St → Option (Int32 × St) :=
 ck 13 a0 <| cl (fX12_isOf a0 x1 3) fun v1 =>
 br ((bi v1) = 0) (rt (-1000000000))
 (ck 13 a0 <| cl (fX12_pieceOf a0 x1 4) fun v2 =>
 br (v2 < 0) (rt (-1000000000))
 (gR 13 a0 0 fun v3 =>
 nn v3 fun a5 =>
 aI 15 a5 4 fun v4 =>
 cl (fX12_isIn x2 0 v4) fun v6 =>
 br ((bi v6) = 0) (rt (-1000000000))
 (ck 13 a0 <| cl (fX12_pieceOf a0 x1 3) fun v7 =>
 ck 13 a0 <| cl (fX12_billed a0 x1 v7) fun v8 =>
 gI 13 a0 27 fun v9 =>
 gI 13 a0 29 fun v10 =>
 gI 13 a0 30 fun v11 =>
 ck 13 a0 <| cl (fX12_billed a0 x1 x2) fun v12 =>
 gI 13 a0 27 fun v13 =>
 gI 13 a0 29 fun v14 =>
 gI 13 a0 30 fun v15 =>
 rt (((v13 - v14) - v15) - ((v9 - v10) - v11)))))
set_option maxHeartbeats 4000000 in
set_option maxRecDepth 100000 in
theorem mX12_wronged {E : Ev} {l : Launch} (a0 : Nat) (x1 : Int32) (x2 : Int32) : MF E l dpX12_wronged yX12_wronged cX12_wronged 4 (some .int) rvI [.ref (E.1 + a0), .int x1, .int x2] (fX12_wronged a0 x1 x2) := by
  refine MF.of (lv := [(0, .ref (E.1 + a0)), (1, .int x1), (2, .int x2)]) (by decide) (Nat.le_of_ble_eq_true rfl) rfl ?_
  unfold fX12_wronged
  refine sn_aload_n (pc := 0) (j := 0) dX12_wronged_0 rfl rfl ?_
  refine sn_iload_n (pc := 1) (j := 1) dX12_wronged_1 rfl rfl ?_
  refine sn_iconst (pc := 2) (v := 3) dX12_wronged_2 (by decide) ?_
  refine sn_callV (ci := 12) (pc := 3) dX12_wronged_3 iX12_isOf wt6_235 ws_54 wt6_233 ⟨_, rfl, rfl⟩ (by decide) (mX12_isOf a0 x1 3) (by decide) rfl rfl (Nat.le_of_ble_eq_true rfl) (fun v1 => ?_)
  refine sn_if_eq (pc := 6) (tgt := 32) dX12_wronged_6 (by decide) ?_ ?_
  · refine sn_ldcw (pc := 32) (v := (-1000000000)) dX12_wronged_32 wt7_125 ?_
    exact sn_iret (pc := 35) dX12_wronged_35 rfl
  · refine sn_aload_n (pc := 9) (j := 0) dX12_wronged_9 rfl rfl ?_
    refine sn_iload_n (pc := 10) (j := 1) dX12_wronged_10 rfl rfl ?_
    refine sn_iconst (pc := 11) (v := 4) dX12_wronged_11 (by decide) ?_
    refine sn_callV (ci := 12) (pc := 12) dX12_wronged_12 iX12_pieceOf wt7_94 ws_67 wt7_92 ⟨_, rfl, rfl⟩ (by decide) (mX12_pieceOf a0 x1 4) (by decide) rfl rfl (Nat.le_of_ble_eq_true rfl) (fun v2 => ?_)
    refine sn_if_lt (pc := 15) (tgt := 32) dX12_wronged_15 (by decide) ?_ ?_
    · refine sn_ldcw (pc := 32) (v := (-1000000000)) dX12_wronged_32 wt7_125 ?_
      exact sn_iret (pc := 35) dX12_wronged_35 rfl
    · refine sn_iload_n (pc := 18) (j := 2) dX12_wronged_18 rfl rfl ?_
      refine sn_iconst (pc := 19) (v := 0) dX12_wronged_19 (by decide) ?_
      refine sn_aload_n (pc := 20) (j := 0) dX12_wronged_20 rfl rfl ?_
      refine sn_gR (pc := 21) dX12_wronged_21 flX12_7 rfl (fun v3 => ?_)
      refine sn_iconst (pc := 24) (v := 4) dX12_wronged_24 (by decide) ?_
      rcases v3 with _ | a5
      · exact sn_no
      refine sn_nn ?_
      refine sn_iald (pc := 25) dX12_wronged_25 (fun v4 => ?_)
      refine sn_callS (pc := 26) dX12_wronged_26 iX12_isIn wt6_138 wt6_137 (mX12_isIn x2 0 v4) (by decide) rfl rfl (Nat.le_of_ble_eq_true rfl) (fun v6 => ?_)
      refine sn_if_ne (pc := 29) (tgt := 36) dX12_wronged_29 (by decide) ?_ ?_
      · refine sn_aload_n (pc := 36) (j := 0) dX12_wronged_36 rfl rfl ?_
        refine sn_iload_n (pc := 37) (j := 1) dX12_wronged_37 rfl rfl ?_
        refine sn_aload_n (pc := 38) (j := 0) dX12_wronged_38 rfl rfl ?_
        refine sn_iload_n (pc := 39) (j := 1) dX12_wronged_39 rfl rfl ?_
        refine sn_iconst (pc := 40) (v := 3) dX12_wronged_40 (by decide) ?_
        refine sn_callV (ci := 12) (pc := 41) dX12_wronged_41 iX12_pieceOf wt7_94 ws_67 wt7_92 ⟨_, rfl, rfl⟩ (by decide) (mX12_pieceOf a0 x1 3) (by decide) rfl rfl (Nat.le_of_ble_eq_true rfl) (fun v7 => ?_)
        refine sn_callV (ci := 12) (pc := 44) dX12_wronged_44 iX12_billed wt7_119 ws_69 wt7_117 ⟨_, rfl, rfl⟩ (by decide) (mX12_billed a0 x1 v7) (by decide) rfl rfl (Nat.le_of_ble_eq_true rfl) (fun v8 => ?_)
        refine sn_aload_n (pc := 47) (j := 0) dX12_wronged_47 rfl rfl ?_
        refine sn_gI (pc := 48) dX12_wronged_48 flX12_262 rfl (fun v9 => ?_)
        refine sn_aload_n (pc := 51) (j := 0) dX12_wronged_51 rfl rfl ?_
        refine sn_gI (pc := 52) dX12_wronged_52 flX12_270 rfl (fun v10 => ?_)
        refine sn_isub (pc := 55) dX12_wronged_55 ?_
        refine sn_aload_n (pc := 56) (j := 0) dX12_wronged_56 rfl rfl ?_
        refine sn_gI (pc := 57) dX12_wronged_57 flX12_273 rfl (fun v11 => ?_)
        refine sn_isub (pc := 60) dX12_wronged_60 ?_
        refine sn_istore_n (pc := 61) (i := 3) (lv' := [(3, .int ((v9 - v10) - v11)), (0, .ref (E.1 + a0)), (1, .int x1), (2, .int x2)]) dX12_wronged_61 rfl (by decide) rfl ?_
        refine sn_aload_n (pc := 62) (j := 1) dX12_wronged_62 rfl rfl ?_
        refine sn_iload_n (pc := 63) (j := 2) dX12_wronged_63 rfl rfl ?_
        refine sn_iload_n (pc := 64) (j := 3) dX12_wronged_64 rfl rfl ?_
        refine sn_callV (ci := 12) (pc := 65) dX12_wronged_65 iX12_billed wt7_119 ws_69 wt7_117 ⟨_, rfl, rfl⟩ (by decide) (mX12_billed a0 x1 x2) (by decide) rfl rfl (Nat.le_of_ble_eq_true rfl) (fun v12 => ?_)
        refine sn_aload_n (pc := 68) (j := 1) dX12_wronged_68 rfl rfl ?_
        refine sn_gI (pc := 69) dX12_wronged_69 flX12_262 rfl (fun v13 => ?_)
        refine sn_aload_n (pc := 72) (j := 1) dX12_wronged_72 rfl rfl ?_
        refine sn_gI (pc := 73) dX12_wronged_73 flX12_270 rfl (fun v14 => ?_)
        refine sn_isub (pc := 76) dX12_wronged_76 ?_
        refine sn_aload_n (pc := 77) (j := 1) dX12_wronged_77 rfl rfl ?_
        refine sn_gI (pc := 78) dX12_wronged_78 flX12_273 rfl (fun v15 => ?_)
        refine sn_isub (pc := 81) dX12_wronged_81 ?_
        refine sn_iload_n (pc := 82) (j := 0) dX12_wronged_82 rfl rfl ?_
        refine sn_isub (pc := 83) dX12_wronged_83 ?_
        exact sn_iret (pc := 84) dX12_wronged_84 rfl
      · refine sn_ldcw (pc := 32) (v := (-1000000000)) dX12_wronged_32 wt7_125 ?_
        exact sn_iret (pc := 35) dX12_wronged_35 rfl
theorem iX12_wronged : MI yX12_wronged cX12_wronged 4 (some .int) 2 := ⟨wt1_10, wt7_124, by decide +kernel, by decide⟩
-- NeedleHomesModel carried(I)I
theorem dX12_carried_0 : decode cX12_carried 0 = .ok (.iload_n 1, 1) := by decide +kernel
theorem dX12_carried_1 : decode cX12_carried 1 = .ok (.iconst 0, 1) := by decide +kernel
theorem dX12_carried_2 : decode cX12_carried 2 = .ok (.iconst 2, 1) := by decide +kernel
theorem dX12_carried_3 : decode cX12_carried 3 = .ok (.invokestatic 51, 3) := by decide +kernel
theorem dX12_carried_6 : decode cX12_carried 6 = .ok (.ifCond .eq 15, 3) := by decide +kernel
theorem dX12_carried_9 : decode cX12_carried 9 = .ok (.aload_n 0, 1) := by decide +kernel
theorem dX12_carried_10 : decode cX12_carried 10 = .ok (.getfield 7, 3) := by decide +kernel
theorem dX12_carried_13 : decode cX12_carried 13 = .ok (.bipush 10, 2) := by decide +kernel
theorem dX12_carried_15 : decode cX12_carried 15 = .ok (.iload_n 1, 1) := by decide +kernel
theorem dX12_carried_16 : decode cX12_carried 16 = .ok (.iadd, 1) := by decide +kernel
theorem dX12_carried_17 : decode cX12_carried 17 = .ok (.iaload, 1) := by decide +kernel
theorem dX12_carried_18 : decode cX12_carried 18 = .ok (.goto 4, 3) := by decide +kernel
theorem dX12_carried_21 : decode cX12_carried 21 = .ok (.iconst (-1), 1) := by decide +kernel
theorem dX12_carried_22 : decode cX12_carried 22 = .ok (.ireturn, 1) := by decide +kernel
abbrev dpX12_carried : Nat := 1
def fX12_carried (a0 : Nat) (x1 : Int32) : St → Option (Int32 × St) :=
 cl (fX12_isIn x1 0 2) fun v1 =>
 br ((bi v1) = 0) (rt (-1))
 (gR 13 a0 0 fun v2 =>
 nn v2 fun a4 =>
 aI 15 a4 (10 + x1) fun v3 =>
 rt v3)
set_option maxHeartbeats 4000000 in
set_option maxRecDepth 100000 in
theorem mX12_carried {E : Ev} {l : Launch} (a0 : Nat) (x1 : Int32) : MF E l dpX12_carried yX12_carried cX12_carried 2 (some .int) rvI [.ref (E.1 + a0), .int x1] (fX12_carried a0 x1) := by
  refine MF.of (lv := [(0, .ref (E.1 + a0)), (1, .int x1)]) (by decide) (Nat.le_of_ble_eq_true rfl) rfl ?_
  unfold fX12_carried
  refine sn_iload_n (pc := 0) (j := 1) dX12_carried_0 rfl rfl ?_
  refine sn_iconst (pc := 1) (v := 0) dX12_carried_1 (by decide) ?_
  refine sn_iconst (pc := 2) (v := 2) dX12_carried_2 (by decide) ?_
  refine sn_callS (pc := 3) dX12_carried_3 iX12_isIn wt6_138 wt6_137 (mX12_isIn x1 0 2) (by decide) rfl rfl (Nat.le_of_ble_eq_true rfl) (fun v1 => ?_)
  refine sn_if_eq (pc := 6) (tgt := 21) dX12_carried_6 (by decide) ?_ ?_
  · refine sn_iconst (pc := 21) (v := (-1)) dX12_carried_21 (by decide) ?_
    exact sn_iret (pc := 22) dX12_carried_22 rfl
  · refine sn_aload_n (pc := 9) (j := 0) dX12_carried_9 rfl rfl ?_
    refine sn_gR (pc := 10) dX12_carried_10 flX12_7 rfl (fun v2 => ?_)
    refine sn_bipush (pc := 13) (v := 10) dX12_carried_13 (by decide) ?_
    refine sn_iload_n (pc := 15) (j := 1) dX12_carried_15 rfl rfl ?_
    refine sn_iadd (pc := 16) dX12_carried_16 ?_
    rcases v2 with _ | a4
    · exact sn_no
    refine sn_nn ?_
    refine sn_iald (pc := 17) dX12_carried_17 (fun v3 => ?_)
    refine sn_goto (pc := 18) (tgt := 22) dX12_carried_18 (by decide) ?_
    exact sn_iret (pc := 22) dX12_carried_22 rfl
theorem iX12_carried : MI yX12_carried cX12_carried 2 (some .int) 1 := ⟨wt1_10, wt7_129, by decide +kernel, by decide⟩
-- NeedleHomesModel write(IIII)Z
theorem dX12_write_0 : decode cX12_write 0 = .ok (.iload_n 1, 1) := by decide +kernel
theorem dX12_write_1 : decode cX12_write 1 = .ok (.iconst 0, 1) := by decide +kernel
theorem dX12_write_2 : decode cX12_write 2 = .ok (.iconst 1, 1) := by decide +kernel
theorem dX12_write_3 : decode cX12_write 3 = .ok (.invokestatic 51, 3) := by decide +kernel
theorem dX12_write_6 : decode cX12_write 6 = .ok (.ifCond .eq 33, 3) := by decide +kernel
theorem dX12_write_9 : decode cX12_write 9 = .ok (.aload_n 0, 1) := by decide +kernel
theorem dX12_write_10 : decode cX12_write 10 = .ok (.iload_n 2, 1) := by decide +kernel
theorem dX12_write_11 : decode cX12_write 11 = .ok (.iconst 3, 1) := by decide +kernel
theorem dX12_write_12 : decode cX12_write 12 = .ok (.invokevirtual 178, 3) := by decide +kernel
theorem dX12_write_15 : decode cX12_write 15 = .ok (.ifCond .eq 24, 3) := by decide +kernel
theorem dX12_write_18 : decode cX12_write 18 = .ok (.iload_n 3, 1) := by decide +kernel
theorem dX12_write_19 : decode cX12_write 19 = .ok (.iconst 0, 1) := by decide +kernel
theorem dX12_write_20 : decode cX12_write 20 = .ok (.iconst 2, 1) := by decide +kernel
theorem dX12_write_21 : decode cX12_write 21 = .ok (.invokestatic 51, 3) := by decide +kernel
theorem dX12_write_24 : decode cX12_write 24 = .ok (.ifCond .eq 15, 3) := by decide +kernel
theorem dX12_write_27 : decode cX12_write 27 = .ok (.iload 4, 2) := by decide +kernel
theorem dX12_write_29 : decode cX12_write 29 = .ok (.iconst 0, 1) := by decide +kernel
theorem dX12_write_30 : decode cX12_write 30 = .ok (.sipush 9999, 3) := by decide +kernel
theorem dX12_write_33 : decode cX12_write 33 = .ok (.invokestatic 51, 3) := by decide +kernel
theorem dX12_write_36 : decode cX12_write 36 = .ok (.ifCond .ne 5, 3) := by decide +kernel
theorem dX12_write_39 : decode cX12_write 39 = .ok (.iconst 0, 1) := by decide +kernel
theorem dX12_write_40 : decode cX12_write 40 = .ok (.ireturn, 1) := by decide +kernel
theorem dX12_write_41 : decode cX12_write 41 = .ok (.aload_n 0, 1) := by decide +kernel
theorem dX12_write_42 : decode cX12_write 42 = .ok (.getfield 7, 3) := by decide +kernel
theorem dX12_write_45 : decode cX12_write 45 = .ok (.sipush 5360, 3) := by decide +kernel
theorem dX12_write_48 : decode cX12_write 48 = .ok (.bipush 28, 2) := by decide +kernel
theorem dX12_write_50 : decode cX12_write 50 = .ok (.iload_n 2, 1) := by decide +kernel
theorem dX12_write_51 : decode cX12_write 51 = .ok (.imul, 1) := by decide +kernel
theorem dX12_write_52 : decode cX12_write 52 = .ok (.iadd, 1) := by decide +kernel
theorem dX12_write_53 : decode cX12_write 53 = .ok (.bipush 10, 2) := by decide +kernel
theorem dX12_write_55 : decode cX12_write 55 = .ok (.iadd, 1) := by decide +kernel
theorem dX12_write_56 : decode cX12_write 56 = .ok (.iconst 3, 1) := by decide +kernel
theorem dX12_write_57 : decode cX12_write 57 = .ok (.iload_n 1, 1) := by decide +kernel
theorem dX12_write_58 : decode cX12_write 58 = .ok (.imul, 1) := by decide +kernel
theorem dX12_write_59 : decode cX12_write 59 = .ok (.iadd, 1) := by decide +kernel
theorem dX12_write_60 : decode cX12_write 60 = .ok (.iload_n 3, 1) := by decide +kernel
theorem dX12_write_61 : decode cX12_write 61 = .ok (.iadd, 1) := by decide +kernel
theorem dX12_write_62 : decode cX12_write 62 = .ok (.iload 4, 2) := by decide +kernel
theorem dX12_write_64 : decode cX12_write 64 = .ok (.iconst 1, 1) := by decide +kernel
theorem dX12_write_65 : decode cX12_write 65 = .ok (.iadd, 1) := by decide +kernel
theorem dX12_write_66 : decode cX12_write 66 = .ok (.iastore, 1) := by decide +kernel
theorem dX12_write_67 : decode cX12_write 67 = .ok (.iconst 1, 1) := by decide +kernel
theorem dX12_write_68 : decode cX12_write 68 = .ok (.ireturn, 1) := by decide +kernel
abbrev dpX12_write : Nat := 2
def fX12_write (a0 : Nat) (x1 : Int32) (x2 : Int32) (x3 : Int32) (x4 : Int32) : St → Option (Bool × St) :=
 cl (fX12_isIn x1 0 1) fun v1 =>
 br ((bi v1) = 0) (rtZ 0)
 (ck 13 a0 <| cl (fX12_isOf a0 x2 3) fun v2 =>
 br ((bi v2) = 0) (rtZ 0)
 (cl (fX12_isIn x3 0 2) fun v3 =>
 br ((bi v3) = 0) (rtZ 0)
 (cl (fX12_isIn x4 0 9999) fun v4 =>
 br ((bi v4) = 0) (rtZ 0)
 (gR 13 a0 0 fun v5 =>
 nn v5 fun a6 =>
 wI a6 ((((5360 + (28 * x2)) + 10) + (3 * x1)) + x3) (x4 + 1) <|
 rtZ 1))))
set_option maxHeartbeats 4000000 in
set_option maxRecDepth 100000 in
theorem mX12_write {E : Ev} {l : Launch} (a0 : Nat) (x1 : Int32) (x2 : Int32) (x3 : Int32) (x4 : Int32) : MF E l dpX12_write yX12_write cX12_write 5 (some .boolean) rvZ [.ref (E.1 + a0), .int x1, .int x2, .int x3, .int x4] (fX12_write a0 x1 x2 x3 x4) := by
  refine MF.of (lv := [(0, .ref (E.1 + a0)), (1, .int x1), (2, .int x2), (3, .int x3), (4, .int x4)]) (by decide) (Nat.le_of_ble_eq_true rfl) rfl ?_
  unfold fX12_write
  refine sn_iload_n (pc := 0) (j := 1) dX12_write_0 rfl rfl ?_
  refine sn_iconst (pc := 1) (v := 0) dX12_write_1 (by decide) ?_
  refine sn_iconst (pc := 2) (v := 1) dX12_write_2 (by decide) ?_
  refine sn_callS (pc := 3) dX12_write_3 iX12_isIn wt6_138 wt6_137 (mX12_isIn x1 0 1) (by decide) rfl rfl (Nat.le_of_ble_eq_true rfl) (fun v1 => ?_)
  refine sn_if_eq (pc := 6) (tgt := 39) dX12_write_6 (by decide) ?_ ?_
  · refine sn_iconst (pc := 39) (v := 0) dX12_write_39 (by decide) ?_
    exact sn_zret (pc := 40) dX12_write_40 rfl
  · refine sn_aload_n (pc := 9) (j := 0) dX12_write_9 rfl rfl ?_
    refine sn_iload_n (pc := 10) (j := 2) dX12_write_10 rfl rfl ?_
    refine sn_iconst (pc := 11) (v := 3) dX12_write_11 (by decide) ?_
    refine sn_callV (ci := 12) (pc := 12) dX12_write_12 iX12_isOf wt6_235 ws_54 wt6_233 ⟨_, rfl, rfl⟩ (by decide) (mX12_isOf a0 x2 3) (by decide) rfl rfl (Nat.le_of_ble_eq_true rfl) (fun v2 => ?_)
    refine sn_if_eq (pc := 15) (tgt := 39) dX12_write_15 (by decide) ?_ ?_
    · refine sn_iconst (pc := 39) (v := 0) dX12_write_39 (by decide) ?_
      exact sn_zret (pc := 40) dX12_write_40 rfl
    · refine sn_iload_n (pc := 18) (j := 3) dX12_write_18 rfl rfl ?_
      refine sn_iconst (pc := 19) (v := 0) dX12_write_19 (by decide) ?_
      refine sn_iconst (pc := 20) (v := 2) dX12_write_20 (by decide) ?_
      refine sn_callS (pc := 21) dX12_write_21 iX12_isIn wt6_138 wt6_137 (mX12_isIn x3 0 2) (by decide) rfl rfl (Nat.le_of_ble_eq_true rfl) (fun v3 => ?_)
      refine sn_if_eq (pc := 24) (tgt := 39) dX12_write_24 (by decide) ?_ ?_
      · refine sn_iconst (pc := 39) (v := 0) dX12_write_39 (by decide) ?_
        exact sn_zret (pc := 40) dX12_write_40 rfl
      · refine sn_iload (pc := 27) (j := 4) dX12_write_27 rfl ?_
        refine sn_iconst (pc := 29) (v := 0) dX12_write_29 (by decide) ?_
        refine sn_sipush (pc := 30) (v := 9999) dX12_write_30 (by decide) ?_
        refine sn_callS (pc := 33) dX12_write_33 iX12_isIn wt6_138 wt6_137 (mX12_isIn x4 0 9999) (by decide) rfl rfl (Nat.le_of_ble_eq_true rfl) (fun v4 => ?_)
        refine sn_if_ne (pc := 36) (tgt := 41) dX12_write_36 (by decide) ?_ ?_
        · refine sn_aload_n (pc := 41) (j := 0) dX12_write_41 rfl rfl ?_
          refine sn_gR (pc := 42) dX12_write_42 flX12_7 rfl (fun v5 => ?_)
          refine sn_sipush (pc := 45) (v := 5360) dX12_write_45 (by decide) ?_
          refine sn_bipush (pc := 48) (v := 28) dX12_write_48 (by decide) ?_
          refine sn_iload_n (pc := 50) (j := 2) dX12_write_50 rfl rfl ?_
          refine sn_imul (pc := 51) dX12_write_51 ?_
          refine sn_iadd (pc := 52) dX12_write_52 ?_
          refine sn_bipush (pc := 53) (v := 10) dX12_write_53 (by decide) ?_
          refine sn_iadd (pc := 55) dX12_write_55 ?_
          refine sn_iconst (pc := 56) (v := 3) dX12_write_56 (by decide) ?_
          refine sn_iload_n (pc := 57) (j := 1) dX12_write_57 rfl rfl ?_
          refine sn_imul (pc := 58) dX12_write_58 ?_
          refine sn_iadd (pc := 59) dX12_write_59 ?_
          refine sn_iload_n (pc := 60) (j := 3) dX12_write_60 rfl rfl ?_
          refine sn_iadd (pc := 61) dX12_write_61 ?_
          refine sn_iload (pc := 62) (j := 4) dX12_write_62 rfl ?_
          refine sn_iconst (pc := 64) (v := 1) dX12_write_64 (by decide) ?_
          refine sn_iadd (pc := 65) dX12_write_65 ?_
          rcases v5 with _ | a6
          · exact sn_no
          refine sn_nn ?_
          refine sn_iast (pc := 66) dX12_write_66 ?_
          refine sn_iconst (pc := 67) (v := 1) dX12_write_67 (by decide) ?_
          exact sn_zret (pc := 68) dX12_write_68 rfl
        · refine sn_iconst (pc := 39) (v := 0) dX12_write_39 (by decide) ?_
          exact sn_zret (pc := 40) dX12_write_40 rfl
theorem iX12_write : MI yX12_write cX12_write 5 (some .boolean) 4 := ⟨wt1_10, wt7_133, by decide +kernel, by decide⟩
-- NeedleHomesModel differs(I)I
theorem dX12_differs_0 : decode cX12_differs 0 = .ok (.iconst 0, 1) := by decide +kernel
theorem dX12_differs_1 : decode cX12_differs 1 = .ok (.istore_n 2, 1) := by decide +kernel
theorem dX12_differs_2 : decode cX12_differs 2 = .ok (.iconst 0, 1) := by decide +kernel
theorem dX12_differs_3 : decode cX12_differs 3 = .ok (.istore_n 3, 1) := by decide +kernel
theorem dX12_differs_4 : decode cX12_differs 4 = .ok (.iload_n 3, 1) := by decide +kernel
theorem dX12_differs_5 : decode cX12_differs 5 = .ok (.iconst 3, 1) := by decide +kernel
theorem dX12_differs_6 : decode cX12_differs 6 = .ok (.if_icmp .ge 58, 3) := by decide +kernel
theorem dX12_differs_9 : decode cX12_differs 9 = .ok (.aload_n 0, 1) := by decide +kernel
theorem dX12_differs_10 : decode cX12_differs 10 = .ok (.iload_n 1, 1) := by decide +kernel
theorem dX12_differs_11 : decode cX12_differs 11 = .ok (.bipush 10, 2) := by decide +kernel
theorem dX12_differs_13 : decode cX12_differs 13 = .ok (.iload_n 3, 1) := by decide +kernel
theorem dX12_differs_14 : decode cX12_differs 14 = .ok (.iadd, 1) := by decide +kernel
theorem dX12_differs_15 : decode cX12_differs 15 = .ok (.invokevirtual 256, 3) := by decide +kernel
theorem dX12_differs_18 : decode cX12_differs 18 = .ok (.istore 4, 2) := by decide +kernel
theorem dX12_differs_20 : decode cX12_differs 20 = .ok (.aload_n 0, 1) := by decide +kernel
theorem dX12_differs_21 : decode cX12_differs 21 = .ok (.iload_n 1, 1) := by decide +kernel
theorem dX12_differs_22 : decode cX12_differs 22 = .ok (.bipush 13, 2) := by decide +kernel
theorem dX12_differs_24 : decode cX12_differs 24 = .ok (.iload_n 3, 1) := by decide +kernel
theorem dX12_differs_25 : decode cX12_differs 25 = .ok (.iadd, 1) := by decide +kernel
theorem dX12_differs_26 : decode cX12_differs 26 = .ok (.invokevirtual 256, 3) := by decide +kernel
theorem dX12_differs_29 : decode cX12_differs 29 = .ok (.istore 5, 2) := by decide +kernel
theorem dX12_differs_31 : decode cX12_differs 31 = .ok (.iload_n 2, 1) := by decide +kernel
theorem dX12_differs_32 : decode cX12_differs 32 = .ok (.iload 4, 2) := by decide +kernel
theorem dX12_differs_34 : decode cX12_differs 34 = .ok (.ifCond .le 21, 3) := by decide +kernel
theorem dX12_differs_37 : decode cX12_differs 37 = .ok (.iload 5, 2) := by decide +kernel
theorem dX12_differs_39 : decode cX12_differs 39 = .ok (.ifCond .le 16, 3) := by decide +kernel
theorem dX12_differs_42 : decode cX12_differs 42 = .ok (.iload 4, 2) := by decide +kernel
theorem dX12_differs_44 : decode cX12_differs 44 = .ok (.iload 5, 2) := by decide +kernel
theorem dX12_differs_46 : decode cX12_differs 46 = .ok (.if_icmp .eq 9, 3) := by decide +kernel
theorem dX12_differs_49 : decode cX12_differs 49 = .ok (.iconst 1, 1) := by decide +kernel
theorem dX12_differs_50 : decode cX12_differs 50 = .ok (.iload_n 3, 1) := by decide +kernel
theorem dX12_differs_51 : decode cX12_differs 51 = .ok (.ishl, 1) := by decide +kernel
theorem dX12_differs_52 : decode cX12_differs 52 = .ok (.goto 4, 3) := by decide +kernel
theorem dX12_differs_55 : decode cX12_differs 55 = .ok (.iconst 0, 1) := by decide +kernel
theorem dX12_differs_56 : decode cX12_differs 56 = .ok (.ior, 1) := by decide +kernel
theorem dX12_differs_57 : decode cX12_differs 57 = .ok (.istore_n 2, 1) := by decide +kernel
theorem dX12_differs_58 : decode cX12_differs 58 = .ok (.iinc 3 1, 3) := by decide +kernel
theorem dX12_differs_61 : decode cX12_differs 61 = .ok (.goto (-57), 3) := by decide +kernel
theorem dX12_differs_64 : decode cX12_differs 64 = .ok (.iload_n 2, 1) := by decide +kernel
theorem dX12_differs_65 : decode cX12_differs 65 = .ok (.ireturn, 1) := by decide +kernel
abbrev dpX12_differs : Nat := 1
def fX12_differs_56 (k4 : (Nat × Int32 × Int32 × Int32) → St → Option (Int32 × St)) (a0 : Nat) (x1 : Int32) (x3 : Int32) (y0 : Int32) (y1 : Int32) : St → Option (Int32 × St) :=
 k4 (a0, x1, (y1 ||| y0), (x3 + 1))
set_option maxHeartbeats 4000000 in
set_option maxRecDepth 100000 in
theorem sfX12_differs_56 {E : Ev} {l : Launch} (k4 : (Nat × Int32 × Int32 × Int32) → St → Option (Int32 × St)) (hk4 : ∀ p : Nat × Int32 × Int32 × Int32, Snd E l (dpX12_differs, RX12, cX12_differs, 6, (some .int), "differs") rvI 4 [(0, .ref (E.1 + p.1)), (1, .int p.2.1), (2, .int p.2.2.1), (3, .int p.2.2.2)] [] (k4 p)) (a0 : Nat) (x1 : Int32) (x3 : Int32) (y0 : Int32) (y1 : Int32) : Snd E l (dpX12_differs, RX12, cX12_differs, 6, (some .int), "differs") rvI 56 [(0, .ref (E.1 + a0)), (1, .int x1), (3, .int x3)] [.int y0, .int y1] (fX12_differs_56 k4 a0 x1 x3 y0 y1) := by
  unfold fX12_differs_56
  refine sn_ior (pc := 56) dX12_differs_56 ?_
  refine sn_istore_n (pc := 57) (i := 2) (lv' := [(2, .int (y1 ||| y0)), (0, .ref (E.1 + a0)), (1, .int x1), (3, .int x3)]) dX12_differs_57 rfl (by decide) rfl ?_
  refine sn_iinc (pc := 58) (v := x3 + 1) (lv' := [(3, .int (x3 + 1)), (2, .int (y1 ||| y0)), (0, .ref (E.1 + a0)), (1, .int x1)]) (j := 3) dX12_differs_58 rfl rfl (by decide) rfl ?_
  refine sn_goto (pc := 61) (tgt := 4) dX12_differs_61 (by decide) ?_
  exact sn_sub (lv' := [(0, .ref (E.1 + a0)), (1, .int x1), (2, .int (y1 ||| y0)), (3, .int (x3 + 1))]) [2, 3, 1, 0] rfl (hk4 (a0, x1, (y1 ||| y0), (x3 + 1)))
def fX12_differs_55 (k4 : (Nat × Int32 × Int32 × Int32) → St → Option (Int32 × St)) (a0 : Nat) (x1 : Int32) (x3 : Int32) (y0 : Int32) : St → Option (Int32 × St) :=
 fX12_differs_56 k4 a0 x1 x3 0 y0
set_option maxHeartbeats 4000000 in
set_option maxRecDepth 100000 in
theorem sfX12_differs_55 {E : Ev} {l : Launch} (k4 : (Nat × Int32 × Int32 × Int32) → St → Option (Int32 × St)) (hk4 : ∀ p : Nat × Int32 × Int32 × Int32, Snd E l (dpX12_differs, RX12, cX12_differs, 6, (some .int), "differs") rvI 4 [(0, .ref (E.1 + p.1)), (1, .int p.2.1), (2, .int p.2.2.1), (3, .int p.2.2.2)] [] (k4 p)) (a0 : Nat) (x1 : Int32) (x3 : Int32) (y0 : Int32) : Snd E l (dpX12_differs, RX12, cX12_differs, 6, (some .int), "differs") rvI 55 [(0, .ref (E.1 + a0)), (1, .int x1), (3, .int x3)] [.int y0] (fX12_differs_55 k4 a0 x1 x3 y0) := by
  unfold fX12_differs_55
  refine sn_iconst (pc := 55) (v := 0) dX12_differs_55 (by decide) ?_
  exact sn_sub (lv' := [(0, .ref (E.1 + a0)), (1, .int x1), (3, .int x3)]) [0, 1, 2] rfl (sfX12_differs_56 k4 hk4 a0 x1 x3 0 y0)
def fX12_differs_4 (k4 : (Nat × Int32 × Int32 × Int32) → St → Option (Int32 × St)) (a0 : Nat) (x1 : Int32) (x2 : Int32) (x3 : Int32) : St → Option (Int32 × St) :=
 br (3 ≤ x3) (rt x2)
 (ck 13 a0 <| cl (fX12_pieceOf a0 x1 (10 + x3)) fun v1001 =>
 ck 13 a0 <| cl (fX12_pieceOf a0 x1 (13 + x3)) fun v1002 =>
 br (v1001 ≤ 0) (fX12_differs_55 k4 a0 x1 x3 x2)
 (br (v1002 ≤ 0) (fX12_differs_55 k4 a0 x1 x3 x2)
 (br (v1001 = v1002) (fX12_differs_55 k4 a0 x1 x3 x2)
 (fX12_differs_56 k4 a0 x1 x3 (1 <<< (x3 &&& 31)) x2))))
set_option maxHeartbeats 4000000 in
set_option maxRecDepth 100000 in
theorem sfX12_differs_4 {E : Ev} {l : Launch} (k4 : (Nat × Int32 × Int32 × Int32) → St → Option (Int32 × St)) (hk4 : ∀ p : Nat × Int32 × Int32 × Int32, Snd E l (dpX12_differs, RX12, cX12_differs, 6, (some .int), "differs") rvI 4 [(0, .ref (E.1 + p.1)), (1, .int p.2.1), (2, .int p.2.2.1), (3, .int p.2.2.2)] [] (k4 p)) (a0 : Nat) (x1 : Int32) (x2 : Int32) (x3 : Int32) : Snd E l (dpX12_differs, RX12, cX12_differs, 6, (some .int), "differs") rvI 4 [(0, .ref (E.1 + a0)), (1, .int x1), (2, .int x2), (3, .int x3)] [] (fX12_differs_4 k4 a0 x1 x2 x3) := by
  unfold fX12_differs_4
  refine sn_iload_n (pc := 4) (j := 3) dX12_differs_4 rfl rfl ?_
  refine sn_iconst (pc := 5) (v := 3) dX12_differs_5 (by decide) ?_
  refine sn_icmp_ge (pc := 6) (tgt := 64) dX12_differs_6 (by decide) ?_ ?_
  · refine sn_iload_n (pc := 64) (j := 2) dX12_differs_64 rfl rfl ?_
    exact sn_iret (pc := 65) dX12_differs_65 rfl
  · refine sn_aload_n (pc := 9) (j := 0) dX12_differs_9 rfl rfl ?_
    refine sn_iload_n (pc := 10) (j := 1) dX12_differs_10 rfl rfl ?_
    refine sn_bipush (pc := 11) (v := 10) dX12_differs_11 (by decide) ?_
    refine sn_iload_n (pc := 13) (j := 3) dX12_differs_13 rfl rfl ?_
    refine sn_iadd (pc := 14) dX12_differs_14 ?_
    refine sn_callV (ci := 12) (pc := 15) dX12_differs_15 iX12_pieceOf wt7_94 ws_67 wt7_92 ⟨_, rfl, rfl⟩ (by decide) (mX12_pieceOf a0 x1 (10 + x3)) (by decide) rfl rfl (Nat.le_of_ble_eq_true rfl) (fun v1001 => ?_)
    refine sn_istore (pc := 18) (i := 4) (lv' := [(4, .int v1001), (0, .ref (E.1 + a0)), (1, .int x1), (2, .int x2), (3, .int x3)]) dX12_differs_18 (by decide) rfl ?_
    refine sn_aload_n (pc := 20) (j := 1) dX12_differs_20 rfl rfl ?_
    refine sn_iload_n (pc := 21) (j := 2) dX12_differs_21 rfl rfl ?_
    refine sn_bipush (pc := 22) (v := 13) dX12_differs_22 (by decide) ?_
    refine sn_iload_n (pc := 24) (j := 4) dX12_differs_24 rfl rfl ?_
    refine sn_iadd (pc := 25) dX12_differs_25 ?_
    refine sn_callV (ci := 12) (pc := 26) dX12_differs_26 iX12_pieceOf wt7_94 ws_67 wt7_92 ⟨_, rfl, rfl⟩ (by decide) (mX12_pieceOf a0 x1 (13 + x3)) (by decide) rfl rfl (Nat.le_of_ble_eq_true rfl) (fun v1002 => ?_)
    refine sn_istore (pc := 29) (i := 5) (lv' := [(5, .int v1002), (4, .int v1001), (0, .ref (E.1 + a0)), (1, .int x1), (2, .int x2), (3, .int x3)]) dX12_differs_29 (by decide) rfl ?_
    refine sn_iload_n (pc := 31) (j := 4) dX12_differs_31 rfl rfl ?_
    refine sn_iload (pc := 32) (j := 1) dX12_differs_32 rfl ?_
    refine sn_if_le (pc := 34) (tgt := 55) dX12_differs_34 (by decide) ?_ ?_
    · exact sn_sub (lv' := [(0, .ref (E.1 + a0)), (1, .int x1), (3, .int x3)]) [2, 3, 5] rfl (sfX12_differs_55 k4 hk4 a0 x1 x3 x2)
    · refine sn_iload (pc := 37) (j := 0) dX12_differs_37 rfl ?_
      refine sn_if_le (pc := 39) (tgt := 55) dX12_differs_39 (by decide) ?_ ?_
      · exact sn_sub (lv' := [(0, .ref (E.1 + a0)), (1, .int x1), (3, .int x3)]) [2, 3, 5] rfl (sfX12_differs_55 k4 hk4 a0 x1 x3 x2)
      · refine sn_iload (pc := 42) (j := 1) dX12_differs_42 rfl ?_
        refine sn_iload (pc := 44) (j := 0) dX12_differs_44 rfl ?_
        refine sn_icmp_eq (pc := 46) (tgt := 55) dX12_differs_46 (by decide) ?_ ?_
        · exact sn_sub (lv' := [(0, .ref (E.1 + a0)), (1, .int x1), (3, .int x3)]) [2, 3, 5] rfl (sfX12_differs_55 k4 hk4 a0 x1 x3 x2)
        · refine sn_iconst (pc := 49) (v := 1) dX12_differs_49 (by decide) ?_
          refine sn_iload_n (pc := 50) (j := 5) dX12_differs_50 rfl rfl ?_
          refine sn_ishl (pc := 51) dX12_differs_51 ?_
          refine sn_goto (pc := 52) (tgt := 56) dX12_differs_52 (by decide) ?_
          exact sn_sub (lv' := [(0, .ref (E.1 + a0)), (1, .int x1), (3, .int x3)]) [2, 3, 5] rfl (sfX12_differs_56 k4 hk4 a0 x1 x3 (1 <<< (x3 &&& 31)) x2)
def fX12_differs (a0 : Nat) (x1 : Int32) : St → Option (Int32 × St) :=
 itr (fun k (p : Nat × Int32 × Int32 × Int32) => fX12_differs_4  k p.1 p.2.1 p.2.2.1 p.2.2.2) FU (a0, x1, 0, 0)
set_option maxHeartbeats 4000000 in
set_option maxRecDepth 100000 in
theorem mX12_differs {E : Ev} {l : Launch} (a0 : Nat) (x1 : Int32) : MF E l dpX12_differs yX12_differs cX12_differs 6 (some .int) rvI [.ref (E.1 + a0), .int x1] (fX12_differs a0 x1) := by
  refine MF.of (lv := [(0, .ref (E.1 + a0)), (1, .int x1)]) (by decide) (Nat.le_of_ble_eq_true rfl) rfl ?_
  unfold fX12_differs
  refine sn_iconst (pc := 0) (v := 0) dX12_differs_0 (by decide) ?_
  refine sn_istore_n (pc := 1) (i := 2) (lv' := [(2, .int 0), (0, .ref (E.1 + a0)), (1, .int x1)]) dX12_differs_1 rfl (by decide) rfl ?_
  refine sn_iconst (pc := 2) (v := 0) dX12_differs_2 (by decide) ?_
  refine sn_istore_n (pc := 3) (i := 3) (lv' := [(3, .int 0), (2, .int 0), (0, .ref (E.1 + a0)), (1, .int x1)]) dX12_differs_3 rfl (by decide) rfl ?_
  exact sn_sub (lv' := [(0, .ref (E.1 + a0)), (1, .int x1), (2, .int 0), (3, .int 0)]) [2, 3, 1, 0] rfl (sn_itr (lvf := fun p => [(0, .ref (E.1 + p.1)), (1, .int p.2.1), (2, .int p.2.2.1), (3, .int p.2.2.2)]) (stf := fun p => []) (fun k hk p => sfX12_differs_4  k hk p.1 p.2.1 p.2.2.1 p.2.2.2) FU (a0, x1, 0, 0))
theorem iX12_differs : MI yX12_differs cX12_differs 6 (some .int) 1 := ⟨wt1_10, wt7_141, by decide +kernel, by decide⟩
-- NeedleHomesModel differ(I)I
theorem dX12_differ_0 : decode cX12_differ 0 = .ok (.aload_n 0, 1) := by decide +kernel
theorem dX12_differ_1 : decode cX12_differ 1 = .ok (.iload_n 1, 1) := by decide +kernel
theorem dX12_differ_2 : decode cX12_differ 2 = .ok (.iconst 3, 1) := by decide +kernel
theorem dX12_differ_3 : decode cX12_differ 3 = .ok (.invokevirtual 178, 3) := by decide +kernel
theorem dX12_differ_6 : decode cX12_differ 6 = .ok (.ifCond .eq 11, 3) := by decide +kernel
theorem dX12_differ_9 : decode cX12_differ 9 = .ok (.aload_n 0, 1) := by decide +kernel
theorem dX12_differ_10 : decode cX12_differ 10 = .ok (.iload_n 1, 1) := by decide +kernel
theorem dX12_differ_11 : decode cX12_differ 11 = .ok (.invokevirtual 283, 3) := by decide +kernel
theorem dX12_differ_14 : decode cX12_differ 14 = .ok (.goto 4, 3) := by decide +kernel
theorem dX12_differ_17 : decode cX12_differ 17 = .ok (.iconst (-1), 1) := by decide +kernel
theorem dX12_differ_18 : decode cX12_differ 18 = .ok (.ireturn, 1) := by decide +kernel
abbrev dpX12_differ : Nat := 2
def fX12_differ (a0 : Nat) (x1 : Int32) : St → Option (Int32 × St) :=
 ck 13 a0 <| cl (fX12_isOf a0 x1 3) fun v1 =>
 br ((bi v1) = 0) (rt (-1))
 (ck 13 a0 <| cl (fX12_differs a0 x1) fun v2 =>
 rt v2)
set_option maxHeartbeats 4000000 in
set_option maxRecDepth 100000 in
theorem mX12_differ {E : Ev} {l : Launch} (a0 : Nat) (x1 : Int32) : MF E l dpX12_differ yX12_differ cX12_differ 2 (some .int) rvI [.ref (E.1 + a0), .int x1] (fX12_differ a0 x1) := by
  refine MF.of (lv := [(0, .ref (E.1 + a0)), (1, .int x1)]) (by decide) (Nat.le_of_ble_eq_true rfl) rfl ?_
  unfold fX12_differ
  refine sn_aload_n (pc := 0) (j := 0) dX12_differ_0 rfl rfl ?_
  refine sn_iload_n (pc := 1) (j := 1) dX12_differ_1 rfl rfl ?_
  refine sn_iconst (pc := 2) (v := 3) dX12_differ_2 (by decide) ?_
  refine sn_callV (ci := 12) (pc := 3) dX12_differ_3 iX12_isOf wt6_235 ws_54 wt6_233 ⟨_, rfl, rfl⟩ (by decide) (mX12_isOf a0 x1 3) (by decide) rfl rfl (Nat.le_of_ble_eq_true rfl) (fun v1 => ?_)
  refine sn_if_eq (pc := 6) (tgt := 17) dX12_differ_6 (by decide) ?_ ?_
  · refine sn_iconst (pc := 17) (v := (-1)) dX12_differ_17 (by decide) ?_
    exact sn_iret (pc := 18) dX12_differ_18 rfl
  · refine sn_aload_n (pc := 9) (j := 0) dX12_differ_9 rfl rfl ?_
    refine sn_iload_n (pc := 10) (j := 1) dX12_differ_10 rfl rfl ?_
    refine sn_callV (ci := 12) (pc := 11) dX12_differ_11 iX12_differs wt7_140 ws_70 wt7_138 ⟨_, rfl, rfl⟩ (by decide) (mX12_differs a0 x1) (by decide) rfl rfl (Nat.le_of_ble_eq_true rfl) (fun v2 => ?_)
    refine sn_goto (pc := 14) (tgt := 18) dX12_differ_14 (by decide) ?_
    exact sn_iret (pc := 18) dX12_differ_18 rfl
theorem iX12_differ : MI yX12_differ cX12_differ 2 (some .int) 1 := ⟨wt1_10, wt7_137, by decide +kernel, by decide⟩
-- NeedleHomesModel counts(II)V
theorem dX12_counts_0 : decode cX12_counts 0 = .ok (.iconst 0, 1) := by decide +kernel
theorem dX12_counts_1 : decode cX12_counts 1 = .ok (.istore_n 3, 1) := by decide +kernel
theorem dX12_counts_2 : decode cX12_counts 2 = .ok (.iload_n 3, 1) := by decide +kernel
theorem dX12_counts_3 : decode cX12_counts 3 = .ok (.aload_n 0, 1) := by decide +kernel
theorem dX12_counts_4 : decode cX12_counts 4 = .ok (.getfield 7, 3) := by decide +kernel
theorem dX12_counts_7 : decode cX12_counts 7 = .ok (.iconst 2, 1) := by decide +kernel
theorem dX12_counts_8 : decode cX12_counts 8 = .ok (.iaload, 1) := by decide +kernel
theorem dX12_counts_9 : decode cX12_counts 9 = .ok (.if_icmp .ge 117, 3) := by decide +kernel
theorem dX12_counts_12 : decode cX12_counts 12 = .ok (.bipush 10, 2) := by decide +kernel
theorem dX12_counts_14 : decode cX12_counts 14 = .ok (.aload_n 0, 1) := by decide +kernel
theorem dX12_counts_15 : decode cX12_counts 15 = .ok (.iload_n 3, 1) := by decide +kernel
theorem dX12_counts_16 : decode cX12_counts 16 = .ok (.iconst 0, 1) := by decide +kernel
theorem dX12_counts_17 : decode cX12_counts 17 = .ok (.invokevirtual 211, 3) := by decide +kernel
theorem dX12_counts_20 : decode cX12_counts 20 = .ok (.imul, 1) := by decide +kernel
theorem dX12_counts_21 : decode cX12_counts 21 = .ok (.istore 4, 2) := by decide +kernel
theorem dX12_counts_23 : decode cX12_counts 23 = .ok (.aload_n 0, 1) := by decide +kernel
theorem dX12_counts_24 : decode cX12_counts 24 = .ok (.iload_n 1, 1) := by decide +kernel
theorem dX12_counts_25 : decode cX12_counts 25 = .ok (.iconst 2, 1) := by decide +kernel
theorem dX12_counts_26 : decode cX12_counts 26 = .ok (.invokevirtual 182, 3) := by decide +kernel
theorem dX12_counts_29 : decode cX12_counts 29 = .ok (.iload 4, 2) := by decide +kernel
theorem dX12_counts_31 : decode cX12_counts 31 = .ok (.iadd, 1) := by decide +kernel
theorem dX12_counts_32 : decode cX12_counts 32 = .ok (.iconst 1, 1) := by decide +kernel
theorem dX12_counts_33 : decode cX12_counts 33 = .ok (.isub, 1) := by decide +kernel
theorem dX12_counts_34 : decode cX12_counts 34 = .ok (.iload 4, 2) := by decide +kernel
theorem dX12_counts_36 : decode cX12_counts 36 = .ok (.idiv, 1) := by decide +kernel
theorem dX12_counts_37 : decode cX12_counts 37 = .ok (.istore 5, 2) := by decide +kernel
theorem dX12_counts_39 : decode cX12_counts 39 = .ok (.iconst 0, 1) := by decide +kernel
theorem dX12_counts_40 : decode cX12_counts 40 = .ok (.istore 6, 2) := by decide +kernel
theorem dX12_counts_42 : decode cX12_counts 42 = .ok (.iconst 0, 1) := by decide +kernel
theorem dX12_counts_43 : decode cX12_counts 43 = .ok (.istore 7, 2) := by decide +kernel
theorem dX12_counts_45 : decode cX12_counts 45 = .ok (.iload 7, 2) := by decide +kernel
theorem dX12_counts_47 : decode cX12_counts 47 = .ok (.iload_n 2, 1) := by decide +kernel
theorem dX12_counts_48 : decode cX12_counts 48 = .ok (.if_icmp .ge 51, 3) := by decide +kernel
theorem dX12_counts_51 : decode cX12_counts 51 = .ok (.iload 6, 2) := by decide +kernel
theorem dX12_counts_53 : decode cX12_counts 53 = .ok (.aload_n 0, 1) := by decide +kernel
theorem dX12_counts_54 : decode cX12_counts 54 = .ok (.iload_n 3, 1) := by decide +kernel
theorem dX12_counts_55 : decode cX12_counts 55 = .ok (.aload_n 0, 1) := by decide +kernel
theorem dX12_counts_56 : decode cX12_counts 56 = .ok (.getfield 7, 3) := by decide +kernel
theorem dX12_counts_59 : decode cX12_counts 59 = .ok (.iconst 4, 1) := by decide +kernel
theorem dX12_counts_60 : decode cX12_counts 60 = .ok (.iaload, 1) := by decide +kernel
theorem dX12_counts_61 : decode cX12_counts 61 = .ok (.iload 7, 2) := by decide +kernel
theorem dX12_counts_63 : decode cX12_counts 63 = .ok (.iadd, 1) := by decide +kernel
theorem dX12_counts_64 : decode cX12_counts 64 = .ok (.bipush 7, 2) := by decide +kernel
theorem dX12_counts_66 : decode cX12_counts 66 = .ok (.idiv, 1) := by decide +kernel
theorem dX12_counts_67 : decode cX12_counts 67 = .ok (.invokevirtual 223, 3) := by decide +kernel
theorem dX12_counts_70 : decode cX12_counts 70 = .ok (.ifCond .eq 14, 3) := by decide +kernel
theorem dX12_counts_73 : decode cX12_counts 73 = .ok (.aload_n 0, 1) := by decide +kernel
theorem dX12_counts_74 : decode cX12_counts 74 = .ok (.iload_n 3, 1) := by decide +kernel
theorem dX12_counts_75 : decode cX12_counts 75 = .ok (.iconst 1, 1) := by decide +kernel
theorem dX12_counts_76 : decode cX12_counts 76 = .ok (.invokevirtual 211, 3) := by decide +kernel
theorem dX12_counts_79 : decode cX12_counts 79 = .ok (.iconst 2, 1) := by decide +kernel
theorem dX12_counts_80 : decode cX12_counts 80 = .ok (.idiv, 1) := by decide +kernel
theorem dX12_counts_81 : decode cX12_counts 81 = .ok (.goto 9, 3) := by decide +kernel
theorem dX12_counts_84 : decode cX12_counts 84 = .ok (.aload_n 0, 1) := by decide +kernel
theorem dX12_counts_85 : decode cX12_counts 85 = .ok (.iload_n 3, 1) := by decide +kernel
theorem dX12_counts_86 : decode cX12_counts 86 = .ok (.iconst 1, 1) := by decide +kernel
theorem dX12_counts_87 : decode cX12_counts 87 = .ok (.invokevirtual 211, 3) := by decide +kernel
theorem dX12_counts_90 : decode cX12_counts 90 = .ok (.iadd, 1) := by decide +kernel
theorem dX12_counts_91 : decode cX12_counts 91 = .ok (.istore 6, 2) := by decide +kernel
theorem dX12_counts_93 : decode cX12_counts 93 = .ok (.iinc 7 1, 3) := by decide +kernel
theorem dX12_counts_96 : decode cX12_counts 96 = .ok (.goto (-51), 3) := by decide +kernel
theorem dX12_counts_99 : decode cX12_counts 99 = .ok (.aload_n 0, 1) := by decide +kernel
theorem dX12_counts_100 : decode cX12_counts 100 = .ok (.getfield 36, 3) := by decide +kernel
theorem dX12_counts_103 : decode cX12_counts 103 = .ok (.iload_n 3, 1) := by decide +kernel
theorem dX12_counts_104 : decode cX12_counts 104 = .ok (.iload 6, 2) := by decide +kernel
theorem dX12_counts_106 : decode cX12_counts 106 = .ok (.iload 5, 2) := by decide +kernel
theorem dX12_counts_108 : decode cX12_counts 108 = .ok (.iconst 1, 1) := by decide +kernel
theorem dX12_counts_109 : decode cX12_counts 109 = .ok (.if_icmp .ge 7, 3) := by decide +kernel
theorem dX12_counts_112 : decode cX12_counts 112 = .ok (.iconst 1, 1) := by decide +kernel
theorem dX12_counts_113 : decode cX12_counts 113 = .ok (.goto 5, 3) := by decide +kernel
theorem dX12_counts_116 : decode cX12_counts 116 = .ok (.iload 5, 2) := by decide +kernel
theorem dX12_counts_118 : decode cX12_counts 118 = .ok (.idiv, 1) := by decide +kernel
theorem dX12_counts_119 : decode cX12_counts 119 = .ok (.iastore, 1) := by decide +kernel
theorem dX12_counts_120 : decode cX12_counts 120 = .ok (.iinc 3 1, 3) := by decide +kernel
theorem dX12_counts_123 : decode cX12_counts 123 = .ok (.goto (-121), 3) := by decide +kernel
theorem dX12_counts_126 : decode cX12_counts 126 = .ok (.return_, 1) := by decide +kernel
abbrev dpX12_counts : Nat := 2
def fX12_counts_90 (k2 : (Nat × Int32 × Int32 × Int32) → St → Option (Unit × St)) (k45 : (Nat × Int32 × Int32 × Int32 × Int32 × Int32 × Int32) → St → Option (Unit × St)) (a0 : Nat) (x1 : Int32) (x2 : Int32) (x3 : Int32) (x5 : Int32) (x7 : Int32) (y0 : Int32) (y1 : Int32) : St → Option (Unit × St) :=
 k45 (a0, x1, x2, x3, x5, (y1 + y0), (x7 + 1))
set_option maxHeartbeats 4000000 in
set_option maxRecDepth 100000 in
theorem sfX12_counts_90 {E : Ev} {l : Launch} (k2 : (Nat × Int32 × Int32 × Int32) → St → Option (Unit × St)) (hk2 : ∀ p : Nat × Int32 × Int32 × Int32, Snd E l (dpX12_counts, RX12, cX12_counts, 8, none, "counts") rvV 2 [(0, .ref (E.1 + p.1)), (1, .int p.2.1), (2, .int p.2.2.1), (3, .int p.2.2.2)] [] (k2 p)) (k45 : (Nat × Int32 × Int32 × Int32 × Int32 × Int32 × Int32) → St → Option (Unit × St)) (hk45 : ∀ p : Nat × Int32 × Int32 × Int32 × Int32 × Int32 × Int32, Snd E l (dpX12_counts, RX12, cX12_counts, 8, none, "counts") rvV 45 [(0, .ref (E.1 + p.1)), (1, .int p.2.1), (2, .int p.2.2.1), (3, .int p.2.2.2.1), (5, .int p.2.2.2.2.1), (6, .int p.2.2.2.2.2.1), (7, .int p.2.2.2.2.2.2)] [] (k45 p)) (a0 : Nat) (x1 : Int32) (x2 : Int32) (x3 : Int32) (x5 : Int32) (x7 : Int32) (y0 : Int32) (y1 : Int32) : Snd E l (dpX12_counts, RX12, cX12_counts, 8, none, "counts") rvV 90 [(0, .ref (E.1 + a0)), (1, .int x1), (2, .int x2), (3, .int x3), (5, .int x5), (7, .int x7)] [.int y0, .int y1] (fX12_counts_90 k2 k45 a0 x1 x2 x3 x5 x7 y0 y1) := by
  unfold fX12_counts_90
  refine sn_iadd (pc := 90) dX12_counts_90 ?_
  refine sn_istore (pc := 91) (i := 6) (lv' := [(6, .int (y1 + y0)), (0, .ref (E.1 + a0)), (1, .int x1), (2, .int x2), (3, .int x3), (5, .int x5), (7, .int x7)]) dX12_counts_91 (by decide) rfl ?_
  refine sn_iinc (pc := 93) (v := x7 + 1) (lv' := [(7, .int (x7 + 1)), (6, .int (y1 + y0)), (0, .ref (E.1 + a0)), (1, .int x1), (2, .int x2), (3, .int x3), (5, .int x5)]) (j := 6) dX12_counts_93 rfl rfl (by decide) rfl ?_
  refine sn_goto (pc := 96) (tgt := 45) dX12_counts_96 (by decide) ?_
  exact sn_sub (lv' := [(0, .ref (E.1 + a0)), (1, .int x1), (2, .int x2), (3, .int x3), (5, .int x5), (6, .int (y1 + y0)), (7, .int (x7 + 1))]) [2, 3, 4, 5, 6, 1, 0] rfl (hk45 (a0, x1, x2, x3, x5, (y1 + y0), (x7 + 1)))
def fX12_counts_118 (k2 : (Nat × Int32 × Int32 × Int32) → St → Option (Unit × St)) (a0 : Nat) (x1 : Int32) (x2 : Int32) (x3 : Int32) (y0 : Int32) (y1 : Int32) (y2 : Int32) (y3 : Option Nat) : St → Option (Unit × St) :=
 dv y0 <|
 nn y3 fun a4001 =>
 wI a4001 y2 (y1 / y0) <|
 k2 (a0, x1, x2, (x3 + 1))
set_option maxHeartbeats 4000000 in
set_option maxRecDepth 100000 in
theorem sfX12_counts_118 {E : Ev} {l : Launch} (k2 : (Nat × Int32 × Int32 × Int32) → St → Option (Unit × St)) (hk2 : ∀ p : Nat × Int32 × Int32 × Int32, Snd E l (dpX12_counts, RX12, cX12_counts, 8, none, "counts") rvV 2 [(0, .ref (E.1 + p.1)), (1, .int p.2.1), (2, .int p.2.2.1), (3, .int p.2.2.2)] [] (k2 p)) (a0 : Nat) (x1 : Int32) (x2 : Int32) (x3 : Int32) (y0 : Int32) (y1 : Int32) (y2 : Int32) (y3 : Option Nat) : Snd E l (dpX12_counts, RX12, cX12_counts, 8, none, "counts") rvV 118 [(0, .ref (E.1 + a0)), (1, .int x1), (2, .int x2), (3, .int x3)] [.int y0, .int y1, .int y2, rf E.1 y3] (fX12_counts_118 k2 a0 x1 x2 x3 y0 y1 y2 y3) := by
  unfold fX12_counts_118
  refine sn_idiv (pc := 118) dX12_counts_118 ?_
  rcases y3 with _ | a4001
  · exact sn_no
  refine sn_nn ?_
  refine sn_iast (pc := 119) dX12_counts_119 ?_
  refine sn_iinc (pc := 120) (v := x3 + 1) (lv' := [(3, .int (x3 + 1)), (0, .ref (E.1 + a0)), (1, .int x1), (2, .int x2)]) (j := 3) dX12_counts_120 rfl rfl (by decide) rfl ?_
  refine sn_goto (pc := 123) (tgt := 2) dX12_counts_123 (by decide) ?_
  exact sn_sub (lv' := [(0, .ref (E.1 + a0)), (1, .int x1), (2, .int x2), (3, .int (x3 + 1))]) [1, 2, 3, 0] rfl (hk2 (a0, x1, x2, (x3 + 1)))
def fX12_counts_45 (k2 : (Nat × Int32 × Int32 × Int32) → St → Option (Unit × St)) (k45 : (Nat × Int32 × Int32 × Int32 × Int32 × Int32 × Int32) → St → Option (Unit × St)) (a0 : Nat) (x1 : Int32) (x2 : Int32) (x3 : Int32) (x5 : Int32) (x6 : Int32) (x7 : Int32) : St → Option (Unit × St) :=
 br (x2 ≤ x7) (gR 13 a0 31 fun v2001 =>
 br (1 ≤ x5) (fX12_counts_118 k2 a0 x1 x2 x3 x5 x6 x3 v2001)
 (fX12_counts_118 k2 a0 x1 x2 x3 1 x6 x3 v2001))
 (gR 13 a0 0 fun v2002 =>
 nn v2002 fun a2004 =>
 aI 15 a2004 4 fun v2003 =>
 dv 7 <|
 ck 13 a0 <| cl (fX12_hasHay a0 x3 ((v2003 + x7) / 7)) fun v2005 =>
 br ((bi v2005) = 0) (ck 13 a0 <| cl (fX12_handOf a0 x3 1) fun v2006 =>
 fX12_counts_90 k2 k45 a0 x1 x2 x3 x5 x7 v2006 x6)
 (ck 13 a0 <| cl (fX12_handOf a0 x3 1) fun v2007 =>
 dv 2 <|
 fX12_counts_90 k2 k45 a0 x1 x2 x3 x5 x7 (v2007 / 2) x6))
set_option maxHeartbeats 4000000 in
set_option maxRecDepth 100000 in
theorem sfX12_counts_45 {E : Ev} {l : Launch} (k2 : (Nat × Int32 × Int32 × Int32) → St → Option (Unit × St)) (hk2 : ∀ p : Nat × Int32 × Int32 × Int32, Snd E l (dpX12_counts, RX12, cX12_counts, 8, none, "counts") rvV 2 [(0, .ref (E.1 + p.1)), (1, .int p.2.1), (2, .int p.2.2.1), (3, .int p.2.2.2)] [] (k2 p)) (k45 : (Nat × Int32 × Int32 × Int32 × Int32 × Int32 × Int32) → St → Option (Unit × St)) (hk45 : ∀ p : Nat × Int32 × Int32 × Int32 × Int32 × Int32 × Int32, Snd E l (dpX12_counts, RX12, cX12_counts, 8, none, "counts") rvV 45 [(0, .ref (E.1 + p.1)), (1, .int p.2.1), (2, .int p.2.2.1), (3, .int p.2.2.2.1), (5, .int p.2.2.2.2.1), (6, .int p.2.2.2.2.2.1), (7, .int p.2.2.2.2.2.2)] [] (k45 p)) (a0 : Nat) (x1 : Int32) (x2 : Int32) (x3 : Int32) (x5 : Int32) (x6 : Int32) (x7 : Int32) : Snd E l (dpX12_counts, RX12, cX12_counts, 8, none, "counts") rvV 45 [(0, .ref (E.1 + a0)), (1, .int x1), (2, .int x2), (3, .int x3), (5, .int x5), (6, .int x6), (7, .int x7)] [] (fX12_counts_45 k2 k45 a0 x1 x2 x3 x5 x6 x7) := by
  unfold fX12_counts_45
  refine sn_iload (pc := 45) (j := 6) dX12_counts_45 rfl ?_
  refine sn_iload_n (pc := 47) (j := 2) dX12_counts_47 rfl rfl ?_
  refine sn_icmp_ge (pc := 48) (tgt := 99) dX12_counts_48 (by decide) ?_ ?_
  · refine sn_aload_n (pc := 99) (j := 0) dX12_counts_99 rfl rfl ?_
    refine sn_gR (pc := 100) dX12_counts_100 flX12_36 rfl (fun v2001 => ?_)
    refine sn_iload_n (pc := 103) (j := 3) dX12_counts_103 rfl rfl ?_
    refine sn_iload (pc := 104) (j := 5) dX12_counts_104 rfl ?_
    refine sn_iload (pc := 106) (j := 4) dX12_counts_106 rfl ?_
    refine sn_iconst (pc := 108) (v := 1) dX12_counts_108 (by decide) ?_
    refine sn_icmp_ge (pc := 109) (tgt := 116) dX12_counts_109 (by decide) ?_ ?_
    · refine sn_iload (pc := 116) (j := 4) dX12_counts_116 rfl ?_
      exact sn_sub (lv' := [(0, .ref (E.1 + a0)), (1, .int x1), (2, .int x2), (3, .int x3)]) [0, 1, 2, 3] rfl (sfX12_counts_118 k2 hk2 a0 x1 x2 x3 x5 x6 x3 v2001)
    · refine sn_iconst (pc := 112) (v := 1) dX12_counts_112 (by decide) ?_
      refine sn_goto (pc := 113) (tgt := 118) dX12_counts_113 (by decide) ?_
      exact sn_sub (lv' := [(0, .ref (E.1 + a0)), (1, .int x1), (2, .int x2), (3, .int x3)]) [0, 1, 2, 3] rfl (sfX12_counts_118 k2 hk2 a0 x1 x2 x3 1 x6 x3 v2001)
  · refine sn_iload (pc := 51) (j := 5) dX12_counts_51 rfl ?_
    refine sn_aload_n (pc := 53) (j := 0) dX12_counts_53 rfl rfl ?_
    refine sn_iload_n (pc := 54) (j := 3) dX12_counts_54 rfl rfl ?_
    refine sn_aload_n (pc := 55) (j := 0) dX12_counts_55 rfl rfl ?_
    refine sn_gR (pc := 56) dX12_counts_56 flX12_7 rfl (fun v2002 => ?_)
    refine sn_iconst (pc := 59) (v := 4) dX12_counts_59 (by decide) ?_
    rcases v2002 with _ | a2004
    · exact sn_no
    refine sn_nn ?_
    refine sn_iald (pc := 60) dX12_counts_60 (fun v2003 => ?_)
    refine sn_iload (pc := 61) (j := 6) dX12_counts_61 rfl ?_
    refine sn_iadd (pc := 63) dX12_counts_63 ?_
    refine sn_bipush (pc := 64) (v := 7) dX12_counts_64 (by decide) ?_
    refine sn_idiv (pc := 66) dX12_counts_66 ?_
    refine sn_callV (ci := 12) (pc := 67) dX12_counts_67 iX12_hasHay wt7_54 ws_63 wt7_52 ⟨_, rfl, rfl⟩ (by decide) (mX12_hasHay a0 x3 ((v2003 + x7) / 7)) (by decide) rfl rfl (Nat.le_of_ble_eq_true rfl) (fun v2005 => ?_)
    refine sn_if_eq (pc := 70) (tgt := 84) dX12_counts_70 (by decide) ?_ ?_
    · refine sn_aload_n (pc := 84) (j := 0) dX12_counts_84 rfl rfl ?_
      refine sn_iload_n (pc := 85) (j := 3) dX12_counts_85 rfl rfl ?_
      refine sn_iconst (pc := 86) (v := 1) dX12_counts_86 (by decide) ?_
      refine sn_callV (ci := 12) (pc := 87) dX12_counts_87 iX12_handOf wt7_50 ws_62 wt7_48 ⟨_, rfl, rfl⟩ (by decide) (mX12_handOf a0 x3 1) (by decide) rfl rfl (Nat.le_of_ble_eq_true rfl) (fun v2006 => ?_)
      exact sn_sub (lv' := [(0, .ref (E.1 + a0)), (1, .int x1), (2, .int x2), (3, .int x3), (5, .int x5), (7, .int x7)]) [0, 1, 2, 3, 4, 6] rfl (sfX12_counts_90 k2 hk2 k45 hk45 a0 x1 x2 x3 x5 x7 v2006 x6)
    · refine sn_aload_n (pc := 73) (j := 0) dX12_counts_73 rfl rfl ?_
      refine sn_iload_n (pc := 74) (j := 3) dX12_counts_74 rfl rfl ?_
      refine sn_iconst (pc := 75) (v := 1) dX12_counts_75 (by decide) ?_
      refine sn_callV (ci := 12) (pc := 76) dX12_counts_76 iX12_handOf wt7_50 ws_62 wt7_48 ⟨_, rfl, rfl⟩ (by decide) (mX12_handOf a0 x3 1) (by decide) rfl rfl (Nat.le_of_ble_eq_true rfl) (fun v2007 => ?_)
      refine sn_iconst (pc := 79) (v := 2) dX12_counts_79 (by decide) ?_
      refine sn_idiv (pc := 80) dX12_counts_80 ?_
      refine sn_goto (pc := 81) (tgt := 90) dX12_counts_81 (by decide) ?_
      exact sn_sub (lv' := [(0, .ref (E.1 + a0)), (1, .int x1), (2, .int x2), (3, .int x3), (5, .int x5), (7, .int x7)]) [0, 1, 2, 3, 4, 6] rfl (sfX12_counts_90 k2 hk2 k45 hk45 a0 x1 x2 x3 x5 x7 (v2007 / 2) x6)
def fX12_counts_2 (k2 : (Nat × Int32 × Int32 × Int32) → St → Option (Unit × St)) (a0 : Nat) (x1 : Int32) (x2 : Int32) (x3 : Int32) : St → Option (Unit × St) :=
 gR 13 a0 0 fun v1001 =>
 nn v1001 fun a1003 =>
 aI 15 a1003 2 fun v1002 =>
 br (v1002 ≤ x3) (rt ())
 (ck 13 a0 <| cl (fX12_handOf a0 x3 0) fun v1004 =>
 ck 13 a0 <| cl (fX12_patternOf a0 x1 2) fun v1005 =>
 dv (10 * v1004) <|
 itr (fun k (p : Nat × Int32 × Int32 × Int32 × Int32 × Int32 × Int32) => fX12_counts_45 k2 k p.1 p.2.1 p.2.2.1 p.2.2.2.1 p.2.2.2.2.1 p.2.2.2.2.2.1 p.2.2.2.2.2.2) FU (a0, x1, x2, x3, (((v1005 + (10 * v1004)) - 1) / (10 * v1004)), 0, 0))
set_option maxHeartbeats 4000000 in
set_option maxRecDepth 100000 in
theorem sfX12_counts_2 {E : Ev} {l : Launch} (k2 : (Nat × Int32 × Int32 × Int32) → St → Option (Unit × St)) (hk2 : ∀ p : Nat × Int32 × Int32 × Int32, Snd E l (dpX12_counts, RX12, cX12_counts, 8, none, "counts") rvV 2 [(0, .ref (E.1 + p.1)), (1, .int p.2.1), (2, .int p.2.2.1), (3, .int p.2.2.2)] [] (k2 p)) (a0 : Nat) (x1 : Int32) (x2 : Int32) (x3 : Int32) : Snd E l (dpX12_counts, RX12, cX12_counts, 8, none, "counts") rvV 2 [(0, .ref (E.1 + a0)), (1, .int x1), (2, .int x2), (3, .int x3)] [] (fX12_counts_2 k2 a0 x1 x2 x3) := by
  unfold fX12_counts_2
  refine sn_iload_n (pc := 2) (j := 3) dX12_counts_2 rfl rfl ?_
  refine sn_aload_n (pc := 3) (j := 0) dX12_counts_3 rfl rfl ?_
  refine sn_gR (pc := 4) dX12_counts_4 flX12_7 rfl (fun v1001 => ?_)
  refine sn_iconst (pc := 7) (v := 2) dX12_counts_7 (by decide) ?_
  rcases v1001 with _ | a1003
  · exact sn_no
  refine sn_nn ?_
  refine sn_iald (pc := 8) dX12_counts_8 (fun v1002 => ?_)
  refine sn_icmp_ge (pc := 9) (tgt := 126) dX12_counts_9 (by decide) ?_ ?_
  · exact sn_vret (pc := 126) dX12_counts_126 rfl
  · refine sn_bipush (pc := 12) (v := 10) dX12_counts_12 (by decide) ?_
    refine sn_aload_n (pc := 14) (j := 0) dX12_counts_14 rfl rfl ?_
    refine sn_iload_n (pc := 15) (j := 3) dX12_counts_15 rfl rfl ?_
    refine sn_iconst (pc := 16) (v := 0) dX12_counts_16 (by decide) ?_
    refine sn_callV (ci := 12) (pc := 17) dX12_counts_17 iX12_handOf wt7_50 ws_62 wt7_48 ⟨_, rfl, rfl⟩ (by decide) (mX12_handOf a0 x3 0) (by decide) rfl rfl (Nat.le_of_ble_eq_true rfl) (fun v1004 => ?_)
    refine sn_imul (pc := 20) dX12_counts_20 ?_
    refine sn_istore (pc := 21) (i := 4) (lv' := [(4, .int (10 * v1004)), (0, .ref (E.1 + a0)), (1, .int x1), (2, .int x2), (3, .int x3)]) dX12_counts_21 (by decide) rfl ?_
    refine sn_aload_n (pc := 23) (j := 1) dX12_counts_23 rfl rfl ?_
    refine sn_iload_n (pc := 24) (j := 2) dX12_counts_24 rfl rfl ?_
    refine sn_iconst (pc := 25) (v := 2) dX12_counts_25 (by decide) ?_
    refine sn_callV (ci := 12) (pc := 26) dX12_counts_26 iX12_patternOf wt6_239 ws_55 wt6_237 ⟨_, rfl, rfl⟩ (by decide) (mX12_patternOf a0 x1 2) (by decide) rfl rfl (Nat.le_of_ble_eq_true rfl) (fun v1005 => ?_)
    refine sn_iload (pc := 29) (j := 0) dX12_counts_29 rfl ?_
    refine sn_iadd (pc := 31) dX12_counts_31 ?_
    refine sn_iconst (pc := 32) (v := 1) dX12_counts_32 (by decide) ?_
    refine sn_isub (pc := 33) dX12_counts_33 ?_
    refine sn_iload (pc := 34) (j := 0) dX12_counts_34 rfl ?_
    refine sn_idiv (pc := 36) dX12_counts_36 ?_
    refine sn_istore (pc := 37) (i := 5) (lv' := [(5, .int (((v1005 + (10 * v1004)) - 1) / (10 * v1004))), (4, .int (10 * v1004)), (0, .ref (E.1 + a0)), (1, .int x1), (2, .int x2), (3, .int x3)]) dX12_counts_37 (by decide) rfl ?_
    refine sn_iconst (pc := 39) (v := 0) dX12_counts_39 (by decide) ?_
    refine sn_istore (pc := 40) (i := 6) (lv' := [(6, .int 0), (5, .int (((v1005 + (10 * v1004)) - 1) / (10 * v1004))), (4, .int (10 * v1004)), (0, .ref (E.1 + a0)), (1, .int x1), (2, .int x2), (3, .int x3)]) dX12_counts_40 (by decide) rfl ?_
    refine sn_iconst (pc := 42) (v := 0) dX12_counts_42 (by decide) ?_
    refine sn_istore (pc := 43) (i := 7) (lv' := [(7, .int 0), (6, .int 0), (5, .int (((v1005 + (10 * v1004)) - 1) / (10 * v1004))), (4, .int (10 * v1004)), (0, .ref (E.1 + a0)), (1, .int x1), (2, .int x2), (3, .int x3)]) dX12_counts_43 (by decide) rfl ?_
    exact sn_sub (lv' := [(0, .ref (E.1 + a0)), (1, .int x1), (2, .int x2), (3, .int x3), (5, .int (((v1005 + (10 * v1004)) - 1) / (10 * v1004))), (6, .int 0), (7, .int 0)]) [4, 5, 6, 7, 2, 1, 0] rfl (sn_itr (lvf := fun p => [(0, .ref (E.1 + p.1)), (1, .int p.2.1), (2, .int p.2.2.1), (3, .int p.2.2.2.1), (5, .int p.2.2.2.2.1), (6, .int p.2.2.2.2.2.1), (7, .int p.2.2.2.2.2.2)]) (stf := fun p => []) (fun k hk p => sfX12_counts_45 k2 hk2 k hk p.1 p.2.1 p.2.2.1 p.2.2.2.1 p.2.2.2.2.1 p.2.2.2.2.2.1 p.2.2.2.2.2.2) FU (a0, x1, x2, x3, (((v1005 + (10 * v1004)) - 1) / (10 * v1004)), 0, 0))
def fX12_counts (a0 : Nat) (x1 : Int32) (x2 : Int32) : St → Option (Unit × St) :=
 itr (fun k (p : Nat × Int32 × Int32 × Int32) => fX12_counts_2  k p.1 p.2.1 p.2.2.1 p.2.2.2) FU (a0, x1, x2, 0)
set_option maxHeartbeats 4000000 in
set_option maxRecDepth 100000 in
theorem mX12_counts {E : Ev} {l : Launch} (a0 : Nat) (x1 : Int32) (x2 : Int32) : MF E l dpX12_counts yX12_counts cX12_counts 8 none rvV [.ref (E.1 + a0), .int x1, .int x2] (fX12_counts a0 x1 x2) := by
  refine MF.of (lv := [(0, .ref (E.1 + a0)), (1, .int x1), (2, .int x2)]) (by decide) (Nat.le_of_ble_eq_true rfl) rfl ?_
  unfold fX12_counts
  refine sn_iconst (pc := 0) (v := 0) dX12_counts_0 (by decide) ?_
  refine sn_istore_n (pc := 1) (i := 3) (lv' := [(3, .int 0), (0, .ref (E.1 + a0)), (1, .int x1), (2, .int x2)]) dX12_counts_1 rfl (by decide) rfl ?_
  exact sn_sub (lv' := [(0, .ref (E.1 + a0)), (1, .int x1), (2, .int x2), (3, .int 0)]) [1, 2, 3, 0] rfl (sn_itr (lvf := fun p => [(0, .ref (E.1 + p.1)), (1, .int p.2.1), (2, .int p.2.2.1), (3, .int p.2.2.2)]) (stf := fun p => []) (fun k hk p => sfX12_counts_2  k hk p.1 p.2.1 p.2.2.1 p.2.2.2) FU (a0, x1, x2, 0))
theorem iX12_counts : MI yX12_counts cX12_counts 8 none 2 := ⟨wt1_10, wt7_153, by decide +kernel, by decide⟩
