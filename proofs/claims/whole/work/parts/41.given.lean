/-! THE CLAIM OUT OF ONE WALK OF THE LAW'S BODY. Your part is whole_start (and what it stands on); all else here is the same for every law, but numbers. -/
def R_law : String := "NeedleHomesLaw"
def lw_P (b : Addr) (xs : List Int32) (args : Array Value) (s : State) : Prop := args = #[.ref b] ∧ s.IntsAt b xs ∧ xs.length ≤ 3584 ∧ (Jvm.Cond.and given_1 narrow_1).before args s = true
def lw_Q (_ : Array Value) (s : State) (o : Outcome) (t : State) : Prop := o = .returned (some (.int 1)) ∧ Framed s o t [] 600000 7302250
def lw_Z (below : List Frame) (a : Array Value) (s : State) : State → Prop := fun t => ∃ o, t.status = .running ∧ Ended t below o ∧ lw_Q a s o t
/-- the law's own end, with 1 on the stack, nothing written that was there before, its room as the claim has it -/
theorem lw_ret {p : Program} {l : Launch} {e : Env} {s : State} {m : MethodId} {below : List Frame} {meth : Method} {c : Code} {b : Nat} (hx : p.tables.exec = Jvm.exec) (hb : c.code = code) (hr : meth.sig.returnType = ret) (hlocks : meth.locks = false) {pc : Nat} {H : Heap} {ls : Array Slot} (hdg : decode code pc = .ok (.ireturn, 1)) : W p l e room_1 s m #[Value.ref b] below meth c H [] 600000 7302250 (lw_Z below #[Value.ref b] s) (F0 m pc ls [.int 1]) := by
  intro T hT X
  obtain ⟨fs, hret, hrun, hended, hW, hframe⟩ := X.leave (v := some (.int 1)) (hlocks := hlocks) (fun h => by rw [hr] at h; cases h)
  have hmeth' : T.vm.method? m = some meth := X.method'
  refine ⟨T.setFrames fs, ?_, .returned (some (.int 1)), hrun, hended, rfl, ⟨_, rfl⟩, hW, hframe⟩
  jvm_step X.here [X.here.top, hx, hb, hdg, hmeth', hr, ret, narrow_b1]
  (try refine ⟨rfl, ?_⟩); (try refine ⟨rfl, ?_⟩)
  first | (intro acts; rw [hret _ acts rfl rfl rfl]) | rw [hret _ _ rfl rfl rfl]
  exact Steps.refl _
/-- what holds at the law's entry: the machine, the code, the tables' words (any of lw_tbl by 'hts w (by decide +kernel)'), the script of L ints xs at the cell b, what the Statement gives of the start (any of its parts by flat_of_before) -/
def lw_At (p : Program) (s : State) (m : MethodId) (meth : Method) (c : Code) (b L : Nat) (xs : Nat → Int32) : Prop :=
  p.tables.exec = Jvm.exec ∧ c.code = code ∧ meth.sig.returnType = ret ∧ c.maxLocals = 4 ∧ s.vm.findClass R_law = some m.cls ∧ (∀ w ∈ lw_tbl, w.before #[Value.ref b] s = true) ∧ va_X b L xs s s.heap ∧ b < s.heap.size ∧ meth.locks = false ∧ (Jvm.Cond.and given_1 narrow_1).before #[Value.ref b] s = true
theorem T1_in {ws : List Cond} (ps : List Nat) (hp : ws = ps.filterMap (fun i => tables_1[i]?)) : ∀ w ∈ ws, w ∈ tables_1 := by
  intro w hw
  rw [hp] at hw
  obtain ⟨i, -, hi⟩ := List.mem_filterMap.mp hw
  exact List.mem_of_getElem? hi
theorem nw_in : ∀ w ∈ NW.map (fun q => Cond.methodLinkNest q.1 q.2.1 q.2.2.1 q.2.2.2), w ∈ tables_1 := T1_in [113, 119, 176, 181, 209, 242, 273, 386, 404, 491, 572, 684, 685, 785, 845, 932, 935, 941, 1013, 1058, 1116, 1120, 1143] (by decide +kernel)
theorem ow_in : ∀ w ∈ OW.map (fun C => Cond.arrayOver (.object C)), w ∈ tables_1 := T1_in [41, 37, 43, 39, 110] (by decide +kernel)
theorem sw_in : ∀ w ∈ (List.range 17).map (fun i => Cond.stringRef "NeedleHomes$ListReader" (SX.getD i 0) (SW.getD i "")), w ∈ tables_1 := T1_in [512, 565, 566, 567, 568, 569, 574, 583, 584, 593, 594, 595, 596, 597, 598, 599, 605] (by decide +kernel)
theorem cs_in : Cond.castable "[I" "java/lang/Cloneable" ∈ tables_1 := List.mem_of_getElem? (i := 626) (by decide +kernel)
theorem ls1_in : Cond.laysStatic "java/lang/String" "COMPACT_STRINGS" "Z" ∈ tables_1 := List.mem_of_getElem? (i := 526) (by decide +kernel)
theorem ls2_in : Cond.laysStatic "jdk/internal/util/Preconditions" "SIOOBE_FORMATTER" "Ljava/util/function/BiFunction;" ∈ tables_1 := List.mem_of_getElem? (i := 542) (by decide +kernel)
def tmS (i : Nat) : Term := .string "NeedleHomes$ListReader" (SX.getD i 0)
def gvl : List Cond := flatC (Jvm.Cond.and given_1 narrow_1)
theorem gv1 : ∀ i, i < 17 → Cond.exactly (tmS i) "java/lang/String" ∈ gvl := by decide +kernel
theorem gv2 : ∀ i, i < 17 → Cond.eq (.field (tmS i) "java/lang/String" "coder" "B") (.int 0) ∈ gvl := by decide +kernel
theorem gv3 : ∀ i, i < 17 → Cond.arrayOf (.field (tmS i) "java/lang/String" "value" "[B") .byte ∈ gvl := by decide +kernel
theorem gv4 : ∀ i, i < 17 → Cond.eq (.length (.field (tmS i) "java/lang/String" "value" "[B")) (.int (Int32.ofNat (SLn.getD i 0))) ∈ gvl := by decide +kernel
theorem gv5 : ∀ i, i < 17 → ∀ j, j < SLn.getD i 0 → Cond.eq (.elem (.field (tmS i) "java/lang/String" "value" "[B") (.int (Int32.ofNat j))) (.int ((SBy.getD i []).getD j 0)) ∈ gvl := by decide +kernel
theorem gv6_0_1 : gvl[27]? = some (Cond.not (Cond.eq (tmS 0) (tmS 1))) := by decide +kernel
theorem gv6_0_2 : gvl[36]? = some (Cond.not (Cond.eq (tmS 0) (tmS 2))) := by decide +kernel
theorem gv6_1_2 : gvl[37]? = some (Cond.not (Cond.eq (tmS 1) (tmS 2))) := by decide +kernel
theorem gv6_0_3 : gvl[46]? = some (Cond.not (Cond.eq (tmS 0) (tmS 3))) := by decide +kernel
theorem gv6_1_3 : gvl[47]? = some (Cond.not (Cond.eq (tmS 1) (tmS 3))) := by decide +kernel
theorem gv6_2_3 : gvl[48]? = some (Cond.not (Cond.eq (tmS 2) (tmS 3))) := by decide +kernel
theorem gv6_0_4 : gvl[57]? = some (Cond.not (Cond.eq (tmS 0) (tmS 4))) := by decide +kernel
theorem gv6_1_4 : gvl[58]? = some (Cond.not (Cond.eq (tmS 1) (tmS 4))) := by decide +kernel
theorem gv6_2_4 : gvl[59]? = some (Cond.not (Cond.eq (tmS 2) (tmS 4))) := by decide +kernel
theorem gv6_3_4 : gvl[60]? = some (Cond.not (Cond.eq (tmS 3) (tmS 4))) := by decide +kernel
theorem gv6_0_5 : gvl[69]? = some (Cond.not (Cond.eq (tmS 0) (tmS 5))) := by decide +kernel
theorem gv6_1_5 : gvl[70]? = some (Cond.not (Cond.eq (tmS 1) (tmS 5))) := by decide +kernel
theorem gv6_2_5 : gvl[71]? = some (Cond.not (Cond.eq (tmS 2) (tmS 5))) := by decide +kernel
theorem gv6_3_5 : gvl[72]? = some (Cond.not (Cond.eq (tmS 3) (tmS 5))) := by decide +kernel
theorem gv6_4_5 : gvl[73]? = some (Cond.not (Cond.eq (tmS 4) (tmS 5))) := by decide +kernel
theorem gv6_0_6 : gvl[80]? = some (Cond.not (Cond.eq (tmS 0) (tmS 6))) := by decide +kernel
theorem gv6_1_6 : gvl[81]? = some (Cond.not (Cond.eq (tmS 1) (tmS 6))) := by decide +kernel
theorem gv6_2_6 : gvl[82]? = some (Cond.not (Cond.eq (tmS 2) (tmS 6))) := by decide +kernel
theorem gv6_3_6 : gvl[83]? = some (Cond.not (Cond.eq (tmS 3) (tmS 6))) := by decide +kernel
theorem gv6_4_6 : gvl[84]? = some (Cond.not (Cond.eq (tmS 4) (tmS 6))) := by decide +kernel
theorem gv6_5_6 : gvl[85]? = some (Cond.not (Cond.eq (tmS 5) (tmS 6))) := by decide +kernel
theorem gv6_0_7 : gvl[93]? = some (Cond.not (Cond.eq (tmS 0) (tmS 7))) := by decide +kernel
theorem gv6_1_7 : gvl[94]? = some (Cond.not (Cond.eq (tmS 1) (tmS 7))) := by decide +kernel
theorem gv6_2_7 : gvl[95]? = some (Cond.not (Cond.eq (tmS 2) (tmS 7))) := by decide +kernel
theorem gv6_3_7 : gvl[96]? = some (Cond.not (Cond.eq (tmS 3) (tmS 7))) := by decide +kernel
theorem gv6_4_7 : gvl[97]? = some (Cond.not (Cond.eq (tmS 4) (tmS 7))) := by decide +kernel
theorem gv6_5_7 : gvl[98]? = some (Cond.not (Cond.eq (tmS 5) (tmS 7))) := by decide +kernel
theorem gv6_6_7 : gvl[99]? = some (Cond.not (Cond.eq (tmS 6) (tmS 7))) := by decide +kernel
theorem gv6_0_8 : gvl[107]? = some (Cond.not (Cond.eq (tmS 0) (tmS 8))) := by decide +kernel
theorem gv6_1_8 : gvl[108]? = some (Cond.not (Cond.eq (tmS 1) (tmS 8))) := by decide +kernel
theorem gv6_2_8 : gvl[109]? = some (Cond.not (Cond.eq (tmS 2) (tmS 8))) := by decide +kernel
theorem gv6_3_8 : gvl[110]? = some (Cond.not (Cond.eq (tmS 3) (tmS 8))) := by decide +kernel
theorem gv6_4_8 : gvl[111]? = some (Cond.not (Cond.eq (tmS 4) (tmS 8))) := by decide +kernel
theorem gv6_5_8 : gvl[112]? = some (Cond.not (Cond.eq (tmS 5) (tmS 8))) := by decide +kernel
theorem gv6_6_8 : gvl[113]? = some (Cond.not (Cond.eq (tmS 6) (tmS 8))) := by decide +kernel
theorem gv6_7_8 : gvl[114]? = some (Cond.not (Cond.eq (tmS 7) (tmS 8))) := by decide +kernel
theorem gv6_0_9 : gvl[125]? = some (Cond.not (Cond.eq (tmS 0) (tmS 9))) := by decide +kernel
theorem gv6_1_9 : gvl[126]? = some (Cond.not (Cond.eq (tmS 1) (tmS 9))) := by decide +kernel
theorem gv6_2_9 : gvl[127]? = some (Cond.not (Cond.eq (tmS 2) (tmS 9))) := by decide +kernel
theorem gv6_3_9 : gvl[128]? = some (Cond.not (Cond.eq (tmS 3) (tmS 9))) := by decide +kernel
theorem gv6_4_9 : gvl[129]? = some (Cond.not (Cond.eq (tmS 4) (tmS 9))) := by decide +kernel
theorem gv6_5_9 : gvl[130]? = some (Cond.not (Cond.eq (tmS 5) (tmS 9))) := by decide +kernel
theorem gv6_6_9 : gvl[131]? = some (Cond.not (Cond.eq (tmS 6) (tmS 9))) := by decide +kernel
theorem gv6_7_9 : gvl[132]? = some (Cond.not (Cond.eq (tmS 7) (tmS 9))) := by decide +kernel
theorem gv6_8_9 : gvl[133]? = some (Cond.not (Cond.eq (tmS 8) (tmS 9))) := by decide +kernel
theorem gv6_0_10 : gvl[144]? = some (Cond.not (Cond.eq (tmS 0) (tmS 10))) := by decide +kernel
theorem gv6_1_10 : gvl[145]? = some (Cond.not (Cond.eq (tmS 1) (tmS 10))) := by decide +kernel
theorem gv6_2_10 : gvl[146]? = some (Cond.not (Cond.eq (tmS 2) (tmS 10))) := by decide +kernel
theorem gv6_3_10 : gvl[147]? = some (Cond.not (Cond.eq (tmS 3) (tmS 10))) := by decide +kernel
theorem gv6_4_10 : gvl[148]? = some (Cond.not (Cond.eq (tmS 4) (tmS 10))) := by decide +kernel
theorem gv6_5_10 : gvl[149]? = some (Cond.not (Cond.eq (tmS 5) (tmS 10))) := by decide +kernel
theorem gv6_6_10 : gvl[150]? = some (Cond.not (Cond.eq (tmS 6) (tmS 10))) := by decide +kernel
theorem gv6_7_10 : gvl[151]? = some (Cond.not (Cond.eq (tmS 7) (tmS 10))) := by decide +kernel
theorem gv6_8_10 : gvl[152]? = some (Cond.not (Cond.eq (tmS 8) (tmS 10))) := by decide +kernel
theorem gv6_9_10 : gvl[153]? = some (Cond.not (Cond.eq (tmS 9) (tmS 10))) := by decide +kernel
theorem gv6_0_11 : gvl[164]? = some (Cond.not (Cond.eq (tmS 0) (tmS 11))) := by decide +kernel
theorem gv6_1_11 : gvl[165]? = some (Cond.not (Cond.eq (tmS 1) (tmS 11))) := by decide +kernel
theorem gv6_2_11 : gvl[166]? = some (Cond.not (Cond.eq (tmS 2) (tmS 11))) := by decide +kernel
theorem gv6_3_11 : gvl[167]? = some (Cond.not (Cond.eq (tmS 3) (tmS 11))) := by decide +kernel
theorem gv6_4_11 : gvl[168]? = some (Cond.not (Cond.eq (tmS 4) (tmS 11))) := by decide +kernel
theorem gv6_5_11 : gvl[169]? = some (Cond.not (Cond.eq (tmS 5) (tmS 11))) := by decide +kernel
theorem gv6_6_11 : gvl[170]? = some (Cond.not (Cond.eq (tmS 6) (tmS 11))) := by decide +kernel
theorem gv6_7_11 : gvl[171]? = some (Cond.not (Cond.eq (tmS 7) (tmS 11))) := by decide +kernel
theorem gv6_8_11 : gvl[172]? = some (Cond.not (Cond.eq (tmS 8) (tmS 11))) := by decide +kernel
theorem gv6_9_11 : gvl[173]? = some (Cond.not (Cond.eq (tmS 9) (tmS 11))) := by decide +kernel
theorem gv6_10_11 : gvl[174]? = some (Cond.not (Cond.eq (tmS 10) (tmS 11))) := by decide +kernel
theorem gv6_0_12 : gvl[183]? = some (Cond.not (Cond.eq (tmS 0) (tmS 12))) := by decide +kernel
theorem gv6_1_12 : gvl[184]? = some (Cond.not (Cond.eq (tmS 1) (tmS 12))) := by decide +kernel
theorem gv6_2_12 : gvl[185]? = some (Cond.not (Cond.eq (tmS 2) (tmS 12))) := by decide +kernel
theorem gv6_3_12 : gvl[186]? = some (Cond.not (Cond.eq (tmS 3) (tmS 12))) := by decide +kernel
theorem gv6_4_12 : gvl[187]? = some (Cond.not (Cond.eq (tmS 4) (tmS 12))) := by decide +kernel
theorem gv6_5_12 : gvl[188]? = some (Cond.not (Cond.eq (tmS 5) (tmS 12))) := by decide +kernel
theorem gv6_6_12 : gvl[189]? = some (Cond.not (Cond.eq (tmS 6) (tmS 12))) := by decide +kernel
theorem gv6_7_12 : gvl[190]? = some (Cond.not (Cond.eq (tmS 7) (tmS 12))) := by decide +kernel
theorem gv6_8_12 : gvl[191]? = some (Cond.not (Cond.eq (tmS 8) (tmS 12))) := by decide +kernel
theorem gv6_9_12 : gvl[192]? = some (Cond.not (Cond.eq (tmS 9) (tmS 12))) := by decide +kernel
theorem gv6_10_12 : gvl[193]? = some (Cond.not (Cond.eq (tmS 10) (tmS 12))) := by decide +kernel
theorem gv6_11_12 : gvl[194]? = some (Cond.not (Cond.eq (tmS 11) (tmS 12))) := by decide +kernel
theorem gv6_0_13 : gvl[204]? = some (Cond.not (Cond.eq (tmS 0) (tmS 13))) := by decide +kernel
theorem gv6_1_13 : gvl[205]? = some (Cond.not (Cond.eq (tmS 1) (tmS 13))) := by decide +kernel
theorem gv6_2_13 : gvl[206]? = some (Cond.not (Cond.eq (tmS 2) (tmS 13))) := by decide +kernel
theorem gv6_3_13 : gvl[207]? = some (Cond.not (Cond.eq (tmS 3) (tmS 13))) := by decide +kernel
theorem gv6_4_13 : gvl[208]? = some (Cond.not (Cond.eq (tmS 4) (tmS 13))) := by decide +kernel
theorem gv6_5_13 : gvl[209]? = some (Cond.not (Cond.eq (tmS 5) (tmS 13))) := by decide +kernel
theorem gv6_6_13 : gvl[210]? = some (Cond.not (Cond.eq (tmS 6) (tmS 13))) := by decide +kernel
theorem gv6_7_13 : gvl[211]? = some (Cond.not (Cond.eq (tmS 7) (tmS 13))) := by decide +kernel
theorem gv6_8_13 : gvl[212]? = some (Cond.not (Cond.eq (tmS 8) (tmS 13))) := by decide +kernel
theorem gv6_9_13 : gvl[213]? = some (Cond.not (Cond.eq (tmS 9) (tmS 13))) := by decide +kernel
theorem gv6_10_13 : gvl[214]? = some (Cond.not (Cond.eq (tmS 10) (tmS 13))) := by decide +kernel
theorem gv6_11_13 : gvl[215]? = some (Cond.not (Cond.eq (tmS 11) (tmS 13))) := by decide +kernel
theorem gv6_12_13 : gvl[216]? = some (Cond.not (Cond.eq (tmS 12) (tmS 13))) := by decide +kernel
theorem gv6_0_14 : gvl[226]? = some (Cond.not (Cond.eq (tmS 0) (tmS 14))) := by decide +kernel
theorem gv6_1_14 : gvl[227]? = some (Cond.not (Cond.eq (tmS 1) (tmS 14))) := by decide +kernel
theorem gv6_2_14 : gvl[228]? = some (Cond.not (Cond.eq (tmS 2) (tmS 14))) := by decide +kernel
theorem gv6_3_14 : gvl[229]? = some (Cond.not (Cond.eq (tmS 3) (tmS 14))) := by decide +kernel
theorem gv6_4_14 : gvl[230]? = some (Cond.not (Cond.eq (tmS 4) (tmS 14))) := by decide +kernel
theorem gv6_5_14 : gvl[231]? = some (Cond.not (Cond.eq (tmS 5) (tmS 14))) := by decide +kernel
theorem gv6_6_14 : gvl[232]? = some (Cond.not (Cond.eq (tmS 6) (tmS 14))) := by decide +kernel
theorem gv6_7_14 : gvl[233]? = some (Cond.not (Cond.eq (tmS 7) (tmS 14))) := by decide +kernel
theorem gv6_8_14 : gvl[234]? = some (Cond.not (Cond.eq (tmS 8) (tmS 14))) := by decide +kernel
theorem gv6_9_14 : gvl[235]? = some (Cond.not (Cond.eq (tmS 9) (tmS 14))) := by decide +kernel
theorem gv6_10_14 : gvl[236]? = some (Cond.not (Cond.eq (tmS 10) (tmS 14))) := by decide +kernel
theorem gv6_11_14 : gvl[237]? = some (Cond.not (Cond.eq (tmS 11) (tmS 14))) := by decide +kernel
theorem gv6_12_14 : gvl[238]? = some (Cond.not (Cond.eq (tmS 12) (tmS 14))) := by decide +kernel
theorem gv6_13_14 : gvl[239]? = some (Cond.not (Cond.eq (tmS 13) (tmS 14))) := by decide +kernel
theorem gv6_0_15 : gvl[248]? = some (Cond.not (Cond.eq (tmS 0) (tmS 15))) := by decide +kernel
theorem gv6_1_15 : gvl[249]? = some (Cond.not (Cond.eq (tmS 1) (tmS 15))) := by decide +kernel
theorem gv6_2_15 : gvl[250]? = some (Cond.not (Cond.eq (tmS 2) (tmS 15))) := by decide +kernel
theorem gv6_3_15 : gvl[251]? = some (Cond.not (Cond.eq (tmS 3) (tmS 15))) := by decide +kernel
theorem gv6_4_15 : gvl[252]? = some (Cond.not (Cond.eq (tmS 4) (tmS 15))) := by decide +kernel
theorem gv6_5_15 : gvl[253]? = some (Cond.not (Cond.eq (tmS 5) (tmS 15))) := by decide +kernel
theorem gv6_6_15 : gvl[254]? = some (Cond.not (Cond.eq (tmS 6) (tmS 15))) := by decide +kernel
theorem gv6_7_15 : gvl[255]? = some (Cond.not (Cond.eq (tmS 7) (tmS 15))) := by decide +kernel
theorem gv6_8_15 : gvl[256]? = some (Cond.not (Cond.eq (tmS 8) (tmS 15))) := by decide +kernel
theorem gv6_9_15 : gvl[257]? = some (Cond.not (Cond.eq (tmS 9) (tmS 15))) := by decide +kernel
theorem gv6_10_15 : gvl[258]? = some (Cond.not (Cond.eq (tmS 10) (tmS 15))) := by decide +kernel
theorem gv6_11_15 : gvl[259]? = some (Cond.not (Cond.eq (tmS 11) (tmS 15))) := by decide +kernel
theorem gv6_12_15 : gvl[260]? = some (Cond.not (Cond.eq (tmS 12) (tmS 15))) := by decide +kernel
theorem gv6_13_15 : gvl[261]? = some (Cond.not (Cond.eq (tmS 13) (tmS 15))) := by decide +kernel
theorem gv6_14_15 : gvl[262]? = some (Cond.not (Cond.eq (tmS 14) (tmS 15))) := by decide +kernel
theorem gv6_0_16 : gvl[270]? = some (Cond.not (Cond.eq (tmS 0) (tmS 16))) := by decide +kernel
theorem gv6_1_16 : gvl[271]? = some (Cond.not (Cond.eq (tmS 1) (tmS 16))) := by decide +kernel
theorem gv6_2_16 : gvl[272]? = some (Cond.not (Cond.eq (tmS 2) (tmS 16))) := by decide +kernel
theorem gv6_3_16 : gvl[273]? = some (Cond.not (Cond.eq (tmS 3) (tmS 16))) := by decide +kernel
theorem gv6_4_16 : gvl[274]? = some (Cond.not (Cond.eq (tmS 4) (tmS 16))) := by decide +kernel
theorem gv6_5_16 : gvl[275]? = some (Cond.not (Cond.eq (tmS 5) (tmS 16))) := by decide +kernel
theorem gv6_6_16 : gvl[276]? = some (Cond.not (Cond.eq (tmS 6) (tmS 16))) := by decide +kernel
theorem gv6_7_16 : gvl[277]? = some (Cond.not (Cond.eq (tmS 7) (tmS 16))) := by decide +kernel
theorem gv6_8_16 : gvl[278]? = some (Cond.not (Cond.eq (tmS 8) (tmS 16))) := by decide +kernel
theorem gv6_9_16 : gvl[279]? = some (Cond.not (Cond.eq (tmS 9) (tmS 16))) := by decide +kernel
theorem gv6_10_16 : gvl[280]? = some (Cond.not (Cond.eq (tmS 10) (tmS 16))) := by decide +kernel
theorem gv6_11_16 : gvl[281]? = some (Cond.not (Cond.eq (tmS 11) (tmS 16))) := by decide +kernel
theorem gv6_12_16 : gvl[282]? = some (Cond.not (Cond.eq (tmS 12) (tmS 16))) := by decide +kernel
theorem gv6_13_16 : gvl[283]? = some (Cond.not (Cond.eq (tmS 13) (tmS 16))) := by decide +kernel
theorem gv6_14_16 : gvl[284]? = some (Cond.not (Cond.eq (tmS 14) (tmS 16))) := by decide +kernel
theorem gv6_15_16 : gvl[285]? = some (Cond.not (Cond.eq (tmS 15) (tmS 16))) := by decide +kernel
theorem gv6l : ∀ i, i < 17 → ∀ j, j < i → Cond.not (Cond.eq (tmS j) (tmS i)) ∈ gvl := by
  intro i hi j hj
  match i, hi, j, hj with
  | 1, _, 0, _ => exact List.mem_of_getElem? gv6_0_1
  | 2, _, 0, _ => exact List.mem_of_getElem? gv6_0_2
  | 2, _, 1, _ => exact List.mem_of_getElem? gv6_1_2
  | 3, _, 0, _ => exact List.mem_of_getElem? gv6_0_3
  | 3, _, 1, _ => exact List.mem_of_getElem? gv6_1_3
  | 3, _, 2, _ => exact List.mem_of_getElem? gv6_2_3
  | 4, _, 0, _ => exact List.mem_of_getElem? gv6_0_4
  | 4, _, 1, _ => exact List.mem_of_getElem? gv6_1_4
  | 4, _, 2, _ => exact List.mem_of_getElem? gv6_2_4
  | 4, _, 3, _ => exact List.mem_of_getElem? gv6_3_4
  | 5, _, 0, _ => exact List.mem_of_getElem? gv6_0_5
  | 5, _, 1, _ => exact List.mem_of_getElem? gv6_1_5
  | 5, _, 2, _ => exact List.mem_of_getElem? gv6_2_5
  | 5, _, 3, _ => exact List.mem_of_getElem? gv6_3_5
  | 5, _, 4, _ => exact List.mem_of_getElem? gv6_4_5
  | 6, _, 0, _ => exact List.mem_of_getElem? gv6_0_6
  | 6, _, 1, _ => exact List.mem_of_getElem? gv6_1_6
  | 6, _, 2, _ => exact List.mem_of_getElem? gv6_2_6
  | 6, _, 3, _ => exact List.mem_of_getElem? gv6_3_6
  | 6, _, 4, _ => exact List.mem_of_getElem? gv6_4_6
  | 6, _, 5, _ => exact List.mem_of_getElem? gv6_5_6
  | 7, _, 0, _ => exact List.mem_of_getElem? gv6_0_7
  | 7, _, 1, _ => exact List.mem_of_getElem? gv6_1_7
  | 7, _, 2, _ => exact List.mem_of_getElem? gv6_2_7
  | 7, _, 3, _ => exact List.mem_of_getElem? gv6_3_7
  | 7, _, 4, _ => exact List.mem_of_getElem? gv6_4_7
  | 7, _, 5, _ => exact List.mem_of_getElem? gv6_5_7
  | 7, _, 6, _ => exact List.mem_of_getElem? gv6_6_7
  | 8, _, 0, _ => exact List.mem_of_getElem? gv6_0_8
  | 8, _, 1, _ => exact List.mem_of_getElem? gv6_1_8
  | 8, _, 2, _ => exact List.mem_of_getElem? gv6_2_8
  | 8, _, 3, _ => exact List.mem_of_getElem? gv6_3_8
  | 8, _, 4, _ => exact List.mem_of_getElem? gv6_4_8
  | 8, _, 5, _ => exact List.mem_of_getElem? gv6_5_8
  | 8, _, 6, _ => exact List.mem_of_getElem? gv6_6_8
  | 8, _, 7, _ => exact List.mem_of_getElem? gv6_7_8
  | 9, _, 0, _ => exact List.mem_of_getElem? gv6_0_9
  | 9, _, 1, _ => exact List.mem_of_getElem? gv6_1_9
  | 9, _, 2, _ => exact List.mem_of_getElem? gv6_2_9
  | 9, _, 3, _ => exact List.mem_of_getElem? gv6_3_9
  | 9, _, 4, _ => exact List.mem_of_getElem? gv6_4_9
  | 9, _, 5, _ => exact List.mem_of_getElem? gv6_5_9
  | 9, _, 6, _ => exact List.mem_of_getElem? gv6_6_9
  | 9, _, 7, _ => exact List.mem_of_getElem? gv6_7_9
  | 9, _, 8, _ => exact List.mem_of_getElem? gv6_8_9
  | 10, _, 0, _ => exact List.mem_of_getElem? gv6_0_10
  | 10, _, 1, _ => exact List.mem_of_getElem? gv6_1_10
  | 10, _, 2, _ => exact List.mem_of_getElem? gv6_2_10
  | 10, _, 3, _ => exact List.mem_of_getElem? gv6_3_10
  | 10, _, 4, _ => exact List.mem_of_getElem? gv6_4_10
  | 10, _, 5, _ => exact List.mem_of_getElem? gv6_5_10
  | 10, _, 6, _ => exact List.mem_of_getElem? gv6_6_10
  | 10, _, 7, _ => exact List.mem_of_getElem? gv6_7_10
  | 10, _, 8, _ => exact List.mem_of_getElem? gv6_8_10
  | 10, _, 9, _ => exact List.mem_of_getElem? gv6_9_10
  | 11, _, 0, _ => exact List.mem_of_getElem? gv6_0_11
  | 11, _, 1, _ => exact List.mem_of_getElem? gv6_1_11
  | 11, _, 2, _ => exact List.mem_of_getElem? gv6_2_11
  | 11, _, 3, _ => exact List.mem_of_getElem? gv6_3_11
  | 11, _, 4, _ => exact List.mem_of_getElem? gv6_4_11
  | 11, _, 5, _ => exact List.mem_of_getElem? gv6_5_11
  | 11, _, 6, _ => exact List.mem_of_getElem? gv6_6_11
  | 11, _, 7, _ => exact List.mem_of_getElem? gv6_7_11
  | 11, _, 8, _ => exact List.mem_of_getElem? gv6_8_11
  | 11, _, 9, _ => exact List.mem_of_getElem? gv6_9_11
  | 11, _, 10, _ => exact List.mem_of_getElem? gv6_10_11
  | 12, _, 0, _ => exact List.mem_of_getElem? gv6_0_12
  | 12, _, 1, _ => exact List.mem_of_getElem? gv6_1_12
  | 12, _, 2, _ => exact List.mem_of_getElem? gv6_2_12
  | 12, _, 3, _ => exact List.mem_of_getElem? gv6_3_12
  | 12, _, 4, _ => exact List.mem_of_getElem? gv6_4_12
  | 12, _, 5, _ => exact List.mem_of_getElem? gv6_5_12
  | 12, _, 6, _ => exact List.mem_of_getElem? gv6_6_12
  | 12, _, 7, _ => exact List.mem_of_getElem? gv6_7_12
  | 12, _, 8, _ => exact List.mem_of_getElem? gv6_8_12
  | 12, _, 9, _ => exact List.mem_of_getElem? gv6_9_12
  | 12, _, 10, _ => exact List.mem_of_getElem? gv6_10_12
  | 12, _, 11, _ => exact List.mem_of_getElem? gv6_11_12
  | 13, _, 0, _ => exact List.mem_of_getElem? gv6_0_13
  | 13, _, 1, _ => exact List.mem_of_getElem? gv6_1_13
  | 13, _, 2, _ => exact List.mem_of_getElem? gv6_2_13
  | 13, _, 3, _ => exact List.mem_of_getElem? gv6_3_13
  | 13, _, 4, _ => exact List.mem_of_getElem? gv6_4_13
  | 13, _, 5, _ => exact List.mem_of_getElem? gv6_5_13
  | 13, _, 6, _ => exact List.mem_of_getElem? gv6_6_13
  | 13, _, 7, _ => exact List.mem_of_getElem? gv6_7_13
  | 13, _, 8, _ => exact List.mem_of_getElem? gv6_8_13
  | 13, _, 9, _ => exact List.mem_of_getElem? gv6_9_13
  | 13, _, 10, _ => exact List.mem_of_getElem? gv6_10_13
  | 13, _, 11, _ => exact List.mem_of_getElem? gv6_11_13
  | 13, _, 12, _ => exact List.mem_of_getElem? gv6_12_13
  | 14, _, 0, _ => exact List.mem_of_getElem? gv6_0_14
  | 14, _, 1, _ => exact List.mem_of_getElem? gv6_1_14
  | 14, _, 2, _ => exact List.mem_of_getElem? gv6_2_14
  | 14, _, 3, _ => exact List.mem_of_getElem? gv6_3_14
  | 14, _, 4, _ => exact List.mem_of_getElem? gv6_4_14
  | 14, _, 5, _ => exact List.mem_of_getElem? gv6_5_14
  | 14, _, 6, _ => exact List.mem_of_getElem? gv6_6_14
  | 14, _, 7, _ => exact List.mem_of_getElem? gv6_7_14
  | 14, _, 8, _ => exact List.mem_of_getElem? gv6_8_14
  | 14, _, 9, _ => exact List.mem_of_getElem? gv6_9_14
  | 14, _, 10, _ => exact List.mem_of_getElem? gv6_10_14
  | 14, _, 11, _ => exact List.mem_of_getElem? gv6_11_14
  | 14, _, 12, _ => exact List.mem_of_getElem? gv6_12_14
  | 14, _, 13, _ => exact List.mem_of_getElem? gv6_13_14
  | 15, _, 0, _ => exact List.mem_of_getElem? gv6_0_15
  | 15, _, 1, _ => exact List.mem_of_getElem? gv6_1_15
  | 15, _, 2, _ => exact List.mem_of_getElem? gv6_2_15
  | 15, _, 3, _ => exact List.mem_of_getElem? gv6_3_15
  | 15, _, 4, _ => exact List.mem_of_getElem? gv6_4_15
  | 15, _, 5, _ => exact List.mem_of_getElem? gv6_5_15
  | 15, _, 6, _ => exact List.mem_of_getElem? gv6_6_15
  | 15, _, 7, _ => exact List.mem_of_getElem? gv6_7_15
  | 15, _, 8, _ => exact List.mem_of_getElem? gv6_8_15
  | 15, _, 9, _ => exact List.mem_of_getElem? gv6_9_15
  | 15, _, 10, _ => exact List.mem_of_getElem? gv6_10_15
  | 15, _, 11, _ => exact List.mem_of_getElem? gv6_11_15
  | 15, _, 12, _ => exact List.mem_of_getElem? gv6_12_15
  | 15, _, 13, _ => exact List.mem_of_getElem? gv6_13_15
  | 15, _, 14, _ => exact List.mem_of_getElem? gv6_14_15
  | 16, _, 0, _ => exact List.mem_of_getElem? gv6_0_16
  | 16, _, 1, _ => exact List.mem_of_getElem? gv6_1_16
  | 16, _, 2, _ => exact List.mem_of_getElem? gv6_2_16
  | 16, _, 3, _ => exact List.mem_of_getElem? gv6_3_16
  | 16, _, 4, _ => exact List.mem_of_getElem? gv6_4_16
  | 16, _, 5, _ => exact List.mem_of_getElem? gv6_5_16
  | 16, _, 6, _ => exact List.mem_of_getElem? gv6_6_16
  | 16, _, 7, _ => exact List.mem_of_getElem? gv6_7_16
  | 16, _, 8, _ => exact List.mem_of_getElem? gv6_8_16
  | 16, _, 9, _ => exact List.mem_of_getElem? gv6_9_16
  | 16, _, 10, _ => exact List.mem_of_getElem? gv6_10_16
  | 16, _, 11, _ => exact List.mem_of_getElem? gv6_11_16
  | 16, _, 12, _ => exact List.mem_of_getElem? gv6_12_16
  | 16, _, 13, _ => exact List.mem_of_getElem? gv6_13_16
  | 16, _, 14, _ => exact List.mem_of_getElem? gv6_14_16
  | 16, _, 15, _ => exact List.mem_of_getElem? gv6_15_16
  | 0, _, j + 0, h => exact absurd h (by omega)
  | 1, _, j + 1, h => exact absurd h (by omega)
  | 2, _, j + 2, h => exact absurd h (by omega)
  | 3, _, j + 3, h => exact absurd h (by omega)
  | 4, _, j + 4, h => exact absurd h (by omega)
  | 5, _, j + 5, h => exact absurd h (by omega)
  | 6, _, j + 6, h => exact absurd h (by omega)
  | 7, _, j + 7, h => exact absurd h (by omega)
  | 8, _, j + 8, h => exact absurd h (by omega)
  | 9, _, j + 9, h => exact absurd h (by omega)
  | 10, _, j + 10, h => exact absurd h (by omega)
  | 11, _, j + 11, h => exact absurd h (by omega)
  | 12, _, j + 12, h => exact absurd h (by omega)
  | 13, _, j + 13, h => exact absurd h (by omega)
  | 14, _, j + 14, h => exact absurd h (by omega)
  | 15, _, j + 15, h => exact absurd h (by omega)
  | 16, _, j + 16, h => exact absurd h (by omega)
  | i + 17, h, _, _ => exact absurd h (by omega)
theorem gv6 : ∀ i, i < 17 → ∀ j, j < 17 → i ≠ j → Cond.not (Cond.eq (tmS i) (tmS j)) ∈ gvl ∨ Cond.not (Cond.eq (tmS j) (tmS i)) ∈ gvl := by
  intro i hi j hj hne
  rcases Nat.lt_or_gt_of_ne hne with h | h
  · exact Or.inl (gv6l j hj i h)
  · exact Or.inr (gv6l i hi j h)
theorem gv7 : Cond.eq (.static "java/lang/String" "COMPACT_STRINGS" "Z") (.int 1) ∈ gvl := by decide +kernel
theorem gv8 : Cond.isRef (.static "jdk/internal/util/Preconditions" "SIOOBE_FORMATTER" "Ljava/util/function/BiFunction;") ∈ gvl := by decide +kernel
theorem sln_small : ∀ i, i < 17 → SLn.getD i 0 < 2 ^ 31 := by decide +kernel
