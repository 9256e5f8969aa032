def TB : List Cond := lw_tbl.filter goodWord
theorem TB_of {w : Cond} (h : w ∈ tables_1) (g : goodWord w = true) : w ∈ TB := List.mem_filter.mpr ⟨List.mem_append_right _ h, g⟩
theorem TB_t1 {w : Cond} (i : Nat) (h : tables_1_1[i]? = some w) (g : goodWord w = true) : w ∈ TB := TB_of (List.mem_append_left _ (List.mem_of_getElem? h)) g
theorem T1_t1 {w : Cond} (i : Nat) (h : tables_1_1[i]? = some w) : w ∈ tables_1 := List.mem_append_left _ (List.mem_of_getElem? h)
theorem TB_t2 {w : Cond} (i : Nat) (h : tables_1_2[i]? = some w) (g : goodWord w = true) : w ∈ TB := TB_of (List.mem_append_right _ (List.mem_append_left _ (List.mem_of_getElem? h))) g
theorem T1_t2 {w : Cond} (i : Nat) (h : tables_1_2[i]? = some w) : w ∈ tables_1 := List.mem_append_right _ (List.mem_append_left _ (List.mem_of_getElem? h))
theorem TB_t3 {w : Cond} (i : Nat) (h : tables_1_3[i]? = some w) (g : goodWord w = true) : w ∈ TB := TB_of (List.mem_append_right _ (List.mem_append_right _ (List.mem_append_left _ (List.mem_of_getElem? h)))) g
theorem T1_t3 {w : Cond} (i : Nat) (h : tables_1_3[i]? = some w) : w ∈ tables_1 := List.mem_append_right _ (List.mem_append_right _ (List.mem_append_left _ (List.mem_of_getElem? h)))
theorem TB_t4 {w : Cond} (i : Nat) (h : tables_1_4[i]? = some w) (g : goodWord w = true) : w ∈ TB := TB_of (List.mem_append_right _ (List.mem_append_right _ (List.mem_append_right _ (List.mem_append_left _ (List.mem_of_getElem? h))))) g
theorem T1_t4 {w : Cond} (i : Nat) (h : tables_1_4[i]? = some w) : w ∈ tables_1 := List.mem_append_right _ (List.mem_append_right _ (List.mem_append_right _ (List.mem_append_left _ (List.mem_of_getElem? h))))
theorem TB_t5 {w : Cond} (i : Nat) (h : tables_1_5[i]? = some w) (g : goodWord w = true) : w ∈ TB := TB_of (List.mem_append_right _ (List.mem_append_right _ (List.mem_append_right _ (List.mem_append_right _ (List.mem_append_left _ (List.mem_of_getElem? h)))))) g
theorem T1_t5 {w : Cond} (i : Nat) (h : tables_1_5[i]? = some w) : w ∈ tables_1 := List.mem_append_right _ (List.mem_append_right _ (List.mem_append_right _ (List.mem_append_right _ (List.mem_append_left _ (List.mem_of_getElem? h)))))
theorem TB_t6 {w : Cond} (i : Nat) (h : tables_1_6[i]? = some w) (g : goodWord w = true) : w ∈ TB := TB_of (List.mem_append_right _ (List.mem_append_right _ (List.mem_append_right _ (List.mem_append_right _ (List.mem_append_right _ (List.mem_append_left _ (List.mem_of_getElem? h))))))) g
theorem T1_t6 {w : Cond} (i : Nat) (h : tables_1_6[i]? = some w) : w ∈ tables_1 := List.mem_append_right _ (List.mem_append_right _ (List.mem_append_right _ (List.mem_append_right _ (List.mem_append_right _ (List.mem_append_left _ (List.mem_of_getElem? h))))))
theorem TB_t7 {w : Cond} (i : Nat) (h : tables_1_7[i]? = some w) (g : goodWord w = true) : w ∈ TB := TB_of (List.mem_append_right _ (List.mem_append_right _ (List.mem_append_right _ (List.mem_append_right _ (List.mem_append_right _ (List.mem_append_right _ (List.mem_of_getElem? h))))))) g
theorem T1_t7 {w : Cond} (i : Nat) (h : tables_1_7[i]? = some w) : w ∈ tables_1 := List.mem_append_right _ (List.mem_append_right _ (List.mem_append_right _ (List.mem_append_right _ (List.mem_append_right _ (List.mem_append_right _ (List.mem_of_getElem? h))))))
theorem TB_sel {q : MethodName × Nat} (i : Nat) (h : lw_privs[i]? = some q) : Cond.selects q.1.cls q.1 q.1 ∈ TB := List.mem_filter.mpr ⟨List.mem_append_left _ (List.mem_map.mpr ⟨q, List.mem_of_getElem? h, rfl⟩), rfl⟩
theorem goodIn_TB {ws : List Cond} (h : ∀ w ∈ ws, w ∈ TB) : GoodIn TB ws := fun w hw => ⟨h w hw, good_of_word (List.mem_filter.mp (h w hw)).2⟩
abbrev Ev : Type := Nat × va_G × (Nat → ClassId) × (Nat → Nat) × (Nat → Nat) × Nat × Nat × (Nat → Int32)
def tyE (E : Ev) : List (ClassId × FieldType) := [(E.2.2.1 0, .byte), (E.2.2.1 1, .int), (E.2.2.1 2, .long), (E.2.2.1 3, .boolean), (E.2.2.1 4, .object RX2), (E.2.2.1 5, .object RX5), (E.2.2.1 6, .object RX7), (E.2.2.1 7, .object RX9), (E.2.2.1 8, .object RX10)]
def PH (E : Ev) (S : St) (H : Heap) : Prop := va_P E.2.1 vwCl (PW E.1 E.2.2.1 S) H ∧ H.size = E.1 + sn S ∧ (∀ a, sn S ≤ a → sK S a = 0) ∧ ∀ a j, sK S a = 14 → fits .byte (.int (sI S a j)) = true
def NW : List (String × Nat × MethodName × String) := [("NeedleHomes", 22, ⟨"NeedleHomes$PatternReader", "<init>", "()V"⟩, "NeedleHomes"), ("NeedleHomes$PatternReader", 13, ⟨"NeedleHomes$Reader", "<init>", "()V"⟩, "NeedleHomes"), ("NeedleHomes", 29, ⟨"NeedleHomes$ListReader", "<init>", "()V"⟩, "NeedleHomes"), ("NeedleHomes$ListReader", 11, ⟨"NeedleHomes$Reader", "<init>", "()V"⟩, "NeedleHomes"), ("NeedleHomes", 36, ⟨"NeedleHomes$Bill", "<init>", "()V"⟩, "NeedleHomes"), ("NeedleHomes", 43, ⟨"NeedleHomes$Parting", "<init>", "()V"⟩, "NeedleHomes"), ("NeedleHomes", 50, ⟨"NeedleHomes$EvenPay", "<init>", "()V"⟩, "NeedleHomes"), ("NeedleHomes$PatternReader", 104, ⟨"NeedleHomes", "within", "(III)Z"⟩, "NeedleHomes"), ("NeedleHomes$PatternReader", 85, ⟨"NeedleHomes", "isColour", "(I)Z"⟩, "NeedleHomes"), ("NeedleHomes$World", 139, ⟨"NeedleHomes", "within", "(III)Z"⟩, "NeedleHomes"), ("NeedleHomes$ListReader", 63, ⟨"NeedleHomes", "within", "(III)Z"⟩, "NeedleHomes"), ("NeedleHomes$Pattern", 31, ⟨"NeedleHomes", "isStitch", "(I)Z"⟩, "NeedleHomes"), ("NeedleHomes$Pattern", 35, ⟨"NeedleHomes", "isColour", "(I)Z"⟩, "NeedleHomes"), ("NeedleHomes$Hand", 46, ⟨"NeedleHomes", "within", "(III)Z"⟩, "NeedleHomes"), ("NeedleHomes$TermList", 63, ⟨"NeedleHomes", "within", "(III)Z"⟩, "NeedleHomes"), ("NeedleHomes$Bill", 52, ⟨"NeedleHomes", "weekOf", "(I)I"⟩, "NeedleHomes"), ("NeedleHomes$Bill", 74, ⟨"NeedleHomes", "askFor", "([ILNeedleHomes$Pattern;LNeedleHomes$Hand;II)V"⟩, "NeedleHomes"), ("NeedleHomes$Bill", 82, ⟨"NeedleHomes", "termOf", "(LNeedleHomes$TermList;I[I)I"⟩, "NeedleHomes"), ("NeedleHomes$Hand", 50, ⟨"NeedleHomes", "weekOf", "(I)I"⟩, "NeedleHomes"), ("NeedleHomes$Parting", 70, ⟨"NeedleHomes", "within", "(III)Z"⟩, "NeedleHomes"), ("NeedleHomes$EvenPay", 54, ⟨"NeedleHomes", "weekOf", "(I)I"⟩, "NeedleHomes"), ("NeedleHomes$EvenPay", 71, ⟨"NeedleHomes", "termOf", "(LNeedleHomes$TermList;I[I)I"⟩, "NeedleHomes"), ("NeedleHomes$EvenPay", 82, ⟨"NeedleHomes", "isStitch", "(I)Z"⟩, "NeedleHomes")]
def OW : List String := [RX2, RX5, RX7, RX9, RX10]
def SX : List Nat := [109, 111, 113, 115, 117, 119, 70, 88, 90, 121, 123, 125, 127, 129, 131, 133, 86]
def SW : List String := ["rate", "thread", "fine", "late", "days", "part", "if", "not", "hay", "stitch", "colour", "ground", "size", "skill", "spots", "week", "and"]
def SLn : List Nat := [4, 6, 4, 4, 4, 4, 2, 3, 3, 6, 6, 6, 4, 5, 5, 4, 3]
def SBy : List (List Int32) := [[114, 97, 116, 101], [116, 104, 114, 101, 97, 100], [102, 105, 110, 101], [108, 97, 116, 101], [100, 97, 121, 115], [112, 97, 114, 116], [105, 102], [110, 111, 116], [104, 97, 121], [115, 116, 105, 116, 99, 104], [99, 111, 108, 111, 117, 114], [103, 114, 111, 117, 110, 100], [115, 105, 122, 101], [115, 107, 105, 108, 108], [115, 112, 111, 116, 115], [119, 101, 101, 107], [97, 110, 100]]
/-- what holds of the machine's tables at the start of every method: classes, array classes, nest mates, strings -/
def KK (E : Ev) (U : State) : Prop :=
  va_K E.2.1 vwCl (tyE E) U ∧ (∀ q ∈ NW, va_Nw (.methodLinkNest q.1 q.2.1 q.2.2.1 q.2.2.2) U) ∧ (∀ C ∈ OW, va_AO C U) ∧ va_Nw (.castable "[I" "java/lang/Cloneable") U ∧ (∀ i, i < 17 → vk_R "NeedleHomes$ListReader" (SX.getD i 0) (SW.getD i "") (E.2.2.2.1 i) U) ∧
  vk_S 17 SLn SBy E.2.2.2.1 E.2.2.2.2.1 (fun q => E.1 ≤ q) U U.heap ∧ va_Z "java/lang/String" "COMPACT_STRINGS" "Z" (.int 1) (fun q => E.1 ≤ q) U U.heap ∧ va_Zq "jdk/internal/util/Preconditions" "SIOOBE_FORMATTER" "Ljava/util/function/BiFunction;" (fun q => E.1 ≤ q) U U.heap ∧ va_X E.2.2.2.2.2.1 E.2.2.2.2.2.2.1 E.2.2.2.2.2.2.2 U U.heap ∧ E.2.2.2.2.2.1 < E.1 ∧ E.1 ≤ U.heap.size
theorem KK.warm {E : Ev} {s U : State} {H : Heap} {locs : List Loc} (h : KK E s) (hS : va_S (fun q => E.1 ≤ q) s.heap H locs) (hU : U.heap = H) (hW : s.WarmedH U.vm) : KK E U := by
  obtain ⟨h1, h2, h3, h4, h5, h6, h7, h9, h10, h11, h8⟩ := h
  have hq : ∀ a : Nat, a < s.heap.size → ¬ (E.1 ≤ a) → U.heap[a]? = s.heap[a]? := fun a ha hn => by rw [hU]; exact hS.2.1 a ha hn
  exact ⟨h1.moved hW.alike, fun q hq => (h2 q hq).warmM hW, fun C hC => (h3 C hC).moved hW.alike, h4.warmC hW, fun i hi => (h5 i hi).warm hW, (h6.moved hW.alike).kept hq, (h7.moved hW.alike).kept hq, (h9.moved hW.alike).kept hq, (h10.moved hW.alike).kept (hq _ (Nat.lt_of_lt_of_le h11 h8) (Nat.not_le.mpr h11)), h11, by rw [hU]; exact Nat.le_trans h8 hS.1⟩
theorem KK.calling {E : Ev} {U : State} {g : JFrame} {mk : MethodId} {a : Array Value} (h : KK E U) : KK E (U.calling g mk a) := by
  obtain ⟨h1, h2, h3, h4, h5, h6, h7, h9, h10, h11, h8⟩ := h
  have hal : U.vm.Alike (U.calling g mk a).vm := Vm.Alike.refl U.vm
  exact ⟨h1.moved hal, fun q hq => (h2 q hq).same rfl rfl, fun C hC => (h3 C hC).moved hal, h4.same rfl rfl, fun i hi => vk_R.same rfl (h5 i hi), h6.moved hal, h7.moved hal, h9.moved hal, h10.moved hal, h11, h8⟩
/-- a method's end: its answer, the pool behind it, nothing below changed -/
def QR {Rt : Type} (E : Ev) (rv : Rt → Option Value) (r : Rt) (S' : St) : Array Value → State → Outcome → State → Prop := fun _ st o t => o = .returned (rv r) ∧ PH E S' t.heap ∧ va_F (fun q => E.1 ≤ q) st t
def Mono {Rt : Type} (k : St → Option (Rt × St)) : Prop := ∀ S r S', k S = some (r, S') → sn S ≤ sn S' ∧ sm S ≤ sm S'
/-- a method's own facts: frames, class, code, locals, answer's type, name -/
abbrev Mx : Type := Nat × String × ByteArray × Nat × Option FieldType × String
/-- what stays through a method's body -/
def MC (E : Ev) (X : Mx) (p : Program) (R : Room) (s : State) (m : MethodId) (args : Array Value) (meth : Method) (c : Code) : Prop :=
  p.tables.exec = Jvm.exec ∧ c.code = X.2.2.1 ∧ c.maxLocals = X.2.2.2.1 ∧ s.vm.findClass X.2.1 = some m.cls ∧ (∀ w ∈ TB, w.before args s = true) ∧ KK E s ∧ meth.sig.returnType = X.2.2.2.2.1 ∧ meth.locks = false ∧ meth.name = X.2.2.2.2.2 ∧ X.1 ≤ R.frames ∧ 31 * X.1 ≤ R.locals
/-- the machine at pc, with these locals and this stack, does what k says -/
def Snd {Rt : Type} (E : Ev) (l : Launch) (X : Mx) (rv : Rt → Option Value) (pc : Nat) (lv : List (Nat × Value)) (st : List Value) (k : St → Option (Rt × St)) : Prop :=
  Mono k ∧ ∀ (p : Program) (e : Env) (R : Room) (s : State) (m : MethodId) (args : Array Value) (below : List Frame) (meth : Method) (c : Code), MC E X p R s m args meth c →
    ∀ (n0 m0 : Nat) (S : St) (H : Heap) (locs : List Loc) (ls : Array Slot) (r : Rt) (S' : St), PH E S H → va_S (fun q => E.1 ≤ q) s.heap H locs → lv_has ls X.2.2.2.1 lv → n0 ≤ sn S → m0 ≤ sm S → k S = some (r, S') → sn S' - n0 = R.cells → sm S' - m0 = R.slots →
    W p l e R s m args below meth c H locs (sn S - n0) (sm S - m0) (MQ below (QR E rv r S') args s R.cells R.slots (fun q => E.1 ≤ q)) (F0 m pc ls st)
/-- a method's contract: it does what f says, in d frames -/
def MF {Rt : Type} (E : Ev) (l : Launch) (d : Nat) (y : MethodName) (cc : ByteArray) (nL : Nat) (ret : Option FieldType) (rv : Rt → Option Value) (av : List Value) (f : St → Option (Rt × St)) : Prop :=
  Mono f ∧ ∀ (S : St) (r : Rt) (S' : St), f S = some (r, S') → Met l y (Cond.code y cc nL ret :: TB) { frames := d, cells := sn S' - sn S, slots := sm S' - sm S, locals := 31 * d } (va_Pc av (fun U => PH E S U.heap ∧ KK E U)) (QR E rv r S') (sn S' - sn S) (sm S' - sm S) (fun q => E.1 ≤ q)
theorem MF.of {Rt : Type} {E : Ev} {l : Launch} {d : Nat} {y : MethodName} {cc : ByteArray} {nL : Nat} {ret : Option FieldType} {rv : Rt → Option Value} {av : List Value} {f : St → Option (Rt × St)} {lv : List (Nat × Value)} (hy : plainName y.cls = true) (hn : (lg_sl av).length ≤ nL) (hlv : lv_args 0 av = lv)
    (h : Snd E l (d, y.cls, cc, nL, ret, y.name) rv 0 lv [] f) : MF E l d y cc nL ret rv av f := by
  refine ⟨h.1, fun S r S' hf => ?_⟩
  refine Met.ofW (cc := cc) (maxL := nL) (ret := ret) hy rfl ?_
  intro p e s m args below meth c s₁ B hml hv
  obtain ⟨rfl, hP, hK⟩ := hv
  have hts := atoms_spec (ws := Cond.code y cc nL ret :: TB) B.pre
  have C : MC E (d, y.cls, cc, nL, ret, y.name) p (headSpec (Cond.code y cc nL ret :: TB) { frames := d, cells := sn S' - sn S, slots := sm S' - sm S, locals := 31 * d }).room s m av.toArray meth c :=
    ⟨B.exec, B.bytes, hml, findClass_of_methodNamed B.named, fun w hw => hts w (List.mem_cons_of_mem _ hw), hK, B.returns, B.notSynchronized, (name_of_methodNamed B.named B.method).1, Nat.le_refl _, Nat.le_refl _⟩
  have hl := lv_entry av (n := nL) hn
  rw [hlv] at hl
  rw [lg_entry_eq]
  have hw := h.2 p e _ s m av.toArray below meth c C (sn S) (sm S) S s.heap [] _ r S' hP va_S.rf hl (Nat.le_refl _) (Nat.le_refl _) hf rfl rfl
  rw [Nat.sub_self, Nat.sub_self] at hw
  exact hw

