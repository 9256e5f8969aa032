theorem hasRoom_le {s : State} {pl : Platform} {r r' : Room} (h : s.hasRoom pl r = true) (h1 : r'.frames ≤ r.frames) (h2 : r'.cells ≤ r.cells) (h3 : r'.slots ≤ r.slots) (h4 : r'.locals ≤ r.locals) : s.hasRoom pl r' = true := by
  simp only [State.hasRoom, Bool.and_eq_true, decide_eq_true_eq] at h ⊢
  obtain ⟨⟨⟨⟨a1, a2⟩, a3⟩, a4⟩, a5⟩ := h
  refine ⟨⟨⟨⟨by omega, ?_⟩, by omega⟩, by omega⟩, a5⟩
  obtain ⟨b1, b2, b3, b4, b5⟩ := a2
  exact ⟨by omega, by omega, by omega, by omega, b5⟩
theorem W.room {p : Program} {l : Launch} {e : Env} {R R' : Room} {s : State} {m : MethodId} {args : Array Value} {below : List Frame} {meth : Method} {c : Code} {H : Heap} {locs : List Loc} {cells slots : Nat} {Q Q' : State → Prop} {g : JFrame} (h1 : R'.frames ≤ R.frames) (h2 : R'.cells ≤ R.cells) (h3 : R'.slots ≤ R.slots) (h4 : R'.locals ≤ R.locals) (hQ : ∀ t, Q t → Q' t) (k : W p l e R' s m args below meth c H locs cells slots Q g) : W p l e R s m args below meth c H locs cells slots Q' g := by
  intro T hT X
  obtain ⟨t, a, b⟩ := k T hT { X with room := hasRoom_le X.room h1 h2 h3 h4 }
  exact ⟨t, a, hQ t b⟩
def S00 : St := (fun _ => 0, fun _ => 0, fun _ _ => 0, fun _ _ => none, fun _ _ => 0, 0, 0)
set_option maxHeartbeats 4000000 in
set_option maxRecDepth 100000 in
/-- the machine's start meets the context -/
theorem KK_start {s : State} {b L : Nat} {xs : Nat → Int32} {args : Array Value} (hts : ∀ w ∈ lw_tbl, w.before args s = true) (hX : va_X b L xs s s.heap) (hbl : b < s.heap.size) (hgv : (Jvm.Cond.and given_1 narrow_1).before args s = true) : ∃ E : Ev, E.1 = s.heap.size ∧ E.2.2.2.2.2.1 = b ∧ E.2.2.2.2.2.2.1 = L ∧ E.2.2.2.2.2.2.2 = xs ∧ KK E s := by
  have hT1 : ∀ w ∈ tables_1, w.before args s = true := fun w hw => hts w (List.mem_append_right _ hw)
  have hTB : ∀ w ∈ TB, w.before args s = true := fun w hw => hts w (List.mem_filter.mp hw).1
  have hgf : ∀ c ∈ gvl, c.before args s = true := flat_of_before _ hgv
  have hA : ∀ a : Nat, a < s.heap.size → ¬ (fun q : Nat => s.heap.size ≤ q) a := fun a h q => absurd q (Nat.not_le.mpr h)
  have kn : ∀ (ci : Nat) (C : String) (T : u_T) (N : Nat) (ty : Nat → FieldType), CI ci C T N ty → ∃ (cC : ClassId) (iS : Nat → Nat), u_Kn s C T N cC iS := fun ci C T N ty I => u_known hTB I.2.2.2.1 (hTB _ I.2.2.2.2.2.2.1)
  obtain ⟨c0, j0, k0⟩ := kn _ _ _ _ _ ci_X0
  obtain ⟨c1, j1, k1⟩ := kn _ _ _ _ _ ci_X1
  obtain ⟨c2, j2, k2⟩ := kn _ _ _ _ _ ci_X2
  obtain ⟨c3, j3, k3⟩ := kn _ _ _ _ _ ci_X3
  obtain ⟨c4, j4, k4⟩ := kn _ _ _ _ _ ci_X4
  obtain ⟨c5, j5, k5⟩ := kn _ _ _ _ _ ci_X5
  obtain ⟨c6, j6, k6⟩ := kn _ _ _ _ _ ci_X6
  obtain ⟨c7, j7, k7⟩ := kn _ _ _ _ _ ci_X7
  obtain ⟨c8, j8, k8⟩ := kn _ _ _ _ _ ci_X8
  obtain ⟨c9, j9, k9⟩ := kn _ _ _ _ _ ci_X9
  obtain ⟨c10, j10, k10⟩ := kn _ _ _ _ _ ci_X10
  obtain ⟨c11, j11, k11⟩ := kn _ _ _ _ _ ci_X11
  obtain ⟨c12, j12, k12⟩ := kn _ _ _ _ _ ci_X12
  obtain ⟨dC, dI, hKc⟩ : ∃ (dC : Nat → ClassId) (dI : Nat → Nat → Nat), ∀ (k : Nat) (q : vw_C), vwCl[k]? = some q → u_Kn s q.1 q.2.1 q.2.2 (dC k) (dI k) := by
    refine ⟨fun k => [c0, c1, c2, c3, c4, c5, c6, c7, c8, c9, c10, c11, c12].getD k 0, fun k => [j0, j1, j2, j3, j4, j5, j6, j7, j8, j9, j10, j11, j12].getD k (fun _ => 0), ?_⟩
    intro k q hq
    match k, hq with
    | 0, hq => cases hq; exact k0
    | 1, hq => cases hq; exact k1
    | 2, hq => cases hq; exact k2
    | 3, hq => cases hq; exact k3
    | 4, hq => cases hq; exact k4
    | 5, hq => cases hq; exact k5
    | 6, hq => cases hq; exact k6
    | 7, hq => cases hq; exact k7
    | 8, hq => cases hq; exact k8
    | 9, hq => cases hq; exact k9
    | 10, hq => cases hq; exact k10
    | 11, hq => cases hq; exact k11
    | 12, hq => cases hq; exact k12
    | k + 13, hq => simp [vwCl] at hq
  have ar : ∀ ty : FieldType, (∀ n, ty ≠ .object n) → Cond.arrayClass ty ∈ TB → ∃ cA : ClassId, ArrOfT s cA ty ∧ s.vm.findClass ("[" ++ ty.toString) = some cA := by
    intro ty _ hw
    obtain ⟨cB, kB, comp, h1, h2, h3⟩ := Cond.arrayClass_spec (hTB _ hw)
    exact ⟨cB, fun n z => ⟨fun k h => (by cases h), kB, h2, comp, h3⟩, h1⟩
  have arq : ∀ C ∈ OW, ∃ cA : ClassId, ArrOfT s cA (.object C) ∧ va_RA s cA (.object C) := by
    intro C hC
    obtain ⟨comp, c, k, h1, -, h3, h4, h5⟩ := Cond.arrayOver_spec (hT1 _ (ow_in _ (List.mem_map.mpr ⟨C, hC, rfl⟩)))
    exact ⟨c, fun n z => ⟨fun k h => (by cases h), k, h3, comp, h4⟩, k, comp, h3, h4, h1, h5⟩
  obtain ⟨y0, p0, q0⟩ := ar .byte (fun n h => by cases h) (TB_of (T1_t1 108 rfl) rfl)
  obtain ⟨y1, p1, q1⟩ := ar .int (fun n h => by cases h) (TB_of (T1_t1 109 rfl) rfl)
  obtain ⟨y2, p2, q2⟩ := ar .long (fun n h => by cases h) (TB_of (T1_t6 120 rfl) rfl)
  obtain ⟨y3, p3, q3⟩ := ar .boolean (fun n h => by cases h) (TB_of (T1_t6 119 rfl) rfl)
  obtain ⟨y4, p4, q4⟩ := arq RX2 (by decide)
  obtain ⟨y5, p5, q5⟩ := arq RX5 (by decide)
  obtain ⟨y6, p6, q6⟩ := arq RX7 (by decide)
  obtain ⟨y7, p7, q7⟩ := arq RX9 (by decide)
  obtain ⟨y8, p8, q8⟩ := arq RX10 (by decide)
  obtain ⟨aK, aV, hvk, hev⟩ := vk_Sof (args := args) (s := s) (N := 17) (tm := tmS) (len := SLn) (byt := SBy) (A := fun q : Nat => s.heap.size ≤ q) sln_small (fun i hi => hgf _ (gv1 i hi)) (fun i hi => hgf _ (gv2 i hi)) (fun i hi => hgf _ (gv3 i hi)) (fun i hi => hgf _ (gv4 i hi)) (fun i hi j hj => hgf _ (gv5 i hi j hj)) (fun i j hi hj hne => (gv6 i hi j hj hne).imp (fun h => hgf _ h) (fun h => hgf _ h)) hA
  refine ⟨(s.heap.size, (dC, dI), fun k => [y0, y1, y2, y3, y4, y5, y6, y7, y8].getD k 0, aK, aV, b, L, xs), rfl, rfl, rfl, rfl, ⟨hKc, ?_⟩, ?_, ?_, ?_, ?_, hvk, ?_, ?_, hX, hbl, Nat.le_refl _⟩
  · intro k q hq
    match k, hq with
    | 0, hq => cases hq; exact ⟨p0, q0⟩
    | 1, hq => cases hq; exact ⟨p1, q1⟩
    | 2, hq => cases hq; exact ⟨p2, q2⟩
    | 3, hq => cases hq; exact ⟨p3, q3⟩
    | 4, hq => cases hq; exact ⟨p4, q4⟩
    | 5, hq => cases hq; exact ⟨p5, q5⟩
    | 6, hq => cases hq; exact ⟨p6, q6⟩
    | 7, hq => cases hq; exact ⟨p7, q7⟩
    | 8, hq => cases hq; exact ⟨p8, q8⟩
    | k + 9, hq => simp [tyE] at hq
  · intro q hq
    exact va_Nw.of rfl (hT1 _ (nw_in _ (List.mem_map.mpr ⟨q, hq, rfl⟩)))
  · intro C hC
    exact va_AO.of (hT1 _ (ow_in _ (List.mem_map.mpr ⟨C, hC, rfl⟩)))
  · exact va_Nw.of rfl (hT1 _ cs_in)
  · intro i hi
    exact vk_R.of (hT1 _ (sw_in _ (List.mem_map.mpr ⟨i, List.mem_range.mpr hi, rfl⟩))) (hev i hi)
  · exact va_Zof (hT1 _ ls1_in) (hTB _ (TB_of (T1_t1 13 rfl) rfl)) (va_eqi (hgf _ gv7)) hA
  · exact va_Zqof (hT1 _ ls2_in) (hTB _ (TB_of (T1_t1 15 rfl) rfl)) (hgf _ gv8) hA
set_option maxHeartbeats 4000000 in
set_option maxRecDepth 100000 in
/-- the law's walk, over what its function answers -/
theorem whole_of_pure (PU : ∀ (L : Nat) (xs : Nat → Int32), L ≤ 3584 → ∃ S' : St, fL_law L xs S00 = some (true, S') ∧ sn S' ≤ 600000 ∧ sm S' ≤ 7302250) {p : Program} {e : Env} {s : State} {m : MethodId} {below : List Frame} {meth : Method} {c : Code} (l : Launch) {b L : Nat} {xs : Nat → Int32} (hL : L ≤ 3584) (C0 : lw_At p s m meth c b L xs) : W p l e room_1 s m #[Value.ref b] below meth c s.heap [] 0 0 (lw_Z below #[Value.ref b] s) (entryFrame m ([Value.ref b] : List Value).toArray 4) := by
  obtain ⟨hx, hb, hr, hml, hown, hts, hX, hbl, hlocks, hgv⟩ := C0
  obtain ⟨E, e1, e2, e3, e4, hKK⟩ := KK_start hts hX hbl hgv
  obtain ⟨S', hf, hn, hm⟩ := PU L xs hL
  have hTB : ∀ w ∈ TB, w.before #[Value.ref b] s = true := fun w hw => hts w (List.mem_filter.mp hw).1
  have hl := lv_entry ([.ref b]) (n := 4) (Nat.le_of_ble_eq_true rfl)
  rw [lg_entry_eq]
  generalize (lg_sl ([.ref b]) ++ List.replicate (4 - (lg_sl ([.ref b])).length) Slot.unset).toArray = ls at hl ⊢
  have C : MC E (dpL_law, RL, cL_law, 4, (some .boolean), meth.name) p { frames := 14, cells := sn S', slots := sm S', locals := 530 } s m #[Value.ref b] meth c :=
    ⟨hx, hb, hml, hown, hTB, hKK, hr, hlocks, rfl, Nat.le_of_ble_eq_true rfl, Nat.le_of_ble_eq_true rfl⟩
  have hP : PH E S00 s.heap := by
    refine ⟨fun k q hq => ?_, by rw [e1]; rfl, fun a _ => rfl, fun a j h => by cases h⟩
    obtain ⟨hl, -⟩ := PW_at hq
    exact absurd hl (Nat.not_lt_zero _)
  have hw := (sfL_law (E := E) (l := l) (nm := meth.name)).2 p e { frames := 14, cells := sn S', slots := sm S', locals := 530 } s m #[Value.ref b] below meth c C 0 0 S00 s.heap [] ls true S' hP va_S.rf (by rw [e2]; exact hl) (Nat.le_refl _) (Nat.le_refl _) (by rw [e3, e4]; exact hf) rfl rfl
  refine W.room (Nat.le_of_ble_eq_true rfl) hn hm (Nat.le_of_ble_eq_true rfl) ?_ hw
  rintro t ⟨o, h1, h2, ⟨h3, -, -⟩, Lc, ⟨h4, h5, h6⟩, h7⟩
  refine ⟨o, h1, h2, h3, h4, h5, h6.weaken (fun y hy hlt => ?_) hn hm⟩
  have := h7 y hy
  rw [e1] at this
  exact absurd hlt (Nat.not_lt.mpr this)
