-- a new list, in the class
theorem w_cn9 {Rt : Type} {S : St} {Q : Rt → St → Prop} {a : Nat} {k : Nat → St → Option (Rt × St)} (hk : sK S a = 15) (h : Rn (k (sn S) (stA (stN S 15 (sL S a) (sL S a)) (sn S) (sI S a))) Q) : Rn (cn a k S) Q := by
  unfold cn
  rw [if_pos hk]
  exact h
theorem copyOf_x {S : St} {a la n : Nat} (hk : sK S a = 15) (hl : sL S a = la) (ha : a < sn S) (hn : n ≤ la) (hla : la ≤ 1000) : Rn (fJ7_copyOf_59c91 (some a) (Int32.ofNat n) S) (fun r S' => r = some (sn S) ∧ EX S S' ∧ sn S' = sn S + 1 ∧ sm S' = sm S + n ∧ sK S' (sn S) = 15 ∧ sL S' (sn S) = n ∧ ∀ j, j < n → sI S' (sn S) j = sI S a j) := by
  unfold fJ7_copyOf_59c91
  refine w_nn (w_aL hk hl (w_br (fun u => ?_) (fun u => ?_)))
  · rw [eq_ofNat (by omega) (by omega)] at u
    subst u
    refine w_cn9 hk ?_
    have e1 : sK (stA (stN S 15 (sL S a) (sL S a)) (sn S) (sI S a)) (sn S) = 15 := by rw [sK_stA, sK_stN, if_pos rfl]
    refine w_ck e1 (w_rt ⟨rfl, ((EX.rfl (S := S)).new 15 (sL S a) (sL S a)).stA _ (Nat.le_refl _), ?_, ?_, e1, ?_, fun j hj => ?_⟩)
    · rw [sn_stA, sn_stN]
    · rw [sm_stA, sm_stN, hl]
    · rw [sL_stA, sL_stN, if_pos rfl, hl]
    · rw [sI_stA, if_pos rfl]
  · refine w_nA (m := n) rfl (by omega) ?_
    have e1 : sK (stN S 15 n n) a = 15 := by rw [sK_stN, if_neg (by omega)]; exact hk
    have e2 : sL (stN S 15 n n) a = la := by rw [sL_stN, if_neg (by omega)]; exact hl
    have e3 : sK (stN S 15 n n) (sn S) = 15 := by rw [sK_stN, if_pos rfl]
    have e4 : sL (stN S 15 n n) (sn S) = n := by rw [sL_stN, if_pos rfl]
    refine w_aL e1 e2 (w_cp (n := n) e1 e3 e2 e4 ?_ ⟨hn, Nat.le_refl _, by omega⟩ (w_rt ⟨rfl, ((EX.rfl (S := S)).new 15 n n).stA _ (Nat.le_refl _), ?_, ?_, ?_, ?_, fun j hj => ?_⟩))
    · rw [mn_of (by omega) (by omega), Nat.min_eq_right hn]
    · rw [sn_stA, sn_stN]
    · rw [sm_stA, sm_stN]
    · rw [sK_stA]; exact e3
    · rw [sL_stA]; exact e4
    · rw [sI_stA, if_pos rfl, cpy_in hj, sI_stN, if_neg (by omega)]
/-- a list under way -/
def NL (S T : St) (q i L : Nat) (x1 x2 x3 : Int32) : Prop := EX S T ∧ sn T = q + i ∧ sK T q = 10 ∧ sI T q 0 = x1 ∧ sI T q 1 = x2 ∧ sI T q 2 = x3 ∧ sI T q 3 = Int32.ofNat L
def FA (T : St) (a n : Nat) (f : Nat → Int32) : Prop := sK T a = 15 ∧ sL T a = n ∧ ∀ j, j < n → sI T a j = f j
theorem FA.ag {T T' : St} {a n : Nat} {f : Nat → Int32} (h : FA T a n f) (g : AG T T' a) : FA T' a n f := ⟨g.1.trans h.1, g.2.1.trans h.2.1, fun j hj => (g.2.2.1 j).trans (h.2.2 j hj)⟩
theorem stage_l {S T : St} {q i L m a j : Nat} {x1 x2 x3 : Int32} {Q : Unit → St → Prop} {k : St → Option (Unit × St)} (hS : SH S) (hq : sn S = q) (h : NL S T q i L x1 x2 x3) (hi : 0 < i) (ha : 17 ≤ a) (ha2 : a ≤ 20) (hm : m ≤ sL S a) (hQ : ∀ T', NL S T' q (i + 1) L x1 x2 x3 → sm T' = sm T + m → (∀ c, c < q + i → c ≠ q → AG T T' c) → (∀ j', sR T' q j' = if j' = j then some (q + i) else sR T q j') → FA T' (q + i) m (sI S a) → Rn (k T') Q) : Rn (cl (fJ7_copyOf_59c91 (some a) (Int32.ofNat m)) (fun v => pR 10 q j v k) T) Q := by
  obtain ⟨h1, h2, h3, h4, h5, h6, h7⟩ := h
  have h46 := hS.2.2.2
  have hT := EX_SH h1 hS
  have ag := h1.2 a (by omega)
  have hk : sK T a = 15 := by
    rcases (show a = 17 ∨ a = 18 ∨ a = 19 ∨ a = 20 by omega) with rfl | rfl | rfl | rfl
    · exact SH_K17 hT
    · exact SH_K18 hT
    · exact SH_K19 hT
    · exact SH_K20 hT
  have hl : sL T a ≤ 1000 := by
    rcases (show a = 17 ∨ a = 18 ∨ a = 19 ∨ a = 20 by omega) with rfl | rfl | rfl | rfl
    · rw [SH_L17 hT]; decide
    · rw [SH_L18 hT]; decide
    · rw [SH_L19 hT]; decide
    · rw [SH_L20 hT]; decide
  refine w_clr (copyOf_x hk rfl (by omega) (by rw [ag.2.1]; exact hm) hl) ?_
  rintro r T2 ⟨rfl, e1, e2, e3, e4, e5, e6⟩
  have aq := e1.2 q (by omega)
  have kq : sK T2 q = 10 := aq.1.trans h3
  refine w_pR kq (hQ _ ⟨(h1.trans e1).stR _ (by omega), by rw [sn_stR, e2, h2]; omega, by rw [sK_stR]; exact kq, ?_, ?_, ?_, ?_⟩ (by rw [sm_stR]; exact e3) (fun c hc hcq => (e1.2 c (by omega)).stR _ hcq) (fun j' => ?_) ⟨?_, ?_, fun j' hj' => ?_⟩)
  · rw [sI_stR, aq.2.2.1]; exact h4
  · rw [sI_stR, aq.2.2.1]; exact h5
  · rw [sI_stR, aq.2.2.1]; exact h6
  · rw [sI_stR, aq.2.2.1]; exact h7
  · rw [sR_stR]
    by_cases c : j' = j
    · rw [if_pos ⟨rfl, c⟩, if_pos c, h2]
    · rw [if_neg (fun z => c z.2), if_neg c, aq.2.2.2]
  · rw [sK_stR, ← h2]; exact e4
  · rw [sL_stR, ← h2]; exact e5
  · rw [sI_stR, ← h2, e6 j' hj', ag.2.2.1]
theorem init_list {S : St} {L : Nat} {x1 x2 x3 : Int32} (hS : SH S) (hL : L ≤ 16) (h1 : sI S 15 1 = Int32.ofNat L) : Rn (fX9_init (sn S) x1 x2 x3 (some 15) (stN S 10 0 8)) (fun _ T => EX S T ∧ sn T = sn S + 5 ∧ sm T ≤ sm S + 400 ∧ LSh T (sn S) ∧ sI T (sn S) 0 = x1 ∧ sI T (sn S) 1 = x2 ∧ sI T (sn S) 2 = x3 ∧ sI T (sn S) 3 = Int32.ofNat L ∧ FA T (sn S + 1) L (sI S 17) ∧ FA T (sn S + 2) L (sI S 18) ∧ FA T (sn S + 3) L (sI S 19) ∧ FA T (sn S + 4) (16 * L) (sI S 20)) := by
  have h46 := hS.2.2.2
  generalize hq : sn S = q at *
  unfold fX9_init
  have a0 : EX S (stN S 10 0 8) := (EX.rfl (S := S)).new 10 0 8
  have a1 : EX S (stI (stN S 10 0 8) q 0 x1) := a0.stI _ (by omega)
  have a2 : EX S (stI (stI (stN S 10 0 8) q 0 x1) q 1 x2) := a1.stI _ (by omega)
  have a3 : EX S (stI (stI (stI (stN S 10 0 8) q 0 x1) q 1 x2) q 2 x3) := a2.stI _ (by omega)
  have a4 : EX S (stI (stI (stI (stI (stN S 10 0 8) q 0 x1) q 1 x2) q 2 x3) q 3 (Int32.ofNat L)) := a3.stI _ (by omega)
  have k0 : sK (stN S 10 0 8) q = 10 := by rw [sK_stN, if_pos hq.symm]
  have em : mxI 0 (mnI (Int32.ofNat L) 16) = Int32.ofNat L := by
    rw [show (16 : Int32) = Int32.ofNat 16 from rfl, mn_of (by omega) (by omega), show (0 : Int32) = Int32.ofNat 0 from rfl, mx_of (by omega) (by omega)]
    congr 1
    omega
  have hN0 : NL S (stI (stI (stI (stI (stN S 10 0 8) q 0 x1) q 1 x2) q 2 x3) q 3 (Int32.ofNat L)) q 1 L x1 x2 x3 := by
    refine ⟨a4, ?_, k0, ?_, ?_, ?_, st_get⟩
    · rw [sn_stI, sn_stI, sn_stI, sn_stI, sn_stN, hq]
    · rw [st_ne (Or.inr (by decide)), st_ne (Or.inr (by decide)), st_ne (Or.inr (by decide)), st_get]
    · rw [st_ne (Or.inr (by decide)), st_ne (Or.inr (by decide)), st_get]
    · rw [st_ne (Or.inr (by decide)), st_get]
  have sm0 : sm (stI (stI (stI (stI (stN S 10 0 8) q 0 x1) q 1 x2) q 2 x3) q 3 (Int32.ofNat L)) = sm S + 8 := by rw [sm_stI, sm_stI, sm_stI, sm_stI, sm_stN]
  have s3 := EX_SH a3 hS
  have i3 : sI (stI (stI (stI (stN S 10 0 8) q 0 x1) q 1 x2) q 2 x3) 15 1 = Int32.ofNat L := by rw [(a3.2 15 (by omega)).2.2.1]; exact h1
  refine w_pI k0 (w_pI (show sK _ q = 10 from k0) (w_pI (show sK _ q = 10 from k0) (w_nn (w_gIe (SH_K15 s3) i3 ?_))))
  rw [em]
  refine w_pI (show sK _ q = 10 from k0) ?_
  generalize stI (stI (stI (stI (stN S 10 0 8) q 0 x1) q 1 x2) q 2 x3) q 3 (Int32.ofNat L) = T0 at *
  have t0 := EX_SH hN0.1 hS
  refine w_gR (SH_K15 t0) (SH_R15_2 t0) (w_gIe hN0.2.2.1 hN0.2.2.2.2.2.2 (stage_l (a := 17) (j := 4) hS hq hN0 (by decide) (by decide) (by decide) (by rw [SH_L17 hS]; exact hL) (fun T1 n1 m1 g1 r1 f1 => ?_)))
  have t1 := EX_SH n1.1 hS
  refine w_gR (SH_K15 t1) (SH_R15_3 t1) (w_gIe n1.2.2.1 n1.2.2.2.2.2.2 (stage_l (a := 18) (j := 5) hS hq n1 (by decide) (by decide) (by decide) (by rw [SH_L18 hS]; exact hL) (fun T2 n2 m2 g2 r2 f2 => ?_)))
  have t2 := EX_SH n2.1 hS
  refine w_gR (SH_K15 t2) (SH_R15_4 t2) (w_gIe n2.2.2.1 n2.2.2.2.2.2.2 (stage_l (a := 19) (j := 6) hS hq n2 (by decide) (by decide) (by decide) (by rw [SH_L19 hS]; exact hL) (fun T3 n3 m3 g3 r3 f3 => ?_)))
  have t3 := EX_SH n3.1 hS
  have e16 : Int32.ofNat L * 16 = Int32.ofNat (16 * L) := by rw [show (16 : Int32) = Int32.ofNat 16 from rfl, mul_of, Nat.mul_comm]
  refine w_gR (SH_K15 t3) (SH_R15_5 t3) (w_gIe n3.2.2.1 n3.2.2.2.2.2.2 ?_)
  rw [e16]
  refine stage_l (a := 20) (j := 7) hS hq n3 (by decide) (by decide) (by decide) (by rw [SH_L20 hS]; omega) (fun T4 n4 m4 g4 r4 f4 => ?_)
  obtain ⟨z1, z2, z3, z4, z5, z6, z7⟩ := n4
  have F1 : FA T4 (q + 1) L (sI S 17) := ((f1.ag (g2 _ (by omega) (by omega))).ag (g3 _ (by omega) (by omega))).ag (g4 _ (by omega) (by omega))
  have F2 : FA T4 (q + 2) L (sI S 18) := (f2.ag (g3 _ (by omega) (by omega))).ag (g4 _ (by omega) (by omega))
  have F3 : FA T4 (q + 3) L (sI S 19) := f3.ag (g4 _ (by omega) (by omega))
  refine w_rt ⟨z1, z2, by omega, ⟨z3, F1.1, F2.1, F3.1, f4.1, ?_, ?_, ?_, ?_, ?_, ?_, ?_, ?_, by omega, by omega⟩, z4, z5, z6, z7, F1, F2, F3, f4⟩
  · rw [F2.2.1, F1.2.1]
  · rw [F3.2.1, F1.2.1]
  · rw [f4.2.1, F1.2.1]
  · rw [F1.2.1]; exact hL
  · rw [r4, if_neg (by decide), r3, if_neg (by decide), r2, if_neg (by decide), r1, if_pos rfl]
  · rw [r4, if_neg (by decide), r3, if_neg (by decide), r2, if_pos rfl]
  · rw [r4, if_neg (by decide), r3, if_pos rfl]
  · rw [r4, if_pos rfl]
