-- lists: a test, in the reference
def GX (a j : Nat) : Prop := (a = 33 ∧ (j = 6 ∨ j = 7)) ∨ (a = 32 ∧ 3 ≤ j ∧ j ≤ 9) ∨ a = 40
theorem FQ.gx {S S1 : St} (h : FQ S S1) : FC GX S S1 := ⟨h.1, h.2.1, h.2.2.1, h.2.2.2.1, h.2.2.2.2.1, h.2.2.2.2.2.1, fun a j q => h.2.2.2.2.2.2 a j (fun z => q (Or.inl z)) (fun z => q (Or.inr (Or.inl z)))⟩
def okX (X : Nat → Nat → Prop) : Prop := ∀ a j, X a j → a = 39 ∨ a = 40 ∨ (a = 32 ∧ j = 15)
theorem MD.ok {S0 S S1 : St} {al : Nat → Int32} {X : Nat → Nat → Prop} (h : MD S0 al S) (hF : FC X S S1) (hX : okX X) : MD S0 al S1 := by
  obtain ⟨h1, h2, h3, h4, h5⟩ := h
  have hI : ∀ a j, a ≠ 39 → a ≠ 40 → ¬ (a = 32 ∧ j = 15) → sI S1 a j = sI S a j := fun a j q1 q2 q3 => hF.i (fun z => by have := hX a j z; omega)
  exact ⟨hF.sh h1, h2.trans (hF.fx (Y := XN) (fun a j z => by have := hX a j z; unfold XN; omega)).fr, fun i hi => by rw [hI 33 i (by decide) (by decide) (by omega)]; exact h3 i hi, fun i hi => by rw [hI 33 i (by decide) (by decide) (by omega)]; exact h4 i hi, fun j => by rw [hI 34 j (by decide) (by decide) (by omega)]; exact h5 j⟩
theorem WU.ok {al : Nat → Int32} {S0 S S1 : St} {P : Int32} {X : Nat → Nat → Prop} (h : WU al S0 S P) (hF : FC X S S1) (hX : okX X) : WU al S0 S1 P := ⟨h.1.ok hF hX, by rw [hF.i (fun z => by have := hX 32 9 z; omega)]; exact h.2⟩
theorem MU.ok {al : Nat → Int32} {S0 S S1 : St} {b : Nat → Nat} {n c F : Nat} {P : Int32} {X : Nat → Nat → Prop} (h : MU al S0 S b n c F P) (hF : FC X S S1) (hX : okX X) : MU al S0 S1 b n c F P := by
  obtain ⟨h1, h2, h3, h4, h5, h6⟩ := h
  have hI : ∀ a j, a ≠ 39 → a ≠ 40 → ¬ (a = 32 ∧ j = 15) → sI S1 a j = sI S a j := fun a j q1 q2 q3 => hF.i (fun z => by have := hX a j z; omega)
  have m1 := h1.ok hF hX
  obtain ⟨d1, d2, d3, d4, d5⟩ := h2
  obtain ⟨t1, t2, t3, t4, t5, t6⟩ := h4
  exact ⟨m1, ⟨m1.1, by rw [hI 32 2 (by decide) (by decide) (by omega)]; exact d2, d3, d4, fun i hi => by rw [hI 33 _ (by decide) (by decide) (by omega)]; exact d5 i hi⟩, h3, ⟨by rw [hI 32 3 (by decide) (by decide) (by omega)]; exact t1, by rw [hI 32 4 (by decide) (by decide) (by omega)]; exact t2, by rw [hI 32 5 (by decide) (by decide) (by omega)]; exact t3, fun z => by rw [hI 32 6 (by decide) (by decide) (by omega)]; exact t4 z, fun z => by rw [hI 32 7 (by decide) (by decide) (by omega)]; exact t5 z, fun z => by rw [hI 32 8 (by decide) (by decide) (by omega)]; exact t6 z⟩, by rw [hI 32 9 (by decide) (by decide) (by omega)]; exact h5, h6⟩
theorem ok40 : okX (fun a _ => a = 40) := fun a j z => Or.inr (Or.inl z)
theorem f40 {S : St} (j : Nat) (v : Int32) : FC (fun a _ => a = 40) S (stI S 40 j v) := FC.rfl.st _ rfl
theorem FC.g40 {S S1 : St} (h : FC (fun a _ => a = 40) S S1) : FC GX S S1 := h.mono (fun a j z => Or.inr (Or.inr z))
/-- a row of a test, as the reference has it -/
def rM (r : Nat → Nat) (j : Nat) : Int32 := if j = 1 then kindOf (Int32.ofNat (r 1)) else if j = 2 then signOf (Int32.ofNat (r 2)) else Int32.ofNat (r j)
def TM (al : Nat → Int32) (S0 S : St) (b : Nat → Nat) (n F : Nat) (P : Int32) (r : TR) : Prop := (r.1 = true → MU al S0 S b n r.2.1 F P ∧ ∀ j, j < 4 → sI S 40 j = rM r.2.2 j) ∧ (r.1 = false → WU al S0 S (Int32.ofNat r.2.1))
theorem TM_f {al : Nat → Int32} {S0 S : St} {b : Nat → Nat} {n F p : Nat} {P : Int32} {e : Nat → Nat} (h : WU al S0 S (Int32.ofNat p)) : TM al S0 S b n F P (false, p, e) := ⟨fun z => absurd (show false = true from z) (by decide), fun _ => h⟩
theorem kind_of : ∀ w, w < 18 → 11 ≤ w → kindOf (Int32.ofNat (w - 11)) = Int32.ofNat w := by decide
theorem test137_m {al : Nat → Int32} {S0 S1 S : St} {b : Nat → Nat} {n c F nt k1 : Nat} {P : Int32} (h : MU al S0 S b n c F P) (hf : FC GX S1 S) (hC : isC b n c) (q0 : sI S 40 0 = Int32.ofNat nt) (q1 : sI S 40 1 = kindOf (Int32.ofNat k1)) (q2 : sI S 40 2 = Int32.ofNat (b (tP b n c))) : Rn (fX12_aTest_137 32 S) (fun _ S' => FC GX S1 S' ∧ TM al S0 S' b n F P (tst3 nt k1 b n c)) := by
  unfold fX12_aTest_137 tst3
  rw [if_pos hC]
  refine w_ck h.2.1.k (w_clr (mstep_m h) ?_)
  rintro _ S2 ⟨f2, m2⟩
  have hS2 := m2.2.1.1
  refine w_gR (SH_K32 hS2) (SH_R32_17 hS2) (w_ck (SH_K32 hS2) (w_clr (numbered_m m2) ?_))
  rintro v S3 ⟨f3, m3, w3⟩
  have f := f2.trans f3
  have e : ∀ j, sI S3 40 j = sI S 40 j := fun j => f.2.2.2.2.2.2 40 j (by omega) (by omega)
  have fA : FC GX S1 (stI S3 40 3 v) := (hf.trans f.gx).trans (f40 3 v).g40
  by_cases u : tK b n (tN b n c) = 2
  · obtain ⟨rfl, m4⟩ := m3 u
    have hS3 := m4.2.1.1
    rw [if_pos u]
    refine w_nn (w_wI (n := 3) (SH_K40 hS3) rfl (SH_L40 hS3) (by decide) (w_rt ⟨fA, fun _ => ⟨m4.ok (f40 _ _) ok40, fun j hj => ?_⟩, fun z => absurd (show true = false from z) (by decide)⟩))
    rcases (show j = 0 ∨ j = 1 ∨ j = 2 ∨ j = 3 by omega) with rfl | rfl | rfl | rfl
    · rw [st_ne (Or.inr (by decide)), e, q0]; rfl
    · rw [st_ne (Or.inr (by decide)), e, q1]; rfl
    · rw [st_ne (Or.inr (by decide)), e, q2]
      show _ = signOf (Int32.ofNat (sgC (b (tP b n c))))
      rcases hC.2 with z | z | z
      · rw [z]; rfl
      · rw [z]; rfl
      · rw [z]; rfl
    · rw [st_get]; rfl
  · have w4 := w3 u
    have hS3 := w4.1.1
    rw [if_neg u]
    exact w_nn (w_wI (n := 3) (SH_K40 hS3) rfl (SH_L40 hS3) (by decide) (w_rt ⟨fA, TM_f (w4.ok (f40 _ _) ok40)⟩))
theorem test1_m {al : Nat → Int32} {S0 S : St} {b : Nat → Nat} {n c F nt : Nat} {P : Int32} (h : MU al S0 S b n c F P) : Rn (fX12_aTest_19 32 (Int32.ofNat nt) 0 (some 40) S) (fun _ S' => FC GX S S' ∧ TM al S0 S' b n F P (tst1 nt b n c)) := by
  have hS := h.2.1.1
  have hk4 := mK_le b n c
  have hw : tw b n c ≤ 99 := rW_b b (tP b n c) (tN b n c - tP b n c)
  unfold fX12_aTest_19
  have m1 := h.ok (f40 0 (Int32.ofNat nt)) ok40
  have m2 := m1.ok (f40 1 (sI (stI S 40 0 (Int32.ofNat nt)) 32 8)) ok40
  have m3 := m2.ok (f40 2 61) ok40
  have m4 := m3.ok (f40 3 1) ok40
  have s1 := m1.2.1.1
  have s2 := m2.2.1.1
  have s3 := m3.2.1.1
  have s4 := m4.2.1.1
  refine w_nn (w_wI (n := 0) (SH_K40 hS) rfl (SH_L40 hS) (by decide) (w_gR (SH_K32 s1) (SH_R32_17 s1) (w_gI (SH_K32 s1) (w_nn (w_wI (n := 1) (SH_K40 s1) rfl (SH_L40 s1) (by decide) (w_gR (SH_K32 s2) (SH_R32_17 s2) (w_nn (w_wI (n := 2) (SH_K40 s2) rfl (SH_L40 s2) (by decide) (w_gR (SH_K32 s3) (SH_R32_17 s3) (w_nn (w_wI (n := 3) (SH_K40 s3) rfl (SH_L40 s3) (by decide) ?_)))))))))))
  have e8 : sI (stI S 40 0 (Int32.ofNat nt)) 32 8 = sI S 32 8 := by rw [st_ne (Or.inl (by decide))]
  rw [e8] at m4 s4 ⊢
  have f4 : FC (fun a _ => a = 40) S (stI (stI (stI (stI S 40 0 (Int32.ofNat nt)) 40 1 (sI S 32 8)) 40 2 61) 40 3 1) := (((f40 0 _).trans (f40 1 _)).trans (f40 2 _)).trans (f40 3 _)
  have x0 : sI (stI (stI (stI (stI S 40 0 (Int32.ofNat nt)) 40 1 (sI S 32 8)) 40 2 61) 40 3 1) 40 0 = Int32.ofNat nt := by rw [st_ne (Or.inr (by decide)), st_ne (Or.inr (by decide)), st_ne (Or.inr (by decide)), st_get]
  have x1 : sI (stI (stI (stI (stI S 40 0 (Int32.ofNat nt)) 40 1 (sI S 32 8)) 40 2 61) 40 3 1) 40 1 = sI S 32 8 := by rw [st_ne (Or.inr (by decide)), st_ne (Or.inr (by decide)), st_get]
  have x2 : sI (stI (stI (stI (stI S 40 0 (Int32.ofNat nt)) 40 1 (sI S 32 8)) 40 2 61) 40 3 1) 40 2 = 61 := by rw [st_ne (Or.inr (by decide)), st_get]
  have x3 : sI (stI (stI (stI (stI S 40 0 (Int32.ofNat nt)) 40 1 (sI S 32 8)) 40 2 61) 40 3 1) 40 3 = 1 := st_get
  generalize stI (stI (stI (stI S 40 0 (Int32.ofNat nt)) 40 1 (sI S 32 8)) 40 2 61) 40 3 1 = S4 at *
  have h74 : ¬ (tK b n c = 1 ∧ 10 ≤ tw b n c ∧ tw b n c ≤ 17) → Rn (fX12_aTest_74 32 S4) (fun _ S' => FC GX S S' ∧ TM al S0 S' b n F P (tst1 nt b n c)) := by
    intro hno
    have e : tst1 nt b n c = (false, tP b n c, fun _ => 0) := by
      unfold tst1
      rw [if_neg (fun z => hno ⟨z.1, by rw [z.2]; decide, by rw [z.2]; decide⟩), if_neg (fun z => hno ⟨z.1, by omega, by omega⟩)]
    rw [e]
    unfold fX12_aTest_74
    refine w_ck (SH_K32 s4) (w_clr (stops_m m4) ?_)
    rintro _ S5 ⟨f5, w5⟩
    exact w_rt ⟨f4.g40.trans f5.gx, TM_f w5⟩
  refine w_gIe (SH_K32 s4) m4.2.2.2.2.1 (w_bt rfl (w_gIe (SH_K32 s4) m4.2.2.2.1.2.2.1 (w_br (fun u => ?_) (fun u => h74 ?_))))
  · rw [show (3 : Int32) = Int32.ofNat 3 from rfl, eq_ofNat (by omega) (by omega)] at u
    obtain ⟨k1, k9⟩ := mK_3 u
    have e8' : sI S4 32 8 = Int32.ofNat (tw b n c) := m4.2.2.2.1.2.2.2.2.2 k1
    have e8S : sI S 32 8 = Int32.ofNat (tw b n c) := h.2.2.2.1.2.2.2.2.2 k1
    refine w_gIe (SH_K32 s4) e8' (w_cl (isIn_eq _ _ _ _) ?_)
    rw [show (10 : Int32) = Int32.ofNat 10 from rfl, show (17 : Int32) = Int32.ofNat 17 from rfl, wi_ofNat (by omega) (by omega) (by omega)]
    refine w_z (fun v => ?_) (fun v => h74 (fun z => of_decide_eq_false v z.2))
    have v := of_decide_eq_true v
    refine w_ck (SH_K32 s4) (w_clr (mstep_m m4) ?_)
    rintro _ S5 ⟨f5, m5⟩
    have s5 := m5.2.1.1
    have e5 : ∀ j, sI S5 40 j = sI S4 40 j := fun j => f5.2.2.2.2.2.2 40 j (by omega) (by omega)
    refine w_gR (SH_K32 s5) (SH_R32_17 s5) (w_nn (w_aIe (n := 1) (v := Int32.ofNat (tw b n c)) (SH_K40 s5) rfl (SH_L40 s5) (by decide) (by rw [e5, x1, e8S]) (w_br (fun z => ?_) (fun z => ?_))))
    · rw [eq_ofNat (by omega) (by omega)] at z
      have e : tst1 nt b n c = (true, tN b n c, rowT nt 7 2 1) := by unfold tst1; exact if_pos ⟨k1, z⟩
      rw [e]
      refine w_rt ⟨f4.g40.trans f5.gx, fun _ => ⟨m5, fun j hj => ?_⟩, fun z => absurd (show true = false from z) (by decide)⟩
      rcases (show j = 0 ∨ j = 1 ∨ j = 2 ∨ j = 3 by omega) with rfl | rfl | rfl | rfl
      · rw [e5, x0]; rfl
      · rw [e5, x1, e8S, z]; rfl
      · rw [e5, x2]; rfl
      · rw [e5, x3]; rfl
    · rw [eq_ofNat (by omega) (by omega)] at z
      have e : tst1 nt b n c = tst3 nt (tw b n c - 11) b n (tN b n c) := by
        unfold tst1
        rw [if_neg (fun q => z q.2), if_pos ⟨k1, by omega, by omega⟩]
      rw [e]
      have m6 := m5.ok (f40 2 (sI S5 32 7)) ok40
      have s6 := m6.2.1.1
      have fA : FC GX S (stI S5 40 2 (sI S5 32 7)) := (f4.g40.trans f5.gx).trans (f40 _ _).g40
      have y0 : sI (stI S5 40 2 (sI S5 32 7)) 40 0 = Int32.ofNat nt := by rw [st_ne (Or.inr (by decide)), e5, x0]
      have y1 : sI (stI S5 40 2 (sI S5 32 7)) 40 1 = kindOf (Int32.ofNat (tw b n c - 11)) := by rw [st_ne (Or.inr (by decide)), e5, x1, e8S, kind_of _ (by omega) (by omega)]
      have y2 : tK b n (tN b n c) = 3 → sI (stI S5 40 2 (sI S5 32 7)) 40 2 = Int32.ofNat (b (tP b n (tN b n c))) := fun q => by rw [st_get]; exact m5.2.2.2.1.2.2.2.2.1 q
      refine w_gR (SH_K32 s5) (SH_R32_17 s5) (w_gI (SH_K32 s5) (w_nn (w_wI (n := 2) (SH_K40 s5) rfl (SH_L40 s5) (by decide) ?_)))
      generalize stI S5 40 2 (sI S5 32 7) = S6 at *
      refine w_ck (SH_K32 s6) (w_cl (isSign_m (y := 60) m6 (by decide)) (w_z (fun p => ?_) (fun p0 => ?_)))
      · have p := of_decide_eq_true p
        exact test137_m m6 fA ⟨p.1, Or.inl p.2⟩ y0 y1 (y2 p.1)
      refine w_ck (SH_K32 s6) (w_cl (isSign_m (y := 62) m6 (by decide)) (w_z (fun p => ?_) (fun p1 => ?_)))
      · have p := of_decide_eq_true p
        exact test137_m m6 fA ⟨p.1, Or.inr (Or.inl p.2)⟩ y0 y1 (y2 p.1)
      refine w_ck (SH_K32 s6) (w_cl (isSign_m (y := 61) m6 (by decide)) (w_z (fun p => ?_) (fun p2 => ?_)))
      · have p := of_decide_eq_true p
        exact test137_m m6 fA ⟨p.1, Or.inr (Or.inr p.2)⟩ y0 y1 (y2 p.1)
      have e3 : tst3 nt (tw b n c - 11) b n (tN b n c) = (false, tP b n (tN b n c), fun _ => 0) := by
        unfold tst3
        rw [if_neg]
        rintro ⟨q, q1 | q1 | q1⟩
        · exact of_decide_eq_false p0 ⟨q, q1⟩
        · exact of_decide_eq_false p1 ⟨q, q1⟩
        · exact of_decide_eq_false p2 ⟨q, q1⟩
      rw [e3]
      refine w_ck (SH_K32 s6) (w_clr (stops_m m6) ?_)
      rintro _ S7 ⟨f7, w7⟩
      exact w_rt ⟨fA.trans f7.gx, TM_f w7⟩
  · rw [show (3 : Int32) = Int32.ofNat 3 from rfl, eq_ofNat (by omega) (by omega)] at u
    rintro ⟨z1, z2, z3⟩
    apply u
    have z3 : rW b (tP b n c) (tN b n c - tP b n c) ≤ 17 := z3
    rw [mK, if_neg (by omega), if_pos z1, if_neg (by omega)]
theorem test_m {al : Nat → Int32} {S0 S : St} {b : Nat → Nat} {n c F : Nat} {P : Int32} (h : MU al S0 S b n c F P) : Rn (fX12_aTest 32 S) (fun _ S' => FC GX S S' ∧ TM al S0 S' b n F P (tst b n c)) := by
  have hS := h.2.1.1
  unfold fX12_aTest tst
  refine w_gR (SH_K32 hS) (SH_R32_17 hS) (w_ck (SH_K32 hS) (w_clr (takes_g (w := 32) h (by decide)) ?_))
  rintro r S1 ⟨f1, er, m1, e1⟩
  refine w_z (fun u => ?_) (fun u => ?_)
  · have o := of_decide_eq_true (er.symm.trans u)
    rw [if_pos o]
    refine Rn.mono (test1_m (nt := 1) (m1 u)) ?_
    rintro _ S2 ⟨f2, t2⟩
    exact ⟨f1.gx.trans f2, t2⟩
  · have o := of_decide_eq_false (er.symm.trans u)
    have e1 := e1 u
    subst e1
    rw [if_neg o]
    exact test1_m (nt := 0) h
