theorem PC_t {S : St} {b : Nat → Nat} {n c D F : Nat} {P : Int32} {g : CT} {hu re : Nat → Nat} (h : CIp S b n c D F P g hu re) : PC S b n (true, (c, D, F, P, g, hu, re)) := ⟨fun _ => h, fun z => absurd (show true = false from z) (by decide)⟩
theorem PC_f {S : St} {b : Nat → Nat} {n c D : Nat} {P : Int32} {g : CT} {hu re : Nat → Nat} (h1 : RD S 11 b n) (h2 : sI S 11 3 = 1) (h3 : sI S 11 4 = P) : PC S b n (false, (c, D, 1, P, g, hu, re)) := ⟨fun z => absurd (show false = true from z) (by decide), fun _ => ⟨h1, h2, h3, rfl⟩⟩
theorem CA.fc {S S1 : St} {D : Nat} {g : CT} {hu re : Nat → Nat} (h : CA S D g hu re) {X : Nat → Nat → Prop} (hF : FC X S S1) (hx : ∀ a j, 12 ≤ a → a ≤ 14 → ¬ X a j) : CA S1 D g hu re := by
  obtain ⟨k1, k2, k3, k4⟩ := h
  exact ⟨k1, fun l t k q1 q2 q3 => by rw [hF.i (hx 12 _ (by decide) (by decide))]; exact k2 l t k q1 q2 q3, fun l hl => by rw [hF.i (hx 13 _ (by decide) (by decide))]; exact k3 l hl, fun l q1 q2 => by rw [hF.i (hx 14 _ (by decide) (by decide))]; exact k4 l q1 q2⟩
theorem CA.tx {S S1 : St} {D : Nat} {g : CT} {hu re : Nat → Nat} (h : CA S D g hu re) (hF : FC (TX 11) S S1) : CA S1 D g hu re := h.fc hF (fun a j _ _ z => by have := z.1; omega)
def NX (a j : Nat) : Prop := a = 11 ∧ (j = 3 ∨ j = 4)
theorem NX.xp {a j : Nat} (h : NX a j) : XP a j := by have := h.1; have := h.2; unfold XP; omega
theorem RT.nx {S S1 : St} {n c : Nat} {b : Nat → Nat} (t : RT S 11 b n c) (hF : FC NX S S1) : RT S1 11 b n c := by
  obtain ⟨t1, t2, t3, t4⟩ := t
  exact ⟨by rw [hF.i (by unfold NX; omega)]; exact t1, by rw [hF.i (by unfold NX; omega)]; exact t2, by rw [hF.i (by unfold NX; omega)]; exact t3, by rw [hF.i (by unfold NX; omega)]; exact t4⟩
theorem RT.fc {S S1 : St} {n c : Nat} {b : Nat → Nat} {X : Nat → Nat → Prop} (t : RT S 11 b n c) (hF : FC X S S1) (hx : ∀ j, ¬ X 11 j) : RT S1 11 b n c := by
  obtain ⟨t1, t2, t3, t4⟩ := t
  exact ⟨by rw [hF.i (hx _)]; exact t1, by rw [hF.i (hx _)]; exact t2, by rw [hF.i (hx _)]; exact t3, by rw [hF.i (hx _)]; exact t4⟩
/-- the closing step of an item -/
theorem fin_x {S0 S : St} {b : Nat → Nat} {n c D F : Nat} {P : Int32} {g : CT} {hu re : Nat → Nat} (hF : FC XP S0 S) (hd : RD S 11 b n) (hc : c ≤ n) (ht : RT S 11 b n c) (hDc : D ≤ tN b n c) (h1 : sI S 10 1 = Int32.ofNat D) (h3 : sI S 11 3 = Int32.ofNat F) (hF4 : F ≤ 4) (h4 : sI S 11 4 = P) (hA : F = 0 → CA S D g hu re) : Rn (fX6_readColour_77 10 S) (fun r S' => r = true ∧ FC XP S0 S' ∧ CIp S' b n (tN b n c) D F P g hu re) := by
  unfold fX6_readColour_77
  have hS := hd.1
  refine w_gR (SH_K10 hS) (SH_R10_0 hS) (w_nn (w_ck (SH_K11 hS) (w_clr (step_x hd (tN_b hc).2.1 ht.2.2.2) ?_)))
  rintro _ S1 ⟨f1, t1⟩
  refine w_r1 ⟨rfl, hF.trans (f1.mono (fun a j z => XP.tx z)), hd.tx f1, (tN_b hc).2.1, t1, hDc, ?_, ?_, hF4, ?_, fun z => (hA z).tx f1⟩
  · rw [f1.i (by unfold TX; omega)]; exact h1
  · rw [f1.i (by unfold TX; omega)]; exact h3
  · rw [f1.i (by unfold TX; omega)]; exact h4
theorem CA.hue {S : St} {D v : Nat} {g : CT} {hu re : Nat → Nat} (h : CA S D g hu re) (hv : v < 5) : CA (stI S 13 D (Int32.ofNat v)) D g (up hu D v) re := by
  obtain ⟨k1, k2, k3, k4⟩ := h
  refine ⟨k1, fun l t k q1 q2 q3 => by rw [st_ne (Or.inl (by decide))]; exact k2 l t k q1 q2 q3, fun l hl => ?_, fun l q1 q2 => by rw [st_ne (Or.inl (by decide))]; exact k4 l q1 q2⟩
  unfold up
  by_cases e : l = D
  · rw [if_pos e, e, st_get]; exact ⟨rfl, hv⟩
  · rw [if_neg e, st_ne (Or.inr e)]; exact k3 l hl
theorem col54_x {S0 S : St} {b : Nat → Nat} {n c D F : Nat} {P : Int32} {g : CT} {hu re : Nat → Nat} (hF : FC XP S0 S) (hd : RD S 11 b n) (hc : c ≤ n) (ht : RT S 11 b n c) (hDc : D ≤ c) (h1 : sI S 10 1 = Int32.ofNat D) (h3 : sI S 11 3 = Int32.ofNat F) (hF4 : F ≤ 4) (h4 : sI S 11 4 = P) (hA : F = 0 → CA S D g hu re ∧ tV b n c ≤ 3) : Rn (fX6_readColour_54 10 S) (fun r S' => r = true ∧ FC XP S0 S' ∧ CIp S' b n (tN b n c) D F P g (up hu D (tV b n c)) re) := by
  have hS := hd.1
  have h400 := hd.2.2.2.2.1
  have hn := tN_b (b := b) hc
  have hp := tP_b (b := b) hc
  unfold fX6_readColour_54
  refine w_ck (SH_K10 hS) (w_cl (counting_x hS h1 h3 hF4 (by omega)) (w_z (fun u => ?_) (fun u => ?_)))
  · have u := of_decide_eq_true u
    obtain ⟨a1, a2⟩ := hA u.1
    refine w_gR (SH_K10 hS) (SH_R10_3 hS) (w_gIe (SH_K10 hS) h1 (w_gR (SH_K10 hS) (SH_R10_0 hS) (w_nn (w_gIe (SH_K11 hS) ht.2.1 (w_nn (w_wI (SH_K13 hS) rfl (SH_L13 hS) (by omega) ?_))))))
    have f1 : FC XP S (stI S 13 D (Int32.ofNat (tV b n c))) := FC.rfl.st _ (by unfold XP; omega)
    refine fin_x (hF.trans f1) (hd.xp f1) hc ?_ (by omega) ?_ ?_ hF4 ?_ (fun _ => a1.hue (by omega))
    · obtain ⟨t1, t2, t3, t4⟩ := ht
      exact ⟨by rw [st_ne (Or.inl (by decide))]; exact t1, by rw [st_ne (Or.inl (by decide))]; exact t2, by rw [st_ne (Or.inl (by decide))]; exact t3, by rw [st_ne (Or.inl (by decide))]; exact t4⟩
    · rw [st_ne (Or.inl (by decide))]; exact h1
    · rw [st_ne (Or.inl (by decide))]; exact h3
    · rw [st_ne (Or.inl (by decide))]; exact h4
  · have u := of_decide_eq_false u
    have hF0 : F ≠ 0 := fun z => u ⟨z, (hA z).1.1⟩
    exact fin_x hF hd hc ht (by omega) h1 h3 hF4 h4 (fun z => absurd z hF0)
theorem ntF_le {F f : Nat} (h1 : F ≤ 4) (h2 : f ≤ 4) : ntF F f ≤ 4 := by unfold ntF; split <;> omega
theorem ntF_ne {F f : Nat} (h2 : f ≠ 0) : ntF F f ≠ 0 := by unfold ntF; split <;> omega
theorem col_x {S : St} {b : Nat → Nat} {n c D F : Nat} {P : Int32} {g : CT} {hu re : Nat → Nat} (h : CIp S b n c D F P g hu re) : Rn (fX6_readColour 10 S) (fun r S' => r = (colI b n c D F P g hu re).1 ∧ FC XP S S' ∧ PC S' b n (colI b n c D F P g hu re)) := by
  obtain ⟨hd, hc, ht, hDc, h1, h3, hF4, h4, hA⟩ := h
  have hS := hd.1
  have hn := tN_b (b := b) hc
  have hp := tP_b (b := b) hc
  have hk := tK_le b n (tN b n c)
  have hv := tV_b (b := b) hn.2.1
  unfold fX6_readColour
  refine w_gR (SH_K10 hS) (SH_R10_0 hS) (w_nn (w_ck (SH_K11 hS) (w_clr (step_x hd hn.2.1 ht.2.2.2) ?_)))
  rintro _ S1 ⟨f1, t1⟩
  have d1 := hd.tx f1
  have s1 := d1.1
  have fx1 : FC XP S S1 := f1.mono (fun a j z => XP.tx z)
  have g1 : sI S1 10 1 = Int32.ofNat D := by rw [f1.i (by unfold TX; omega)]; exact h1
  have g3 : sI S1 11 3 = Int32.ofNat F := by rw [f1.i (by unfold TX; omega)]; exact h3
  have g4 : sI S1 11 4 = P := by rw [f1.i (by unfold TX; omega)]; exact h4
  refine w_gR (SH_K10 s1) (SH_R10_0 s1) (w_nn (w_gIe (SH_K11 s1) t1.1 (w_br (fun u => ?_) (fun u => ?_))))
  · rw [show (2 : Int32) = Int32.ofNat 2 from rfl, eq_ofNat (by omega) (by omega)] at u
    refine w_gR (SH_K10 s1) (SH_R10_0 s1) (w_nn (w_gIe (SH_K11 s1) t1.2.1 (w_cl (isColour_eq _ S1) ?_)))
    rw [show (0 : Int32) = Int32.ofNat 0 from rfl, show (3 : Int32) = Int32.ofNat 3 from rfl, wi_ofNat (by omega) (by omega) (by omega)]
    refine w_z (fun v => ?_) (fun v => ?_)
    · have v := (of_decide_eq_true v).2
      refine Rn.mono (col54_x fx1 d1 hn.2.1 t1 (by omega) g1 g3 hF4 g4 (fun z => ⟨(hA z).tx f1, v⟩)) ?_
      rintro r S2 ⟨e1, e2, e3⟩
      rw [colI, if_pos u, if_pos v, if_pos v]
      exact ⟨e1, e2, PC_t e3⟩
    · have v : ¬ tV b n (tN b n c) ≤ 3 := fun z => of_decide_eq_false v ⟨Nat.zero_le _, z⟩
      refine w_gR (SH_K10 s1) (SH_R10_0 s1) (w_gR (SH_K10 s1) (SH_R10_0 s1) (w_nn (w_gIe (SH_K11 s1) t1.2.2.1 (w_nn (w_ck (SH_K11 s1) (w_clr (note_x (f := 2) d1 g3 hF4 g4) ?_))))))
      rintro _ S2 ⟨f2, n3, n4⟩
      have f2 : FC NX S1 S2 := f2
      have fx2 : FC XP S1 S2 := f2.mono (fun a j z => z.xp)
      refine Rn.mono (col54_x (c := tN b n c) (D := D) (g := g) (hu := hu) (re := re) (fx1.trans fx2) (d1.xp fx2) hn.2.1 (t1.nx f2) (by omega) (by rw [f2.i (by unfold NX; omega)]; exact g1) n3 (ntF_le hF4 (by omega)) n4 (fun z => absurd z (ntF_ne (by omega)))) ?_
      rintro r S3 ⟨e1, e2, e3⟩
      rw [colI, if_pos u, if_neg v, if_neg v]
      exact ⟨e1, e2, PC_t e3⟩
  · rw [show (2 : Int32) = Int32.ofNat 2 from rfl, eq_ofNat (by omega) (by omega)] at u
    refine w_gR (SH_K10 s1) (SH_R10_0 s1) (w_nn (w_ck (SH_K11 s1) (w_clr (fail_x d1 t1) ?_)))
    rintro r S2 ⟨rfl, f2, d2, n3, n4⟩
    have f2 : FC NX S1 S2 := f2
    rw [colI, if_neg u]
    exact w_rb ⟨rfl, fx1.trans (f2.mono (fun a j z => z.xp)), PC_f d2 n3 n4⟩
theorem sti_x {S : St} {b : Nat → Nat} {n c D F t : Nat} {P : Int32} {g : CT} {hu re : Nat → Nat} (h : CIp S b n c D F P g hu re) (ht6 : t < 6) : Rn (fX6_readStitches 10 (Int32.ofNat t) S) (fun r S' => r = (stiI t b n c D F P g hu re).1 ∧ FC XP S S' ∧ PC S' b n (stiI t b n c D F P g hu re)) := by
  obtain ⟨hd, hc, ht, hDc, h1, h3, hF4, h4, hA⟩ := h
  have hS := hd.1
  have h400 := hd.2.2.2.2.1
  have hn := tN_b (b := b) hc
  have hn2 := tN_b (b := b) hn.2.1
  have hp2 := tP_b (b := b) hn.2.1
  have hp := tP_b (b := b) hc
  have hk := tK_le b n (tN b n c)
  have hv := tV_b (b := b) hn.2.1
  unfold fX6_readStitches
  refine w_gR (SH_K10 hS) (SH_R10_0 hS) (w_nn (w_ck (SH_K11 hS) (w_clr (step_x hd hn.2.1 ht.2.2.2) ?_)))
  rintro _ S1 ⟨f1, t1⟩
  have d1 := hd.tx f1
  have s1 := d1.1
  have fx1 : FC XP S S1 := f1.mono (fun a j z => XP.tx z)
  have g1 : sI S1 10 1 = Int32.ofNat D := by rw [f1.i (by unfold TX; omega)]; exact h1
  have g3 : sI S1 11 3 = Int32.ofNat F := by rw [f1.i (by unfold TX; omega)]; exact h3
  have g4 : sI S1 11 4 = P := by rw [f1.i (by unfold TX; omega)]; exact h4
  refine w_gR (SH_K10 s1) (SH_R10_0 s1) (w_nn (w_gIe (SH_K11 s1) t1.1 (w_br (fun u => ?_) (fun u => ?_))))
  · rw [show (2 : Int32) = Int32.ofNat 2 from rfl, eq_ofNat (by omega) (by omega)] at u
    refine w_ck (SH_K10 s1) (w_cl (counting_x s1 g1 g3 hF4 (by omega)) (w_z (fun v => ?_) (fun v => ?_)))
    · have v := of_decide_eq_true v
      obtain ⟨a1, a2, a3, a4⟩ := (hA v.1).tx f1
      obtain ⟨b1, b2⟩ := a3 D (Nat.le_refl _)
      refine w_gIe (SH_K10 s1) g1 (w_gR (SH_K10 s1) (SH_R10_3 s1) (w_gIe (SH_K10 s1) g1 (w_nn (w_aIe (SH_K13 s1) rfl (SH_L13 s1) (by omega) b1 (w_gR (SH_K10 s1) (SH_R10_0 s1) (w_nn (w_gIe (SH_K11 s1) t1.2.1 (w_ck (SH_K10 s1) ?_))))))))
      rw [J_of (by omega)]
      refine w_clr (addTo_x (z := tV b n (tN b n c)) s1 a2 (Nat.le_refl _) a1 ht6 b2 (by omega) (by omega)) ?_
      rintro _ S2 ⟨f2, A2⟩
      have fx2 : FC XP S1 S2 := f2.mono (fun a j (z : a = 12) => by unfold XP; omega)
      refine Rn.mono (fin_x (fx1.trans fx2) (d1.xp fx2) hn.2.1 (t1.fc f2 (by intro j; unfold X12; omega)) (D := D) (F := F) (P := P) (g := ad g D t (hu D) (tV b n (tN b n c))) (hu := hu) (re := re) (by omega) (by rw [f2.i (by unfold X12; omega)]; exact g1) (by rw [f2.i (by unfold X12; omega)]; exact g3) hF4 (by rw [f2.i (by unfold X12; omega)]; exact g4) (fun _ => ⟨a1, A2, fun l hl => by rw [f2.i (by unfold X12; omega)]; exact a3 l hl, fun l q1 q2 => by rw [f2.i (by unfold X12; omega)]; exact a4 l q1 q2⟩)) ?_
      rintro r S3 ⟨e1, e2, e3⟩
      rw [stiI, if_pos u]
      exact ⟨e1, e2, PC_t e3⟩
    · have v := of_decide_eq_false v
      have hF0 : F ≠ 0 := fun z => v ⟨z, (hA z).1⟩
      refine Rn.mono (fin_x fx1 d1 hn.2.1 t1 (D := D) (F := F) (P := P) (g := ad g D t (hu D) (tV b n (tN b n c))) (hu := hu) (re := re) (by omega) g1 g3 hF4 g4 (fun z => absurd z hF0)) ?_
      rintro r S3 ⟨e1, e2, e3⟩
      rw [stiI, if_pos u]
      exact ⟨e1, e2, PC_t e3⟩
  · rw [show (2 : Int32) = Int32.ofNat 2 from rfl, eq_ofNat (by omega) (by omega)] at u
    refine w_gR (SH_K10 s1) (SH_R10_0 s1) (w_nn (w_ck (SH_K11 s1) (w_clr (fail_x d1 t1) ?_)))
    rintro r S2 ⟨rfl, f2, d2, n3, n4⟩
    have f2 : FC NX S1 S2 := f2
    rw [stiI, if_neg u]
    exact w_rb ⟨rfl, fx1.trans (f2.mono (fun a j z => z.xp)), PC_f d2 n3 n4⟩
