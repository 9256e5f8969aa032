-- lists: tests and all lines, in the reference
theorem GX.n39 {j : Nat} : ¬ GX 39 j := fun z => by unfold GX at z; omega
theorem GX.n15 : ¬ GX 32 15 := fun z => by unfold GX at z; omega
theorem FQ.n39 {S S1 : St} (h : FQ S S1) (j : Nat) : sI S1 39 j = sI S 39 j := h.2.2.2.2.2.2 39 j (by omega) (by omega)
theorem FQ.n15 {S S1 : St} (h : FQ S S1) : sI S1 32 15 = sI S 32 15 := h.2.2.2.2.2.2 32 15 (by omega) (by omega)
theorem tests_m {al : Nat → Int32} {S0 S : St} {b : Nat → Nat} {n c c0 F L tp : Nat} {P : Int32} {d : Nat → Nat → Nat} (h : MU al S0 S b n c F P) (hL : L ≤ 400) (hLc : L ≤ c) (h15 : sI S 32 15 = Int32.ofNat L) (htp : tp ≤ 5) (hE : F = 0 → L < 16 ∧ MDf (sI S 39) L d) : Rn (itr (fun k (p : Nat × Int32 × Int32 × Int32) => fX12_aLine_72 k p.1 p.2.1 p.2.2.1 p.2.2.2) FU (32, Int32.ofNat tp, 0, 1) S) (fun _ S' => LM al S0 S' b n (lin2 b n c0 L tp d (tsts b n (n + 1) (c, 0, F, P, fun _ _ => 0)))) := by
  have h400 := h.2.1.2.2.1
  have hcn := h.2.2.1
  have hRc := tsts_c (b := b) (n := n) (n + 1) (c, 0, F, P, fun _ _ => 0) hcn
  generalize hR : tsts b n (n + 1) (c, 0, F, P, fun _ _ => 0) = R at *
  refine w_itr (fun m p S' => sI S' 32 15 = Int32.ofNat L ∧ ((∃ (s : TS) (f : Nat), p = ((32 : Nat), Int32.ofNat tp, Int32.ofNat s.2.1, (1 : Int32)) ∧ MU al S0 S' b n s.1 s.2.2.1 s.2.2.2.1 ∧ s.2.1 ≤ s.1 ∧ (s.2.2.1 = 0 → ME S' L s.2.1 s.2.2.2.2 ∧ MDf (sI S' 39) L d) ∧ tsts b n f s = R ∧ n + 1 ≤ f + s.1 ∧ m = f + 1) ∨ (p = ((32 : Nat), Int32.ofNat tp, Int32.ofNat R.2.2.1, (0 : Int32)) ∧ 1 ≤ m ∧ R.1 = true ∧ MU al S0 S' b n R.2.1 R.2.2.2.1 R.2.2.2.2.1 ∧ (R.2.2.2.1 = 0 → ME S' L R.2.2.1 R.2.2.2.2.2 ∧ MDf (sI S' 39) L d)) ∨ (∃ x, p = ((32 : Nat), Int32.ofNat tp, x, (0 : Int32)) ∧ 1 ≤ m ∧ R.1 = false ∧ WU al S0 S' R.2.2.2.2.1))) ?_ ?_ (n + 2) FU _ _ (by unfold FU; omega) ⟨h15, Or.inl ⟨(c, 0, F, P, fun _ _ => 0), n + 1, rfl, h, Nat.zero_le _, fun z => ⟨⟨(hE z).1, Nat.zero_le _, fun t j ht => absurd ht (Nat.not_lt_zero _)⟩, (hE z).2⟩, hR, Nat.le_add_right _ _, rfl⟩⟩
  · rintro p S' ⟨_, ⟨s, f, _, _, _, _, _, _, q⟩ | ⟨_, q, _⟩ | ⟨x, _, q, _⟩⟩
    · omega
    · omega
    · omega
  rintro m k p S1 ⟨i1, ⟨s, f, rfl, m1, hks, hE1, hT, hf, hm⟩ | ⟨rfl, _, r1, m1, hE1⟩ | ⟨x, rfl, _, r1, w1⟩⟩ hk
  · have hsn := m1.2.2.1
    obtain ⟨f0, rfl⟩ : ∃ f0, f = f0 + 1 := ⟨f - 1, by omega⟩
    rw [tsts] at hT
    have h90 : ∀ S2 F2 P2, FQ S1 S2 → MU al S0 S2 b n s.1 F2 P2 → F2 = tsF s.2.1 s.2.2.1 → P2 = tsP s.2.1 s.2.2.1 s.2.2.2.1 (Int32.ofNat (tP b n s.1)) → Rn (fX12_aLine_90 k 32 (Int32.ofNat tp) (Int32.ofNat s.2.1) S2) (fun _ S' => LM al S0 S' b n (lin2 b n c0 L tp d R)) := by
      rintro S2 F2 P2 f2 m2 eF eP
      dsimp only [fX12_aLine_90]
      refine w_ck m2.2.1.k (w_clr (test_m m2) ?_)
      rintro _ S3 ⟨f3, t3⟩
      have i3 : sI S3 32 15 = Int32.ofNat L := by rw [f3.i GX.n15, f2.n15]; exact i1
      have s3 : SH S3 := f3.sh m2.2.1.1
      refine cpy_m s3 i3 hL (by omega) (fun S4 f4 a4 b4 => ?_)
      have i4 : sI S4 32 15 = Int32.ofNat L := by rw [f4.i (G39.n (by decide))]; exact i3
      have e4 : ∀ j, ¬ (19 * L + (2 + 4 * s.2.1) ≤ j ∧ j < 19 * L + (6 + 4 * s.2.1)) → sI S4 39 j = sI S1 39 j := fun j hj => by rw [b4 j hj, f3.i GX.n39, f2.n39]
      dsimp only [fX12_aLine_133]
      by_cases u : (tst b n s.1).1 = true
      · rw [if_pos u] at hT
        obtain ⟨m3, r3⟩ := t3.1 u
        have m4 := m3.ok f4 ok39
        have hcc := tst_c hsn u
        have hE4 : tsF s.2.1 s.2.2.1 = 0 → ME S4 L (s.2.1 + 1) (upT s.2.2.2.2 s.2.1 (tst b n s.1).2.2) ∧ MDf (sI S4 39) L d := by
          intro z
          obtain ⟨z1, z2⟩ := tsF_z z
          obtain ⟨⟨q1, q2, q3⟩, q4⟩ := hE1 z2
          refine ⟨⟨q1, by omega, fun t j ht hj => ?_⟩, q4.cg (fun j hj => e4 j (by omega))⟩
          unfold upT
          by_cases e : t = s.2.1
          · rw [if_pos e, e, a4 q1 z1 j hj]; exact r3 j hj
          · rw [if_neg e, e4 _ (by omega)]; exact q3 t j (by omega) hj
        rw [eF, eP] at m4
        have m4 : MU al S0 S4 b n (tsN b n s).1 (tsN b n s).2.2.1 (tsN b n s).2.2.2.1 := m4
        refine w_ck m4.2.1.k (w_clr (takes_g (w := 31) m4 (by decide)) ?_)
        rintro r S5 ⟨f5, er, m5, e5⟩
        have i5 : sI S5 32 15 = Int32.ofNat L := by rw [f5.n15]; exact i4
        have hcc1 : s.1 < (tsN b n s).1 := hcc.1
        by_cases v : isW b n (tsN b n s).1 31
        · rw [if_pos v] at hT
          have er : r = true := er.trans (decide_eq_true v)
          have m6 := m5 er
          subst er
          have hpp := tP_b (b := b) m4.2.2.1
          have hl := tK1_le m4.2.2.1 v.1
          have hl1 : (tsN b n s).1 < tN b n (tsN b n s).1 := by omega
          rw [succ32]
          refine hk _ _ ⟨i5, Or.inl ⟨(tN b n (tsN b n s).1, (tsN b n s).2), f0, rfl, m6, ?_, fun z => ?_, hT, ?_, by omega⟩⟩
          · show s.2.1 + 1 ≤ tN b n (tsN b n s).1; omega
          · obtain ⟨⟨q1, q2, q3⟩, q4⟩ := hE4 z
            exact ⟨⟨q1, q2, fun t j ht hj => by rw [f5.n39]; exact q3 t j ht hj⟩, q4.cg (fun j hj => f5.n39 j)⟩
          · show n + 1 ≤ f0 + tN b n (tsN b n s).1; omega
        · rw [if_neg v] at hT
          have er : r = false := er.trans (decide_eq_false v)
          have e6 := e5 er
          subst er
          subst e6
          rw [succ32]
          rw [← hT] at hk ⊢
          exact hk _ _ ⟨i5, Or.inr (Or.inl ⟨rfl, by omega, rfl, m4, hE4⟩)⟩
      · rw [if_neg u] at hT
        have w3 := t3.2 (Bool.eq_false_iff.mpr u)
        have w4 := w3.ok f4 ok39
        refine w_ck (SH_K32 w4.1.1) (w_cl (takes_w w4 _) ?_)
        rw [← hT] at hk ⊢
        exact hk _ _ ⟨i4, Or.inr (Or.inr ⟨_, rfl, by omega, rfl, w4⟩)⟩
    dsimp only [fX12_aLine_72]
    refine w_bf (by decide) (w_br (fun u => ?_) (fun u => ?_))
    · rw [show (3 : Int32) = Int32.ofNat 3 from rfl, le_ofNat (by omega) (by omega)] at u
      exact h90 S1 _ _ FQ.rfl m1 (by rw [tsF, if_pos (by omega)]) (by rw [tsP, if_pos (by omega)])
    · rw [show (3 : Int32) = Int32.ofNat 3 from rfl, le_ofNat (by omega) (by omega)] at u
      refine w_gIe m1.2.1.k m1.2.2.2.1.2.1 (w_ck m1.2.1.k (w_clr (also_m (f := 3) m1 (by decide)) ?_))
      rintro _ S2 ⟨f2, m2⟩
      exact h90 S2 _ _ f2 m2 (by rw [tsF, if_neg (by omega)]) (by rw [tsP, if_neg (by omega)])
  · dsimp only [fX12_aLine_72]
    have e3 : lin2 b n c0 L tp d R = lin3 c0 L tp R.2.2.1 R.2.2.2.2.2 d (nbr b n R.2.1 tp R.2.2.2.1 R.2.2.2.2.1) := by unfold lin2; exact if_pos r1
    rw [e3]
    have hq : c < R.2.1 := (hRc r1).1
    exact w_bt rfl (nb_m m1 hL (by omega) i1 htp hE1)
  · dsimp only [fX12_aLine_72]
    have e3 : lin2 b n c0 L tp d R = (false, (c0, L, 1, R.2.2.2.2.1, d)) := by unfold lin2; exact if_neg (by rw [r1]; decide)
    rw [e3]
    refine w_bt rfl (Rn.mono (n146_w _ _ w1 i1 hL) ?_)
    rintro _ S2 w2
    exact LM_f w2
theorem line_m {al : Nat → Int32} {S0 S : St} {b : Nat → Nat} {n : Nat} {s : LSt} (h : MLs al S0 S b n s) : Rn (fX12_aLine 32 S) (fun _ S' => LM al S0 S' b n (lin b n s)) := by
  obtain ⟨c, L, F, P, d⟩ := s
  obtain ⟨h0, hLc, h15, hD⟩ := h
  have h0 : MU al S0 S b n c F P := h0
  have hLc : L ≤ c := hLc
  have h15 : sI S 32 15 = Int32.ofNat L := h15
  have hD : F = 0 → MDf (sI S 39) L d := hD
  have h400 := h0.2.1.2.2.1
  have hc := h0.2.2.1
  have hp := tP_b (b := b) hc
  have hn := tN_b (b := b) hc
  have hn2 := tN_b (b := b) hn.2.1
  have hp2 := tP_b (b := b) hn.2.1
  have hk4 := mK_le b n c
  have hw : tw b n c ≤ 99 := rW_b b (tP b n c) (tN b n c - tP b n c)
  have h18 : ∀ S1 F1 P1, FQ S S1 → MU al S0 S1 b n c F1 P1 → F1 = lnFf L F → P1 = lnPf L F P (Int32.ofNat (tP b n c)) → Rn (fX12_aLine_18 32 S1) (fun _ S' => LM al S0 S' b n (lin b n (c, L, F, P, d))) := by
    rintro S1 F1 P1 f1 m1 rfl rfl
    have i1 : sI S1 32 15 = Int32.ofNat L := by rw [f1.n15]; exact h15
    have h45 : ¬ isT b n c → Rn (fX12_aLine_45 32 S1) (fun _ S' => LM al S0 S' b n (lin b n (c, L, F, P, d))) := by
      intro t
      have el : lin b n (c, L, F, P, d) = (false, (c, L, 1, Int32.ofNat (tP b n c), d)) := by unfold lin; exact if_neg t
      rw [el]
      unfold fX12_aLine_45
      refine w_ck m1.2.1.k (w_clr (stops_m m1) ?_)
      rintro _ S2 ⟨f2, w2⟩
      exact w_rt (LM_f w2)
    unfold fX12_aLine_18
    refine w_gIe m1.2.1.k m1.2.2.2.2.1 (w_bt rfl (w_gIe m1.2.1.k m1.2.2.2.1.2.2.1 (w_br (fun u => ?_) (fun u => h45 ?_))))
    · rw [show (3 : Int32) = Int32.ofNat 3 from rfl, eq_ofNat (by omega) (by omega)] at u
      obtain ⟨k1, k9⟩ := mK_3 u
      have e8 : sI S1 32 8 = Int32.ofNat (tw b n c) := m1.2.2.2.1.2.2.2.2.2 k1
      refine w_gIe m1.2.1.k e8 (w_cl (isIn_eq _ _ _ _) ?_)
      rw [show (0 : Int32) = Int32.ofNat 0 from rfl, show (5 : Int32) = Int32.ofNat 5 from rfl, wi_ofNat (by omega) (by omega) (by omega)]
      refine w_z (fun v => ?_) (fun v => h45 (fun z => of_decide_eq_false v ⟨Nat.zero_le _, z.2⟩))
      have v := of_decide_eq_true v
      have t : isT b n c := ⟨k1, v.2⟩
      have hlt := tK1_le hc k1
      have el : lin b n (c, L, F, P, d) = lin2 b n c L (tw b n c) d (lts b n c L F P) := by unfold lin; exact if_pos t
      rw [el]
      refine w_gIe m1.2.1.k e8 (w_ck m1.2.1.k (w_clr (mstep_m m1) ?_))
      rintro _ S2 ⟨f2, m2⟩
      refine w_ck m2.2.1.k (w_clr (takes_g (w := 30) m2 (by decide)) ?_)
      rintro r S3 ⟨f3, er, m3, e3⟩
      have f := (f1.trans f2).trans f3
      have i3 : sI S3 32 15 = Int32.ofNat L := by rw [f.n15]; exact h15
      have hD3 : lnFf L F = 0 → L < 16 ∧ MDf (sI S3 39) L d := fun z => ⟨(lnFf_z z).1, (hD (lnFf_z z).2).cg (fun j _ => f.n39 j)⟩
      refine w_z (fun w => ?_) (fun w => ?_)
      · have o := of_decide_eq_true (er.symm.trans w)
        have e2 : lts b n c L F P = tsts b n (n + 1) (tN b n (tN b n c), 0, lnFf L F, lnPf L F P (Int32.ofNat (tP b n c)), fun _ _ => 0) := by unfold lts; exact if_pos o
        rw [e2]
        exact tests_m (m3 w) (by omega) (by omega) i3 v.2 hD3
      · have o := of_decide_eq_false (er.symm.trans w)
        have e6 := e3 w
        subst e6
        have e2 : lts b n c L F P = (true, (tN b n c, 0, lnFf L F, lnPf L F P (Int32.ofNat (tP b n c)), fun _ _ => 0)) := by unfold lts; exact if_neg o
        rw [e2]
        exact nb_m (c := c) (k := 0) (e := fun _ _ => 0) m2 (by omega) (show L < tN b n c by omega) i3 v.2 (fun z => ⟨⟨(hD3 z).1, Nat.zero_le _, fun t j ht => absurd ht (Nat.not_lt_zero _)⟩, (hD3 z).2⟩)
    · rw [show (3 : Int32) = Int32.ofNat 3 from rfl, eq_ofNat (by omega) (by omega)] at u
      rintro ⟨z1, z2⟩
      apply u
      have z2 : rW b (tP b n c) (tN b n c - tP b n c) ≤ 5 := z2
      rw [mK, if_neg (by omega), if_pos z1, if_neg (by omega)]
  unfold fX12_aLine
  refine w_gIe h0.2.1.k h15 (w_br (fun u => ?_) (fun u => ?_))
  · rw [show (16 : Int32) = Int32.ofNat 16 from rfl, lt_ofNat (by omega) (by omega)] at u
    exact h18 S _ _ FQ.rfl h0 (by rw [lnFf, if_pos u]) (by rw [lnPf, if_pos u])
  · rw [show (16 : Int32) = Int32.ofNat 16 from rfl, lt_ofNat (by omega) (by omega)] at u
    refine w_gIe h0.2.1.k h0.2.2.2.1.2.1 (w_ck h0.2.1.k (w_clr (also_m (f := 3) h0 (by decide)) ?_))
    rintro _ S1 ⟨f1, m1⟩
    exact h18 S1 _ _ f1 m1 (by rw [lnFf, if_neg u]) (by rw [lnPf, if_neg u])
/-- what list leaves -/
def llA (al : Nat → Int32) (p : Nat) (x1 x2 y : Int32) (L : Nat) (f : Nat → Int32) : Nat → Int32 := va_up (rowA (va_up (va_up (va_up (va_up al (240 + 320 * p) x1) (240 + 320 * p + 1) x2) (240 + 320 * p + 2) y) (240 + 320 * p + 3) (Int32.ofNat L)) f (240 + 320 * p + 4) 304) 1 (Int32.ofNat p + 1)
def agL (al : Nat → Int32) (p : Nat) (x1 x2 : Int32) (s : LSt) (al' : Nat → Int32) : Prop := if s.2.2.1 = 0 then ∃ f, MDf f s.2.1 s.2.2.2.2 ∧ al' = llA (tpA al 0 s.2.2.2.1) p x1 x2 (al 4) s.2.1 f else al' = tpA al s.2.2.1 s.2.2.2.1
def QL (al : Nat → Int32) (S0 : St) (p : Nat) (x1 x2 : Int32) (s : LSt) (r : Int32) (S' : St) : Prop := r = (if s.2.2.1 = 0 then Int32.ofNat p else -1) ∧ ∃ al', agL al p x1 x2 s al' ∧ MD S0 al' S'
theorem l68_f {al : Nat → Int32} {S0 S : St} {F p : Nat} {P x1 x2 : Int32} {s : LSt} (m : MD S0 (tpA al F P) S) (hF : F ≠ 0) (hF4 : F ≤ 4) (eF : s.2.2.1 = F) (eP : s.2.2.2.1 = P) : Rn (fX12_list_68 32 x1 x2 S) (QL al S0 p x1 x2 s) := by
  unfold fX12_list_68
  refine w_gR m.k32 m.r (w_nn (m_aI (n := 6) m rfl (by decide) ?_))
  rw [tpA_6]
  refine w_bf ?_ (w_rt ⟨?_, _, ?_, m⟩)
  · rw [show (0 : Int32) = Int32.ofNat 0 from rfl, eq_ofNat (by omega) (by omega)]; exact hF
  · rw [if_neg (by rw [eF]; exact hF)]
  · unfold agL
    rw [if_neg (by rw [eF]; exact hF), eF, eP]
theorem l68_t {al : Nat → Int32} {S0 S : St} {p : Nat} {P x1 x2 : Int32} {s : LSt} (m : MD S0 (tpA al 0 P) S) (hp : al 1 = Int32.ofNat p) (hlt : p < 10) (eF : s.2.2.1 = 0) (eP : s.2.2.2.1 = P) (h15 : sI S 32 15 = Int32.ofNat s.2.1) (hD : MDf (sI S 39) s.2.1 s.2.2.2.2) : Rn (fX12_list_68 32 x1 x2 S) (QL al S0 p x1 x2 s) := by
  have i0 : 240 + 320 * Int32.ofNat p = Int32.ofNat (240 + 320 * p) := by rw [show (240 : Int32) = Int32.ofNat 240 from rfl, show (320 : Int32) = Int32.ofNat 320 from rfl, mul_of, add_of]
  have i1 : 240 + 320 * Int32.ofNat p + 1 = Int32.ofNat (240 + 320 * p + 1) := by rw [i0, show (1 : Int32) = Int32.ofNat 1 from rfl, add_of]
  have i2 : 240 + 320 * Int32.ofNat p + 2 = Int32.ofNat (240 + 320 * p + 2) := by rw [i0, show (2 : Int32) = Int32.ofNat 2 from rfl, add_of]
  have i3 : 240 + 320 * Int32.ofNat p + 3 = Int32.ofNat (240 + 320 * p + 3) := by rw [i0, show (3 : Int32) = Int32.ofNat 3 from rfl, add_of]
  unfold fX12_list_68
  refine w_gR m.k32 m.r (w_nn (m_aI (n := 6) m rfl (by decide) ?_))
  rw [tpA_6]
  refine w_bt rfl (w_gR m.k32 m.r (w_nn (m_aI (n := 1) m rfl (by decide) ?_)))
  rw [tpA_n (by decide), hp]
  have m1 := m.w33 (n := 240 + 320 * p) (by omega) x1
  have m2 := m1.w33 (n := 240 + 320 * p + 1) (by omega) x2
  have e4 : va_up (va_up (tpA al 0 P) (240 + 320 * p) x1) (240 + 320 * p + 1) x2 4 = al 4 := by
    rw [va_up_n (by omega), va_up_n (by omega), tpA_n (by decide)]
  have m3 := m2.w33 (n := 240 + 320 * p + 2) (by omega) (al 4)
  have m4 := m3.w33 (n := 240 + 320 * p + 3) (by omega) (Int32.ofNat s.2.1)
  have k15 : sI (stI (stI (stI S 33 (240 + 320 * p) x1) 33 (240 + 320 * p + 1) x2) 33 (240 + 320 * p + 2) (al 4)) 32 15 = Int32.ofNat s.2.1 := by
    rw [st_ne (Or.inl (by decide)), st_ne (Or.inl (by decide)), st_ne (Or.inl (by decide))]; exact h15
  refine w_gR m.k32 m.r (w_nn (w_wI (SH_K33 m.1) i0 (SH_L33 m.1) (by omega) (w_gR m1.k32 m1.r (w_nn (w_wI (SH_K33 m1.1) i1 (SH_L33 m1.1) (by omega) (w_gR m2.k32 m2.r (w_gR m2.k32 m2.r (w_nn (m_aI (n := 4) m2 rfl (by decide) ?_)))))))))
  rw [e4]
  refine w_nn (w_wI (SH_K33 m2.1) i2 (SH_L33 m2.1) (by omega) (w_gR m3.k32 m3.r (w_gIe m3.k32 k15 (w_nn (w_wI (SH_K33 m3.1) i3 (SH_L33 m3.1) (by omega) ?_)))))
  have hJ : ∀ j, sI (stI (stI (stI (stI S 33 (240 + 320 * p) x1) 33 (240 + 320 * p + 1) x2) 33 (240 + 320 * p + 2) (al 4)) 33 (240 + 320 * p + 3) (Int32.ofNat s.2.1)) 39 j = sI S 39 j := fun j => by
    rw [st_ne (Or.inl (by decide)), st_ne (Or.inl (by decide)), st_ne (Or.inl (by decide)), st_ne (Or.inl (by decide))]
  generalize stI (stI (stI (stI S 33 (240 + 320 * p) x1) 33 (240 + 320 * p + 1) x2) 33 (240 + 320 * p + 2) (al 4)) 33 (240 + 320 * p + 3) (Int32.ofNat s.2.1) = S3 at *
  rw [i0]
  refine w_for (mk := fun (_ : Unit) i => ((32 : Nat), Int32.ofNat (240 + 320 * p), i)) (a := ()) 0 304 (fun i _ S' => MD S0 (rowA (va_up (va_up (va_up (va_up (tpA al 0 P) (240 + 320 * p) x1) (240 + 320 * p + 1) x2) (240 + 320 * p + 2) (al 4)) (240 + 320 * p + 3) (Int32.ofNat s.2.1)) (sI S 39) (240 + 320 * p + 4) i) S' ∧ ∀ j, sI S' 39 j = sI S 39 j) (by omega) (by omega) ⟨by rw [rowA_0]; exact m4, hJ⟩ ?_ ?_
  · rintro k _ S4 ⟨m5, _⟩ _
    dsimp only [fX12_list_140]
    refine w_bt (by decide) (w_gR m5.k32 m5.r (w_nn (m_aI (n := 1) m5 rfl (by decide) ?_)))
    have e0 : rowA (va_up (va_up (va_up (va_up (tpA al 0 P) (240 + 320 * p) x1) (240 + 320 * p + 1) x2) (240 + 320 * p + 2) (al 4)) (240 + 320 * p + 3) (Int32.ofNat s.2.1)) (sI S 39) (240 + 320 * p + 4) 304 1 = Int32.ofNat p := by
      rw [rowA_out (by omega), va_up_n (by omega), va_up_n (by omega), va_up_n (by omega), va_up_n (by omega), tpA_n (by decide)]; exact hp
    rw [e0]
    refine m_wI (n := 1) m5 rfl (by decide) (fun S5 m6 => w_gR m6.k32 m6.r (w_nn (m_aI (n := 1) m6 rfl (by decide) ?_)))
    rw [va_up_eq]
    refine w_rt ⟨?_, _, ?_, m6⟩
    · rw [if_pos eF]
      rw [succ32, show (1 : Int32) = Int32.ofNat 1 from rfl, sub_of (by omega)]; rfl
    · unfold agL
      rw [if_pos eF, eP]
      exact ⟨sI S 39, hD, rfl⟩
  · rintro i _ hi k _ S4 ⟨m5, j4⟩ hn hk
    dsimp only [fX12_list_140]
    have ix : Int32.ofNat (240 + 320 * p) + 4 + Int32.ofNat i = Int32.ofNat (240 + 320 * p + 4 + i) := by rw [show (4 : Int32) = Int32.ofNat 4 from rfl, add_of, add_of]
    have m6 := m5.w33 (n := 240 + 320 * p + 4 + i) (by omega) (sI S4 39 i)
    rw [rowA_s (j4 i)] at m6
    exact w_bf hn (w_gR m5.k32 m5.r (w_gR m5.k32 (SH_R32_16 m5.1) (w_nn (w_aI (SH_K39 m5.1) rfl (SH_L39 m5.1) (by omega) (w_nn (w_wI (SH_K33 m5.1) ix (SH_L33 m5.1) (by omega) (hk () _ ⟨m6, fun j => by rw [st_ne (Or.inl (by decide))]; exact j4 j⟩)))))))
theorem list_m {al : Nat → Int32} {S : St} {p : Nat} {x1 x2 : Int32} (m : MD S al S) (hOK : OK al) (hp : al 1 = Int32.ofNat p) (hlt : p < 10) (hx1 : wi x1 0 2 = true) (hx2 : wi x2 0 142 = true) : Rn (fX12_list 32 x1 x2 S) (QL al S p x1 x2 (sLs al)) := by
  have h5' := hOK.1.2.2.2.2.2
  have hn4 : nat (al 5) ≤ 400 := nat_le h5'.2 (by decide)
  unfold fX12_list
  refine w_ck m.k32 (w_clr (begins_m m (cnt_eq h5'.1) hn4 hOK.2.2.2.2.2.2) ?_)
  rintro _ S1 ⟨m1, d1, g3, g9⟩
  refine w_gR m1.k32 m1.r (w_nn (m_aI (n := 1) m1 rfl (by decide) ?_))
  rw [tpA_n (by decide), hp]
  refine w_bf ?_ (w_cl (isIn_eq _ _ _ _) (w_zt hx1 (w_cl (isIn_eq _ _ _ _) (w_zt hx2 (w_pI m1.k32 ?_)))))
  · rw [show (10 : Int32) = Int32.ofNat 10 from rfl, eq_ofNat (by omega) (by omega)]; omega
  have f2 : FC (fun a j => a = 32 ∧ j = 15) S1 (stI S1 32 15 0) := FC.rfl.st _ ⟨rfl, rfl⟩
  have ok2 : okX (fun a j => a = 32 ∧ j = 15) := fun a j z => Or.inr (Or.inr z)
  have m2 := m1.ok f2 ok2
  have d2 : RDm (stI S1 32 15 0) (byT al) (nat (al 5)) := d1.fc f2 (by omega) (by omega)
  have g3' : sI (stI S1 32 15 0) 32 3 = Int32.ofNat 0 := by rw [f2.i (by omega)]; exact g3
  refine w_ck m2.k32 (w_clr (step_m (c := 0) d2 (Nat.zero_le _) g3') ?_)
  rintro _ S3 ⟨f3, t3⟩
  have q3 := f3.fq
  have m3 := m2.mx f3
  have hci : MLs al S S3 (byT al) (nat (al 5)) s0L := by
    refine ⟨⟨m3, d2.mx f3, Nat.zero_le _, t3, by rw [f3.i (by unfold MX; omega), f2.i (by omega)]; exact g9, Nat.zero_le _⟩, Nat.le_refl _, by rw [q3.n15, st_get]; rfl, fun _ => ⟨Nat.zero_le _, fun l hl => absurd hl (Nat.not_lt_zero _)⟩⟩
  have hRR : lins (byT al) (nat (al 5)) (nat (al 5) + 1) s0L = sLs al := rfl
  generalize sLs al = R at *
  refine w_itr (fun m p S' => p = ((32 : Nat), x1, x2) ∧ ((∃ (s : LSt) (f : Nat), MLs al S S' (byT al) (nat (al 5)) s ∧ lins (byT al) (nat (al 5)) f s = R ∧ nat (al 5) + 1 ≤ f + s.1 ∧ m = f + 1) ∨ (1 ≤ m ∧ WU al S S' R.2.2.2.1 ∧ R.2.2.1 = 1))) ?_ ?_ (nat (al 5) + 2) FU _ _ (by unfold FU; omega) ⟨rfl, Or.inl ⟨s0L, nat (al 5) + 1, hci, hRR, Nat.le_refl _, rfl⟩⟩
  · rintro p S' ⟨_, ⟨s', f, _, _, _, h7⟩ | ⟨h2, _⟩⟩
    · omega
    · omega
  rintro m' k p' S' ⟨rfl, ⟨s, f, c1, e1, hf, hm⟩ | ⟨_, w1, w2⟩⟩ hk
  · have mu := c1.1
    have hcn := mu.2.2.1
    have hK := mK_le (byT al) (nat (al 5)) s.1
    obtain ⟨f0, rfl⟩ : ∃ f0, f = f0 + 1 := ⟨f - 1, by omega⟩
    rw [lins] at e1
    have h0 : mK (byT al) (nat (al 5)) s.1 = 0 ↔ tK (byT al) (nat (al 5)) s.1 = 0 := by
      unfold mK
      constructor
      · intro z
        revert z
        repeat' split
        all_goals (intro z; omega)
      · intro z
        rw [if_pos z]
    dsimp only [fX12_list_47]
    refine w_gIe mu.2.1.k mu.2.2.2.2.1 (w_bt rfl (w_gIe mu.2.1.k mu.2.2.2.1.2.2.1 (w_br (fun u => ?_) (fun u => ?_))))
    · rw [show (0 : Int32) = Int32.ofNat 0 from rfl, eq_ofNat (by omega) (by omega)] at u
      rw [if_pos (h0.mp u)] at e1
      rw [← e1]
      by_cases z : s.2.2.1 = 0
      · have mm := mu.1
        rw [z] at mm
        exact l68_t mm hp hlt z rfl c1.2.2.1 (c1.2.2.2 z)
      · exact l68_f mu.1 z mu.2.2.2.2.2 rfl rfl
    · rw [show (0 : Int32) = Int32.ofNat 0 from rfl, eq_ofNat (by omega) (by omega)] at u
      rw [if_neg (fun z => u (h0.mpr z))] at e1
      refine w_ck mu.2.1.k (w_clr (line_m c1) ?_)
      rintro _ S4 lm
      by_cases v : (lin (byT al) (nat (al 5)) s).1 = true
      · rw [if_pos v] at e1
        have hl := lin_c hcn v
        exact hk _ _ ⟨rfl, Or.inl ⟨_, f0, lm.1 v, e1, by omega, by omega⟩⟩
      · rw [if_neg v] at e1
        obtain ⟨q1, q2⟩ := lm.2 (Bool.eq_false_iff.mpr v)
        rw [← e1] at hk ⊢
        exact hk _ _ ⟨rfl, Or.inr ⟨by omega, q1, q2⟩⟩
  · dsimp only [fX12_list_47]
    exact w_gIe (SH_K32 w1.1.1) w1.2 (w_bf (by decide) (l68_f w1.1 (by decide) (by decide) w2 rfl))
