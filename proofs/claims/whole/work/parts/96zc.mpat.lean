-- pattern, in the reference
theorem begins_m {al : Nat → Int32} {S0 S : St} {n : Nat} (m : MD S0 al S) (h5 : al 5 = Int32.ofNat n) (hn : n ≤ 400) (hb : OKb al) : Rn (fX12_begins 32 S) (fun _ S' => MD S0 (tpA al 0 (-1)) S' ∧ RDm S' (byT al) n ∧ sI S' 32 3 = 0 ∧ sI S' 32 9 = 0) := by
  unfold fX12_begins
  refine w_gR m.k32 m.r (w_nn (m_aI (n := 5) m rfl (by decide) (w_pI m.k32 ?_)))
  rw [h5]
  have m1 := m.scr (a := 32) (j := 2) (Int32.ofNat n) (Or.inl rfl)
  have m2 := m1.w33 (n := 5) (by decide) 0
  have m3 := m2.w33 (n := 6) (by decide) 0
  have m4 := m3.w33 (n := 7) (by decide) (-1)
  have m5 := m4.scr (a := 32) (j := 3) 0 (Or.inl rfl)
  have m6 := m5.scr (a := 32) (j := 9) 0 (Or.inl rfl)
  have m6 : MD S0 (tpA al 0 (-1)) _ := m6
  refine w_gR m1.k32 m1.r (w_nn (w_wI (n := 5) (SH_K33 m1.1) rfl (SH_L33 m1.1) (by decide) (w_gR m2.k32 m2.r (w_nn (w_wI (n := 6) (SH_K33 m2.1) rfl (SH_L33 m2.1) (by decide) (w_gR m3.k32 m3.r (w_nn (w_wI (n := 7) (SH_K33 m3.1) rfl (SH_L33 m3.1) (by decide) (w_pI m4.k32 (w_pZ m5.k32 (Or.inl rfl) (w_rt ⟨m6, ⟨m6.1, ?_, hn, byT_lt hb, fun i hi => ?_⟩, ?_, st_get⟩)))))))))))
  · rw [st_ne (Or.inr (by decide)), st_ne (Or.inr (by decide)), st_ne (Or.inl (by decide)), st_ne (Or.inl (by decide)), st_ne (Or.inl (by decide)), st_get]
  · rw [m6.2.2.1 _ (by omega), tpA_n (by omega)]; exact byT_of hb hi
  · rw [st_ne (Or.inr (by decide)), st_get]
theorem tSum_flat (f : Nat → Nat → Nat) : fo (fun j a => a + f (j / 4) (j % 4)) 0 24 = tSum f := rfl
/-- what a pattern leaves of the reference -/
def QP (al : Nat → Int32) (S0 : St) (p : Nat) (x1 x2 : Int32) (s : PS) (r : Int32) (S' : St) : Prop := r = (if fiF s = 0 then Int32.ofNat p else -1) ∧ MD S0 (if fiF s = 0 then ptA (tpA al 0 (fiP s)) p x1 x2 (s.2.2.2.2.1 0) else tpA al (fiF s) (fiP s)) S'
theorem pat104_f {al : Nat → Int32} {S0 S : St} {F p : Nat} {P x1 x2 : Int32} {x3 : Int64} {s : PS} (m : MD S0 (tpA al F P) S) (hF : F ≠ 0) (hF4 : F ≤ 4) (eF : fiF s = F) (eP : fiP s = P) : Rn (fX12_pattern_104 32 x1 x2 x3 S) (QP al S0 p x1 x2 s) := by
  unfold fX12_pattern_104
  refine w_gR m.k32 m.r (w_nn (m_aI (n := 6) m rfl (by decide) ?_))
  rw [tpA_6]
  refine w_bf ?_ (w_rt ⟨?_, ?_⟩)
  · rw [show (0 : Int32) = Int32.ofNat 0 from rfl, eq_ofNat (by omega) (by omega)]; exact hF
  · rw [if_neg (by rw [eF]; exact hF)]
  · rw [if_neg (by rw [eF]; exact hF), eF, eP]; exact m
theorem pat104_t {al : Nat → Int32} {S0 S : St} {p : Nat} {P x1 x2 : Int32} {x3 : Int64} {s : PS} (m : MD S0 (tpA al 0 P) S) (hp : al 0 = Int32.ofNat p) (hlt : p < 8) (eF : fiF s = 0) (eP : fiP s = P) (e3 : x3.toInt32 = Int32.ofNat (tSum (s.2.2.2.2.1 0))) (hJ : ∀ j, j < 24 → (sJ S 36 j).toInt32 = ptF (s.2.2.2.2.1 0) j) : Rn (fX12_pattern_104 32 x1 x2 x3 S) (QP al S0 p x1 x2 s) := by
  have i0 : 20 + 27 * Int32.ofNat p = Int32.ofNat (20 + 27 * p) := by rw [show (20 : Int32) = Int32.ofNat 20 from rfl, show (27 : Int32) = Int32.ofNat 27 from rfl, mul_of, add_of]
  have i1 : 20 + 27 * Int32.ofNat p + 1 = Int32.ofNat (20 + 27 * p + 1) := by rw [i0, show (1 : Int32) = Int32.ofNat 1 from rfl, add_of]
  have i2 : 20 + 27 * Int32.ofNat p + 2 = Int32.ofNat (20 + 27 * p + 2) := by rw [i0, show (2 : Int32) = Int32.ofNat 2 from rfl, add_of]
  unfold fX12_pattern_104
  refine w_gR m.k32 m.r (w_nn (m_aI (n := 6) m rfl (by decide) ?_))
  rw [tpA_6]
  refine w_bt rfl (w_gR m.k32 m.r (w_nn (m_aI (n := 0) m rfl (by decide) ?_)))
  rw [tpA_n (by decide), hp]
  have m1 := m.w33 (n := 20 + 27 * p) (by omega) x1
  have m2 := m1.w33 (n := 20 + 27 * p + 1) (by omega) x2
  have m3 := m2.w33 (n := 20 + 27 * p + 2) (by omega) x3.toInt32
  refine w_gR m.k32 m.r (w_nn (w_wI (SH_K33 m.1) i0 (SH_L33 m.1) (by omega) (w_gR m1.k32 m1.r (w_nn (w_wI (SH_K33 m1.1) i1 (SH_L33 m1.1) (by omega) (w_gR m2.k32 m2.r (w_nn (w_wI (SH_K33 m2.1) i2 (SH_L33 m2.1) (by omega) ?_))))))))
  rw [e3] at m3
  rw [e3]
  have hJ3 : ∀ j, j < 24 → (sJ (stI (stI (stI S 33 (20 + 27 * p) x1) 33 (20 + 27 * p + 1) x2) 33 (20 + 27 * p + 2) (Int32.ofNat (tSum (s.2.2.2.2.1 0)))) 36 j).toInt32 = ptF (s.2.2.2.2.1 0) j := hJ
  generalize stI (stI (stI S 33 (20 + 27 * p) x1) 33 (20 + 27 * p + 1) x2) 33 (20 + 27 * p + 2) (Int32.ofNat (tSum (s.2.2.2.2.1 0))) = S3 at *
  rw [i0]
  refine w_for (mk := fun (_ : Unit) i => ((32 : Nat), Int32.ofNat (20 + 27 * p), i)) (a := ()) 0 24 (fun i _ S' => MD S0 (rowA (va_up (va_up (va_up (tpA al 0 P) (20 + 27 * p) x1) (20 + 27 * p + 1) x2) (20 + 27 * p + 2) (Int32.ofNat (tSum (s.2.2.2.2.1 0)))) (ptF (s.2.2.2.2.1 0)) (20 + 27 * p + 3) i) S' ∧ ∀ j, sJ S' 36 j = sJ S3 36 j) (by omega) (by omega) ⟨by rw [rowA_0]; exact m3, fun _ => rfl⟩ ?_ ?_
  · rintro k _ S4 ⟨m4, _⟩ _
    dsimp only [fX12_pattern_162]
    refine w_bt (by decide) (w_gR m4.k32 m4.r (w_nn (m_aI (n := 0) m4 rfl (by decide) ?_)))
    have e0 : rowA (va_up (va_up (va_up (tpA al 0 P) (20 + 27 * p) x1) (20 + 27 * p + 1) x2) (20 + 27 * p + 2) (Int32.ofNat (tSum (s.2.2.2.2.1 0)))) (ptF (s.2.2.2.2.1 0)) (20 + 27 * p + 3) 24 0 = Int32.ofNat p := by
      rw [rowA_out (by omega), va_up_n (by omega), va_up_n (by omega), va_up_n (by omega), tpA_n (by decide)]; exact hp
    rw [e0]
    refine m_wI (n := 0) m4 rfl (by decide) (fun S5 m5 => w_gR m5.k32 m5.r (w_nn (m_aI (n := 0) m5 rfl (by decide) ?_)))
    rw [va_up_eq]
    refine w_rt ⟨?_, ?_⟩
    · rw [if_pos eF]
      rw [succ32, show (1 : Int32) = Int32.ofNat 1 from rfl, sub_of (by omega)]; rfl
    · rw [if_pos eF, eP]; exact m5
  · rintro i _ hi k _ S4 ⟨m4, j4⟩ hn hk
    dsimp only [fX12_pattern_162]
    have ix : Int32.ofNat (20 + 27 * p) + 3 + Int32.ofNat i = Int32.ofNat (20 + 27 * p + 3 + i) := by rw [show (3 : Int32) = Int32.ofNat 3 from rfl, add_of, add_of]
    have m5 := m4.w33 (n := 20 + 27 * p + 3 + i) (by omega) (sJ S4 36 i).toInt32
    rw [rowA_s (by rw [j4]; exact hJ3 i hi)] at m5
    exact w_bf hn (w_gR m4.k32 m4.r (w_gR m4.k32 (SH_R32_11 m4.1) (w_nn (w_aJ (SH_K36 m4.1) rfl (SH_L36 m4.1) (by omega) (w_nn (w_wI (SH_K33 m4.1) ix (SH_L33 m4.1) (by omega) (hk () _ ⟨m5, j4⟩)))))))
theorem patend_m {al : Nat → Int32} {S0 S : St} {b : Nat → Nat} {n p : Nat} {x1 x2 : Int32} {s : PS} (h : EM al S0 S b n s) (hp : al 0 = Int32.ofNat p) (hlt : p < 8) : Rn (itr (fun k (p : Nat × Int32 × Int32 × Int64 × Int32) => fX12_pattern_67 k p.1 p.2.1 p.2.2.1 p.2.2.2.1 p.2.2.2.2) FU (32, x1, x2, 0, 0) S) (QP al S0 p x1 x2 s) := by
  have hS : SH S := by
    rcases h with ⟨h, _⟩ | ⟨h, _⟩
    · exact h.1.1.1
    · exact h.1.1
  refine w_for (mk := fun (a : Int64) i => ((32 : Nat), x1, x2, a, i)) (a := 0) 0 24 (fun k a S' => S' = S ∧ a = fo (fun j a => a + sJ S 36 j) 0 k) (by omega) (by omega) ⟨rfl, rfl⟩ ?_ ?_
  · rintro k a S' ⟨rfl, e⟩ _
    dsimp only [fX12_pattern_67]
    refine w_bt (by decide) ?_
    rcases h with ⟨⟨mu, hDc, h14, hkk, hA⟩, hD⟩ | ⟨w1, w2⟩
    · by_cases z : s.2.2.1 = 0
      · obtain ⟨a1, a2, a3, a4⟩ := hA z
        have hj : ∀ j, j < 24 → sJ S' 36 j = Int64.ofNat (min 2000000 (s.2.2.2.2.1 0 (j / 4) (j % 4))) := fun j hj => by
          have := a2 0 (j / 4) (j % 4) (Nat.zero_le _) (by omega) (by omega)
          rw [cA, if_neg (by omega), cI, if_neg (by omega), show 24 * 0 + 4 * (j / 4) + j % 4 = j by omega] at this
          exact this
        have ea : a = Int64.ofNat (tSum (fun t k => min 2000000 (s.2.2.2.2.1 0 t k))) := by
          rw [e, ← tSum_flat]
          have : ∀ m, m ≤ 24 → fo (fun j a => a + sJ S' 36 j) 0 m = Int64.ofNat (fo (fun j a => a + min 2000000 (s.2.2.2.2.1 0 (j / 4) (j % 4))) 0 m) := by
            intro m
            induction m with
            | zero => intro _; rfl
            | succ m ih => intro hm; rw [fo_s, fo_s, ih (by omega), hj m (by omega), J_add]
          exact this 24 (Nat.le_refl _)
        have hb := tSum_bd (g := s.2.2.2.2.1 0) (M := 2000000) (by omega)
        have hs := tSum_sat (g := s.2.2.2.2.1 0) (M := 2000000) (by omega)
        have hcmp : (lg_cmp a 1000000 ≤ 0) ↔ tSum (s.2.2.2.2.1 0) ≤ 1000000 := by
          rw [ea, show (1000000 : Int64) = Int64.ofNat 1000000 from rfl, cmp_le (by omega) (by omega)]; exact hs.1
        refine w_br (fun u => ?_) (fun u => ?_)
        · have u := hcmp.mp u
          have eF : fiF s = 0 := by rw [fiF, if_neg (fun q => by omega)]; exact z
          have eP : fiP s = s.2.2.2.1 := by rw [fiP, if_neg (fun q => by omega)]
          have m0 := mu.1
          rw [z] at m0
          refine pat104_t m0 hp hlt eF eP ?_ (fun j hj' => ?_)
          · rw [ea, Int64.toInt32_ofNat', tSum_cg (hs.2 u)]
          · rw [hj j hj', Int64.toInt32_ofNat', hs.2 u (j / 4) (j % 4) (by omega) (by omega)]; rfl
        · have u : 1000000 < tSum (s.2.2.2.2.1 0) := Nat.lt_of_not_le (fun q => u (hcmp.mpr q))
          have eF : fiF s = 4 := by rw [fiF, if_pos ⟨z, u⟩]
          have eP : fiP s = 0 := by rw [fiP, if_pos ⟨z, u⟩]
          refine w_ck mu.2.1.k (w_clr (also_m (f := 4) mu (by decide)) ?_)
          rintro _ S1 ⟨f1, m1⟩
          have m1 := m1.1
          rw [ntF, if_pos z, ntP, if_pos z] at m1
          exact pat104_f m1 (by decide) (by decide) eF eP
      · have eF : fiF s = s.2.2.1 := by rw [fiF, if_neg (fun q => z q.1)]
        have eP : fiP s = s.2.2.2.1 := by rw [fiP, if_neg (fun q => z q.1)]
        refine w_br (fun u => pat104_f mu.1 z mu.2.2.2.2.2 eF eP) (fun u => ?_)
        refine w_ck mu.2.1.k (w_clr (also_m (f := 4) mu (by decide)) ?_)
        rintro _ S1 ⟨f1, m1⟩
        have m1 := m1.1
        rw [ntF, if_neg z, ntP, if_neg z] at m1
        exact pat104_f m1 z mu.2.2.2.2.2 eF eP
    · have z : s.2.2.1 ≠ 0 := by omega
      have eF : fiF s = 1 := by rw [fiF, if_neg (fun q => z q.1)]; exact w2
      have eP : fiP s = s.2.2.2.1 := by rw [fiP, if_neg (fun q => z q.1)]
      exact w_br (fun u => pat104_f w1.1 (by decide) (by decide) eF eP) (fun u => w_ck (SH_K32 w1.1.1) (w_cl (also_w w1 _ _) (pat104_f w1.1 (by decide) (by decide) eF eP)))
  · rintro j _ hj k a S' ⟨rfl, e⟩ hn hk
    dsimp only [fX12_pattern_67]
    exact w_bf hn (w_gR (SH_K32 hS) (SH_R32_11 hS) (w_nn (w_aJ (SH_K36 hS) rfl (SH_L36 hS) (by omega) (hk _ _ ⟨rfl, by rw [fo_s, ← e]⟩))))
theorem pat_m {al : Nat → Int32} {S : St} {p : Nat} {x1 x2 : Int32} (m : MD S al S) (hOK : OK al) (hp : al 0 = Int32.ofNat p) (hlt : p < 8) (hx1 : wi x1 0 3 = true) (hx2 : wi x2 0 16777215 = true) : Rn (fX12_pattern 32 x1 x2 S) (QP al S p x1 x2 (sPt al)) := by
  have h5' := hOK.1.2.2.2.2.2
  have hn4 : nat (al 5) ≤ 400 := nat_le h5'.2 (by decide)
  unfold fX12_pattern
  refine w_ck m.k32 (w_clr (begins_m m (cnt_eq h5'.1) hn4 hOK.2.2.2.2.2.2) ?_)
  rintro _ S1 ⟨m1, d1, g3, g9⟩
  refine w_gR m1.k32 m1.r (w_nn (m_aI (n := 0) m1 rfl (by decide) ?_))
  rw [tpA_n (by decide), hp]
  refine w_bf ?_ (w_cl (isIn_eq _ _ _ _) (w_zt hx1 (w_cl (isIn_eq _ _ _ _) (w_zt hx2 (w_pI m1.k32 ?_)))))
  · rw [show (8 : Int32) = Int32.ofNat 8 from rfl, eq_ofNat (by omega) (by omega)]; omega
  have z2 : FZ S1 (stI S1 32 14 0) := FZ.d14 _
  have m2 := z2.md m1
  refine w_ck m2.k32 (w_clr (opens_m (D := 0) 1 m2.1 (by omega) st_get) ?_)
  rintro _ S3 ⟨f3, h3, t3, j3⟩
  have z3 : FZ S1 S3 := z2.trans (f3.fz (fun a z => z))
  have m3 := z3.md m1
  refine w_gR m3.k32 (SH_R32_12 m3.1) (w_nn (w_wI (n := 0) (SH_K37 m3.1) rfl (SH_L37 m3.1) (by decide) ?_))
  have z4 : FZ S1 (stI S3 37 0 0) := z3.trans (FZ.hue 0 0)
  have m4 := z4.md m1
  have hI4 : ∀ a j, a ≠ 37 → a ≠ 38 → ¬ (a = 32 ∧ j = 14) → sI (stI S3 37 0 0) a j = sI S1 a j := z4.2.2.2.2.2
  have d4 : RDm (stI S3 37 0 0) (byT al) (nat (al 5)) := by
    obtain ⟨q1, q2, q3, q4, q5⟩ := d1
    exact ⟨m4.1, by rw [hI4 32 2 (by decide) (by decide) (by omega)]; exact q2, q3, q4, fun i hi => by rw [hI4 33 _ (by decide) (by decide) (by omega)]; exact q5 i hi⟩
  have g3' : sI (stI S3 37 0 0) 32 3 = Int32.ofNat 0 := by rw [hI4 32 3 (by decide) (by decide) (by omega)]; exact g3
  have g9' : sI (stI S3 37 0 0) 32 9 = 0 := by rw [hI4 32 9 (by decide) (by decide) (by omega)]; exact g9
  have g14 : sI (stI S3 37 0 0) 32 14 = Int32.ofNat 0 := by
    rw [st_ne (Or.inl (by decide)), f3.2.2.2.2.2 32 14 (by omega), st_get]; rfl
  have gh : sI (stI S3 37 0 0) 37 0 = 0 := st_get
  have gA : AM 0 (stI S3 37 0 0) (fun _ _ _ => 0) := by
    have := AM_clr (D := 0) (S := stI S1 32 14 0) (S1 := S3) (g := fun _ _ _ => 0) (fun l t k q => by omega) j3
    exact this.cg (fun l t k q1 q2 q3 => by unfold clr; rw [if_pos (Nat.le_zero.mp q1)])
  generalize stI S3 37 0 0 = S4 at *
  refine w_ck m4.k32 (w_clr (step_m (c := 0) d4 (Nat.zero_le _) g3') ?_)
  rintro _ S5 ⟨f5, t5⟩
  have q5 := f5.fq
  have m5 := m4.mx f5
  have hci : MIs al S S5 (byT al) (nat (al 5)) s0 := by
    refine ⟨⟨m5, d4.mx f5, Nat.zero_le _, t5, by rw [f5.i (by unfold MX; omega)]; exact g9', Nat.zero_le _⟩, Nat.le_refl _, q5.d g14, q5.hk (fun l q1 q2 => ?_), fun _ => q5.ma ⟨Nat.zero_le _, gA, fun l hl => ?_, fun l q1 q2 => ?_⟩⟩
    · have e0 : l = 0 := Nat.le_zero.mp q1
      exact ⟨0, by decide, by rw [e0, gh]; rfl⟩
    · have e0 : l = 0 := Nat.le_zero.mp hl
      rw [e0, gh]
      exact ⟨rfl, by decide⟩
    · have e0 : l ≤ 0 := q2
      omega
  refine w_ck m5.k32 (w_clr (mits_m hci rfl) ?_)
  rintro _ S6 e6
  exact patend_m e6 hp hlt
