-- the reference's small steps
def MU (al : Nat → Int32) (S0 S : St) (b : Nat → Nat) (n c F : Nat) (P : Int32) : Prop := MD S0 (tpA al F P) S ∧ RDm S b n ∧ c ≤ n ∧ RTm S b n c ∧ sI S 32 9 = 0 ∧ F ≤ 4
theorem mK_le (b : Nat → Nat) (n c : Nat) : mK b n c ≤ 4 := by
  unfold mK
  exact ite_b (fun _ => by omega) (fun _ => ite_b (fun _ => ite_b (fun _ => by omega) (fun _ => by omega)) (fun _ => ite_b (fun _ => by omega) (fun _ => ite_b (fun _ => by omega) (fun _ => by omega))))
/-- cells that the small steps leave -/
def FQ (S S' : St) : Prop := (∀ a, sK S' a = sK S a) ∧ (∀ a, sL S' a = sL S a) ∧ (∀ a j, sR S' a j = sR S a j) ∧ sn S' = sn S ∧ sm S' = sm S ∧ (∀ a j, sJ S' a j = sJ S a j) ∧ ∀ a j, ¬ (a = 33 ∧ (j = 6 ∨ j = 7)) → ¬ (a = 32 ∧ 3 ≤ j ∧ j ≤ 9) → sI S' a j = sI S a j
theorem FQ.rfl {S : St} : FQ S S := ⟨fun _ => Eq.refl _, fun _ => Eq.refl _, fun _ _ => Eq.refl _, Eq.refl _, Eq.refl _, fun _ _ => Eq.refl _, fun _ _ _ _ => Eq.refl _⟩
theorem FQ.trans {S S1 S2 : St} (h : FQ S S1) (g : FQ S1 S2) : FQ S S2 := ⟨fun a => (g.1 a).trans (h.1 a), fun a => (g.2.1 a).trans (h.2.1 a), fun a j => (g.2.2.1 a j).trans (h.2.2.1 a j), g.2.2.2.1.trans h.2.2.2.1, g.2.2.2.2.1.trans h.2.2.2.2.1, fun a j => (g.2.2.2.2.2.1 a j).trans (h.2.2.2.2.2.1 a j), fun a j q1 q2 => (g.2.2.2.2.2.2 a j q1 q2).trans (h.2.2.2.2.2.2 a j q1 q2)⟩
theorem FC.fq {S S1 : St} (h : FC MX S S1) : FQ S S1 := ⟨h.1, h.2.1, h.2.2.1, h.2.2.2.1, h.2.2.2.2.1, h.2.2.2.2.2.1, fun a j _ q => h.2.2.2.2.2.2 a j (fun z => q ⟨z.1, z.2.1, by have := z.2.2; omega⟩)⟩
theorem mstep_m {al : Nat → Int32} {S0 S : St} {b : Nat → Nat} {n c F : Nat} {P : Int32} (h : MU al S0 S b n c F P) : Rn (fX12_step 32 S) (fun _ S' => FQ S S' ∧ MU al S0 S' b n (tN b n c) F P) := by
  obtain ⟨h1, h2, h3, h4, h5, h6⟩ := h
  refine Rn.mono (step_m h2 (tN_b h3).2.1 h4.1) ?_
  rintro _ S1 ⟨f1, t1⟩
  exact ⟨f1.fq, h1.mx f1, h2.mx f1, (tN_b h3).2.1, t1, by rw [f1.i (by unfold MX; omega)]; exact h5, h6⟩
theorem isSign_m {al : Nat → Int32} {S0 S : St} {b : Nat → Nat} {n c F y : Nat} {P : Int32} (h : MU al S0 S b n c F P) (hy : y < 256) : fX12_isSign 32 (Int32.ofNat y) S = some (decide (isS b n c y), S) := by
  obtain ⟨h1, h2, h3, h4, h5, h6⟩ := h
  have hk := mK_le b n c
  have hb := h2.2.2.2.1 (tP b n c)
  apply Rn.eq
  unfold fX12_isSign
  refine w_gIe h2.k h5 (w_bt rfl (w_gIe h2.k h4.2.2.1 (w_br (fun u => ?_) (fun u => w_r0 ⟨?_, rfl⟩))))
  · rw [show (2 : Int32) = Int32.ofNat 2 from rfl, eq_ofNat (by omega) (by omega)] at u
    have k3 : tK b n c = 3 := by
      unfold mK at u
      revert u
      repeat' split
      all_goals (intro u; omega)
    refine w_gIe h2.k (h4.2.2.2.2.1 k3) (w_br (fun v => w_r1 ⟨?_, rfl⟩) (fun v => w_r0 ⟨?_, rfl⟩))
    · rw [eq_ofNat (by omega) (by omega)] at v
      exact (decide_eq_true ⟨k3, v⟩).symm
    · rw [eq_ofNat (by omega) (by omega)] at v
      exact (decide_eq_false (fun z => v z.2)).symm
  · rw [show (2 : Int32) = Int32.ofNat 2 from rfl, eq_ofNat (by omega) (by omega)] at u
    refine (decide_eq_false (fun z => u ?_)).symm
    rw [mK, if_neg (by rw [z.1]; decide), if_neg (by rw [z.1]; decide), if_neg (by rw [z.1]; decide), if_pos z.1]
theorem also_m {al : Nat → Int32} {S0 S : St} {b : Nat → Nat} {n c F f : Nat} {P q : Int32} (h : MU al S0 S b n c F P) (hf : f ≤ 4) : Rn (fX12_also 32 (Int32.ofNat f) q S) (fun _ S' => FQ S S' ∧ MU al S0 S' b n c (ntF F f) (ntP F P q)) := by
  obtain ⟨h1, h2, h3, h4, h5, h6⟩ := id h
  have hs := h2.1
  unfold fX12_also ntF ntP
  have a6 : sI S 33 6 = Int32.ofNat F := by rw [h1.2.2.1 6 (by decide), tpA_6]
  refine w_gIe h2.k h5 (w_bt rfl (w_gR h2.k (SH_R32_0 hs) (w_nn (w_aIe (n := 6) (SH_K33 hs) rfl (SH_L33 hs) (by omega) a6 (w_br (fun u => ?_) (fun u => ?_))))))
  · rw [show (0 : Int32) = Int32.ofNat 0 from rfl, eq_ofNat (by omega) (by omega)] at u
    rw [if_pos u, if_pos u]
    have m1 := h1.w33 (n := 6) (by decide) (Int32.ofNat f)
    have m2 := m1.w33 (n := 7) (by decide) q
    rw [tpA_up] at m2
    have fc : FC (fun a j => a = 33 ∧ (j = 6 ∨ j = 7)) S (stI (stI S 33 6 (Int32.ofNat f)) 33 7 q) := (FC.rfl.st _ ⟨rfl, Or.inl rfl⟩).st _ ⟨rfl, Or.inr rfl⟩
    refine w_gR h2.k (SH_R32_0 hs) (w_nn (w_wI (n := 6) (SH_K33 hs) rfl (SH_L33 hs) (by omega) (w_gR (SH_K32 m1.1) (SH_R32_0 m1.1) (w_nn (w_wI (n := 7) (SH_K33 m1.1) rfl (SH_L33 m1.1) (by omega) (w_rt ⟨⟨fc.1, fc.2.1, fc.2.2.1, fc.2.2.2.1, fc.2.2.2.2.1, fc.2.2.2.2.2.1, fun a j q1 q2 => fc.i q1⟩, m2, ?_, h3, ?_, ?_, hf⟩))))))
    · obtain ⟨d1, d2, d3, d4, d5⟩ := h2
      exact ⟨m2.1, by rw [fc.i (by omega)]; exact d2, d3, d4, fun i hi => by rw [fc.i (by omega)]; exact d5 i hi⟩
    · obtain ⟨t1, t2, t3, t4, t5, t6⟩ := h4
      exact ⟨by rw [fc.i (by omega)]; exact t1, by rw [fc.i (by omega)]; exact t2, by rw [fc.i (by omega)]; exact t3, fun z => by rw [fc.i (by omega)]; exact t4 z, fun z => by rw [fc.i (by omega)]; exact t5 z, fun z => by rw [fc.i (by omega)]; exact t6 z⟩
    · rw [fc.i (by omega)]; exact h5
  · rw [show (0 : Int32) = Int32.ofNat 0 from rfl, eq_ofNat (by omega) (by omega)] at u
    rw [if_neg u, if_neg u]
    exact w_rt ⟨FQ.rfl, h⟩
