-- one-letter words in the reference
theorem ite_q {Q : Nat → Prop} {P : Prop} [Decidable P] {x y : Nat} (h1 : P → Q x) (h2 : ¬ P → Q y) : Q (if P then x else y) := by
  by_cases c : P
  · rw [if_pos c]; exact h1 c
  · rw [if_neg c]; exact h2 c
theorem wO_ge {v : Nat} (h : 32 ≤ v) : wO v < 40 ∨ wO v = 99 := by
  unfold wO
  rw [if_pos h]
  repeat (refine ite_q (Q := fun w => w < 40 ∨ w = 99) (fun _ => Or.inl (by decide)) (fun _ => ?_))
  exact Or.inr rfl
theorem tN_1 {b : Nat → Nat} {n c : Nat} (h : tK b n c = 1) : tN b n c = rn (fun i => leB (b i)) n (tP b n c) := by
  have hl := tK_lt (b := b) (n := n) (c := c) (by omega)
  rw [tN, if_neg (by omega), if_pos (tK_1 h)]
theorem rW_one {b : Nat → Nat} {n c : Nat} (h : oneL b n c) : rW b (tP b n c) (tN b n c - tP b n c) = 40 + (b (tP b n c) - 97) := by
  have hb := le_bd (tK_1 h.1)
  rw [h.2, rW, if_pos (by decide), wvF, wvF, Nat.add_zero, wO, if_neg (by omega)]
  omega
theorem rW_more {b : Nat → Nat} {n c : Nat} (hc : c ≤ n) (h : tK b n c = 1) (h1 : ¬ tN b n c - tP b n c = 1) : rW b (tP b n c) (tN b n c - tP b n c) < 40 ∨ rW b (tP b n c) (tN b n c - tP b n c) = 99 := by
  have hl := tK_lt (b := b) (n := n) (c := c) (by omega)
  have hn := tN_b (b := b) hc
  unfold rW
  by_cases c6 : tN b n c - tP b n c ≤ 6
  · rw [if_pos c6]
    apply wO_ge
    have hr := rn_b (P := fun i => leB (b i)) (n := n) _ (tP b n c) rfl (by omega)
    rw [← tN_1 h] at hr
    have hw := (wv_b (b := b) (q := tP b n c) (tN b n c - tP b n c) (fun i hi => hr.2.2.2 _ (by omega) (by omega))).2 (by omega)
    have hp : 32 ^ 2 ≤ 32 ^ (tN b n c - tP b n c) := Nat.pow_le_pow_right (by decide) (by omega)
    omega
  · rw [if_neg c6]; exact Or.inr rfl
theorem mK_3 {b : Nat → Nat} {n c : Nat} (h : mK b n c = 3) : tK b n c = 1 ∧ rW b (tP b n c) (tN b n c - tP b n c) ≠ 99 := by
  unfold mK at h
  by_cases c0 : tK b n c = 0
  · rw [if_pos c0] at h; omega
  · rw [if_neg c0] at h
    by_cases c1 : tK b n c = 1
    · rw [if_pos c1] at h
      exact ⟨c1, fun z => by rw [if_pos z] at h; omega⟩
    · rw [if_neg c1] at h
      by_cases c2 : tK b n c = 2
      · rw [if_pos c2] at h; omega
      · rw [if_neg c2] at h
        by_cases c3 : tK b n c = 3
        · rw [if_pos c3] at h; omega
        · rw [if_neg c3] at h; omega
theorem mK_one {b : Nat → Nat} {n c : Nat} (h : oneL b n c) : mK b n c = 3 := by
  have hb := le_bd (tK_1 h.1)
  have hw := rW_one h
  rw [mK, if_neg (by have := h.1; omega), if_pos h.1, if_neg (by omega)]
/-- a letter x, as a word, is looked for -/
theorem takes_m {al : Nat → Int32} {S0 S : St} {b : Nat → Nat} {n c F : Nat} {P : Int32} (h : MU al S0 S b n c F P) : Rn (fX12_takes 32 50 S) (fun r S' => FQ S S' ∧ r = decide (oneL b n c ∧ b (tP b n c) = 107) ∧ (r = true → MU al S0 S' b n (tN b n c) F P) ∧ (r = false → S' = S)) := by
  obtain ⟨h1, h2, h3, h4, h5, h6⟩ := id h
  have hk := mK_le b n c
  have hw := rW_b b (tP b n c) (tN b n c - tP b n c)
  unfold fX12_takes
  refine w_gIe h2.k h5 (w_bt rfl (w_gIe h2.k h4.2.2.1 (w_br (fun u => ?_) (fun u => ?_))))
  · rw [show (3 : Int32) = Int32.ofNat 3 from rfl, eq_ofNat (by omega) (by omega)] at u
    obtain ⟨k1, k2⟩ := mK_3 u
    refine w_gIe h2.k (h4.2.2.2.2.2 k1) (w_br (fun v => ?_) (fun v => ?_))
    · rw [show (50 : Int32) = Int32.ofNat 50 from rfl, eq_ofNat (by omega) (by omega)] at v
      have o : tN b n c - tP b n c = 1 := by
        by_cases o : tN b n c - tP b n c = 1
        · exact o
        · have := rW_more h3 k1 o; omega
      have e := rW_one ⟨k1, o⟩
      have hb := le_bd (tK_1 k1)
      refine w_ck h2.k (w_clr (mstep_m h) ?_)
      rintro _ S1 ⟨f1, m1⟩
      exact w_r1 ⟨f1, (decide_eq_true ⟨⟨k1, o⟩, by omega⟩).symm, fun _ => m1, fun z => absurd z (by decide)⟩
    · rw [show (50 : Int32) = Int32.ofNat 50 from rfl, eq_ofNat (by omega) (by omega)] at v
      exact w_r0 ⟨FQ.rfl, (decide_eq_false (fun z => v (by rw [rW_one z.1, z.2]))).symm, fun z => absurd z (by decide), fun _ => rfl⟩
  · rw [show (3 : Int32) = Int32.ofNat 3 from rfl, eq_ofNat (by omega) (by omega)] at u
    exact w_r0 ⟨FQ.rfl, (decide_eq_false (fun z => u (mK_one z.1))).symm, fun z => absurd z (by decide), fun _ => rfl⟩
