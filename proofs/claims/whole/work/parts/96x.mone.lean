-- one-letter words in the reference
theorem ite_q {Q : Nat → Prop} {P : Prop} [Decidable P] {x y : Nat} (h1 : P → Q x) (h2 : ¬ P → Q y) : Q (if P then x else y) := by
  by_cases c : P
  · rw [if_pos c]; exact h1 c
  · rw [if_neg c]; exact h2 c
theorem wO_ge {v : Nat} (h : 32 ≤ v) : wO v < 40 ∨ wO v = 99 := by
  unfold wO
  rw [if_pos h]
  repeat (refine ite_q (Q := fun w => w < 40 ∨ w = 99) (fun _ => Or.inl (by decide)) (fun _ => ?_))
  exact Or.inr rfl
theorem tN_1 {b : Nat → Nat} {n c : Nat} (h : tK b n c = 1) : tN b n c = rn (fun i => leB (b i)) n (tP b n c) := by
  have hl := tK_lt (b := b) (n := n) (c := c) (by omega)
  rw [tN, if_neg (by omega), if_pos (tK_1 h)]
theorem rW_one {b : Nat → Nat} {n c : Nat} (h : oneL b n c) : rW b (tP b n c) (tN b n c - tP b n c) = 40 + (b (tP b n c) - 97) := by
  have hb := le_bd (tK_1 h.1)
  rw [h.2, rW, if_pos (by decide), wvF, wvF, Nat.add_zero, wO, if_neg (by omega)]
  omega
theorem rW_more {b : Nat → Nat} {n c : Nat} (hc : c ≤ n) (h : tK b n c = 1) (h1 : ¬ tN b n c - tP b n c = 1) : rW b (tP b n c) (tN b n c - tP b n c) < 40 ∨ rW b (tP b n c) (tN b n c - tP b n c) = 99 := by
  have hl := tK_lt (b := b) (n := n) (c := c) (by omega)
  have hn := tN_b (b := b) hc
  unfold rW
  by_cases c6 : tN b n c - tP b n c ≤ 6
  · rw [if_pos c6]
    apply wO_ge
    have hr := rn_b (P := fun i => leB (b i)) (n := n) _ (tP b n c) rfl (by omega)
    rw [← tN_1 h] at hr
    have hw := (wv_b (b := b) (q := tP b n c) (tN b n c - tP b n c) (fun i hi => hr.2.2.2 _ (by omega) (by omega))).2 (by omega)
    have hp : 32 ^ 2 ≤ 32 ^ (tN b n c - tP b n c) := Nat.pow_le_pow_right (by decide) (by omega)
    omega
  · rw [if_neg c6]; exact Or.inr rfl
