theorem fld_step {T : St} {q n kd len f : Nat} (hn : sn T = q + n) (h0 : 0 < n) : sn (stR (stN T kd len len) q f (some (q + n))) = q + (n + 1) ∧ sm (stR (stN T kd len len) q f (some (q + n))) = sm T + len ∧ (∀ a, a < q + n → a ≠ q → AG T (stR (stN T kd len len) q f (some (q + n))) a) ∧ sK (stR (stN T kd len len) q f (some (q + n))) q = sK T q ∧ (∀ j, sI (stR (stN T kd len len) q f (some (q + n))) q j = sI T q j) ∧ (∀ j, sR (stR (stN T kd len len) q f (some (q + n))) q j = if j = f then some (q + n) else sR T q j) ∧ sK (stR (stN T kd len len) q f (some (q + n))) (q + n) = kd ∧ sL (stR (stN T kd len len) q f (some (q + n))) (q + n) = len ∧ (∀ j, sI (stR (stN T kd len len) q f (some (q + n))) (q + n) j = 0) ∧ ∀ j, sR (stR (stN T kd len len) q f (some (q + n))) (q + n) j = none := by
  refine ⟨?_, ?_, fun a ha hne => (AG.rfl.stN (by omega)).stR _ hne, ?_, fun j => ?_, fun j => ?_, ?_, ?_, fun j => ?_, fun j => ?_⟩
  · rw [sn_stR, sn_stN, hn]; omega
  · rw [sm_stR, sm_stN]
  · rw [sK_stR, sK_stN, if_neg (by omega)]
  · rw [sI_stR, sI_stN, if_neg (by omega)]
  · rw [sR_stR]
    by_cases e : j = f
    · rw [if_pos ⟨rfl, e⟩, if_pos e]
    · rw [if_neg (fun z => e z.2), if_neg e, sR_stN, if_neg (by omega)]
  · rw [sK_stR, sK_stN, if_pos hn.symm]
  · rw [sL_stR, sL_stN, if_pos hn.symm]
  · rw [sI_stR, sI_stN, if_pos hn.symm]
  · rw [sR_stR, if_neg (fun z => by omega), sR_stN, if_pos hn.symm]
set_option maxHeartbeats 1000000 in
set_option maxRecDepth 10000 in
theorem init_world {S : St} (h46 : 46 ≤ sn S) : Rn (fX10_init (sn S) (stN S 11 0 15)) (fun _ S1 => EX S S1 ∧ sn S1 = sn S + 8 ∧ sm S1 = sm S + 514 ∧ WSh S1 (sn S) ∧ (∀ j, sR S1 (sn S + 2) j = none) ∧ (∀ j, sR S1 (sn S + 3) j = none) ∧ (∀ j, sR S1 (sn S + 4) j = none) ∧ ∀ j, sR S1 (sn S + 5) j = none) := by
  unfold fX10_init
  generalize hq : sn S = q at *
  have x0 : EX S (stN S 11 0 15) := EX.rfl.new 11 0 15
  have a0 : sn (stN S 11 0 15) = q + 1 := by rw [sn_stN, hq]
  have b0 : sm (stN S 11 0 15) = sm S + 15 := rfl
  have k0 : sK (stN S 11 0 15) q = 11 := by rw [sK_stN, if_pos hq.symm]
  generalize stN S 11 0 15 = T0 at x0 a0 b0 k0 ⊢
  refine w_nA (m := 400) rfl (by omega) ?_
  rw [a0]
  obtain ⟨a1, b1, c1, d1, -, f1, g1, h1, -, -⟩ := fld_step (T := T0) (q := q) (n := 1) (kd := 14) (len := 400) (f := 0) a0 (by omega)
  have x1 := (x0.new 14 400 400).stR (a := q) (j := 0) (some (q + 1)) (by omega)
  refine w_pR (show sK (stN T0 14 400 400) q = 11 by rw [sK_stN, if_neg (by omega)]; exact k0) ?_
  generalize stR (stN T0 14 400 400) q 0 (some (q + 1)) = T1 at x1 a1 b1 c1 d1 f1 g1 h1 ⊢
  have k1 : sK T1 q = 11 := d1.trans k0
  refine w_pI k1 ?_
  have y2 : EX S (stI T1 q 3 (-1)) := x1.stI _ (by omega)
  have a2 : sn (stI T1 q 3 (-1)) = q + 2 := a1
  have b2 : sm (stI T1 q 3 (-1)) = sm T0 + 400 := b1
  have k2 : sK (stI T1 q 3 (-1)) q = 11 := k1
  have r2 : sR (stI T1 q 3 (-1)) q 0 = some (q + 1) := by rw [sR_stI, f1, if_pos rfl]
  have g2 : sK (stI T1 q 3 (-1)) (q + 1) = 14 := g1
  have h2 : sL (stI T1 q 3 (-1)) (q + 1) = 400 := h1
  generalize stI T1 q 3 (-1) = T2 at y2 a2 b2 k2 r2 g2 h2 ⊢
  clear x1 a1 b1 c1 d1 f1 g1 h1 k1 x0 a0
  refine w_nA (m := 8) rfl (by omega) ?_
  rw [a2]
  obtain ⟨a3, b3, c3, d3, -, f3, g3, h3, -, e3⟩ := fld_step (T := T2) (q := q) (n := 2) (kd := 19) (len := 8) (f := 5) a2 (by omega)
  have x3 := (y2.new 19 8 8).stR (a := q) (j := 5) (some (q + 2)) (by omega)
  refine w_pR (show sK (stN T2 19 8 8) q = 11 by rw [sK_stN, if_neg (by omega)]; exact k2) ?_
  generalize stR (stN T2 19 8 8) q 5 (some (q + 2)) = T3 at x3 a3 b3 c3 d3 f3 g3 h3 e3 ⊢
  have k3 : sK T3 q = 11 := d3.trans k2
  refine w_nA (m := 10) rfl (by omega) ?_
  rw [a3]
  obtain ⟨a4, b4, c4, d4, -, f4, g4, h4, -, e4⟩ := fld_step (T := T3) (q := q) (n := 3) (kd := 21) (len := 10) (f := 7) a3 (by omega)
  have x4 := (x3.new 21 10 10).stR (a := q) (j := 7) (some (q + 3)) (by omega)
  refine w_pR (show sK (stN T3 21 10 10) q = 11 by rw [sK_stN, if_neg (by omega)]; exact k3) ?_
  generalize stR (stN T3 21 10 10) q 7 (some (q + 3)) = T4 at x4 a4 b4 c4 d4 f4 g4 h4 e4 ⊢
  have k4 : sK T4 q = 11 := d4.trans k3
  refine w_nA (m := 12) rfl (by omega) ?_
  rw [a4]
  obtain ⟨a5, b5, c5, d5, -, f5, g5, h5, -, e5⟩ := fld_step (T := T4) (q := q) (n := 4) (kd := 18) (len := 12) (f := 9) a4 (by omega)
  have x5 := (x4.new 18 12 12).stR (a := q) (j := 9) (some (q + 4)) (by omega)
  refine w_pR (show sK (stN T4 18 12 12) q = 11 by rw [sK_stN, if_neg (by omega)]; exact k4) ?_
  generalize stR (stN T4 18 12 12) q 9 (some (q + 4)) = T5 at x5 a5 b5 c5 d5 f5 g5 h5 e5 ⊢
  have k5 : sK T5 q = 11 := d5.trans k4
  refine w_nA (m := 60) rfl (by omega) ?_
  rw [a5]
  obtain ⟨a6, b6, c6, d6, -, f6, g6, h6, -, e6⟩ := fld_step (T := T5) (q := q) (n := 5) (kd := 20) (len := 60) (f := 11) a5 (by omega)
  have x6 := (x5.new 20 60 60).stR (a := q) (j := 11) (some (q + 5)) (by omega)
  refine w_pR (show sK (stN T5 20 60 60) q = 11 by rw [sK_stN, if_neg (by omega)]; exact k5) ?_
  generalize stR (stN T5 20 60 60) q 11 (some (q + 5)) = T6 at x6 a6 b6 c6 d6 f6 g6 h6 e6 ⊢
  have k6 : sK T6 q = 11 := d6.trans k5
  refine w_nA (m := 6) rfl (by omega) ?_
  rw [a6]
  obtain ⟨a7, b7, c7, d7, -, f7, g7, h7, -, e7⟩ := fld_step (T := T6) (q := q) (n := 6) (kd := 15) (len := 6) (f := 13) a6 (by omega)
  have x7 := (x6.new 15 6 6).stR (a := q) (j := 13) (some (q + 6)) (by omega)
  refine w_pR (show sK (stN T6 15 6 6) q = 11 by rw [sK_stN, if_neg (by omega)]; exact k6) ?_
  generalize stR (stN T6 15 6 6) q 13 (some (q + 6)) = T7 at x7 a7 b7 c7 d7 f7 g7 h7 e7 ⊢
  have k7 : sK T7 q = 11 := d7.trans k6
  refine w_nA (m := 3) rfl (by omega) ?_
  rw [a7]
  obtain ⟨a8, b8, c8, d8, -, f8, g8, h8, -, e8⟩ := fld_step (T := T7) (q := q) (n := 7) (kd := 15) (len := 3) (f := 14) a7 (by omega)
  have x8 := (x7.new 15 3 3).stR (a := q) (j := 14) (some (q + 7)) (by omega)
  refine w_pR (show sK (stN T7 15 3 3) q = 11 by rw [sK_stN, if_neg (by omega)]; exact k7) ?_
  generalize stR (stN T7 15 3 3) q 14 (some (q + 7)) = T8 at x8 a8 b8 c8 d8 f8 g8 h8 e8 ⊢
  have k8 : sK T8 q = 11 := d8.trans k7
  have m7 : AG T7 T8 (q + 6) := c8 _ (by omega) (by omega)
  have m6 : AG T6 T8 (q + 5) := (c7 _ (by omega) (by omega)).trans (c8 _ (by omega) (by omega))
  have m5 : AG T5 T8 (q + 4) := ((c6 _ (by omega) (by omega)).trans (c7 _ (by omega) (by omega))).trans (c8 _ (by omega) (by omega))
  have m4 : AG T4 T8 (q + 3) := (((c5 _ (by omega) (by omega)).trans (c6 _ (by omega) (by omega))).trans (c7 _ (by omega) (by omega))).trans (c8 _ (by omega) (by omega))
  have m3 : AG T3 T8 (q + 2) := ((((c4 _ (by omega) (by omega)).trans (c5 _ (by omega) (by omega))).trans (c6 _ (by omega) (by omega))).trans (c7 _ (by omega) (by omega))).trans (c8 _ (by omega) (by omega))
  have m2 : AG T2 T8 (q + 1) := (((((c3 _ (by omega) (by omega)).trans (c4 _ (by omega) (by omega))).trans (c5 _ (by omega) (by omega))).trans (c6 _ (by omega) (by omega))).trans (c7 _ (by omega) (by omega))).trans (c8 _ (by omega) (by omega))
  have r13 : sR T8 q 13 = some (q + 6) := by rw [f8, if_neg (by omega), f7, if_pos rfl]
  refine w_gR k8 r13 (w_clr (fill_w (m := 6) 360 (by rw [m7.1]; exact g7) (by rw [m7.2.1]; exact h7) (by omega)) ?_)
  rintro - S1 ⟨hF, -⟩
  refine w_rt ⟨FX.ex x8 hF (by intro a ha; omega), by rw [hF.2.2.2.1, a8], by rw [hF.2.2.2.2.1]; omega, ?_, fun j => ?_, fun j => ?_, fun j => ?_, fun j => ?_⟩
  · unfold WSh
    simp only [hF.1, hF.2.1, hF.2.2.1]
    refine ⟨k8, by rw [m2.1]; exact g2, by rw [m3.1]; exact g3, by rw [m4.1]; exact g4, by rw [m5.1]; exact g5, by rw [m6.1]; exact g6, by rw [m7.1]; exact g7, g8, by rw [m2.2.1]; exact h2, by rw [m3.2.1]; exact h3, by rw [m4.2.1]; exact h4, by rw [m5.2.1]; exact h5, by rw [m6.2.1]; exact h6, by rw [m7.2.1]; exact h7, h8, ?_, ?_, ?_, ?_, ?_, r13, ?_⟩
    · rw [f8, if_neg (by omega), f7, if_neg (by omega), f6, if_neg (by omega), f5, if_neg (by omega), f4, if_neg (by omega), f3, if_neg (by omega)]; exact r2
    · rw [f8, if_neg (by omega), f7, if_neg (by omega), f6, if_neg (by omega), f5, if_neg (by omega), f4, if_neg (by omega), f3, if_pos rfl]
    · rw [f8, if_neg (by omega), f7, if_neg (by omega), f6, if_neg (by omega), f5, if_neg (by omega), f4, if_pos rfl]
    · rw [f8, if_neg (by omega), f7, if_neg (by omega), f6, if_neg (by omega), f5, if_pos rfl]
    · rw [f8, if_neg (by omega), f7, if_neg (by omega), f6, if_pos rfl]
    · rw [f8, if_pos rfl]
  · rw [hF.2.2.1, m3.2.2.2]; exact e3 j
  · rw [hF.2.2.1, m4.2.2.2]; exact e4 j
  · rw [hF.2.2.1, m5.2.2.2]; exact e5 j
  · rw [hF.2.2.1, m6.2.2.2]; exact e6 j
theorem CS_putW {S : St} (h1 : SH S) (hC : CS S) {k w : Nat} (hk : k < 3) (hw : 46 ≤ w ∧ w + 8 ≤ sn S) (hW : WSh S w) (hfr : ∀ k', k' < 3 → sR S 9 k' ≠ some w) (e2 : ∀ i, sR S (w + 2) i = none) (e3 : ∀ i, sR S (w + 3) i = none) (e4 : ∀ i, sR S (w + 4) i = none) (e5 : ∀ i, sR S (w + 5) i = none) : CS (stR S 9 k (some w)) := by
  have eR : ∀ a j, a ≠ 9 → sR (stR S 9 k (some w)) a j = sR S a j := fun a j ha => by rw [sR_stR, if_neg (fun z => ha z.1)]
  have e9 : ∀ k', sR (stR S 9 k (some w)) 9 k' = if k' = k then some w else sR S 9 k' := fun k' => by
    rw [sR_stR]
    by_cases e : k' = k
    · rw [if_pos ⟨rfl, e⟩, if_pos e]
    · rw [if_neg (fun z => e z.2), if_neg e]
  have gw : ∀ v, WL (stR S 9 k (some w)) v → (WL S v ∨ v = w) ∧ (v = 1 ∨ 46 ≤ v) := fun v hv => by
    rcases hv with hv | ⟨k', hk', hv⟩
    · exact ⟨Or.inl (Or.inl hv), Or.inl hv⟩
    · rw [e9] at hv
      by_cases e : k' = k
      · rw [if_pos e] at hv; cases hv; exact ⟨Or.inr rfl, Or.inr hw.1⟩
      · rw [if_neg e] at hv; exact ⟨Or.inl (Or.inr ⟨k', hk', hv⟩), Or.inr (hC.1 k' v hk' hv).1⟩
  have wk : ∀ v, (v = 1 ∨ 46 ≤ v) → WSh S v → WSh (stR S 9 k (some w)) v := fun v hv hs => by
    unfold WSh at hs ⊢
    simp only [eR v _ (show v ≠ 9 by omega)]
    exact hs
  obtain ⟨g1, g2, g3, g4, g5, g6, g7, g8, g9⟩ := id hC
  refine ⟨fun k' v hk' hv => ?_, fun k1 k2 v hk1 hk2 hv1 hv2 => ?_, fun v hv => ?_, fun v i q hv hi hq => ?_, fun v i q hv hi hq => ?_, fun v i q hv hi hq => ?_, fun v i q hv hi hq => ?_, fun v v' i i' q hv hv' hi hi' hq hq' => ?_, fun v v' i i' q hv hv' hi hi' hq hq' => ?_⟩
  · rw [e9] at hv
    by_cases e : k' = k
    · rw [if_pos e] at hv; cases hv; exact hw
    · rw [if_neg e] at hv; exact g1 k' v hk' hv
  · rw [e9] at hv1 hv2
    by_cases c1 : k1 = k
    · by_cases c2 : k2 = k
      · omega
      · rw [if_pos c1] at hv1; rw [if_neg c2] at hv2; cases hv1; exact absurd hv2 (hfr k2 hk2)
    · by_cases c2 : k2 = k
      · rw [if_neg c1] at hv1; rw [if_pos c2] at hv2; cases hv2; exact absurd hv1 (hfr k1 hk1)
      · rw [if_neg c1] at hv1; rw [if_neg c2] at hv2; exact g2 k1 k2 v hk1 hk2 hv1 hv2
  · obtain ⟨hv1 | rfl, hv2⟩ := gw v hv
    · exact wk v hv2 (g3 v hv1)
    · exact wk v hv2 hW
  · obtain ⟨hv1 | rfl, hv2⟩ := gw v hv
    · rw [eR _ _ (by omega)] at hq
      have hs := g4 v i q hv1 hi hq
      have hge := hs.ge
      unfold TSh at hs ⊢
      simp only [eR q _ (show q ≠ 9 by omega)]
      exact hs
    · rw [eR _ _ (by omega), e2] at hq; cases hq
  · obtain ⟨hv1 | rfl, hv2⟩ := gw v hv
    · rw [eR _ _ (by omega)] at hq
      have hs := g5 v i q hv1 hi hq
      have hge := hs.ge
      unfold LSh at hs ⊢
      simp only [eR q _ (show q ≠ 9 by omega)]
      exact hs
    · rw [eR _ _ (by omega), e3] at hq; cases hq
  · obtain ⟨hv1 | rfl, hv2⟩ := gw v hv
    · rw [eR _ _ (by omega)] at hq
      have hs := g6 v i q hv1 hi hq
      have hge := hs.ge
      unfold HSh at hs ⊢
      simp only [eR q _ (show q ≠ 9 by omega)]
      exact hs
    · rw [eR _ _ (by omega), e4] at hq; cases hq
  · obtain ⟨hv1 | rfl, hv2⟩ := gw v hv
    · rw [eR _ _ (by omega)] at hq
      have hs := g7 v i q hv1 hi hq
      have hge := hs.ge
      unfold GSh at hs ⊢
      simp only [eR q _ (show q ≠ 9 by omega)]
      exact hs
    · rw [eR _ _ (by omega), e5] at hq; cases hq
  · obtain ⟨hv1 | rfl, hv2⟩ := gw v hv
    · obtain ⟨hw1 | rfl, hw2⟩ := gw v' hv'
      · rw [eR _ _ (by omega)] at hq hq'
        exact g8 v v' i i' q hv1 hw1 hi hi' hq hq'
      · rw [eR _ _ (by omega), e4] at hq'; cases hq'
    · rw [eR _ _ (by omega), e4] at hq; cases hq
  · obtain ⟨hv1 | rfl, hv2⟩ := gw v hv
    · obtain ⟨hw1 | rfl, hw2⟩ := gw v' hv'
      · rw [eR _ _ (by omega)] at hq hq'
        exact g9 v v' i i' q hv1 hw1 hi hi' hq hq'
      · rw [eR _ _ (by omega), e5] at hq'; cases hq'
    · rw [eR _ _ (by omega), e5] at hq; cases hq
/-- the copy's target aside, worlds are as they were -/
theorem copy_keeps {S0 S' : St} {al : Nat → Int32} {w d : Nat} (h1 : SH S0) (hC : CS S0) (hd : WL S0 d) (hw : WL S0 w) (hne : w ≠ d) (hO : OKc al) (hW : CW al w S0) (hA : ∀ a, a < sn S0 → ¬ (d ≤ a ∧ a < d + 8) → ¬ ownH S0 d a → ¬ ownG S0 d a → AG S0 S' a) : CW al w S' :=
  CW_ag hW hO hC hw (fun a ha => hA a (FT_lt h1 hC hw ha) (FT_W hC hw hd hne ha) (fun ⟨i, q, hi, hq, hh⟩ => FT_H hC hw hd hne hi hq ha hh) (fun ⟨i, q, hi, hq, hh⟩ => FT_G hC hw hd hne hi hq ha hh))
theorem copy_static {S0 S' : St} {d a : Nat} (h1 : SH S0) (hC : CS S0) (hd : WL S0 d) (ha : 9 ≤ a ∧ a < 46) (hA : ∀ a, a < sn S0 → ¬ (d ≤ a ∧ a < d + 8) → ¬ ownH S0 d a → ¬ ownG S0 d a → AG S0 S' a) : AG S0 S' a := by
  have h46 := h1.2.2.2
  have hwl := (WL_lt h1 hC hd).1
  refine hA a (by omega) (by omega) ?_ ?_
  · rintro ⟨i, q, hi, hq, hh⟩
    have := (shH hC hd hi hq).ge
    omega
  · rintro ⟨i, q, hi, hq, hh⟩
    have := (shG hC hd hi hq).ge
    omega
