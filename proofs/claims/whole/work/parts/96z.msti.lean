/-- stitches, in the reference -/
theorem sews_w {al : Nat → Int32} {S0 S : St} {D t : Nat} {P : Int32} (x : Int64) (h : WU al S0 S P) (hk : HK S D) (hD : D < 7) (ht : t < 6) : Rn (fX12_sews 32 (Int32.ofNat D) (Int32.ofNat t) x S) (fun _ S' => WU al S0 S' P) := by
  obtain ⟨hh, h5, e⟩ := hk D (Nat.le_refl _) hD
  exact ⟨(), _, sews_m x h.1.1 hD ht h5 e, (FJ.rfl.st _ _ _).fz.wu h⟩
theorem msti_m {al : Nat → Int32} {S0 S : St} {b : Nat → Nat} {n c D F t : Nat} {P : Int32} {g : CT} {hu re : Nat → Nat} (h : MIp al S0 S b n c D F P g hu re) (ht : t < 6) (hl : tK b n c ≠ 0) : Rn ((ck 13 32 <| cl (fX12_step 32) fun _ => ck 13 32 <| cl (fX12_numbered 32) fun v8 => gI 13 32 14 fun v9 => br (7 ≤ v9) (rt ()) (gI 13 32 14 fun v10 => ck 13 32 <| cl (fX12_sews 32 v10 (Int32.ofNat t) v8.toInt64) fun _ => rt ())) S) (fun _ S' => PM al S0 S' b n (stiI t b n c D F P g hu re)) := by
  obtain ⟨hm, hDc, h14, hk, hA⟩ := h
  have hc := hm.2.2.1
  have h400 := hm.2.1.2.2.1
  have hp := tP_b (b := b) hc
  have hn := tN_b (b := b) hc
  have hn2 := tN_b (b := b) hn.2.1
  have hp2 := tP_b (b := b) hn.2.1
  have hv := tV_b (b := b) hn.2.1
  refine w_ck hm.2.1.k (w_clr (mstep_m hm) ?_)
  rintro _ S1 ⟨f1, m1⟩
  refine w_ck m1.2.1.k (w_clr (numbered_m m1) ?_)
  rintro v S2 ⟨f2, m2, w2⟩
  have f := f1.trans f2
  have g14 := f.d h14
  have k2 := f.hk hk
  by_cases u : tK b n (tN b n c) = 2
  · obtain ⟨ev, m3⟩ := m2 u
    clear m2
    have m2 := m3
    subst ev
    rw [stiI, if_pos u]
    refine w_gIe m2.2.1.k g14 (w_br (fun q => ?_) (fun q => ?_))
    · rw [show (7 : Int32) = Int32.ofNat 7 from rfl, le_ofNat (by omega) (by omega)] at q
      exact w_rt (PM_t ⟨m2, by omega, g14, k2, fun z => by have := (hA z).1; omega⟩)
    · rw [show (7 : Int32) = Int32.ofNat 7 from rfl, le_ofNat (by omega) (by omega)] at q
      obtain ⟨hh, h5, e⟩ := k2 D (Nat.le_refl _) (by omega)
      refine w_gIe m2.2.1.k g14 (w_ck m2.2.1.k (w_cl (sews_m _ m2.2.1.1 (by omega) ht h5 e) (w_rt (PM_t ⟨(FJ.rfl.st _ _ _).fz.mu m2, by omega, g14, k2, fun z => ?_⟩))))
      obtain ⟨a1, a2, a3, a4⟩ := f.ma (hA z)
      have eh : hh = hu D := by
        have := (a3 D (Nat.le_refl _)).1
        rw [e] at this
        have h5' := (a3 D (Nat.le_refl _)).2
        unfold hI at this
        by_cases c1 : hh = 4
        · by_cases c2 : hu D = 4
          · omega
          · rw [if_pos c1, if_neg c2] at this; exact absurd this.symm (ofNat_ne_m1 (by omega))
        · by_cases c2 : hu D = 4
          · rw [if_neg c1, if_pos c2] at this; exact absurd this (ofNat_ne_m1 (by omega))
          · rw [if_neg c1, if_neg c2, eq_ofNat (by omega) (by omega)] at this; exact this
      subst eh
      refine ⟨a1, a2.st ht h5 ?_, a3, a4⟩
      rw [a2 D t (hu D) (Nat.le_refl _) ht h5, J_of (by omega), J_add, lst_of (by omega)]
      congr 1
      omega
  · have w2 := w2 u
    rw [stiI, if_neg u]
    refine w_gIe (SH_K32 w2.1.1) g14 (w_br (fun q => w_rt (PM_f w2)) (fun q => ?_))
    rw [show (7 : Int32) = Int32.ofNat 7 from rfl, le_ofNat (by omega) (by omega)] at q
    refine w_gIe (SH_K32 w2.1.1) g14 (w_ck (SH_K32 w2.1.1) (w_clr (sews_w _ w2 k2 (by omega) ht) ?_))
    rintro _ S3 w3
    exact w_rt (PM_f w3)
