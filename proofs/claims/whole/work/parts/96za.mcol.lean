-- colours and openings in the reference
theorem and3 (x : Int32) : ∃ h, h < 4 ∧ x &&& 3 = Int32.ofNat h := by
  have h : (x &&& 3).toBitVec.toNat ≤ 3 := by
    rw [Int32.toBitVec_and, BitVec.toNat_and]
    exact Nat.and_le_right
  have e : (x &&& 3).toInt = ((x &&& 3).toBitVec.toNat : Int) := BitVec.toInt_eq_toNat_of_lt (by omega)
  have h1 : 0 ≤ x &&& 3 := by rw [le_i, e, i0]; omega
  have h2 : x &&& 3 ≤ Int32.ofNat 3 := by rw [show Int32.ofNat 3 = (3 : Int32) from rfl, le_i, e, show (3 : Int32).toInt = 3 from rfl]; omega
  exact ⟨nat (x &&& 3), by have := nat_le h2 (by decide); omega, cnt_eq h1⟩
theorem and3_n : ∀ v, v < 4 → Int32.ofNat v &&& 3 = Int32.ofNat v := by decide
theorem hI_of {h : Nat} (h4 : h < 4) : hI h = Int32.ofNat h := by rw [hI, if_neg (by omega)]
theorem FZ.trans {S S1 S2 : St} (h : FZ S S1) (g : FZ S1 S2) : FZ S S2 := ⟨fun a => (g.1 a).trans (h.1 a), fun a => (g.2.1 a).trans (h.2.1 a), fun a j => (g.2.2.1 a j).trans (h.2.2.1 a j), g.2.2.2.1.trans h.2.2.2.1, g.2.2.2.2.1.trans h.2.2.2.2.1, fun a j q1 q2 q3 => (g.2.2.2.2.2 a j q1 q2 q3).trans (h.2.2.2.2.2 a j q1 q2 q3)⟩
theorem hue_w {al : Nat → Int32} {S0 S : St} {P : Int32} {D : Nat} (x : Int32) (h : WU al S0 S P) (h14 : sI S 32 14 = Int32.ofNat D) (hD : D ≤ 1000) : Rn (fX12_anItem_102 32 x S) (fun _ S' => WU al S0 S' P) := by
  unfold fX12_anItem_102
  have hS := h.1.1
  refine w_gIe (SH_K32 hS) h14 (w_br (fun q => w_rt h) (fun q => ?_))
  rw [show (7 : Int32) = Int32.ofNat 7 from rfl, le_ofNat (by omega) (by omega)] at q
  exact w_gR (SH_K32 hS) (SH_R32_12 hS) (w_gIe (SH_K32 hS) h14 (w_nn (w_wI (SH_K37 hS) rfl (SH_L37 hS) (by omega) (w_rt ((FZ.hue _ _).wu h)))))
theorem hue_m {al : Nat → Int32} {S0 S : St} {b : Nat → Nat} {n c D F v : Nat} {P : Int32} {g : CT} {hu re : Nat → Nat} (hm : MU al S0 S b n c F P) (hDc : D ≤ c) (h14 : sI S 32 14 = Int32.ofNat D) (hk : HK S D) (hA : F = 0 → MA S D g hu re ∧ v < 4) : Rn (fX12_anItem_102 32 (Int32.ofNat v) S) (fun _ S' => MIp al S0 S' b n c D F P g (up hu D v) re) := by
  unfold fX12_anItem_102
  have hS := hm.2.1.1
  have h400 := hm.2.1.2.2.1
  have hc := hm.2.2.1
  refine w_gIe (SH_K32 hS) h14 (w_br (fun q => w_rt ⟨hm, hDc, h14, hk, fun z => ?_⟩) (fun q => ?_))
  · rw [show (7 : Int32) = Int32.ofNat 7 from rfl, le_ofNat (by omega) (by omega)] at q
    have := (hA z).1.1
    omega
  · rw [show (7 : Int32) = Int32.ofNat 7 from rfl, le_ofNat (by omega) (by omega)] at q
    obtain ⟨h, h4, e⟩ := and3 (Int32.ofNat v)
    refine w_gR (SH_K32 hS) (SH_R32_12 hS) (w_gIe (SH_K32 hS) h14 (w_nn (w_wI (SH_K37 hS) rfl (SH_L37 hS) (by omega) (w_rt ⟨(FZ.hue _ _).mu hm, hDc, ?_, fun l q1 q2 => ?_, fun z => ?_⟩))))
    · rw [st_ne (Or.inl (by decide))]; exact h14
    · by_cases c1 : l = D
      · exact ⟨h, by omega, by rw [c1, st_get, e, hI_of h4]⟩
      · rw [st_ne (Or.inr c1)]; exact hk l q1 q2
    · obtain ⟨⟨a1, a2, a3, a4⟩, hv⟩ := hA z
      refine ⟨a1, a2, fun l hl => ?_, fun l q1 q2 => ?_⟩
      · unfold up
        by_cases c1 : l = D
        · rw [if_pos c1, c1, st_get, and3_n v hv, hI_of hv]; exact ⟨rfl, by omega⟩
        · rw [if_neg c1, st_ne (Or.inr c1)]; exact a3 l hl
      · rw [st_ne (Or.inl (by decide))]; exact a4 l q1 q2
theorem mcol_m {al : Nat → Int32} {S0 S S1 : St} {b : Nat → Nat} {n c D F : Nat} {P : Int32} {g : CT} {hu re : Nat → Nat} (h : MIp al S0 S b n c D F P g hu re) (hl : tK b n c ≠ 0) (m1 : MU al S0 S1 b n (tN b n c) F P) (f1 : FQ S S1) : Rn ((gI 13 32 4 fun v1004 => ck 13 32 <| cl (fX12_numbered 32) fun v1005 => br (v1005 ≤ 3) (fX12_anItem_102 32 v1005) (ck 13 32 <| cl (fX12_also 32 2 v1004) fun _ => fX12_anItem_102 32 v1005)) S1) (fun _ S' => PM al S0 S' b n (colI b n c D F P g hu re)) := by
  obtain ⟨hm, hDc, h14, hk, hA⟩ := h
  have hc := hm.2.2.1
  have h400 := hm.2.1.2.2.1
  have hp := tP_b (b := b) hc
  have hn := tN_b (b := b) hc
  have hn2 := tN_b (b := b) hn.2.1
  have hp2 := tP_b (b := b) hn.2.1
  have hv := tV_b (b := b) hn.2.1
  refine w_gIe m1.2.1.k m1.2.2.2.1.2.1 (w_ck m1.2.1.k (w_clr (numbered_m m1) ?_))
  rintro v S2 ⟨f2, m2, w2⟩
  have f := f1.trans f2
  have g14 := f.d h14
  have k2 := f.hk hk
  by_cases u : tK b n (tN b n c) = 2
  · obtain ⟨ev, m3⟩ := m2 u
    subst ev
    rw [colI, if_pos u]
    refine w_br (fun q => ?_) (fun q => ?_)
    · rw [show (3 : Int32) = Int32.ofNat 3 from rfl, le_ofNat (by omega) (by omega)] at q
      rw [if_pos q, if_pos q]
      refine Rn.mono (hue_m m3 (by omega) g14 k2 (fun z => ⟨f.ma (hA z), by omega⟩)) ?_
      rintro _ S3 m4
      exact PM_t m4
    · rw [show (3 : Int32) = Int32.ofNat 3 from rfl, le_ofNat (by omega) (by omega)] at q
      rw [if_neg q, if_neg q]
      refine w_ck m3.2.1.k (w_clr (also_m (f := 2) m3 (by decide)) ?_)
      rintro _ S3 ⟨f3, m4⟩
      refine Rn.mono (hue_m (g := g) (hu := hu) (re := re) m4 (by omega) (f3.d g14) (f3.hk k2) (fun z => absurd z (ntF_ne (by omega)))) ?_
      rintro _ S4 m5
      exact PM_t m5
  · have w2 := w2 u
    rw [colI, if_neg u]
    refine w_br (fun q => ?_) (fun q => ?_)
    · refine Rn.mono (hue_w _ w2 g14 (by omega)) ?_
      rintro _ S3 w3
      exact PM_f w3
    · refine w_ck (SH_K32 w2.1.1) (w_cl (also_w w2 _ _) (Rn.mono (hue_w _ w2 g14 (by omega)) ?_))
      rintro _ S3 w3
      exact PM_f w3
theorem mopnT {S : St} {D : Nat} (x : Int32) (hS : SH S) (h14 : sI S 32 14 = Int32.ofNat D) (hD : D ≤ 900) : Rn ((gI 13 32 14 fun v4002 => pI 13 32 14 (v4002 + 1) <| gI 13 32 14 fun v4003 => br (7 ≤ v4003) (rt ()) (ck 13 32 <| cl (fX12_opens 32 x) fun _ => rt ())) S) (fun _ S' => FZ S S' ∧ sI S' 32 14 = Int32.ofNat (D + 1) ∧ (D + 1 < 7 → (∀ l, sI S' 37 l = if l = D + 1 then -1 else sI S 37 l) ∧ (∀ l, sI S' 38 l = if l = D + 1 then x else sI S 38 l) ∧ ∀ a j, sJ S' a j = if (a = 35 ∧ 6 * (D + 1) ≤ j ∧ j < 6 * (D + 1) + 6) ∨ (a = 36 ∧ 24 * (D + 1) ≤ j ∧ j < 24 * (D + 1) + 24) then 0 else sJ S a j) ∧ (7 ≤ D + 1 → ∀ l, sI S' 37 l = sI S 37 l)) := by
  refine w_gIe (SH_K32 hS) h14 (w_pI (SH_K32 hS) ?_)
  rw [succ32]
  have z1 : FZ S (stI S 32 14 (Int32.ofNat (D + 1))) := FZ.d14 _
  have s1 : SH (stI S 32 14 (Int32.ofNat (D + 1))) := (FC.rfl.st (X := fun _ _ => True) (S := S) _ trivial).sh hS
  have g14 : sI (stI S 32 14 (Int32.ofNat (D + 1))) 32 14 = Int32.ofNat (D + 1) := st_get
  have e37 : ∀ l, sI (stI S 32 14 (Int32.ofNat (D + 1))) 37 l = sI S 37 l := fun l => by rw [st_ne (Or.inl (by decide))]
  have e38 : ∀ l, sI (stI S 32 14 (Int32.ofNat (D + 1))) 38 l = sI S 38 l := fun l => by rw [st_ne (Or.inl (by decide))]
  have eJ : ∀ a j, sJ (stI S 32 14 (Int32.ofNat (D + 1))) a j = sJ S a j := fun _ _ => rfl
  generalize stI S 32 14 (Int32.ofNat (D + 1)) = S1 at *
  refine w_gIe (SH_K32 s1) g14 (w_br (fun q => ?_) (fun q => ?_))
  · rw [show (7 : Int32) = Int32.ofNat 7 from rfl, le_ofNat (by omega) (by omega)] at q
    exact w_rt ⟨z1, g14, fun z => by omega, fun _ => e37⟩
  · rw [show (7 : Int32) = Int32.ofNat 7 from rfl, le_ofNat (by omega) (by omega)] at q
    refine w_ck (SH_K32 s1) (w_clr (opens_m x s1 (by omega) g14) ?_)
    rintro _ S2 ⟨f2, h2, t2, j2⟩
    refine w_rt ⟨z1.trans (f2.fz (fun a z => z)), ?_, fun _ => ⟨fun l => by rw [h2, e37], fun l => by rw [t2, e38], fun a j => by rw [j2, eJ]⟩, fun z => by omega⟩
    rw [f2.2.2.2.2.2 32 14 (by omega)]; exact g14
theorem opn165_w {al : Nat → Int32} {S0 S : St} {P : Int32} {D : Nat} (x : Int32) (h : WU al S0 S P) (h14 : sI S 32 14 = Int32.ofNat D) (hD : D ≤ 900) : Rn (fX12_anItem_165 32 x S) (fun _ S' => WU al S0 S' P) := by
  unfold fX12_anItem_165
  refine w_ck (SH_K32 h.1.1) (w_cl (must_w h _) (Rn.mono (mopnT x h.1.1 h14 hD) ?_))
  rintro _ S1 ⟨z, _⟩
  exact z.wu h
theorem opn139_w {al : Nat → Int32} {S0 S : St} {P : Int32} {D : Nat} (x : Int32) (h : WU al S0 S P) (h14 : sI S 32 14 = Int32.ofNat D) (hD : D ≤ 900) : Rn (fX12_anItem_139 32 x S) (fun _ S' => WU al S0 S' P) := by
  unfold fX12_anItem_139
  exact w_ck (SH_K32 h.1.1) (w_cl (isSign_w h _) (w_zf rfl (opn165_w x h h14 hD)))
theorem opn165_m {al : Nat → Int32} {S0 S : St} {b : Nat → Nat} {n c D F v : Nat} {P : Int32} {g : CT} {hu re : Nat → Nat} (hm : MU al S0 S b n c F P) (hDc : D ≤ c) (h14 : sI S 32 14 = Int32.ofNat D) (hk : HK S D) (hv : v ≤ 9999) (hA : isS b n c 91 → F = 0 → MA S D g hu re ∧ D + 1 < 7 ∧ 1 ≤ v) : Rn (fX12_anItem_165 32 (Int32.ofNat v) S) (fun _ S' => (isS b n c 91 → MIp al S0 S' b n (tN b n c) (D + 1) F P (clr g (D + 1)) (up hu (D + 1) 4) (up re (D + 1) v)) ∧ (¬ isS b n c 91 → WU al S0 S' (Int32.ofNat (tP b n c)))) := by
  have hc := hm.2.2.1
  have h400 := hm.2.1.2.2.1
  have hp := tP_b (b := b) hc
  have hn := tN_b (b := b) hc
  unfold fX12_anItem_165
  refine w_ck hm.2.1.k (w_clr (must_m (y := 91) hm (by decide)) ?_)
  rintro _ S1 ⟨f1, m1, w1⟩
  have g14 := f1.d h14
  have k1 := f1.hk hk
  by_cases u : isS b n c 91
  · have m1 := m1 u
    have hlt := tK_lt (b := b) (n := n) (c := c) (by rw [u.1]; decide)
    refine Rn.mono (mopnT (Int32.ofNat v) m1.2.1.1 g14 (by omega)) ?_
    rintro _ S2 ⟨z2, k14, kA, kB⟩
    refine ⟨fun _ => ⟨z2.mu m1, by omega, k14, fun l q1 q2 => ?_, fun z => ?_⟩, fun q => absurd u q⟩
    · by_cases c7 : D + 1 < 7
      · rw [(kA c7).1]
        by_cases e : l = D + 1
        · exact ⟨4, by decide, by rw [if_pos e]; rfl⟩
        · rw [if_neg e]; exact k1 l (by omega) q2
      · rw [kB (by omega)]; exact k1 l (by omega) q2
    · obtain ⟨a0, c7, hv1⟩ := hA u z
      obtain ⟨a1, a2, a3, a4⟩ := f1.ma a0
      refine ⟨by omega, AM_clr (D := D + 1) (S := S1) (g := g) (fun l t k q1 q2 q3 => a2 l t k (by omega) q2 q3) (kA c7).2.2, fun l hl => ?_, fun l q1 q2 => ?_⟩
      · unfold up
        rw [(kA c7).1]
        by_cases e : l = D + 1
        · rw [if_pos e, if_pos e]; exact ⟨rfl, by decide⟩
        · rw [if_neg e, if_neg e]; exact a3 l (by omega)
      · unfold up
        rw [(kA c7).2.1]
        by_cases e : l = D + 1
        · rw [if_pos e, if_pos e]; exact ⟨rfl, hv1, hv⟩
        · rw [if_neg e, if_neg e]; exact a4 l q1 (by omega)
  · have w1 := w1 u
    refine Rn.mono (mopnT (Int32.ofNat v) w1.1.1 g14 (by omega)) ?_
    rintro _ S2 ⟨z2, _⟩
    exact ⟨fun q => absurd q u, fun _ => z2.wu w1⟩
theorem opn139_m {al : Nat → Int32} {S0 S : St} {b : Nat → Nat} {n c D F v : Nat} {P : Int32} {g : CT} {hu re : Nat → Nat} (hm : MU al S0 S b n c F P) (hDc : D ≤ c) (h14 : sI S 32 14 = Int32.ofNat D) (hk : HK S D) (hv : v ≤ 9999) (hA : F = 0 → MA S D g hu re ∧ 1 ≤ v) : Rn (fX12_anItem_139 32 (Int32.ofNat v) S) (fun _ S' => (isS b n c 91 → MIp al S0 S' b n (tN b n c) (D + 1) (if D + 1 < 7 then F else ntF F 3) (if D + 1 < 7 then P else ntP F P (Int32.ofNat (tP b n c))) (clr g (D + 1)) (up hu (D + 1) 4) (up re (D + 1) v)) ∧ (¬ isS b n c 91 → WU al S0 S' (Int32.ofNat (tP b n c)))) := by
  have hc := hm.2.2.1
  have h400 := hm.2.1.2.2.1
  unfold fX12_anItem_139
  refine w_ck hm.2.1.k (w_cl (isSign_m (y := 91) hm (by decide)) (w_z (fun u => ?_) (fun u => ?_)))
  · have u := of_decide_eq_true u
    refine w_gIe hm.2.1.k h14 (w_br (fun q => ?_) (fun q => ?_))
    · rw [show (5 : Int32) = Int32.ofNat 5 from rfl, le_ofNat (by omega) (by omega)] at q
      rw [if_pos (show D + 1 < 7 by omega), if_pos (show D + 1 < 7 by omega)]
      exact opn165_m hm hDc h14 hk hv (fun _ z => ⟨(hA z).1, by omega, (hA z).2⟩)
    · rw [show (5 : Int32) = Int32.ofNat 5 from rfl, le_ofNat (by omega) (by omega)] at q
      rw [if_neg (show ¬ D + 1 < 7 by omega), if_neg (show ¬ D + 1 < 7 by omega)]
      refine w_gIe hm.2.1.k hm.2.2.2.1.2.1 (w_ck hm.2.1.k (w_clr (also_m (f := 3) hm (by decide)) ?_))
      rintro _ S1 ⟨f1, m1⟩
      exact opn165_m (g := g) (hu := hu) (re := re) m1 hDc (f1.d h14) (f1.hk hk) hv (fun _ z => absurd z (ntF_ne (by omega)))
  · have u := of_decide_eq_false u
    refine Rn.mono (opn165_m (g := g) (hu := hu) (re := re) hm hDc h14 hk hv (fun z => absurd z u)) ?_
    rintro _ S1 ⟨_, w1⟩
    exact ⟨fun z => absurd z u, w1⟩
theorem mit72_m {al : Nat → Int32} {S0 S : St} {b : Nat → Nat} {n c D F : Nat} {P : Int32} {g : CT} {hu re : Nat → Nat} (h : MIp al S0 S b n c D F P g hu re) (hn3 : ¬ (oneL b n c ∧ 97 ≤ b (tP b n c) ∧ b (tP b n c) ≤ 102)) (hns : ¬ (isS b n c 93 ∧ 0 < D)) : Rn (fX12_anItem_72 32 (Int32.ofNat (tP b n c)) S) (fun _ S' => PM al S0 S' b n (item b n c D F P g hu re)) := by
  obtain ⟨hm, hDc, h14, hk, hA⟩ := id h
  have hc := hm.2.2.1
  have h400 := hm.2.1.2.2.1
  have hp := tP_b (b := b) hc
  have hn := tN_b (b := b) hc
  have hv := tV_b (b := b) hc
  unfold fX12_anItem_72
  refine w_ck hm.2.1.k (w_clr (takes_m hm) ?_)
  rintro r S1 ⟨f1, er, m1, e1⟩
  refine w_z (fun u => ?_) (fun u => ?_)
  · have o := of_decide_eq_true (er.symm.trans u)
    rw [item, if_pos o]
    exact mcol_m h (by rw [o.1.1]; decide) (m1 u) f1
  · have o := of_decide_eq_false (er.symm.trans u)
    have e1 := e1 u
    subst e1
    rw [item, if_neg o, if_neg hn3, if_neg hns]
    refine w_ck hm.2.1.k (w_clr (numbered_m hm) ?_)
    rintro v S2 ⟨f2, m2, w2⟩
    by_cases k2 : tK b n c = 2
    · rw [if_pos k2]
      obtain ⟨ev, m3⟩ := m2 k2
      subst ev
      have hlt := tK_lt (b := b) (n := n) (c := c) (by rw [k2]; decide)
      have key : ∀ S3, MU al S0 S3 b n (tN b n c) (oF b n c F) (oP b n c F P) → sI S3 32 14 = Int32.ofNat D → HK S3 D → (oF b n c F = 0 → MA S3 D g hu re ∧ 1 ≤ tV b n c) → Rn (fX12_anItem_139 32 (Int32.ofNat (tV b n c)) S3) (fun _ S' => PM al S0 S' b n (opnI b n c D F P g hu re)) := by
        intro S3 m4 k14 kk kA
        refine Rn.mono (opn139_m m4 (by omega) k14 kk hv kA) ?_
        rintro _ S4 ⟨m5, w5⟩
        by_cases s9 : isS b n (tN b n c) 91
        · rw [opnI, if_pos s9]; exact PM_t (m5 s9)
        · rw [opnI, if_neg s9]; exact PM_f (w5 s9)
      refine w_br (fun q => ?_) (fun q => ?_)
      · rw [show (0 : Int32) = Int32.ofNat 0 from rfl, eq_ofNat (by omega) (by omega)] at q
        have eF : oF b n c F = ntF F 2 := by rw [oF, if_pos q]
        have eP : oP b n c F P = ntP F P (Int32.ofNat (tP b n c)) := by rw [oP, if_pos q]
        refine w_ck m3.2.1.k (w_clr (also_m (f := 2) m3 (by decide)) ?_)
        rintro _ S3 ⟨f3, m4⟩
        have f := f2.trans f3
        exact key S3 (by rw [eF, eP]; exact m4) (f.d h14) (f.hk hk) (fun z => absurd z (by rw [eF]; exact ntF_ne (by omega)))
      · rw [show (0 : Int32) = Int32.ofNat 0 from rfl, eq_ofNat (by omega) (by omega)] at q
        have eF : oF b n c F = F := by rw [oF, if_neg q]
        have eP : oP b n c F P = P := by rw [oP, if_neg q]
        exact key S2 (by rw [eF, eP]; exact m3) (f2.d h14) (f2.hk hk) (fun z => ⟨f2.ma (hA (by rw [eF] at z; exact z)), by omega⟩)
    · rw [if_neg k2]
      have w2 := w2 k2
      refine w_br (fun q => ?_) (fun q => ?_)
      · refine w_ck (SH_K32 w2.1.1) (w_cl (also_w w2 _ _) (Rn.mono (opn139_w _ w2 (f2.d h14) (by omega)) ?_))
        rintro _ S3 w3
        exact PM_f w3
      · refine Rn.mono (opn139_w _ w2 (f2.d h14) (by omega)) ?_
        rintro _ S3 w3
        exact PM_f w3
theorem anItem_m {al : Nat → Int32} {S0 S : St} {b : Nat → Nat} {n c D F : Nat} {P : Int32} {g : CT} {hu re : Nat → Nat} (h : MIp al S0 S b n c D F P g hu re) (hns : ¬ (isS b n c 93 ∧ 0 < D)) : Rn (fX12_anItem 32 S) (fun _ S' => PM al S0 S' b n (item b n c D F P g hu re)) := by
  obtain ⟨hm, hDc, h14, hk, hA⟩ := id h
  have hk4 := mK_le b n c
  have hw := rW_b b (tP b n c) (tN b n c - tP b n c)
  unfold fX12_anItem
  refine w_gIe hm.2.1.k hm.2.2.2.1.2.1 (w_gIe hm.2.1.k hm.2.2.2.2.1 (w_bt rfl (w_gIe hm.2.1.k hm.2.2.2.1.2.2.1 (w_br (fun u => ?_) (fun u => ?_)))))
  · rw [show (3 : Int32) = Int32.ofNat 3 from rfl, eq_ofNat (by omega) (by omega)] at u
    obtain ⟨k1, k9⟩ := mK_3 u
    have hb := le_bd (tK_1 k1)
    refine w_gIe hm.2.1.k (hm.2.2.2.1.2.2.2.2.2 k1) (w_cl (isIn_eq _ _ _ _) ?_)
    rw [show (40 : Int32) = Int32.ofNat 40 from rfl, show (45 : Int32) = Int32.ofNat 45 from rfl, wi_ofNat (by omega) (by omega) (by omega)]
    refine w_z (fun v => ?_) (fun v => ?_)
    · have v := of_decide_eq_true v
      have o : tN b n c - tP b n c = 1 := by
        by_cases o : tN b n c - tP b n c = 1
        · exact o
        · have := rW_more hm.2.2.1 k1 o; omega
      have e := rW_one ⟨k1, o⟩
      refine w_gIe hm.2.1.k (hm.2.2.2.1.2.2.2.2.2 k1) ?_
      have e2 : Int32.ofNat (rW b (tP b n c) (tN b n c - tP b n c)) - Int32.ofNat 40 = Int32.ofNat (b (tP b n c) - 97) := by
        rw [sub_of (by omega), e, show 40 + (b (tP b n c) - 97) - 40 = b (tP b n c) - 97 by omega]
      rw [e2, item, if_neg (fun z => by have := z.2; omega), if_pos ⟨⟨k1, o⟩, by omega, by omega⟩]
      exact msti_m h (by omega) (by rw [k1]; decide)
    · have v := of_decide_eq_false v
      exact mit72_m h (fun z => v (by rw [rW_one z.1]; have := z.2; omega)) hns
  · rw [show (3 : Int32) = Int32.ofNat 3 from rfl, eq_ofNat (by omega) (by omega)] at u
    exact mit72_m h (fun z => u (mK_one z.1)) hns
