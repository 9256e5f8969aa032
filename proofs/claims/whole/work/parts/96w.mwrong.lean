def WU (al : Nat → Int32) (S0 S : St) (P : Int32) : Prop := MD S0 (tpA al 1 P) S ∧ sI S 32 9 = 1
theorem stops_m {al : Nat → Int32} {S0 S : St} {b : Nat → Nat} {n c F : Nat} {P : Int32} (h : MU al S0 S b n c F P) : Rn (fX12_stops 32 S) (fun _ S' => FQ S S' ∧ WU al S0 S' (Int32.ofNat (tP b n c))) := by
  obtain ⟨h1, h2, h3, h4, h5, h6⟩ := id h
  have hs := h2.1
  unfold fX12_stops
  have m1 := h1.scr (a := 32) (j := 9) 1 (Or.inl rfl)
  have m2 := m1.w33 (n := 6) (by decide) 1
  have m3 := m2.w33 (n := 7) (by decide) (Int32.ofNat (tP b n c))
  have e : va_up (va_up (tpA al F P) 6 1) 7 (Int32.ofNat (tP b n c)) = tpA al 1 (Int32.ofNat (tP b n c)) := tpA_up (G := 1)
  rw [e] at m3
  refine w_gIe h2.k h5 (w_bt rfl (w_pZ h2.k (Or.inr rfl) (w_gR (SH_K32 m1.1) (SH_R32_0 m1.1) (w_nn (w_wI (n := 6) (SH_K33 m1.1) rfl (SH_L33 m1.1) (by omega) (w_gR (SH_K32 m2.1) (SH_R32_0 m2.1) (w_gIe (SH_K32 m2.1) (v := Int32.ofNat (tP b n c)) ?_ (w_nn (w_wI (n := 7) (SH_K33 m2.1) rfl (SH_L33 m2.1) (by omega) (w_rt ⟨⟨fun _ => rfl, fun _ => rfl, fun _ _ => rfl, rfl, rfl, fun _ _ => rfl, fun a j q1 q2 => ?_⟩, m3, ?_⟩))))))))))
  · rw [st_ne (Or.inl (by decide)), st_ne (Or.inr (by decide))]; exact h4.2.1
  · rw [st_ne (by omega), st_ne (by omega), st_ne (by omega)]
  · rw [st_ne (Or.inl (by decide)), st_ne (Or.inl (by decide)), st_get]
theorem stops_w {al : Nat → Int32} {S0 S : St} {P : Int32} (h : WU al S0 S P) : fX12_stops 32 S = some ((), S) := by
  apply Rn.eq
  unfold fX12_stops
  exact w_gIe (SH_K32 h.1.1) h.2 (w_bf (by decide) (w_rt ⟨rfl, rfl⟩))
theorem also_w {al : Nat → Int32} {S0 S : St} {P : Int32} (h : WU al S0 S P) (x y : Int32) : fX12_also 32 x y S = some ((), S) := by
  apply Rn.eq
  unfold fX12_also
  exact w_gIe (SH_K32 h.1.1) h.2 (w_bf (by decide) (w_rt ⟨rfl, rfl⟩))
theorem isSign_w {al : Nat → Int32} {S0 S : St} {P : Int32} (h : WU al S0 S P) (x : Int32) : fX12_isSign 32 x S = some (false, S) := by
  apply Rn.eq
  unfold fX12_isSign
  exact w_gIe (SH_K32 h.1.1) h.2 (w_bf (by decide) (w_r0 ⟨rfl, rfl⟩))
theorem must_w {al : Nat → Int32} {S0 S : St} {P : Int32} (h : WU al S0 S P) (x : Int32) : fX12_must 32 x S = some ((), S) := by
  apply Rn.eq
  unfold fX12_must
  exact w_ck (SH_K32 h.1.1) (w_cl (isSign_w h x) (w_zf rfl (w_ck (SH_K32 h.1.1) (w_cl (stops_w h) (w_rt ⟨rfl, rfl⟩)))))
theorem takes_w {al : Nat → Int32} {S0 S : St} {P : Int32} (h : WU al S0 S P) (x : Int32) : fX12_takes 32 x S = some (false, S) := by
  apply Rn.eq
  unfold fX12_takes
  exact w_gIe (SH_K32 h.1.1) h.2 (w_bf (by decide) (w_r0 ⟨rfl, rfl⟩))
theorem numbered_w {al : Nat → Int32} {S0 S : St} {P : Int32} (h : WU al S0 S P) : fX12_numbered 32 S = some (sI S 32 6, S) := by
  apply Rn.eq
  unfold fX12_numbered
  refine w_gI (SH_K32 h.1.1) (w_gIe (SH_K32 h.1.1) h.2 (w_bf (by decide) ?_))
  unfold fX12_numbered_27
  exact w_ck (SH_K32 h.1.1) (w_cl (stops_w h) (w_rt ⟨rfl, rfl⟩))
theorem numbered_m {al : Nat → Int32} {S0 S : St} {b : Nat → Nat} {n c F : Nat} {P : Int32} (h : MU al S0 S b n c F P) : Rn (fX12_numbered 32 S) (fun r S' => FQ S S' ∧ (tK b n c = 2 → r = Int32.ofNat (tV b n c) ∧ MU al S0 S' b n (tN b n c) F P) ∧ (tK b n c ≠ 2 → WU al S0 S' (Int32.ofNat (tP b n c)))) := by
  obtain ⟨h1, h2, h3, h4, h5, h6⟩ := id h
  have hk := mK_le b n c
  unfold fX12_numbered
  refine w_gI h2.k (w_gIe h2.k h5 (w_bt rfl (w_gIe h2.k h4.2.2.1 (w_br (fun u => ?_) (fun u => ?_)))))
  · rw [show (1 : Int32) = Int32.ofNat 1 from rfl, eq_ofNat (by omega) (by omega)] at u
    have k2 : tK b n c = 2 := by
      unfold mK at u
      revert u
      repeat' split
      all_goals (intro u; omega)
    refine w_ck h2.k (w_clr (mstep_m h) ?_)
    rintro _ S1 ⟨f1, m1⟩
    exact w_rt ⟨f1, fun _ => ⟨h4.2.2.2.1 k2, m1⟩, fun z => absurd k2 z⟩
  · rw [show (1 : Int32) = Int32.ofNat 1 from rfl, eq_ofNat (by omega) (by omega)] at u
    have k2 : tK b n c ≠ 2 := fun z => u (by rw [mK, if_neg (by omega), if_neg (by omega), if_pos z])
    unfold fX12_numbered_27
    refine w_ck h2.k (w_clr (stops_m h) ?_)
    rintro _ S1 ⟨f1, m1⟩
    exact w_rt ⟨f1, fun z => absurd z k2, fun _ => m1⟩
theorem must_m {al : Nat → Int32} {S0 S : St} {b : Nat → Nat} {n c F y : Nat} {P : Int32} (h : MU al S0 S b n c F P) (hy : y < 256) : Rn (fX12_must 32 (Int32.ofNat y) S) (fun _ S' => FQ S S' ∧ (isS b n c y → MU al S0 S' b n (tN b n c) F P) ∧ (¬ isS b n c y → WU al S0 S' (Int32.ofNat (tP b n c)))) := by
  obtain ⟨h1, h2, h3, h4, h5, h6⟩ := id h
  unfold fX12_must
  refine w_ck h2.k (w_cl (isSign_m h hy) (w_z (fun u => ?_) (fun u => ?_)))
  · refine w_ck h2.k (w_clr (mstep_m h) ?_)
    rintro _ S1 ⟨f1, m1⟩
    exact w_rt ⟨f1, fun _ => m1, fun z => absurd (of_decide_eq_true u) z⟩
  · refine w_ck h2.k (w_clr (stops_m h) ?_)
    rintro _ S1 ⟨f1, m1⟩
    exact w_rt ⟨f1, fun z => absurd z (of_decide_eq_false u), fun _ => m1⟩
