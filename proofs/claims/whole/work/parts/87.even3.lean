-- even: the rates
def evA (wk : Nat) (j : Nat) : Int32 := if j = 4 then 100 else if j = 6 then Int32.ofNat wk else 0
def evQ (al : Nat → Int32) (x : Int32) (wk s : Nat) : Int32 := termF al (askA (Int32.ofNat s) 0 (evA wk)) x 0
set_option maxHeartbeats 1000000 in
set_option maxRecDepth 10000 in
theorem rates_x {S : St} {al : Nat → Int32} {d : Int32} {wk : Nat} (h : CV al S) (hwk : al 4 / 7 = Int32.ofNat wk) : Rn (fX1_takeRates 27 (some 1) d S) (fun _ S' => FX (fun b => b = 28 ∨ b = 29 ∨ b = 30) S S' ∧ (∀ s, s < 6 → sI S' 28 s = evQ al (lsF al d (Int32.ofNat wk) (al 4)) wk s) ∧ ∀ s, s < 6 → sI S' 29 s = al (14 + s)) := by
  obtain ⟨h1, h2, h3, h5⟩ := id h
  have hc4 : sI S 1 4 = al 4 := h3.1.2.2.2.1
  have lk := listKnown_eq h d (Int32.ofNat wk) (al 4)
  have la := listAt_ls h d (Int32.ofNat wk) (al 4)
  unfold fX1_takeRates
  refine w_nn (w_gIe (SH_K1 h1) hc4 (w_cl (weekOf_eq _ _) ?_))
  rw [hwk]
  refine w_gIe (SH_K1 h1) hc4 (w_ck (SH_K1 h1) (w_cl lk (w_ck (SH_K1 h1) (w_cl la (w_gR (SH_K27 h1) (SH_R27_5 h1) (w_clr (fill_w (m := 8) 0 (SH_K30 h1) (SH_L30 h1) (by omega)) ?_))))))
  rintro - S1 ⟨f1, v1⟩
  have s1 := FR_SH f1.fr h1
  refine w_gR (SH_K27 s1) (SH_R27_5 s1) (w_nn (w_wI (n := 4) (SH_K30 s1) rfl (SH_L30 s1) (by omega) (w_gR (show sK (stI S1 30 4 100) 27 = 2 from SH_K27 s1) (show sR (stI S1 30 4 100) 27 5 = some 30 from SH_R27_5 s1) (w_nn (w_wI (n := 6) (show sK (stI S1 30 4 100) 30 = 15 from SH_K30 s1) rfl (show sL (stI S1 30 4 100) 30 = 8 from SH_L30 s1) (by omega) ?_)))))
  have f2 : FX (fun b => b = 28 ∨ b = 29 ∨ b = 30) S (stI (stI S1 30 4 100) 30 6 (Int32.ofNat wk)) := ((f1.mono (fun a ha => Or.inr (Or.inr ha))).stI _ (Or.inr (Or.inr rfl))).stI _ (Or.inr (Or.inr rfl))
  have v2 : ∀ j, j < 8 → sI (stI (stI S1 30 4 100) 30 6 (Int32.ofNat wk)) 30 j = evA wk j := by
    intro j hj
    unfold evA
    by_cases j6 : j = 6
    · subst j6; rw [st_get]; rfl
    · by_cases j4 : j = 4
      · subst j4; rw [st_ne (Or.inr (by omega)), st_get]; rfl
      · rw [st_ne (Or.inr j6), st_ne (Or.inr j4), v1 j hj, if_neg j4, if_neg j6]
  generalize stI (stI S1 30 4 100) 30 6 (Int32.ofNat wk) = S2 at f2 v2 ⊢
  refine w_for (mk := fun (b : Unit) i => (27, some 1, lsR S (lsF al d (Int32.ofNat wk) (al 4)), i)) (a := ()) 0 6 (fun i _ S' => FX (fun b => b = 28 ∨ b = 29 ∨ b = 30) S S' ∧ (∀ j, 1 ≤ j → j < 8 → sI S' 30 j = evA wk j) ∧ (∀ s, s < i → sI S' 28 s = evQ al (lsF al d (Int32.ofNat wk) (al 4)) wk s) ∧ ∀ s, s < i → sI S' 29 s = al (14 + s)) (by omega) (by omega) ⟨f2, fun j _ hj => v2 j hj, fun s hs => by omega, fun s hs => by omega⟩ ?_ ?_
  · rintro kk b S' ⟨hF, -, hr, ht⟩ hge
    dsimp only [fX1_takeRates_51]
    exact w_bt hge (w_rt ⟨hF, hr, ht⟩)
  · rintro i - hi kk b S' ⟨hF, ha, hr, ht⟩ hlt hkk
    dsimp only [fX1_takeRates_51]
    have s' := FR_SH hF.fr h1
    have hF3 := hF.stI (a := 30) (j := 0) (Int32.ofNat i) (Or.inr (Or.inr rfl))
    have cv3 := CV_X h hF3 (fun a ha => by unfold XC; omega)
    have e := termOf_x cv3 (a := 30) (SH_K30 cv3.1) (SH_L30 cv3.1) d (Int32.ofNat wk) (al 4) 0
    rw [lsR_fr hF3.fr, termF_c (A' := askA (Int32.ofNat i) 0 (evA wk)) (fun j hj => by
      rcases (show j = 0 ∨ j = 1 ∨ 2 ≤ j by omega) with rfl | rfl | h2
      · rw [st_get]; rfl
      · rw [st_ne (Or.inr (by omega)), ha 1 (by omega) (by omega)]; rfl
      · rw [st_ne (Or.inr (by omega)), ha j (by omega) hj]
        unfold askA
        rw [if_neg (by omega), if_neg (by omega)])] at e
    have hu : sI S' 7 i = al (14 + i) := by rw [hF.2.2.2.2.2 7 i (by omega)]; exact h3.2.2.1 i hi
    refine w_bf hlt (w_gR (SH_K27 s') (SH_R27_5 s') (w_nn (w_wI (n := 0) (SH_K30 s') rfl (SH_L30 s') (by omega) (w_gR (SH_K27 cv3.1) (SH_R27_3 cv3.1) (w_gR (SH_K27 cv3.1) (SH_R27_5 cv3.1) (w_cl e (w_nn (w_wI (n := i) (SH_K28 cv3.1) rfl (SH_L28 cv3.1) (by omega) ?_))))))))
    have hF4 := hF3.stI (a := 28) (j := i) (termF al (askA (Int32.ofNat i) 0 (evA wk)) (lsF al d (Int32.ofNat wk) (al 4)) 0) (Or.inl rfl)
    have s4 := FR_SH hF4.fr h1
    refine w_gR (SH_K27 s4) (SH_R27_4 s4) (w_nn (w_gR (SH_K1 s4) (SH_R1_13 s4) (w_nn (w_aIe (n := i) (v := al (14 + i)) (SH_K7 s4) rfl (SH_L7 s4) (by omega) (by rw [st_ne (Or.inl (by omega)), st_ne (Or.inl (by omega))]; exact hu) (w_nn (w_wI (n := i) (SH_K29 s4) rfl (SH_L29 s4) (by omega) (hkk () _ ⟨hF4.stI _ (Or.inr (Or.inl rfl)), fun j h1 h8 => ?_, fun s hs => ?_, fun s hs => ?_⟩)))))))
    · rw [st_ne (Or.inl (by omega)), st_ne (Or.inl (by omega)), st_ne (Or.inr (by omega))]; exact ha j h1 h8
    · rw [st_ne (Or.inl (by omega))]
      by_cases q : s = i
      · subst q; rw [st_get]; rfl
      · rw [st_ne (Or.inr q), st_ne (Or.inl (by omega))]; exact hr s (by omega)
    · by_cases q : s = i
      · subst q; rw [st_get]
      · rw [st_ne (Or.inr q), st_ne (Or.inl (by omega)), st_ne (Or.inl (by omega))]; exact ht s (by omega)
set_option maxHeartbeats 1000000 in
set_option maxRecDepth 10000 in
theorem termOf_m' {S0 S : St} {al : Nat → Int32} (m : MD S0 al S) (h5 : OK al) {x : Int32} (topic st co : Int32) (hx : x = -1 ∨ ∃ l, l < nat (al 1) ∧ l < 10 ∧ x = Int32.ofNat l) {B : Nat → Int32} (hB : ∀ j, 2 ≤ j → j < 8 → sI S 32 (18 + j) = B j) : Rn (fX12_termOf 32 x topic st co S) (fun r S' => r = termF al (askA (if 2 ≤ topic then 9 else st) (if 2 ≤ topic then 9 else co) B) x topic ∧ MD S0 al S' ∧ (∀ j, j ≠ 18 → j ≠ 19 → sI S' 32 j = sI S 32 j) ∧ ∀ a j, a ≠ 32 → sI S' a j = sI S a j) := by
  unfold fX12_termOf
  have go : ∀ a b : Int32, a = (if 2 ≤ topic then 9 else st) → b = (if 2 ≤ topic then 9 else co) → Rn (fX12_termOf_28 32 x topic b 32 (stI S 32 18 a)) (fun r S' => r = termF al (askA (if 2 ≤ topic then 9 else st) (if 2 ≤ topic then 9 else co) B) x topic ∧ MD S0 al S' ∧ (∀ j, j ≠ 18 → j ≠ 19 → sI S' 32 j = sI S 32 j) ∧ ∀ a j, a ≠ 32 → sI S' a j = sI S a j) := by
    intro a b ha hb
    refine (termOf_m2 (m.scr (a := 32) (j := 18) a (Or.inl rfl)) h5 topic hx b).mono ?_
    rintro r S' ⟨rfl, rfl⟩
    refine ⟨termF_c (fun j hj => ?_) _ _, (m.scr a (Or.inl rfl)).scr b (Or.inl rfl), fun j h1 h2 => by rw [st_ne (Or.inr h2), st_ne (Or.inr h1)], fun a j ha => by rw [st_ne (Or.inl ha), st_ne (Or.inl ha)]⟩
    rcases (show j = 0 ∨ j = 1 ∨ 2 ≤ j by omega) with rfl | rfl | h2
    · rw [st_ne (Or.inr (by omega)), show 18 + 0 = 18 from rfl, st_get, ha]; rfl
    · rw [show 18 + 1 = 19 from rfl, st_get, hb]; rfl
    · rw [st_ne (Or.inr (by omega)), st_ne (Or.inr (by omega)), hB j h2 hj]
      unfold askA
      rw [if_neg (by omega), if_neg (by omega)]
  refine w_br (fun c => ?_) (fun c => ?_)
  · unfold fX12_termOf_12
    exact w_pI m.k32 (w_bt c (go 9 9 (by rw [if_pos c]) (by rw [if_pos c])))
  · unfold fX12_termOf_12
    exact w_pI m.k32 (w_bf c (go st co (by rw [if_neg c]) (by rw [if_neg c])))
-- the reference's changes
set_option maxHeartbeats 1000000 in
set_option maxRecDepth 10000 in
theorem changes_m {S0 S : St} {al : Nat → Int32} {T R : Nat → Nat} {g w : Nat} (m : MD S0 al S) (hT : ∀ s, s < 6 → al (14 + s) = Int32.ofNat (T s)) (hR : ∀ s, s < 6 → sI S 43 s = Int32.ofNat (R s)) (b : EKb T R g) (hw : w ≤ 2000) : Rn (fX12_changes 32 (Int32.ofNat w) (Int32.ofNat g) S) (fun r S' => MD S0 al S' ∧ (∀ a j, a ≠ 44 → sI S' a j = sI S a j) ∧ r = evI (evC T R w g 6) ∧ ∀ v, evC T R w g 6 = some v → ∀ s, s < 6 → sI S' 44 s = Int32.ofNat (evR w g (T s) (R s))) := by
  have hg9 := b.2.2
  unfold fX12_changes
  refine w_for (mk := fun (x : Int32) i => (32, Int32.ofNat w, Int32.ofNat g, x, i)) (a := 0) 0 6 (fun i x S' => MD S0 al S' ∧ (∀ a j, a ≠ 44 → sI S' a j = sI S a j) ∧ (∃ v, evC T R w g i = some v ∧ x = Int32.ofNat v) ∧ ∀ s, s < i → sI S' 44 s = Int32.ofNat (evR w g (T s) (R s))) (by omega) (by omega) ⟨m, fun _ _ _ => rfl, ⟨0, rfl, rfl⟩, fun s hs => by omega⟩ ?_ ?_
  · rintro kk x S' ⟨m', hf, ⟨v, hv, rfl⟩, h44⟩ hge
    dsimp only [fX12_changes_5]
    exact w_bt hge (w_rt ⟨m', hf, by rw [hv]; rfl, fun _ _ => h44⟩)
  · rintro i - hi kk x S' ⟨m', hf, ⟨v, hv, rfl⟩, h44⟩ hlt hkk
    dsimp only [fX12_changes_5]
    obtain ⟨t1, t2⟩ := b.2.1 i hi
    have hr9 := b.1 i hi
    have hb := mul_b (w := w) (t := T i) (by omega) t2
    have hb2 := mul_b (w := w + g + 1) (t := T i) (by omega) t2
    have hpos : 1 ≤ (w + g + 1) * T i := Nat.mul_pos (by omega) (by omega)
    have s' := m'.1
    have hR' : sI S' 43 i = Int32.ofNat (R i) := by rw [hf 43 i (by omega)]; exact hR i hi
    have hev : evC T R w g (i + 1) = if evL w (T i) ≤ evH w g (T i) then some (v + evD (evR w g (T i) (R i)) (R i)) else none := by rw [evC, hv]
    have lL : evL w (T i) < 2 ^ 30 := by unfold evL; omega
    have hEH : evH w g (T i) ≤ 9999 := by unfold evH; omega
    have fin128 : evL w (T i) ≤ evH w g (T i) → Rn (fX12_changes_128 kk 32 (Int32.ofNat w) (Int32.ofNat g) (Int32.ofNat v) (Int32.ofNat i) (Int32.ofNat (evR w g (T i) (R i))) (Int32.ofNat i) (some 44) S') (fun r S' => MD S0 al S' ∧ (∀ a j, a ≠ 44 → sI S' a j = sI S a j) ∧ r = evI (evC T R w g 6) ∧ ∀ v, evC T R w g 6 = some v → ∀ s, s < 6 → sI S' 44 s = Int32.ofNat (evR w g (T s) (R s))) := by
      intro c
      have hr := evR_b hr9 c
      rw [if_pos c] at hev
      unfold fX12_changes_128 fX12_changes_180
      have m2 := m'.scr (a := 44) (j := i) (Int32.ofNat (evR w g (T i) (R i))) (by unfold XM; omega)
      have s2 := m2.1
      have g44 : sI (stI S' 44 i (Int32.ofNat (evR w g (T i) (R i)))) 44 i = Int32.ofNat (evR w g (T i) (R i)) := st_get
      have g43 : sI (stI S' 44 i (Int32.ofNat (evR w g (T i) (R i)))) 43 i = Int32.ofNat (R i) := by rw [st_ne (Or.inl (by omega))]; exact hR'
      have nx : ∀ y : Nat, y = evD (evR w g (T i) (R i)) (R i) → Rn (kk (32, Int32.ofNat w, Int32.ofNat g, Int32.ofNat v + Int32.ofNat y, Int32.ofNat i + 1) (stI S' 44 i (Int32.ofNat (evR w g (T i) (R i))))) (fun r S' => MD S0 al S' ∧ (∀ a j, a ≠ 44 → sI S' a j = sI S a j) ∧ r = evI (evC T R w g 6) ∧ ∀ v, evC T R w g 6 = some v → ∀ s, s < 6 → sI S' 44 s = Int32.ofNat (evR w g (T s) (R s))) := by
        intro y hy
        refine hkk _ _ ⟨m2, fun a j ha => by rw [st_ne (Or.inl ha)]; exact hf a j ha, ⟨_, hev, by rw [add_of, hy]⟩, fun s hs => ?_⟩
        by_cases q : s = i
        · subst q; exact g44
        · rw [st_ne (Or.inr q)]; exact h44 s (by omega)
      refine w_nn (w_wI (n := i) (SH_K44 s') rfl (SH_L44 s') (by omega) (w_gR (SH_K32 s2) (SH_R32_36 s2) (w_nn (w_aIe (n := i) (SH_K44 s2) rfl (SH_L44 s2) (by omega) g44 (w_gR (SH_K32 s2) (SH_R32_35 s2) (w_nn (w_aIe (n := i) (SH_K43 s2) rfl (SH_L43 s2) (by omega) g43 (w_br (fun d => ?_) (fun d => ?_)))))))))
      · rw [le_ofNat (by omega) (by omega)] at d
        refine w_gR (SH_K32 s2) (SH_R32_36 s2) (w_nn (w_aIe (n := i) (SH_K44 s2) rfl (SH_L44 s2) (by omega) g44 (w_gR (SH_K32 s2) (SH_R32_35 s2) (w_nn (w_aIe (n := i) (SH_K43 s2) rfl (SH_L43 s2) (by omega) g43 ?_)))))
        rw [sub_of d]
        exact nx _ (by unfold evD; omega)
      · rw [le_ofNat (by omega) (by omega)] at d
        refine w_gR (SH_K32 s2) (SH_R32_35 s2) (w_nn (w_aIe (n := i) (SH_K43 s2) rfl (SH_L43 s2) (by omega) g43 (w_gR (SH_K32 s2) (SH_R32_36 s2) (w_nn (w_aIe (n := i) (SH_K44 s2) rfl (SH_L44 s2) (by omega) g44 ?_)))))
        rw [sub_of (by omega)]
        exact nx _ (by unfold evD; omega)
    have fin70 : Rn (fX12_changes_70 kk 32 (Int32.ofNat w) (Int32.ofNat g) (Int32.ofNat v) (Int32.ofNat i) (Int32.ofNat (evL w (T i))) (Int32.ofNat (evH w g (T i))) S') (fun r S' => MD S0 al S' ∧ (∀ a j, a ≠ 44 → sI S' a j = sI S a j) ∧ r = evI (evC T R w g 6) ∧ ∀ v, evC T R w g 6 = some v → ∀ s, s < 6 → sI S' 44 s = Int32.ofNat (evR w g (T s) (R s))) := by
      unfold fX12_changes_70
      refine w_br (fun c => ?_) (fun c => ?_)
      · rw [le_ofNat (by omega) (by omega)] at c
        have f := fin128 c
        refine w_gR (SH_K32 s') (SH_R32_36 s') (w_gR (SH_K32 s') (SH_R32_35 s') (w_nn (w_aIe (n := i) (SH_K43 s') rfl (SH_L43 s') (by omega) hR' (w_br (fun d => ?_) (fun d => ?_)))))
        · rw [le_ofNat (by omega) (by omega)] at d
          refine w_gR (SH_K32 s') (SH_R32_35 s') (w_nn (w_aIe (n := i) (SH_K43 s') rfl (SH_L43 s') (by omega) hR' (w_br (fun e => ?_) (fun e => ?_))))
          · rw [le_ofNat (by omega) (by omega)] at e
            refine w_gR (SH_K32 s') (SH_R32_35 s') (w_nn (w_aIe (n := i) (SH_K43 s') rfl (SH_L43 s') (by omega) hR' ?_))
            rw [show evR w g (T i) (R i) = R i by unfold evR; omega] at f
            exact f
          · rw [le_ofNat (by omega) (by omega)] at e
            rw [show evR w g (T i) (R i) = evH w g (T i) by unfold evR; omega] at f
            exact f
        · rw [le_ofNat (by omega) (by omega)] at d
          rw [show evR w g (T i) (R i) = evL w (T i) by unfold evR; omega] at f
          exact f
      · rw [le_ofNat (by omega) (by omega)] at c
        rw [if_neg c] at hev
        have hz := evC_none hev 6 (by omega)
        exact w_rt ⟨m', hf, by rw [hz]; rfl, fun v' hv' => by rw [hz] at hv'; cases hv'⟩
    refine w_bf hlt (w_gR m'.k32 m'.r (w_nn (m_aI (n := 14 + i) m' (Int32.ofNat_add 14 i).symm (by omega) (w_dv (by decide) (w_dv (by decide) ?_)))))
    rw [hT i hi, add_of, show (1 : Int32) = Int32.ofNat 1 from rfl, add_of, mul_of, sub_of (by omega), show (3600 : Int32) = Int32.ofNat 3600 from rfl, div_of (by omega) (by omega), mul_of, show (3599 : Int32) = Int32.ofNat 3599 from rfl, add_of, div_of (by omega) (by omega)]
    refine w_br (fun c => ?_) (fun c => ?_)
    · have c' := (lit_le (m := 9999) (by omega) (by omega)).mp c
      have e : evH w g (T i) = 9999 := by unfold evH; omega
      rw [e] at fin70
      exact fin70
    · have c' : ¬ 9999 ≤ ((w + g + 1) * T i - 1) / 3600 := fun q => c ((lit_le (m := 9999) (by omega) (by omega)).mpr q)
      have e : evH w g (T i) = ((w + g + 1) * T i - 1) / 3600 := by unfold evH; omega
      rw [e] at fin70
      exact fin70
