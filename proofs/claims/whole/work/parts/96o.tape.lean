-- the tape taken, the fault kept
def tpA (al : Nat → Int32) (F : Nat) (P : Int32) : Nat → Int32 := va_up (va_up (va_up al 5 0) 6 (Int32.ofNat F)) 7 P
theorem tpA_n {al : Nat → Int32} {F : Nat} {P : Int32} {k : Nat} (h : k ≠ 5 ∧ k ≠ 6 ∧ k ≠ 7) : tpA al F P k = al k := by unfold tpA; rw [va_up_n h.2.2, va_up_n h.2.1, va_up_n h.1]
theorem tpA_5 {al : Nat → Int32} {F : Nat} {P : Int32} : tpA al F P 5 = 0 := by unfold tpA; rw [va_up_n (by decide), va_up_n (by decide), va_up_eq]
theorem tpA_6 {al : Nat → Int32} {F : Nat} {P : Int32} : tpA al F P 6 = Int32.ofNat F := by unfold tpA; rw [va_up_n (by decide), va_up_eq]
theorem tpA_7 {al : Nat → Int32} {F : Nat} {P : Int32} : tpA al F P 7 = P := by unfold tpA; rw [va_up_eq]
theorem tpA_t {al : Nat → Int32} {F G : Nat} {P Q : Int32} : tpA (tpA al F P) G Q = tpA al G Q := by
  funext k
  by_cases h5 : k = 5
  · rw [h5, tpA_5, tpA_5]
  · by_cases h6 : k = 6
    · rw [h6, tpA_6, tpA_6]
    · by_cases h7 : k = 7
      · rw [h7, tpA_7, tpA_7]
      · rw [tpA_n ⟨h5, h6, h7⟩, tpA_n ⟨h5, h6, h7⟩, tpA_n ⟨h5, h6, h7⟩]
theorem tpA_up {al : Nat → Int32} {F G : Nat} {P Q : Int32} : va_up (va_up (tpA al F P) 6 (Int32.ofNat G)) 7 Q = tpA al G Q := by
  funext k
  by_cases h7 : k = 7
  · rw [h7, va_up_eq, tpA_7]
  · rw [va_up_n h7]
    by_cases h6 : k = 6
    · rw [h6, va_up_eq, tpA_6]
    · rw [va_up_n h6]
      by_cases h5 : k = 5
      · rw [h5, tpA_5, tpA_5]
      · rw [tpA_n ⟨h5, h6, h7⟩, tpA_n ⟨h5, h6, h7⟩]
theorem tpA_ok {al : Nat → Int32} {F : Nat} {P : Int32} (h : OK al) : OK (tpA al F P) := by
  refine OK_low h (fun k _ _ => tpA_n (by omega)) (tpA_n (by omega)) (tpA_n (by omega)) (tpA_n (by omega)) (tpA_n (by omega)) (by rw [tpA_n (by omega)]; exact h.1.2.2.2.2.1) (by rw [tpA_5]; decide) (fun s hs => by rw [tpA_n (by omega)]; exact h.2.2.2.2.2.1 s hs) (fun i hi => by rw [tpA_n (by omega)]; exact h.2.2.2.2.2.2 i hi)
theorem IC_fr {al : Nat → Int32} {im : Nat → Option (Nat → Int32)} {S S' : St} {X : Nat → Prop} (h : IC al im S) (hF : FR X S S') (hX : ∀ a, X a → 10 ≤ a ∧ a < 46) : IC al im S' := ⟨FR_SH hF h.1, FR_CS hF h.2.1, RC_fr h.2.2.1 h.2.1 h.2.2.2.1 h.2.2.2.2 hF hX, h.2.2.2⟩
theorem IC_tape {al : Nat → Int32} {im : Nat → Option (Nat → Int32)} {S S' : St} {F : Nat} {P : Int32} (h : IC al im S) (hF : FX (fun a => a = 1) S S') (h1 : sI S' 1 1 = 0) (h2 : sI S' 1 2 = Int32.ofNat F) (h3 : sI S' 1 3 = P) (h4 : ∀ j, 4 ≤ j → sI S' 1 j = sI S 1 j) : IC (tpA al F P) im S' := by
  have hF' : FR (fun b => b < 10) S S' := hF.fr.mono (fun a z => by omega)
  have hI := hF.2.2.2.2.2
  refine ⟨FR_SH hF' h.1, FR_CS hF' h.2.1, RC_low h.2.2.1 h.2.1 h.2.2.2.2 hF' ?_, tpA_ok h.2.2.2.1, h.2.2.2.2⟩
  obtain ⟨⟨s1, s2, s3, s4, s5, s6, s7, s8⟩, t, u, v, -⟩ := h.2.2.1.1
  refine CW_low h.2.2.1.1 h.2.1 h.2.2.2.1.1 hF' (fun k _ _ => tpA_n (by omega)) (tpA_n (by omega)) (tpA_n (by omega)) (tpA_n (by omega)) (tpA_n (by omega)) ⟨?_, ?_, ?_, ?_, ?_, ?_, ?_, ?_⟩ (fun i hi => ?_) (fun i hi => ?_) (fun i hi => ?_)
  · rw [tpA_5]; exact h1
  · rw [tpA_6]; exact h2
  · rw [tpA_7]; exact h3
  · rw [tpA_n (by omega), h4 4 (by omega)]; exact s4
  · rw [tpA_n (by omega), h4 6 (by omega)]; exact s5
  · rw [tpA_n (by omega), h4 8 (by omega)]; exact s6
  · rw [tpA_n (by omega), h4 10 (by omega)]; exact s7
  · rw [tpA_n (by omega), h4 12 (by omega)]; exact s8
  · rw [tpA_n (by omega), hI 2 i (by omega)]; exact t i hi
  · rw [tpA_n (by omega), hI 7 i (by omega)]; exact u i hi
  · rw [tpA_n (by omega), hI 8 i (by omega)]; exact v i hi
/-- a reference of a Reader's changes -/
theorem AG_r5 {S : St} {r a : Nat} {v : Option Nat} (h : a ≠ r) : AG S (stR S r 5 v) a := AG.rfl.stR v h
theorem CS_r5 {S : St} {r : Nat} {v : Option Nat} (h : SH S) (hC : CS S) (hr : r = 11 ∨ r = 16) : CS (stR S r 5 v) := by
  have hA : ∀ a, a ≠ r → AG S (stR S r 5 v) a := fun a ha => AG_r5 ha
  have e9 : ∀ k, sR (stR S r 5 v) 9 k = sR S 9 k := (hA 9 (by omega)).2.2.2
  have gw : ∀ w, WL (stR S r 5 v) w → WL S w := fun w hw => by unfold WL at hw ⊢; simp only [e9] at hw; exact hw
  have eW : ∀ w, WL S w → ∀ j, j < 8 → AG S (stR S r 5 v) (w + j) := fun w hw j hj => hA _ (by have := (WL_lt h hC hw).1; omega)
  have hn : sn S ≤ sn (stR S r 5 v) := Nat.le_refl _
  obtain ⟨g1, g2, g3, g4, g5, g6, g7, g8, g9⟩ := id hC
  refine ⟨fun k w hk hw => ?_, fun k k' w hk hk' hw hw' => ?_, fun w hw => ?_, fun w i q hw hi hq => ?_, fun w i q hw hi hq => ?_, fun w i q hw hi hq => ?_, fun w i q hw hi hq => ?_, fun w w' i i' q hw hw' hi hi' hq hq' => ?_, fun w w' i i' q hw hw' hi hi' hq hq' => ?_⟩
  · rw [e9] at hw; exact g1 k w hk hw
  · rw [e9] at hw hw'; exact g2 k k' w hk hk' hw hw'
  · exact WSh_ag (g3 w (gw w hw)) (eW w (gw w hw))
  · rw [(eW w (gw w hw) 2 (by omega)).2.2.2] at hq
    have hs := g4 w i q (gw w hw) hi hq
    exact TSh_ag hs hn (fun j hj => hA _ (by have := hs.2.2.2.2.1; omega))
  · rw [(eW w (gw w hw) 3 (by omega)).2.2.2] at hq
    have hs := g5 w i q (gw w hw) hi hq
    exact LSh_ag hs hn (fun j hj => hA _ (by have := hs.2.2.2.2.2.2.2.2.2.2.2.2.2.1; omega))
  · rw [(eW w (gw w hw) 4 (by omega)).2.2.2] at hq
    have hs := g6 w i q (gw w hw) hi hq
    exact HSh_ag hs hn (fun j hj => hA _ (by have := hs.2.2.2.2.2.2.2.1; omega))
  · rw [(eW w (gw w hw) 5 (by omega)).2.2.2] at hq
    have hs := g7 w i q (gw w hw) hi hq
    exact GSh_ag hs hn (fun j hj => hA _ (by have := hs.2.2.2.2.2.2.2.2.2.2.1; omega))
  · rw [(eW w (gw w hw) 4 (by omega)).2.2.2] at hq
    rw [(eW w' (gw w' hw') 4 (by omega)).2.2.2] at hq'
    exact g8 w w' i i' q (gw w hw) (gw w' hw') hi hi' hq hq'
  · rw [(eW w (gw w hw) 5 (by omega)).2.2.2] at hq
    rw [(eW w' (gw w' hw') 5 (by omega)).2.2.2] at hq'
    exact g9 w w' i i' q (gw w hw) (gw w' hw') hi hi' hq hq'
theorem IC_r5 {al : Nat → Int32} {im : Nat → Option (Nat → Int32)} {S : St} {r : Nat} {v : Option Nat} (h : IC al im S) (hr : r = 11 ∨ r = 16) : IC al im (stR S r 5 v) := by
  obtain ⟨h1, h2, h3, h4, h5⟩ := h
  have hA : ∀ a, a ≠ r → AG S (stR S r 5 v) a := fun a ha => AG_r5 ha
  have e9 : ∀ k, sR (stR S r 5 v) 9 k = sR S 9 k := (hA 9 (by omega)).2.2.2
  have hft : ∀ w, WL S w → ∀ a, FT S w a → a ≠ r := by
    intro w hw a ha
    have hl := (WL_lt h1 h2 hw).1
    rcases ha with z | ⟨i, q, hi, hq, z⟩ | ⟨i, q, hi, hq, z⟩ | ⟨i, q, hi, hq, z⟩ | ⟨i, q, hi, hq, z⟩
    · omega
    · have := (h2.2.2.2.1 w i q hw hi hq).2.2.2.2.1; omega
    · have := (h2.2.2.2.2.1 w i q hw hi hq).2.2.2.2.2.2.2.2.2.2.2.2.2.1; omega
    · have := (h2.2.2.2.2.2.1 w i q hw hi hq).2.2.2.2.2.2.2.1; omega
    · have := (h2.2.2.2.2.2.2.1 w i q hw hi hq).2.2.2.2.2.2.2.2.2.2.1; omega
  refine ⟨SH_r5 h1 hr v, CS_r5 h1 h2 hr, ⟨CW_ag h3.1 h4.1 h2 (Or.inl rfl) (fun a ha => hA a (hft 1 (Or.inl rfl) a ha)), fun k hk => ?_⟩, h4, h5⟩
  rcases h3.2 k hk with ⟨q1, q2⟩ | ⟨al', w, q1, q2, q3⟩
  · exact Or.inl ⟨q1, by rw [e9]; exact q2⟩
  · have hw : WL S w := Or.inr ⟨k, hk, q2⟩
    exact Or.inr ⟨al', w, q1, by rw [e9]; exact q2, CW_ag q3 (h5 k al' hk q1).1 h2 hw (fun a ha => hA a (hft w hw a ha))⟩
theorem read_x {S : St} {n : Nat} {b : Nat → Nat} (h : SH S) (hn : n ≤ 400) (hb : ∀ i, b i < 256) (hB : ∀ i, i < 400 → sI S 2 i = cbI (b i)) : Rn (fX6_read 10 (some 2) (Int32.ofNat n) S) (fun _ S' => FC (fun a _ => 10 ≤ a ∧ a ≤ 14) (stR S 11 5 (some 2)) S' ∧ sI S' 11 3 = Int32.ofNat (fiF (its b n (n + 1) s0)) ∧ fiF (its b n (n + 1) s0) ≤ 4 ∧ sI S' 11 4 = fiP (its b n (n + 1) s0) ∧ (fiF (its b n (n + 1) s0) = 0 → ∀ t k, t < 6 → k < 4 → sI S' 12 (5 * t + k) = Int32.ofNat ((its b n (n + 1) s0).2.2.2.2.1 0 t k))) := by
  unfold fX6_read
  refine w_gR (SH_K10 h) (SH_R10_0 h) (w_nn (w_ck (SH_K11 h) (w_clr (start_x h (Or.inl rfl) hn hb hB) ?_)))
  rintro _ S1 ⟨f1, d1, t1, g3, g4⟩
  have s1 := d1.1
  have d2 : RD (stI S1 10 1 0) 11 b n := d1.fc (X := fun a _ => a = 10) (FC.rfl.st _ rfl) (by omega) (by omega)
  refine w_pI (SH_K10 s1) (w_ck (SH_K10 d2.1) (w_clr (clear_x (l := 0) d2.1 (by omega)) ?_))
  rintro _ S3 ⟨f3, c3⟩
  have d3 : RD S3 11 b n := d2.fc f3 (by unfold X12; omega) (by unfold X12; omega)
  have s3 := d3.1
  refine w_gR (SH_K10 s3) (SH_R10_3 s3) (w_nn (w_wI (n := 0) (SH_K13 s3) rfl (SH_L13 s3) (by omega) ?_))
  have f4 : FC (fun a j => (a = 10 ∧ j = 1) ∨ a = 12 ∨ a = 13) S1 (stI S3 13 0 0) := (((FC.rfl.st (X := fun a j => (a = 10 ∧ j = 1) ∨ a = 12 ∨ a = 13) (S := S1) 0 (Or.inl ⟨rfl, rfl⟩))).trans (f3.mono (fun a j (z : a = 12) => Or.inr (Or.inl z)))).st _ (Or.inr (Or.inr rfl))
  have d4 : RD (stI S3 13 0 0) 11 b n := d1.fc f4 (by omega) (by omega)
  have hci : CIs (stI S3 13 0 0) b n s0 := by
    refine ⟨d4, Nat.zero_le _, t1.fc f4 (fun j => by omega), Nat.le_refl _, ?_, ?_, Nat.zero_le _, ?_, fun _ => ⟨Nat.zero_le _, ?_, fun l hl => ?_, fun l q1 q2 => ?_⟩⟩
    · rw [st_ne (Or.inl (by decide)), f3.i (by unfold X12; omega), st_get]; rfl
    · rw [f4.i (by omega)]; exact g3
    · rw [f4.i (by omega)]; exact g4
    · intro l t k q1 q2 q3
      have e0 : l = 0 := Nat.le_zero.mp q1
      rw [st_ne (Or.inl (by decide)), c3, if_pos (by omega)]
      rfl
    · have e0 : l = 0 := Nat.le_zero.mp hl
      rw [e0, st_get]
      exact ⟨rfl, by decide⟩
    · have e0 : l ≤ 0 := q2
      omega
  refine Rn.mono (loop_x hci FC.rfl rfl) ?_
  rintro _ S5 ⟨f5, s5, q3, q34, q4, qc⟩
  exact ⟨(f1.mono (fun a j (z : a = 11) => by omega)).trans ((f4.mono (fun a j z => by omega)).trans (f5.mono (fun a j z => ⟨z.1, z.2.1⟩))), q3, q34, q4, qc⟩
