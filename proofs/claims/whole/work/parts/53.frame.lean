/-- ints change at X alone, of references a Bill's list alone -/
def FR (X : Nat → Prop) (S S' : St) : Prop := (∀ a, sK S' a = sK S a) ∧ (∀ a, sL S' a = sL S a) ∧ (∀ a j, a ≠ 21 ∨ j = 6 → sR S' a j = sR S a j) ∧ sn S' = sn S ∧ sm S' = sm S ∧ ∀ a j, ¬ X a → sI S' a j = sI S a j
theorem FR.rfl {X : Nat → Prop} {S : St} : FR X S S := ⟨fun _ => Eq.refl _, fun _ => Eq.refl _, fun _ _ _ => Eq.refl _, Eq.refl _, Eq.refl _, fun _ _ _ => Eq.refl _⟩
theorem FR.trans {X : Nat → Prop} {S S1 S2 : St} (h : FR X S S1) (g : FR X S1 S2) : FR X S S2 := ⟨fun a => (g.1 a).trans (h.1 a), fun a => (g.2.1 a).trans (h.2.1 a), fun a j q => (g.2.2.1 a j q).trans (h.2.2.1 a j q), g.2.2.2.1.trans h.2.2.2.1, g.2.2.2.2.1.trans h.2.2.2.2.1, fun a j q => (g.2.2.2.2.2 a j q).trans (h.2.2.2.2.2 a j q)⟩
theorem FR.mono {X Y : Nat → Prop} {S S1 : St} (h : FR X S S1) (hXY : ∀ a, X a → Y a) : FR Y S S1 := ⟨h.1, h.2.1, h.2.2.1, h.2.2.2.1, h.2.2.2.2.1, fun a j q => h.2.2.2.2.2 a j (fun z => q (hXY a z))⟩
theorem FR.stI {X : Nat → Prop} {S S1 : St} (h : FR X S S1) {a j : Nat} (v : Int32) (ha : X a) : FR X S (stI S1 a j v) := h.trans ⟨fun _ => Eq.refl _, fun _ => Eq.refl _, fun _ _ _ => Eq.refl _, Eq.refl _, Eq.refl _, fun b k hb => by rw [sI_stI, if_neg (fun q => hb (by rw [q.1]; exact ha))]⟩
theorem FR.stJ {X : Nat → Prop} {S S1 : St} (h : FR X S S1) {a j : Nat} (v : Int64) : FR X S (stJ S1 a j v) := h.trans ⟨fun _ => Eq.refl _, fun _ => Eq.refl _, fun _ _ _ => Eq.refl _, Eq.refl _, Eq.refl _, fun b k hb => Eq.refl _⟩
theorem FR.stA {X : Nat → Prop} {S S1 : St} (h : FR X S S1) {a : Nat} (f : Nat → Int32) (ha : X a) : FR X S (stA S1 a f) := h.trans ⟨fun _ => Eq.refl _, fun _ => Eq.refl _, fun _ _ _ => Eq.refl _, Eq.refl _, Eq.refl _, fun b k hb => by rw [sI_stA, if_neg (fun q => hb (by rw [q]; exact ha))]⟩
theorem FR.st21 {X : Nat → Prop} {S S1 : St} (h : FR X S S1) (v : Option Nat) : FR X S (stR S1 21 5 v) := h.trans ⟨fun _ => Eq.refl _, fun _ => Eq.refl _, fun b k hb => (by
  rw [sR_stR, if_neg]
  rintro ⟨rfl, rfl⟩
  rcases hb with hb | hb
  · exact hb (Eq.refl _)
  · cases hb), Eq.refl _, Eq.refl _, fun _ _ _ => Eq.refl _⟩
theorem FR_SH {X : Nat → Prop} {S S' : St} (h : FR X S S') (g : SH S) : SH S' := by
  refine ⟨fun a ha => by rw [h.1]; exact g.1 a ha, fun a ha => by rw [h.2.1]; exact g.2.1 a ha, fun q hq => ?_, by rw [h.2.2.2.1]; exact g.2.2.2⟩
  have hq2 : ∀ q ∈ rL, q.1 ≠ 21 ∨ q.2.1 = 6 := by decide
  rw [h.2.2.1 _ _ (hq2 q hq)]
  exact g.2.2.1 q hq
theorem CS_w {S : St} (h : CS S) {w : Nat} (hw : WL S w) : w = 1 ∨ 46 ≤ w := by
  rcases hw with hw | ⟨k, hk, hw⟩
  · exact Or.inl hw
  · exact Or.inr (h.1 k w hk hw).1
theorem FR_WL {X : Nat → Prop} {S S' : St} (h : FR X S S') (w : Nat) : WL S' w ↔ WL S w := by
  unfold WL
  have : ∀ k, sR S' 9 k = sR S 9 k := fun k => h.2.2.1 9 k (Or.inl (by decide))
  simp only [this]
theorem FR_CS {X : Nat → Prop} {S S' : St} (h : FR X S S') (g : CS S) : CS S' := by
  have e9 : ∀ k, sR S' 9 k = sR S 9 k := fun k => h.2.2.1 9 k (Or.inl (by decide))
  have eK := h.1
  have eL := h.2.1
  have eR : ∀ a j, a ≠ 21 → sR S' a j = sR S a j := fun a j q => h.2.2.1 a j (Or.inl q)
  have en := h.2.2.2.1
  obtain ⟨g1, g2, g3, g4, g5, g6, g7, g8, g9⟩ := g
  have gw : ∀ w, WL S' w → WL S w ∧ (w = 1 ∨ 46 ≤ w) := fun w hw => ⟨(FR_WL h w).mp hw, CS_w ⟨g1, g2, g3, g4, g5, g6, g7, g8, g9⟩ ((FR_WL h w).mp hw)⟩
  refine ⟨fun k w hk hw => ?_, fun k k' w hk hk' hw hw' => ?_, fun w hw => ?_, fun w i q hw hi hq => ?_, fun w i q hw hi hq => ?_, fun w i q hw hi hq => ?_, fun w i q hw hi hq => ?_, fun w w' i i' q hw hw' hi hi' hq hq' => ?_, fun w w' i i' q hw hw' hi hi' hq hq' => ?_⟩
  · rw [e9] at hw; rw [en]; exact g1 k w hk hw
  · rw [e9] at hw hw'; exact g2 k k' w hk hk' hw hw'
  · obtain ⟨hw1, hw2⟩ := gw w hw
    have := g3 w hw1
    unfold WSh at this ⊢
    simp only [eK, eL, eR w _ (show w ≠ 21 by omega)]
    exact this
  · obtain ⟨hw1, hw2⟩ := gw w hw
    rw [eR _ _ (by omega)] at hq
    have := g4 w i q hw1 hi hq
    unfold TSh at this ⊢
    simp only [eK, eL, en, eR q _ (show q ≠ 21 by omega)]
    exact this
  · obtain ⟨hw1, hw2⟩ := gw w hw
    rw [eR _ _ (by omega)] at hq
    have := g5 w i q hw1 hi hq
    unfold LSh at this ⊢
    simp only [eK, eL, en, eR q _ (show q ≠ 21 by omega)]
    exact this
  · obtain ⟨hw1, hw2⟩ := gw w hw
    rw [eR _ _ (by omega)] at hq
    have := g6 w i q hw1 hi hq
    unfold HSh at this ⊢
    simp only [eK, eL, en, eR q _ (show q ≠ 21 by omega)]
    exact this
  · obtain ⟨hw1, hw2⟩ := gw w hw
    rw [eR _ _ (by omega)] at hq
    have := g7 w i q hw1 hi hq
    unfold GSh at this ⊢
    simp only [eK, eL, en, eR q _ (show q ≠ 21 by omega)]
    exact this
  · obtain ⟨hw1, hw2⟩ := gw w hw
    obtain ⟨hw3, hw4⟩ := gw w' hw'
    rw [eR _ _ (by omega)] at hq hq'
    exact g8 w w' i i' q hw1 hw3 hi hi' hq hq'
  · obtain ⟨hw1, hw2⟩ := gw w hw
    obtain ⟨hw3, hw4⟩ := gw w' hw'
    rw [eR _ _ (by omega)] at hq hq'
    exact g9 w w' i i' q hw1 hw3 hi hi' hq hq'
theorem PRel_of {al al' : Nat → Int32} {p q : Nat} {S S' : St} (h : PRel al p q S) (h0 : ∀ j, sI S' q j = sI S q j) (h1 : ∀ j, sI S' (q + 1) j = sI S (q + 1) j) (ha : ∀ k, k < 27 → al' (20 + 27 * p + k) = al (20 + 27 * p + k)) : PRel al' p q S' := by
  obtain ⟨a0, a1, a2, a3⟩ := h
  refine ⟨by rw [h0, a0]; exact (ha 0 (by omega)).symm, by rw [h0, a1]; have := ha 1 (by omega); rw [show 20 + 27 * p + 1 = 21 + 27 * p by omega] at this; exact this.symm, by rw [h0, a2]; have := ha 2 (by omega); rw [show 20 + 27 * p + 2 = 22 + 27 * p by omega] at this; exact this.symm, fun k hk => ?_⟩
  rw [h1, a3 k hk]
  have := ha (3 + k) (by omega)
  rw [show 20 + 27 * p + (3 + k) = 23 + 27 * p + k by omega] at this
  exact this.symm
theorem HRel_of {al al' : Nat → Int32} {h q : Nat} {S S' : St} (g : HRel al h q S) (h0 : ∀ j, sI S' q j = sI S q j) (h1 : ∀ j, sI S' (q + 1) j = sI S (q + 1) j) (h2 : ∀ j, sI S' (q + 2) j = sI S (q + 2) j) (ha : ∀ k, k < 160 → al' (3440 + 160 * h + k) = al (3440 + 160 * h + k)) : HRel al' h q S' := by
  obtain ⟨a0, a1, a2⟩ := g
  refine ⟨fun j hj => by rw [h0, a0 j hj]; exact (ha j (by omega)).symm, fun s hs => ?_, fun wk hw => ?_⟩
  · rw [h1, a1 s hs]
    have := ha (5 + s) (by omega)
    rw [show 3440 + 160 * h + (5 + s) = 3445 + 160 * h + s by omega] at this
    exact this.symm
  · rw [h2, a2 wk hw]
    have := ha (16 + wk) (by omega)
    rw [show 3440 + 160 * h + (16 + wk) = 3456 + 160 * h + wk by omega] at this
    exact this.symm
theorem GRel_of {al al' : Nat → Int32} {p q : Nat} {S S' : St} (g : GRel al p q S) (h0 : ∀ j, sI S' q j = sI S q j) (h1 : ∀ j, sI S' (q + 1) j = sI S (q + 1) j) (h2 : ∀ j, sI S' (q + 2) j = sI S (q + 2) j) (h3 : ∀ j, sI S' (q + 3) j = sI S (q + 3) j) (ha : ∀ k, k < 28 → al' (5360 + 28 * p + k) = al (5360 + 28 * p + k)) : GRel al' p q S' := by
  obtain ⟨a0, a1, a2, a3⟩ := g
  refine ⟨fun j hj => by rw [h0, a0 j hj]; exact (ha j (by omega)).symm, fun j hj => ?_, fun s hs => ?_, fun s hs => ?_⟩
  · rw [h1, a1 j hj]
    have := ha (10 + j) (by omega)
    rw [show 5360 + 28 * p + (10 + j) = 5370 + 28 * p + j by omega] at this
    exact this.symm
  · rw [h2, a2 s hs]
    have := ha (16 + 2 * s) (by omega)
    rw [show 5360 + 28 * p + (16 + 2 * s) = 5376 + 28 * p + 2 * s by omega] at this
    exact this.symm
  · rw [h3, a3 s hs]
    have := ha (17 + 2 * s) (by omega)
    rw [show 5360 + 28 * p + (17 + 2 * s) = 5377 + 28 * p + 2 * s by omega] at this
    exact this.symm
theorem LRel_of {al al' : Nat → Int32} {l q : Nat} {S S' : St} (g : LRel al l q S) (hL : sL S' (q + 1) = sL S (q + 1)) (hle : sL S (q + 1) ≤ 16) (h0 : ∀ j, sI S' q j = sI S q j) (h1 : ∀ j, sI S' (q + 1) j = sI S (q + 1) j) (h2 : ∀ j, sI S' (q + 2) j = sI S (q + 2) j) (h3 : ∀ j, sI S' (q + 3) j = sI S (q + 3) j) (h4 : ∀ j, sI S' (q + 4) j = sI S (q + 4) j) (ha : ∀ k, k < 320 → al' (240 + 320 * l + k) = al (240 + 320 * l + k)) : LRel al' l q S' := by
  have hb : ∀ b k, k < 80 → (b = 240 + k → al' (b + 320 * l) = al (b + 320 * l)) := fun b k hk e => by have := ha k (by omega); rw [show 240 + 320 * l + k = b + 320 * l by omega] at this; exact this
  obtain ⟨a0, a1, a2, a3, a4, a5, a6⟩ := g
  unfold LRel
  simp only [h0, h1, h2, h3, h4, hL]
  rw [hb 240 0 (by omega) rfl, hb 241 1 (by omega) rfl, hb 242 2 (by omega) rfl, hb 243 3 (by omega) rfl]
  refine ⟨a0, a1, a2, a3, a4, a5, fun k hk => ?_⟩
  obtain ⟨b0, b1, b2, b3, b4, b5⟩ := a6 k hk
  have hc : ∀ b j, 19 * k + j < 304 + 4 → b = 244 + j → al' (b + 320 * l + 19 * k) = al (b + 320 * l + 19 * k) := fun b j hj e => by have := ha (4 + j + 19 * k) (by omega); rw [show 240 + 320 * l + (4 + j + 19 * k) = b + 320 * l + 19 * k by omega] at this; exact this
  rw [hc 244 0 (by omega) rfl, hc 262 18 (by omega) rfl, hc 245 1 (by omega) rfl]
  refine ⟨b0, b1, b2, b3, b4, fun t ht => ?_⟩
  have ht4 : t < 4 := by
    have : (sI S (q + 3) k).toInt ≤ 4 := by simpa using Int32.le_iff_toInt_le.mp b4
    have h2 : nat (sI S (q + 3) k) = (sI S (q + 3) k).toInt.toNat := rfl
    omega
  have hd : ∀ b j, j < 4 → b = 246 + j → al' (b + 320 * l + 19 * k + 4 * t) = al (b + 320 * l + 19 * k + 4 * t) := fun b j hj e => by have := ha (6 + j + 19 * k + 4 * t) (by omega); rw [show 240 + 320 * l + (6 + j + 19 * k + 4 * t) = b + 320 * l + 19 * k + 4 * t by omega] at this; exact this
  rw [hd 246 0 (by omega) rfl, hd 247 1 (by omega) rfl, hd 248 2 (by omega) rfl, hd 249 3 (by omega) rfl]
  exact b5 t ht
theorem nat_le {x : Int32} {n : Nat} (h : x ≤ Int32.ofNat n) (hn : n < 2 ^ 31) : nat x ≤ n := by
  have h1 : x.toInt ≤ (n : Int) := by
    have := Int32.le_iff_toInt_le.mp h
    rw [Int32.toInt_ofNat_of_lt (by omega)] at this
    exact this
  show x.toInt.toNat ≤ n
  omega
/-- not in the footprint of the World at w -/
def NF (S : St) (w a : Nat) : Prop := a ≠ w ∧ a ≠ w + 1 ∧ a ≠ w + 6 ∧ a ≠ w + 7 ∧ (∀ i q, i < 8 → sR S (w + 2) i = some q → a ≠ q ∧ a ≠ q + 1) ∧ (∀ i q, i < 10 → sR S (w + 3) i = some q → a ≠ q ∧ a ≠ q + 1 ∧ a ≠ q + 2 ∧ a ≠ q + 3 ∧ a ≠ q + 4) ∧ (∀ i q, i < 12 → sR S (w + 4) i = some q → a ≠ q ∧ a ≠ q + 1 ∧ a ≠ q + 2) ∧ (∀ i q, i < 60 → sR S (w + 5) i = some q → a ≠ q ∧ a ≠ q + 1 ∧ a ≠ q + 2 ∧ a ≠ q + 3)
theorem CW_fr {al : Nat → Int32} {w : Nat} {S S' : St} (h : CW al w S) (hOK : OKc al) (hC : CS S) (hw : WL S w) {X : Nat → Prop} (hF : FR X S S') (hX : ∀ a, X a → NF S w a) : CW al w S' := by
  have hw21 : w = 1 ∨ 46 ≤ w := CS_w hC hw
  have eR : ∀ a j, a ≠ 21 → sR S' a j = sR S a j := fun a j q => hF.2.2.1 a j (Or.inl q)
  have eI : ∀ a, (∀ b, X b → b ≠ a) → ∀ j, sI S' a j = sI S a j := fun a ha j => hF.2.2.2.2.2 a j (fun q => ha a q rfl)
  have e0 := eI w (fun b hb => (hX b hb).1)
  have e1 := eI (w + 1) (fun b hb => (hX b hb).2.1)
  have e6 := eI (w + 6) (fun b hb => (hX b hb).2.2.1)
  have e7 := eI (w + 7) (fun b hb => (hX b hb).2.2.2.1)
  obtain ⟨⟨s1, s2, s3, s4, s5, s6, s7, s8⟩, t, u, v, p, l, hh, g⟩ := h
  refine ⟨⟨by rw [e0]; exact s1, by rw [e0]; exact s2, by rw [e0]; exact s3, by rw [e0]; exact s4, by rw [e0]; exact s5, by rw [e0]; exact s6, by rw [e0]; exact s7, by rw [e0]; exact s8⟩, fun i hi => by rw [e1]; exact t i hi, fun i hi => by rw [e6]; exact u i hi, fun i hi => by rw [e7]; exact v i hi, fun i hi => ?_, fun i hi => ?_, fun i hi => ?_, fun i hi => ?_⟩
  · obtain ⟨q, hq, r⟩ := p i hi
    have hi8 : i < 8 := Nat.lt_of_lt_of_le hi (nat_le hOK.1.2 (by decide))
    exact ⟨q, by rw [eR _ _ (by omega)]; exact hq, PRel_of r (eI q (fun b hb => ((hX b hb).2.2.2.2.1 i q hi8 hq).1)) (eI _ (fun b hb => ((hX b hb).2.2.2.2.1 i q hi8 hq).2)) (fun _ _ => rfl)⟩
  · obtain ⟨q, hq, r⟩ := l i hi
    have hi8 : i < 10 := Nat.lt_of_lt_of_le hi (nat_le hOK.2.1.2 (by decide))
    have hn := fun b hb => (hX b hb).2.2.2.2.2.1 i q hi8 hq
    have hsh := hC.2.2.2.2.1 w i q hw hi8 hq
    exact ⟨q, by rw [eR _ _ (by omega)]; exact hq, LRel_of r (hF.2.1 _) hsh.2.2.2.2.2.2.2.2.1 (eI q (fun b hb => (hn b hb).1)) (eI _ (fun b hb => (hn b hb).2.1)) (eI _ (fun b hb => (hn b hb).2.2.1)) (eI _ (fun b hb => (hn b hb).2.2.2.1)) (eI _ (fun b hb => (hn b hb).2.2.2.2)) (fun _ _ => rfl)⟩
  · obtain ⟨q, hq, r⟩ := hh i hi
    have hi8 : i < 12 := Nat.lt_of_lt_of_le hi (nat_le hOK.2.2.1.2 (by decide))
    have hn := fun b hb => (hX b hb).2.2.2.2.2.2.1 i q hi8 hq
    exact ⟨q, by rw [eR _ _ (by omega)]; exact hq, HRel_of r (eI q (fun b hb => (hn b hb).1)) (eI _ (fun b hb => (hn b hb).2.1)) (eI _ (fun b hb => (hn b hb).2.2)) (fun _ _ => rfl)⟩
  · obtain ⟨q, hq, r⟩ := g i hi
    have hi8 : i < 60 := Nat.lt_of_lt_of_le hi (nat_le hOK.2.2.2.1.2 (by decide))
    have hn := fun b hb => (hX b hb).2.2.2.2.2.2.2 i q hi8 hq
    exact ⟨q, by rw [eR _ _ (by omega)]; exact hq, GRel_of r (eI q (fun b hb => (hn b hb).1)) (eI _ (fun b hb => (hn b hb).2.1)) (eI _ (fun b hb => (hn b hb).2.2.1)) (eI _ (fun b hb => (hn b hb).2.2.2)) (fun _ _ => rfl)⟩
/-- an address below 46 but for the class's own world lies in no footprint -/
theorem NF_static {S : St} (hC : CS S) {w a : Nat} (hw : WL S w) (ha : a < 46) (hb : w = 1 → a ≠ 1 ∧ a ≠ 2 ∧ a ≠ 7 ∧ a ≠ 8) : NF S w a := by
  have h46 := CS_w hC hw
  refine ⟨?_, ?_, ?_, ?_, fun i q hi hq => ?_, fun i q hi hq => ?_, fun i q hi hq => ?_, fun i q hi hq => ?_⟩
  · intro e; rcases h46 with h | h
    · exact (hb h).1 (by omega)
    · omega
  · intro e; rcases h46 with h | h
    · exact (hb h).2.1 (by omega)
    · omega
  · intro e; rcases h46 with h | h
    · exact (hb h).2.2.1 (by omega)
    · omega
  · intro e; rcases h46 with h | h
    · exact (hb h).2.2.2 (by omega)
    · omega
  · have := (hC.2.2.2.1 w i q hw hi hq).2.2.2.2.1
    omega
  · have := (hC.2.2.2.2.1 w i q hw hi hq).2.2.2.2.2.2.2.2.2.2.2.2.2.1
    omega
  · have := (hC.2.2.2.2.2.1 w i q hw hi hq).2.2.2.2.2.2.2.1
    omega
  · have := (hC.2.2.2.2.2.2.1 w i q hw hi hq).2.2.2.2.2.2.2.2.2.2.1
    omega
theorem RC_fr {al : Nat → Int32} {im : Nat → Option (Nat → Int32)} {S S' : St} {X : Nat → Prop} (h : RC al im S) (hC : CS S) (hOK : OK al) (hOKi : ∀ k al', k < 3 → im k = some al' → OK al') (hF : FR X S S') (hX : ∀ a, X a → 10 ≤ a ∧ a < 46) : RC al im S' := by
  have e9 : ∀ k, sR S' 9 k = sR S 9 k := fun k => hF.2.2.1 9 k (Or.inl (by decide))
  refine ⟨CW_fr h.1 hOK.1 hC (Or.inl rfl) hF (fun a ha => NF_static hC (Or.inl rfl) (hX a ha).2 (fun _ => by have := hX a ha; omega)), fun k hk => ?_⟩
  rcases h.2 k hk with ⟨h1, h2⟩ | ⟨al', w, h1, h2, h3⟩
  · exact Or.inl ⟨h1, by rw [e9]; exact h2⟩
  · have hw : WL S w := Or.inr ⟨k, hk, h2⟩
    have h46 := (hC.1 k w hk h2).1
    exact Or.inr ⟨al', w, h1, by rw [e9]; exact h2, CW_fr h3 (hOKi k al' hk h1).1 hC hw hF (fun a ha => NF_static hC hw (hX a ha).2 (fun e => by omega))⟩
theorem RM_fr {al : Nat → Int32} {im : Nat → Option (Nat → Int32)} {S S' : St} {X : Nat → Prop} (h : RM al im S) (hF : FR X S S') (h33 : ¬ X 33) (h34 : ¬ X 34) : RM al im S' := by
  have e33 : ∀ j, sI S' 33 j = sI S 33 j := fun j => hF.2.2.2.2.2 33 j h33
  have e34 : ∀ j, sI S' 34 j = sI S 34 j := fun j => hF.2.2.2.2.2 34 j h34
  unfold RM
  simp only [e33, e34]
  exact h
