-- the class's step to the next token
def FC (X : Nat → Nat → Prop) (S S' : St) : Prop := (∀ a, sK S' a = sK S a) ∧ (∀ a, sL S' a = sL S a) ∧ (∀ a j, sR S' a j = sR S a j) ∧ sn S' = sn S ∧ sm S' = sm S ∧ (∀ a j, sJ S' a j = sJ S a j) ∧ ∀ a j, ¬ X a j → sI S' a j = sI S a j
theorem FC.rfl {X : Nat → Nat → Prop} {S : St} : FC X S S := ⟨fun _ => Eq.refl _, fun _ => Eq.refl _, fun _ _ => Eq.refl _, Eq.refl _, Eq.refl _, fun _ _ => Eq.refl _, fun _ _ _ => Eq.refl _⟩
theorem FC.st {X : Nat → Nat → Prop} {S S1 : St} (h : FC X S S1) {a j : Nat} (v : Int32) (ha : X a j) : FC X S (stI S1 a j v) := ⟨h.1, h.2.1, h.2.2.1, h.2.2.2.1, h.2.2.2.2.1, h.2.2.2.2.2.1, fun b k hb => by rw [sI_stI, if_neg (fun q => hb (by rw [q.1, q.2]; exact ha))]; exact h.2.2.2.2.2.2 b k hb⟩
theorem FC.trans {X : Nat → Nat → Prop} {S S1 S2 : St} (h : FC X S S1) (g : FC X S1 S2) : FC X S S2 := ⟨fun a => (g.1 a).trans (h.1 a), fun a => (g.2.1 a).trans (h.2.1 a), fun a j => (g.2.2.1 a j).trans (h.2.2.1 a j), g.2.2.2.1.trans h.2.2.2.1, g.2.2.2.2.1.trans h.2.2.2.2.1, fun a j => (g.2.2.2.2.2.1 a j).trans (h.2.2.2.2.2.1 a j), fun a j q => (g.2.2.2.2.2.2 a j q).trans (h.2.2.2.2.2.2 a j q)⟩
theorem FC.mono {X Y : Nat → Nat → Prop} {S S1 : St} (h : FC X S S1) (hXY : ∀ a j, X a j → Y a j) : FC Y S S1 := ⟨h.1, h.2.1, h.2.2.1, h.2.2.2.1, h.2.2.2.2.1, h.2.2.2.2.2.1, fun a j q => h.2.2.2.2.2.2 a j (fun z => q (hXY a j z))⟩
theorem FC.fx {X : Nat → Nat → Prop} {Y : Nat → Prop} {S S1 : St} (h : FC X S S1) (hXY : ∀ a j, X a j → Y a) : FX Y S S1 := ⟨h.1, h.2.1, h.2.2.1, h.2.2.2.1, h.2.2.2.2.1, fun a j q => h.2.2.2.2.2.2 a j (fun z => q (hXY a j z))⟩
theorem FC.i {X : Nat → Nat → Prop} {S S1 : St} (h : FC X S S1) {a j : Nat} (q : ¬ X a j) : sI S1 a j = sI S a j := h.2.2.2.2.2.2 a j q
theorem FC.sh {X : Nat → Nat → Prop} {S S1 : St} (h : FC X S S1) (g : SH S) : SH S1 := FR_SH (h.fx (Y := fun _ => True) (fun _ _ _ => trivial)).fr g
def TX (r a j : Nat) : Prop := a = r ∧ (j = 0 ∨ j = 1 ∨ j = 2 ∨ j = 7)
theorem RD.fc {S S1 : St} {r n : Nat} {b : Nat → Nat} (h : RD S r b n) {X : Nat → Nat → Prop} (hF : FC X S S1) (h6 : ¬ X r 6) (h2 : ∀ i, ¬ X 2 i) : RD S1 r b n := by
  obtain ⟨k1, k2, k3, k4, k5, k6, k7⟩ := h
  exact ⟨hF.sh k1, k2, by rw [hF.2.2.1]; exact k3, by rw [hF.i h6]; exact k4, k5, k6, fun i hi => by rw [hF.i (h2 i)]; exact k7 i hi⟩
theorem RD.tx {S S1 : St} {r n : Nat} {b : Nat → Nat} (h : RD S r b n) (hF : FC (TX r) S S1) : RD S1 r b n := h.fc hF (fun z => by have := z.2; omega) (fun i z => by have := z.1; have := h.2.1; omega)
theorem RD.r2 {S : St} {r n : Nat} {b : Nat → Nat} (h : RD S r b n) : r ≠ 2 := by have := h.2.1; omega
theorem le_x {b : Nat} (h : b < 256) : decide (¬ cbI b < 97 ∧ ¬ 122 < cbI b) = leB b := by
  have := (cb_all b h).1
  by_cases c : leB b = true
  · rw [c]; exact decide_eq_true (this.mpr c)
  · rw [Bool.eq_false_iff.mpr c]; exact decide_eq_false (fun z => c (this.mp z))
theorem di_x {b : Nat} (h : b < 256) : decide (¬ cbI b < 48 ∧ ¬ 57 < cbI b) = diB b := by
  have := (cb_all b h).2.1
  by_cases c : diB b = true
  · rw [c]; exact decide_eq_true (this.mpr c)
  · rw [Bool.eq_false_iff.mpr c]; exact decide_eq_false (fun z => c (this.mp z))
theorem sg_x {b : Nat} (h : b < 256) : decide (cbI b = 91 ∨ cbI b = 93 ∨ cbI b = 58 ∨ cbI b = 59 ∨ cbI b = 60 ∨ cbI b = 62 ∨ cbI b = 61) = sgB b := by
  have := cb_sg b h
  by_cases c : sgB b = true
  · rw [c]; exact decide_eq_true (this.mpr c)
  · rw [Bool.eq_false_iff.mpr c]; exact decide_eq_false (fun z => c (this.mp z))
theorem w_byte {Rt : Type} {S : St} {Q : Rt → St → Prop} {r n p : Nat} {b : Nat → Nat} {i : Int32} {k : Int32 → St → Option (Rt × St)} (h : RD S r b n) (hi : i = Int32.ofNat p) (hp : p < n) (hk : Rn (k (cbI (b p)) S) Q) : Rn (cl (fX8_byteAt r i) k S) Q := by
  subst hi
  have := h.2.2.2.2.1
  refine w_cl (byte_x h (by omega)) ?_
  rw [if_pos hp]; exact hk
/-- over letters -/
theorem letters_x {S0 S : St} {r n c : Nat} {b : Nat → Nat} (h : RD S r b n) (hF : FC (TX r) S0 S) (hc : c ≤ n) (h7 : sI S r 7 = Int32.ofNat c) : Rn (itr (fun k (p : Nat) => fX8_step_103 k p) FU r S) (fun _ S' => FC (TX r) S0 S' ∧ sI S' r 7 = Int32.ofNat (rn (fun i => leB (b i)) n c) ∧ sI S' r 0 = sI S r 0 ∧ sI S' r 1 = sI S r 1 ∧ sI S' r 2 = sI S r 2) := by
  have h400 := h.2.2.2.2.1
  refine w_itr (fun m p S' => p = r ∧ ∃ i, c ≤ i ∧ i ≤ n ∧ m = n - i + 1 ∧ sI S' r 7 = Int32.ofNat i ∧ rn (fun i => leB (b i)) n c = rn (fun i => leB (b i)) n i ∧ RD S' r b n ∧ FC (TX r) S0 S' ∧ sI S' r 0 = sI S r 0 ∧ sI S' r 1 = sI S r 1 ∧ sI S' r 2 = sI S r 2) (fun p S' ⟨_, i, _, h2, h3, _⟩ => by omega) ?_ (n - c + 1) FU _ _ (by unfold FU; omega) ⟨rfl, c, Nat.le_refl _, hc, rfl, h7, rfl, h, hF, rfl, rfl, rfl⟩
  rintro m k p S1 ⟨rfl, i, hi1, hi2, hm, g7, hr, hd, hf, e0, e1, e2⟩ hk
  dsimp only [fX8_step_103]
  refine w_gIe hd.k g7 (w_gIe hd.k hd.2.2.2.1 (w_br (fun q => ?_) (fun q => ?_)))
  · rw [le_ofNat (by omega) (by omega)] at q
    refine w_rt ⟨hf, ?_, e0, e1, e2⟩
    rw [hr, rn_e (fun z => by omega)]; exact g7
  · rw [le_ofNat (by omega) (by omega)] at q
    refine w_gIe hd.k g7 (w_ck hd.k (w_byte hd rfl (by omega) (w_cl (isLe_x _ _) ?_)))
    rw [le_x (hd.2.2.2.2.2.1 i)]
    refine w_z (fun l => w_gIe hd.k g7 (w_pI hd.k (hk _ _ ⟨rfl, i + 1, by omega, by omega, by omega, ?_, ?_, hd.st _ (by decide), hf.st _ ⟨rfl, by decide⟩, ?_, ?_, ?_⟩))) (fun l => w_rt ⟨hf, ?_, e0, e1, e2⟩)
    · rw [st_get, succ32]
    · rw [hr]; exact rn_s (P := fun i => leB (b i)) (by omega) l
    · rw [st_ne (Or.inr (by decide))]; exact e0
    · rw [st_ne (Or.inr (by decide))]; exact e1
    · rw [st_ne (Or.inr (by decide))]; exact e2
    · rw [hr, rn_e (fun z => by have := z.2; rw [l] at this; cases this)]; exact g7
theorem cb_di {x : Nat} (h : diB x = true) : cbI x = Int32.ofNat x ∧ 48 ≤ x ∧ x ≤ 57 := by
  have h1 := of_decide_eq_true h
  exact ⟨(cb_all x (by omega)).2.2.2.1 (by omega), h1⟩
theorem nv_s {v x : Nat} (h : 48 ≤ x) : (10 * Int32.ofNat v + Int32.ofNat x) - 48 = Int32.ofNat (10 * v + (x - 48)) := by
  rw [show (10 : Int32) = Int32.ofNat 10 from rfl, show (48 : Int32) = Int32.ofNat 48 from rfl, mul_of, add_of, sub_of (by omega)]
  congr 1
  omega
/-- over digits -/
theorem digits_x {S0 S : St} {r n c : Nat} {b : Nat → Nat} (h : RD S r b n) (hF : FC (TX r) S0 S) (hc : c ≤ n) (h7 : sI S r 7 = Int32.ofNat c) (h2 : sI S r 2 = Int32.ofNat c) (h1 : sI S r 1 = 0) : Rn (fX8_stepOverDigits r S) (fun _ S' => FC (TX r) S0 S' ∧ sI S' r 7 = Int32.ofNat (rn (fun i => diB (b i)) n c) ∧ sI S' r 0 = Int32.ofNat (if rn (fun i => diB (b i)) n c - c ≤ 4 then 2 else 4) ∧ sI S' r 1 = Int32.ofNat (nvF b c (min 4 (rn (fun i => diB (b i)) n c - c))) ∧ sI S' r 2 = Int32.ofNat c) := by
  have h400 := h.2.2.2.2.1
  unfold fX8_stepOverDigits
  refine w_itr (fun m p S' => p = r ∧ ∃ i, c ≤ i ∧ i ≤ n ∧ m = n - i + 1 ∧ sI S' r 7 = Int32.ofNat i ∧ rn (fun i => diB (b i)) n c = rn (fun i => diB (b i)) n i ∧ RD S' r b n ∧ FC (TX r) S0 S' ∧ sI S' r 1 = Int32.ofNat (nvF b c (min 4 (i - c))) ∧ sI S' r 2 = Int32.ofNat c) (fun p S' ⟨_, i, _, h2, h3, _⟩ => by omega) ?_ (n - c + 1) FU _ _ (by unfold FU; omega) ⟨rfl, c, Nat.le_refl _, hc, rfl, h7, rfl, h, hF, by rw [Nat.sub_self]; exact h1, h2⟩
  rintro m k p S1 ⟨rfl, i, hi1, hi2, hm, g7, hr, hd, hf, e1, e2⟩ hk
  have hend : rn (fun i => diB (b i)) n c = i → Rn (fX8_stepOverDigits_74 p S1) (fun _ S' => FC (TX p) S0 S' ∧ sI S' p 7 = Int32.ofNat (rn (fun i => diB (b i)) n c) ∧ sI S' p 0 = Int32.ofNat (if rn (fun i => diB (b i)) n c - c ≤ 4 then 2 else 4) ∧ sI S' p 1 = Int32.ofNat (nvF b c (min 4 (rn (fun i => diB (b i)) n c - c))) ∧ sI S' p 2 = Int32.ofNat c) := by
    intro e
    rw [e]
    dsimp only [fX8_stepOverDigits_74]
    refine w_gIe hd.k g7 (w_gIe hd.k e2 ?_)
    rw [sub_of hi1]
    refine w_br (fun q => ?_) (fun q => ?_)
    · rw [show (4 : Int32) = Int32.ofNat 4 from rfl, lt_ofNat (by omega) (by omega)] at q
      refine w_pI hd.k (w_rt ⟨hf.st _ ⟨rfl, by decide⟩, ?_, ?_, ?_, ?_⟩)
      · rw [st_ne (Or.inr (by decide))]; exact g7
      · rw [st_get, if_neg (by omega)]; rfl
      · rw [st_ne (Or.inr (by decide))]; exact e1
      · rw [st_ne (Or.inr (by decide))]; exact e2
    · rw [show (4 : Int32) = Int32.ofNat 4 from rfl, lt_ofNat (by omega) (by omega)] at q
      refine w_pI hd.k (w_rt ⟨hf.st _ ⟨rfl, by decide⟩, ?_, ?_, ?_, ?_⟩)
      · rw [st_ne (Or.inr (by decide))]; exact g7
      · rw [st_get, if_pos (by omega)]; rfl
      · rw [st_ne (Or.inr (by decide))]; exact e1
      · rw [st_ne (Or.inr (by decide))]; exact e2
  dsimp only [fX8_stepOverDigits_0]
  refine w_gIe hd.k g7 (w_gIe hd.k hd.2.2.2.1 (w_br (fun q => ?_) (fun q => ?_)))
  · rw [le_ofNat (by omega) (by omega)] at q
    exact hend (by rw [hr, rn_e (fun z => by omega)])
  · rw [le_ofNat (by omega) (by omega)] at q
    refine w_gIe hd.k g7 (w_ck hd.k (w_byte hd rfl (by omega) (w_cl (isDi_x _ _) ?_)))
    rw [di_x (hd.2.2.2.2.2.1 i)]
    refine w_z (fun l => w_gIe hd.k g7 (w_gIe hd.k e2 ?_)) (fun l => hend (by rw [hr, rn_e (fun z => by have := z.2; rw [l] at this; cases this)]))
    have hrs : rn (fun i => diB (b i)) n c = rn (fun i => diB (b i)) n (i + 1) := by rw [hr]; exact rn_s (P := fun i => diB (b i)) (by omega) l
    rw [sub_of hi1]
    refine w_br (fun u => ?_) (fun u => ?_)
    · rw [show (4 : Int32) = Int32.ofNat 4 from rfl, le_ofNat (by omega) (by omega)] at u
      refine w_gIe hd.k g7 (w_pI hd.k (hk _ _ ⟨rfl, i + 1, by omega, by omega, by omega, ?_, hrs, hd.st _ (by decide), hf.st _ ⟨rfl, by decide⟩, ?_, ?_⟩))
      · rw [st_get, succ32]
      · rw [st_ne (Or.inr (by decide)), e1, show min 4 (i - c) = min 4 (i + 1 - c) by omega]
      · rw [st_ne (Or.inr (by decide))]; exact e2
    · rw [show (4 : Int32) = Int32.ofNat 4 from rfl, le_ofNat (by omega) (by omega)] at u
      refine w_gIe hd.k e1 (w_gIe hd.k g7 (w_ck hd.k (w_byte hd rfl (by omega) (w_pI hd.k ?_))))
      have hd2 := hd.st (j := 1) (10 * Int32.ofNat (nvF b c (min 4 (i - c))) + cbI (b i) - 48) (by decide)
      refine w_gIe hd2.k (v := Int32.ofNat i) (by rw [st_ne (Or.inr (by decide))]; exact g7) (w_pI hd2.k (hk _ _ ⟨rfl, i + 1, by omega, by omega, by omega, ?_, hrs, hd2.st _ (by decide), (hf.st _ ⟨rfl, by decide⟩).st _ ⟨rfl, by decide⟩, ?_, ?_⟩))
      · rw [st_get, succ32]
      · rw [st_ne (Or.inr (by decide)), st_get, (cb_di l).1, nv_s (cb_di l).2.1, show min 4 (i + 1 - c) = (i - c) + 1 by omega, show min 4 (i - c) = i - c by omega, nvF, show c + (i - c) = i by omega]
      · rw [st_ne (Or.inr (by decide)), st_ne (Or.inr (by decide))]; exact e2
