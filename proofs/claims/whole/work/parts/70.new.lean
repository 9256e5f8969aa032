-- rows, new cells
def rowA (al f : Nat → Int32) (b i : Nat) : Nat → Int32 := fun k => if b ≤ k ∧ k < b + i then f (k - b) else al k
theorem rowA_0 (al f : Nat → Int32) (b : Nat) : rowA al f b 0 = al := by
  funext k
  rw [rowA, if_neg (by omega)]
theorem rowA_s {al f : Nat → Int32} {b i : Nat} {v : Int32} (hv : v = f i) : va_up (rowA al f b i) (b + i) v = rowA al f b (i + 1) := by
  funext k
  by_cases e : k = b + i
  · rw [e, va_up_eq, rowA, if_pos (by omega), hv]; congr 1; omega
  · rw [va_up_n e]
    unfold rowA
    by_cases c : b ≤ k ∧ k < b + i
    · rw [if_pos c, if_pos (by omega)]
    · rw [if_neg c, if_neg (by omega)]
theorem rowA_in {al f : Nat → Int32} {b i k : Nat} (h : k < i) : rowA al f b i (b + k) = f k := by
  rw [rowA, if_pos (by omega)]; congr 1; omega
theorem rowA_out {al f : Nat → Int32} {b i k : Nat} (h : ¬ (b ≤ k ∧ k < b + i)) : rowA al f b i k = al k := by
  rw [rowA, if_neg h]
section NEW
variable {Rt : Type} {S : St} {Q : Rt → St → Prop}
theorem w_nA {kd m : Nat} {n : Int32} {k : Nat → St → Option (Rt × St)} (hn : n = Int32.ofNat m) (hm : m ≤ 65536) (h : Rn (k (sn S) (stN S kd m m)) Q) : Rn (nA kd n k S) Q := by
  subst hn
  rw [nA_S, ofNat_clamp (by omega), if_pos ⟨ofNat_nonneg (by omega), hm⟩]; exact h
theorem w_nO {kd w : Nat} {k : Nat → St → Option (Rt × St)} (h : Rn (k (sn S) (stN S kd 0 w)) Q) : Rn (nO kd w k S) Q := h
theorem w_wR {kd ek a n m b : Nat} {i : Int32} {k : St → Option (Rt × St)} (hk : sK S a = kd) (hb : sK S b = ek) (hi : i = Int32.ofNat n) (hl : sL S a = m) (hn : n < m ∧ n < 2147483648) (h : Rn (k (stR S a n (some b))) Q) : Rn (wR kd ek a i (some b) k S) Q := by
  subst hi
  show Rn (if _ then _ else _) Q
  rw [ofNat_clamp hn.2, if_pos ⟨hk, hb, ofNat_nonneg hn.2, by rw [hl]; exact hn.1⟩]; exact h
theorem w_wRN {kd ek a n m : Nat} {i : Int32} {k : St → Option (Rt × St)} (hk : sK S a = kd) (hi : i = Int32.ofNat n) (hl : sL S a = m) (hn : n < m ∧ n < 2147483648) (h : Rn (k (stR S a n none)) Q) : Rn (wR kd ek a i none k S) Q := by
  subst hi
  show Rn (if _ then _ else _) Q
  rw [ofNat_clamp hn.2, if_pos ⟨hk, ofNat_nonneg hn.2, by rw [hl]; exact hn.1⟩]; exact h
theorem w_pR' {kd a j : Nat} {v : Option Nat} {k : St → Option (Rt × St)} (hk : sK S a = kd) (h : Rn (k (stR S a j v)) Q) : Rn (pR kd a j v k S) Q := w_pR hk h
end NEW
/-- ints change at X alone -/
def FX (X : Nat → Prop) (S S' : St) : Prop := (∀ a, sK S' a = sK S a) ∧ (∀ a, sL S' a = sL S a) ∧ (∀ a j, sR S' a j = sR S a j) ∧ sn S' = sn S ∧ sm S' = sm S ∧ ∀ a j, ¬ X a → sI S' a j = sI S a j
theorem FX.rfl {X : Nat → Prop} {S : St} : FX X S S := ⟨fun _ => Eq.refl _, fun _ => Eq.refl _, fun _ _ => Eq.refl _, Eq.refl _, Eq.refl _, fun _ _ _ => Eq.refl _⟩
theorem FX.stI {X : Nat → Prop} {S S1 : St} (h : FX X S S1) {a j : Nat} (v : Int32) (ha : X a) : FX X S (stI S1 a j v) := ⟨h.1, h.2.1, h.2.2.1, h.2.2.2.1, h.2.2.2.2.1, fun b k hb => by rw [sI_stI, if_neg (fun q => hb (by rw [q.1]; exact ha))]; exact h.2.2.2.2.2 b k hb⟩
theorem FX.stJ {X : Nat → Prop} {S S1 : St} (h : FX X S S1) {a j : Nat} (v : Int64) : FX X S (stJ S1 a j v) := ⟨h.1, h.2.1, h.2.2.1, h.2.2.2.1, h.2.2.2.2.1, h.2.2.2.2.2⟩
theorem FX.trans {X : Nat → Prop} {S S1 S2 : St} (h : FX X S S1) (g : FX X S1 S2) : FX X S S2 := ⟨fun a => (g.1 a).trans (h.1 a), fun a => (g.2.1 a).trans (h.2.1 a), fun a j => (g.2.2.1 a j).trans (h.2.2.1 a j), g.2.2.2.1.trans h.2.2.2.1, g.2.2.2.2.1.trans h.2.2.2.2.1, fun a j q => (g.2.2.2.2.2 a j q).trans (h.2.2.2.2.2 a j q)⟩
theorem FX.mono {X Y : Nat → Prop} {S S1 : St} (h : FX X S S1) (hXY : ∀ a, X a → Y a) : FX Y S S1 := ⟨h.1, h.2.1, h.2.2.1, h.2.2.2.1, h.2.2.2.2.1, fun a j q => h.2.2.2.2.2 a j (fun z => q (hXY a z))⟩
theorem FX.fr {X : Nat → Prop} {S S1 : St} (h : FX X S S1) : FR X S S1 := ⟨h.1, h.2.1, fun a j _ => h.2.2.1 a j, h.2.2.2.1, h.2.2.2.2.1, h.2.2.2.2.2⟩
theorem FX.ex {X : Nat → Prop} {S S1 S2 : St} (h : EX S S1) (g : FX X S1 S2) (hX : ∀ a, X a → sn S ≤ a) : EX S S2 := ⟨by rw [g.2.2.2.1]; exact h.1, fun a ha => (h.2 a ha).trans ⟨g.1 a, g.2.1 a, fun j => g.2.2.2.2.2 a j (fun q => by have := hX a q; omega), fun j => g.2.2.1 a j⟩⟩
theorem fill_w {S : St} {a m : Nat} (v : Int32) (hk : sK S a = 15) (hl : sL S a = m) (hm : m < 50000) : Rn (fJ7_fill_53178 (some a) v S) (fun _ S' => FX (fun b => b = a) S S' ∧ ∀ j, j < m → sI S' a j = v) := by
  unfold fJ7_fill_53178
  refine w_nn (w_aL hk hl ?_)
  refine w_for (mk := fun (b : Unit) i => (some a, v, i, Int32.ofNat m)) (a := ()) 0 m (fun i _ S' => FX (fun b => b = a) S S' ∧ ∀ j, j < i → sI S' a j = v) (by omega) hm ⟨FX.rfl, fun j hj => by omega⟩ ?_ ?_
  · rintro k b S' hJ hge
    dsimp only [fJ7_fill_53178_5]
    exact w_bt hge (w_rt hJ)
  · rintro i - hi k b S' ⟨hF, hJ⟩ hlt hk'
    dsimp only [fJ7_fill_53178_5]
    refine w_bf hlt (w_nn (w_wI (n := i) (m := m) (by rw [hF.1]; exact hk) rfl (by rw [hF.2.1]; exact hl) (by omega) (hk' () _ ⟨hF.stI v rfl, fun j hj => ?_⟩)))
    by_cases e : j = i
    · rw [e, st_get]
    · rw [st_ne (Or.inr e)]; exact hJ j (by omega)
theorem nq2 (q : Nat) : (q = q + 1 + 1) = False := by simp only [eq_iff_iff, iff_false]; omega
theorem nq3 (q : Nat) : (q = q + 1 + 1 + 1) = False := by simp only [eq_iff_iff, iff_false]; omega
theorem nq4 (q : Nat) : (q + 1 = q + 1 + 1 + 1) = False := by simp only [eq_iff_iff, iff_false]; omega
theorem init_hand {S : St} (h46 : 46 ≤ sn S) (x1 x2 x3 : Int32) : Rn (fX2_init (sn S) x1 x2 x3 (stN S 3 0 7)) (fun _ S1 => EX S S1 ∧ sn S1 = sn S + 3 ∧ sm S1 = sm S + 18 ∧ HSh S1 (sn S) ∧ (sI S1 (sn S) 0 = x1 ∧ sI S1 (sn S) 1 = x2 ∧ sI S1 (sn S) 2 = x3 ∧ sI S1 (sn S) 3 = 0 ∧ sI S1 (sn S) 4 = 0) ∧ (∀ s, s < 6 → sI S1 (sn S + 1) s = 50) ∧ ∀ j, sI S1 (sn S + 2) j = 0) := by
  unfold fX2_init
  generalize hq : sn S = q at *
  refine w_nA (m := 6) rfl (by omega) (w_pR (by (simp [sK_stN, sn_stN, nq2, nq3, nq4, hq] <;> omega)) (w_nA (m := 5) rfl (by omega) (w_pR (by (simp [sK_stN, sK_stR, sn_stN, sn_stR, nq2, nq3, nq4, hq] <;> omega)) (w_pI (by (simp [sK_stN, sK_stR, sn_stN, sn_stR, nq2, nq3, nq4, hq] <;> omega)) (w_pI (by (simp [sK_stN, sK_stR, sK_stI, sn_stN, sn_stR, nq2, nq3, nq4, hq] <;> omega)) (w_pI (by (simp [sK_stN, sK_stR, sK_stI, sn_stN, sn_stR, nq2, nq3, nq4, hq] <;> omega)) (w_gR (v := some (q + 1)) (by (simp [sK_stN, sK_stR, sK_stI, sn_stN, sn_stR, nq2, nq3, nq4, hq] <;> omega)) (by (simp [sR_stN, sR_stR, sR_stI, sn_stN, sn_stR, nq2, nq3, nq4, hq] <;> omega)) ?_)))))))
  refine w_clr (fill_w (m := 6) 50 (by (simp [sK_stN, sK_stR, sK_stI, sn_stN, sn_stR, nq2, nq3, nq4, hq] <;> omega)) (by (simp [sL_stN, sL_stR, sL_stI, sn_stN, sn_stR, nq2, nq3, nq4, hq] <;> omega)) (by omega)) ?_
  rintro - S1 ⟨hF, hv⟩
  refine w_rt ⟨FX.ex ?_ hF (by intro a ha; omega), ?_, ?_, ⟨?_, ?_, ?_, ?_, ?_, ?_, ?_, h46, ?_⟩, ⟨?_, ?_, ?_, ?_, ?_⟩, hv, fun j => ?_⟩
  · have e1 := ((EX.rfl (S := S)).new 3 0 7).new 15 6 6
    have e2 := e1.stR (a := q) (j := 5) (some (q + 1)) (by omega)
    have e3 := (e2.new 15 5 5).stR (a := q) (j := 6) (some (q + 2)) (by omega)
    have e4 := ((e3.stI (a := q) (j := 0) x1 (by omega)).stI (a := q) (j := 1) x2 (by omega)).stI (a := q) (j := 2) x3 (by omega)
    simp only [sn_stN, sn_stR, hq]
    exact e4
  · rw [hF.2.2.2.1]; (simp [sn_stN, sn_stR, sn_stI, nq2, nq3, nq4, hq] <;> omega)
  · rw [hF.2.2.2.2.1]; simp [sm_stN, sm_stR, sm_stI]
  · rw [hF.1]; (simp [sK_stN, sK_stR, sK_stI, sn_stN, sn_stR, nq2, nq3, nq4, hq] <;> omega)
  · rw [hF.1]; (simp [sK_stN, sK_stR, sK_stI, sn_stN, sn_stR, nq2, nq3, nq4, hq] <;> omega)
  · rw [hF.1]; (simp [sK_stN, sK_stR, sK_stI, sn_stN, sn_stR, nq2, nq3, nq4, hq] <;> omega)
  · rw [hF.2.1]; (simp [sL_stN, sL_stR, sL_stI, sn_stN, sn_stR, nq2, nq3, nq4, hq] <;> omega)
  · rw [hF.2.1]; (simp [sL_stN, sL_stR, sL_stI, sn_stN, sn_stR, nq2, nq3, nq4, hq] <;> omega)
  · rw [hF.2.2.1]; (simp [sR_stN, sR_stR, sR_stI, sn_stN, sn_stR, nq2, nq3, nq4, hq] <;> omega)
  · rw [hF.2.2.1]; (simp [sR_stN, sR_stR, sR_stI, sn_stN, sn_stR, nq2, nq3, nq4, hq] <;> omega)
  · rw [hF.2.2.2.1]; (simp [sn_stN, sn_stR, sn_stI, nq2, nq3, nq4, hq] <;> omega)
  · rw [hF.2.2.2.2.2 _ _ (by omega)]; simp [sI_stI]
  · rw [hF.2.2.2.2.2 _ _ (by omega)]; simp [sI_stI]
  · rw [hF.2.2.2.2.2 _ _ (by omega)]; simp [sI_stI]
  · rw [hF.2.2.2.2.2 _ _ (by omega)]; (simp [sI_stI, sI_stR, sI_stN, sn_stN, sn_stR, nq2, nq3, nq4, hq] <;> omega)
  · rw [hF.2.2.2.2.2 _ _ (by omega)]; (simp [sI_stI, sI_stR, sI_stN, sn_stN, sn_stR, nq2, nq3, nq4, hq] <;> omega)
  · rw [hF.2.2.2.2.2 _ _ (by omega)]; (simp [sI_stI, sI_stR, sI_stN, sn_stN, sn_stR, nq2, nq3, nq4, hq] <;> omega)
theorem init_piece {S : St} (h46 : 46 ≤ sn S) (x1 x2 x3 x4 : Int32) : Rn (fX7_init (sn S) x1 x2 x3 x4 (stN S 8 0 12)) (fun _ S1 => EX S S1 ∧ sn S1 = sn S + 4 ∧ sm S1 = sm S + 30 ∧ GSh S1 (sn S) ∧ (sI S1 (sn S) 0 = x1 ∧ sI S1 (sn S) 1 = x2 ∧ sI S1 (sn S) 2 = x3 ∧ sI S1 (sn S) 3 = x4 ∧ sI S1 (sn S) 4 = -1 ∧ ∀ j, 5 ≤ j → sI S1 (sn S) j = 0) ∧ (∀ s, s < 6 → sI S1 (sn S + 1) s = -1) ∧ (∀ j, sI S1 (sn S + 2) j = 0) ∧ ∀ j, sI S1 (sn S + 3) j = 0) := by
  unfold fX7_init
  generalize hq : sn S = q at *
  refine w_pI (by (simp [sK_stN, nq2, nq3, nq4, hq] <;> omega)) (w_nA (m := 6) rfl (by omega) (w_pR (by (simp [sK_stN, sK_stI, sn_stN, sn_stI, nq2, nq3, nq4, hq] <;> omega)) (w_nA (m := 6) rfl (by omega) (w_pR (by (simp [sK_stN, sK_stR, sK_stI, sn_stN, sn_stR, sn_stI, nq2, nq3, nq4, hq] <;> omega)) (w_nA (m := 6) rfl (by omega) (w_pR (by (simp [sK_stN, sK_stR, sK_stI, sn_stN, sn_stR, sn_stI, nq2, nq3, nq4, hq] <;> omega)) (w_pI (by (simp [sK_stN, sK_stR, sK_stI, sn_stN, sn_stR, sn_stI, nq2, nq3, nq4, hq] <;> omega)) (w_pI (by (simp [sK_stN, sK_stR, sK_stI, sn_stN, sn_stR, sn_stI, nq2, nq3, nq4, hq] <;> omega)) (w_pI (by (simp [sK_stN, sK_stR, sK_stI, sn_stN, sn_stR, sn_stI, nq2, nq3, nq4, hq] <;> omega)) (w_pI (by (simp [sK_stN, sK_stR, sK_stI, sn_stN, sn_stR, sn_stI, nq2, nq3, nq4, hq] <;> omega)) (w_gR (v := some (q + 1)) (by (simp [sK_stN, sK_stR, sK_stI, sn_stN, sn_stR, sn_stI, nq2, nq3, nq4, hq] <;> omega)) (by (simp [sR_stN, sR_stR, sR_stI, sn_stN, sn_stR, sn_stI, nq2, nq3, nq4, hq] <;> omega)) ?_)))))))))))
  refine w_clr (fill_w (m := 6) (-1) (by (simp [sK_stN, sK_stR, sK_stI, sn_stN, sn_stR, sn_stI, nq2, nq3, nq4, hq] <;> omega)) (by (simp [sL_stN, sL_stR, sL_stI, sn_stN, sn_stR, sn_stI, nq2, nq3, nq4, hq] <;> omega)) (by omega)) ?_
  rintro - S1 ⟨hF, hv⟩
  refine w_rt ⟨FX.ex ?_ hF (by intro a ha; omega), ?_, ?_, ⟨?_, ?_, ?_, ?_, ?_, ?_, ?_, ?_, ?_, ?_, h46, ?_⟩, ⟨?_, ?_, ?_, ?_, ?_, fun j hj => ?_⟩, hv, fun j => ?_, fun j => ?_⟩
  · have e1 := (((EX.rfl (S := S)).new 8 0 12).stI (a := q) (j := 4) (-1) (by omega)).new 15 6 6
    have e2 := (e1.stR (a := q) (j := 9) (some (q + 1)) (by omega)).new 15 6 6
    have e3 := (e2.stR (a := q) (j := 10) (some (q + 2)) (by omega)).new 15 6 6
    have e3 := e3.stR (a := q) (j := 11) (some (q + 3)) (by omega)
    have e4 := (((e3.stI (a := q) (j := 0) x1 (by omega)).stI (a := q) (j := 1) x2 (by omega)).stI (a := q) (j := 2) x3 (by omega)).stI (a := q) (j := 3) x4 (by omega)
    simp only [sn_stN, sn_stR, sn_stI, hq]
    exact e4
  · rw [hF.2.2.2.1]; (simp [sn_stN, sn_stR, sn_stI, nq2, nq3, nq4, hq] <;> omega)
  · rw [hF.2.2.2.2.1]; simp [sm_stN, sm_stR, sm_stI]
  · rw [hF.1]; (simp [sK_stN, sK_stR, sK_stI, sn_stN, sn_stR, sn_stI, nq2, nq3, nq4, hq] <;> omega)
  · rw [hF.1]; (simp [sK_stN, sK_stR, sK_stI, sn_stN, sn_stR, sn_stI, nq2, nq3, nq4, hq] <;> omega)
  · rw [hF.1]; (simp [sK_stN, sK_stR, sK_stI, sn_stN, sn_stR, sn_stI, nq2, nq3, nq4, hq] <;> omega)
  · rw [hF.1]; (simp [sK_stN, sK_stR, sK_stI, sn_stN, sn_stR, sn_stI, nq2, nq3, nq4, hq] <;> omega)
  · rw [hF.2.1]; (simp [sL_stN, sL_stR, sL_stI, sn_stN, sn_stR, sn_stI, nq2, nq3, nq4, hq] <;> omega)
  · rw [hF.2.1]; (simp [sL_stN, sL_stR, sL_stI, sn_stN, sn_stR, sn_stI, nq2, nq3, nq4, hq] <;> omega)
  · rw [hF.2.1]; (simp [sL_stN, sL_stR, sL_stI, sn_stN, sn_stR, sn_stI, nq2, nq3, nq4, hq] <;> omega)
  · rw [hF.2.2.1]; (simp [sR_stN, sR_stR, sR_stI, sn_stN, sn_stR, sn_stI, nq2, nq3, nq4, hq] <;> omega)
  · rw [hF.2.2.1]; (simp [sR_stN, sR_stR, sR_stI, sn_stN, sn_stR, sn_stI, nq2, nq3, nq4, hq] <;> omega)
  · rw [hF.2.2.1]; (simp [sR_stN, sR_stR, sR_stI, sn_stN, sn_stR, sn_stI, nq2, nq3, nq4, hq] <;> omega)
  · rw [hF.2.2.2.1]; (simp [sn_stN, sn_stR, sn_stI, nq2, nq3, nq4, hq] <;> omega)
  · rw [hF.2.2.2.2.2 _ _ (by omega)]; simp [sI_stI]
  · rw [hF.2.2.2.2.2 _ _ (by omega)]; simp [sI_stI]
  · rw [hF.2.2.2.2.2 _ _ (by omega)]; simp [sI_stI]
  · rw [hF.2.2.2.2.2 _ _ (by omega)]; simp [sI_stI]
  · rw [hF.2.2.2.2.2 _ _ (by omega)]; (simp [sI_stI, sI_stR, sI_stN, sn_stN, sn_stR, sn_stI, nq2, nq3, nq4, hq] <;> omega)
  · rw [hF.2.2.2.2.2 _ _ (by omega)]; (simp [sI_stI, sI_stR, sI_stN, sn_stN, sn_stR, sn_stI, nq2, nq3, nq4, hq, show ¬ j = 0 by omega, show ¬ j = 1 by omega, show ¬ j = 2 by omega, show ¬ j = 3 by omega, show ¬ j = 4 by omega] <;> omega)
  · rw [hF.2.2.2.2.2 _ _ (by omega)]; (simp [sI_stI, sI_stR, sI_stN, sn_stN, sn_stR, sn_stI, nq2, nq3, nq4, hq] <;> omega)
  · rw [hF.2.2.2.2.2 _ _ (by omega)]; (simp [sI_stI, sI_stR, sI_stN, sn_stN, sn_stR, sn_stI, nq2, nq3, nq4, hq] <;> omega)
