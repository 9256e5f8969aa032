-- even
theorem div_of {a b : Nat} (ha : a < 2 ^ 31) (hb : b < 2 ^ 31) : Int32.ofNat a / Int32.ofNat b = Int32.ofNat (a / b) := by
  have hd : a / b ≤ a := Nat.div_le_self _ _
  apply Int32.toInt_inj.mp
  rw [Int32.toInt_div, toInt_ofNat ha, toInt_ofNat hb, toInt_ofNat (by omega), ← Int.ofNat_tdiv]
  generalize a / b = c at hd ⊢
  rw [Int.bmod_eq_of_le (by omega) (by omega)]
theorem mn_of {a b : Nat} (ha : a < 2 ^ 31) (hb : b < 2 ^ 31) : mnI (Int32.ofNat a) (Int32.ofNat b) = Int32.ofNat (min a b) := by
  unfold mnI
  by_cases c : b < a
  · rw [if_pos (by rw [lt_ofNat ha hb]; exact c)]; congr 1; omega
  · rw [if_neg (by rw [lt_ofNat ha hb]; exact c)]; congr 1; omega
theorem mx_of {a b : Nat} (ha : a < 2 ^ 31) (hb : b < 2 ^ 31) : mxI (Int32.ofNat a) (Int32.ofNat b) = Int32.ofNat (max a b) := by
  unfold mxI
  by_cases c : a < b
  · rw [if_pos (by rw [lt_ofNat hb ha]; exact c)]; congr 1; omega
  · rw [if_neg (by rw [lt_ofNat hb ha]; exact c)]; congr 1; omega
theorem add_of (a b : Nat) : Int32.ofNat a + Int32.ofNat b = Int32.ofNat (a + b) := (Int32.ofNat_add a b).symm
theorem mul_of (a b : Nat) : Int32.ofNat a * Int32.ofNat b = Int32.ofNat (a * b) := (Int32.ofNat_mul a b).symm
def evL (w t : Nat) : Nat := (w * t + 3599) / 3600
def evH (w g t : Nat) : Nat := min 9999 (((w + g + 1) * t - 1) / 3600)
def evR (w g t r : Nat) : Nat := max (evL w t) (min (evH w g t) r)
def evD (a b : Nat) : Nat := (a - b) + (b - a)
theorem ab_of {a b : Nat} (ha : a < 2 ^ 30) (hb : b < 2 ^ 30) : abI (Int32.ofNat a - Int32.ofNat b) = Int32.ofNat (evD a b) := by
  have e := sub_i (a := Int32.ofNat a) (b := Int32.ofNat b) (by rw [toInt_ofNat (by omega), toInt_ofNat (by omega)]; omega) (by rw [toInt_ofNat (by omega), toInt_ofNat (by omega)]; omega)
  rw [toInt_ofNat (by omega), toInt_ofNat (by omega)] at e
  apply Int32.toInt_inj.mp
  unfold evD
  rw [abI_i (by omega), e, toInt_ofNat (by omega)]
  omega
def evC (T R : Nat → Nat) (w g : Nat) : Nat → Option Nat
  | 0 => some 0
  | n + 1 => match evC T R w g n with
    | none => none
    | some v => if evL w (T n) ≤ evH w g (T n) then some (v + evD (evR w g (T n) (R n)) (R n)) else none
def evI : Option Nat → Int32
  | none => -1
  | some v => Int32.ofNat v
theorem evC_none {T R : Nat → Nat} {w g : Nat} {i : Nat} (h : evC T R w g i = none) : ∀ n, i ≤ n → evC T R w g n = none := by
  intro n
  induction n with
  | zero => intro hn; rw [show i = 0 by omega] at h; exact h
  | succ n ih =>
    intro hn
    by_cases e : i = n + 1
    · rw [← e]; exact h
    · rw [evC, ih (by omega)]
theorem evR_b {w g t r : Nat} (hr : r ≤ 9999) (h : evL w t ≤ evH w g t) : evR w g t r ≤ 9999 := by
  unfold evR
  have : evH w g t ≤ 9999 := by unfold evH; omega
  omega
theorem evC_b {T R : Nat → Nat} {w g : Nat} (hR : ∀ s, s < 6 → R s ≤ 9999) : ∀ n, n ≤ 6 → ∀ v, evC T R w g n = some v → v ≤ 9999 * n := by
  intro n
  induction n with
  | zero => intro _ v h; cases h; omega
  | succ n ih =>
    intro hn v h
    rw [evC] at h
    cases hc : evC T R w g n with
    | none => rw [hc] at h; cases h
    | some v0 =>
      rw [hc] at h
      have := ih (by omega) v0 hc
      by_cases c : evL w (T n) ≤ evH w g (T n)
      · simp only [c, if_true] at h
        cases h
        have h1 := evR_b (r := R n) (hR n (by omega)) c
        have h2 := hR n (by omega)
        unfold evD
        omega
      · simp only [c] at h
        cases h
/-- the best so far: of 1 .. n -/
def evB (T R : Nat → Nat) (g : Nat) : Nat → Option (Nat × Nat)
  | 0 => none
  | n + 1 => match evC T R (n + 1) g 6 with
    | none => evB T R g n
    | some v => match evB T R g n with
      | none => some (n + 1, v)
      | some (w, l) => if v < l then some (n + 1, v) else some (w, l)
theorem evB_s {T R : Nat → Nat} {g n : Nat} : evB T R g (n + 1) = match evC T R (n + 1) g 6 with
    | none => evB T R g n
    | some v => match evB T R g n with
      | none => some (n + 1, v)
      | some (w, l) => if v < l then some (n + 1, v) else some (w, l) := rfl
theorem evB_p {T R : Nat → Nat} {g : Nat} (hR : ∀ s, s < 6 → R s ≤ 9999) : ∀ n w l, evB T R g n = some (w, l) → 1 ≤ w ∧ w ≤ n ∧ evC T R w g 6 = some l ∧ l ≤ 59994 := by
  intro n
  induction n with
  | zero => intro w l h; cases h
  | succ n ih =>
    intro w l h
    rw [evB_s] at h
    cases hc : evC T R (n + 1) g 6 with
    | none =>
      rw [hc] at h
      have := ih w l h
      exact ⟨this.1, by omega, this.2.2⟩
    | some v =>
      rw [hc] at h
      have hv := evC_b (w := n + 1) (g := g) hR 6 (by omega) v hc
      cases hb : evB T R g n with
      | none => rw [hb] at h; cases h; exact ⟨by omega, by omega, hc, by omega⟩
      | some q =>
        obtain ⟨w0, l0⟩ := q
        rw [hb] at h
        by_cases c : v < l0
        · simp only [c, if_true] at h; cases h; exact ⟨by omega, by omega, hc, by omega⟩
        · simp only [c, if_false] at h; cases h; have := ih w l hb; exact ⟨this.1, by omega, this.2.2⟩
theorem evC_up {T R : Nat → Nat} {g w w' : Nat} (hw : w ≤ w') (hT : ∀ s, s < 6 → R s * 3600 < w * T s) : ∀ n, n ≤ 6 → ∀ v v', evC T R w g n = some v → evC T R w' g n = some v' → v ≤ v' := by
  intro n
  induction n with
  | zero => intro _ v v' h h'; cases h; cases h'; exact Nat.le_refl _
  | succ n ih =>
    intro hn v v' h h'
    rw [evC] at h h'
    cases hc : evC T R w g n with
    | none => rw [hc] at h; cases h
    | some a =>
      cases hc' : evC T R w' g n with
      | none => rw [hc'] at h'; cases h'
      | some a' =>
        rw [hc] at h
        rw [hc'] at h'
        have hi := ih (by omega) a a' hc hc'
        by_cases c : evL w (T n) ≤ evH w g (T n)
        · by_cases c' : evL w' (T n) ≤ evH w' g (T n)
          · simp only [c, c', if_true] at h h'
            cases h
            cases h'
            have ht := hT n (by omega)
            have hmul : w * T n ≤ w' * T n := Nat.mul_le_mul_right _ hw
            have l1 : evL w (T n) ≤ evL w' (T n) := by unfold evL; omega
            have l2 : R n < evL w (T n) := by unfold evL; omega
            have e1 : evR w g (T n) (R n) = evL w (T n) := by unfold evR; omega
            have e2 : evR w' g (T n) (R n) = evL w' (T n) := by unfold evR; omega
            rw [e1, e2]
            unfold evD
            omega
          · simp only [c'] at h'; cases h'
        · simp only [c] at h; cases h
theorem evB_stop {T R : Nat → Nat} {g w v : Nat} (hT : ∀ s, s < 6 → R s * 3600 < w * T s) (hv : evC T R w g 6 = some v) (hw : 1 ≤ w) : ∀ n, w ≤ n → evB T R g n = evB T R g w ∧ ∃ b l, evB T R g n = some (b, l) ∧ l ≤ v := by
  intro n
  induction n with
  | zero => intro h; omega
  | succ n ih =>
    intro h
    by_cases e : w = n + 1
    · refine ⟨by rw [e], ?_⟩
      rw [evB_s, ← e, hv]
      cases hb : evB T R g n with
      | none => exact ⟨w, v, rfl, Nat.le_refl _⟩
      | some q =>
        obtain ⟨b, l⟩ := q
        by_cases c : v < l
        · exact ⟨w, v, by simp only [c, if_true], Nat.le_refl _⟩
        · exact ⟨b, l, by simp only [c, if_false], by omega⟩
    · obtain ⟨h1, b, l, h2, h3⟩ := ih (by omega)
      have key : evB T R g (n + 1) = evB T R g n := by
        rw [evB_s]
        cases hc : evC T R (n + 1) g 6 with
        | none => rfl
        | some v' =>
          have := evC_up (w := w) (w' := n + 1) (g := g) (by omega) hT 6 (by omega) v v' hv hc
          rw [h2]
          simp only [show ¬ v' < l by omega, if_false]
      rw [key]
      exact ⟨h1, b, l, h2, h3⟩
