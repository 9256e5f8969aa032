-- about
theorem fo4 {β : Type} (f : Nat → β → β) (b : β) (s : Nat) : fo f b (4 * (s + 1)) = f (4 * s + 3) (f (4 * s + 2) (f (4 * s + 1) (f (4 * s) (fo f b (4 * s))))) := by
  rw [show 4 * (s + 1) = 4 * s + 3 + 1 by omega, fo_s, show 4 * s + 3 = 4 * s + 2 + 1 by omega, fo_s, show 4 * s + 2 = 4 * s + 1 + 1 by omega, fo_s, fo_s]
def abK (al : Nat → Int32) (p k : Nat) (b : Int32) : Int32 := if al (23 + 27 * p + k) = 0 then b else b ||| (1 <<< ((Int32.ofNat k / 4) &&& 31))
def abC (al : Nat → Int32) (p k : Nat) (b : Int32) : Int32 := if al (23 + 27 * p + k) = 0 then b else b ||| (1 <<< ((irm (Int32.ofNat k) 4) &&& 31))
def abZ (al : Nat → Int32) (p s c : Nat) : Bool := !decide (al (23 + 27 * p + (4 * s + c)) = 0)
def abS (al : Nat → Int32) (p s : Nat) : Bool := abZ al p s 0 || abZ al p s 1 || abZ al p s 2 || abZ al p s 3
theorem ab_kb : ∀ s, s < 6 → ∀ c, c < 4 → (Int32.ofNat (4 * s + c) / 4) &&& 31 = Int32.ofNat s := by decide +kernel
theorem ab_cb : ∀ s, s < 6 → ∀ c, c < 4 → (irm (Int32.ofNat (4 * s + c)) 4) &&& 31 = Int32.ofNat c := by decide +kernel
theorem or_idem (b v : Int32) : b ||| v ||| v = b ||| v := by rw [Int32.or_assoc, Int32.or_self]
theorem abK4 {al : Nat → Int32} {p s : Nat} (hs : s < 6) (b : Int32) : abK al p (4 * s + 3) (abK al p (4 * s + 2) (abK al p (4 * s + 1) (abK al p (4 * s) b))) = if abS al p s = true then b ||| (1 <<< Int32.ofNat s) else b := by
  unfold abK abS abZ
  have k0 := ab_kb s hs 0 (by omega)
  rw [Nat.add_zero] at k0
  rw [ab_kb s hs 3 (by omega), ab_kb s hs 2 (by omega), ab_kb s hs 1 (by omega), k0, Nat.add_zero]
  generalize (1 : Int32) <<< Int32.ofNat s = v
  by_cases c0 : al (23 + 27 * p + 4 * s) = 0 <;> by_cases c1 : al (23 + 27 * p + (4 * s + 1)) = 0 <;> by_cases c2 : al (23 + 27 * p + (4 * s + 2)) = 0 <;> by_cases c3 : al (23 + 27 * p + (4 * s + 3)) = 0 <;> simp [c0, c1, c2, c3, or_idem, ← Nat.add_assoc] <;> simp_all [or_idem, ← Nat.add_assoc]
