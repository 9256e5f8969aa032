def MA (S : St) (D : Nat) (g : CT) (hu re : Nat → Nat) : Prop := D ≤ 6 ∧ AM D S g ∧ (∀ l, l ≤ D → sI S 37 l = hI (hu l) ∧ hu l < 5) ∧ ∀ l, 1 ≤ l → l ≤ D → sI S 38 l = Int32.ofNat (re l) ∧ 1 ≤ re l ∧ re l ≤ 9999
def HK (S : St) (D : Nat) : Prop := ∀ l, l ≤ D → l < 7 → ∃ h, h < 5 ∧ sI S 37 l = hI h
def MIp (al : Nat → Int32) (S0 S : St) (b : Nat → Nat) (n c D F : Nat) (P : Int32) (g : CT) (hu re : Nat → Nat) : Prop := MU al S0 S b n c F P ∧ D ≤ c ∧ sI S 32 14 = Int32.ofNat D ∧ HK S D ∧ (F = 0 → MA S D g hu re)
def PM (al : Nat → Int32) (S0 S : St) (b : Nat → Nat) (n : Nat) (r : Bool × PS) : Prop := (r.1 = true → MIp al S0 S b n r.2.1 r.2.2.1 r.2.2.2.1 r.2.2.2.2.1 r.2.2.2.2.2.1 r.2.2.2.2.2.2.1 r.2.2.2.2.2.2.2) ∧ (r.1 = false → WU al S0 S r.2.2.2.2.1 ∧ r.2.2.2.1 = 1)
theorem PM_t {al : Nat → Int32} {S0 S : St} {b : Nat → Nat} {n c D F : Nat} {P : Int32} {g : CT} {hu re : Nat → Nat} (h : MIp al S0 S b n c D F P g hu re) : PM al S0 S b n (true, (c, D, F, P, g, hu, re)) := ⟨fun _ => h, fun z => absurd (show true = false from z) (by decide)⟩
theorem PM_f {al : Nat → Int32} {S0 S : St} {b : Nat → Nat} {n c D : Nat} {P : Int32} {g : CT} {hu re : Nat → Nat} (h : WU al S0 S P) : PM al S0 S b n (false, (c, D, 1, P, g, hu, re)) := ⟨fun z => absurd (show false = true from z) (by decide), fun _ => ⟨h, rfl⟩⟩
/-- the cells that counting writes, longs aside -/
def FZ (S S' : St) : Prop := (∀ a, sK S' a = sK S a) ∧ (∀ a, sL S' a = sL S a) ∧ (∀ a j, sR S' a j = sR S a j) ∧ sn S' = sn S ∧ sm S' = sm S ∧ ∀ a j, a ≠ 37 → a ≠ 38 → ¬ (a = 32 ∧ j = 14) → sI S' a j = sI S a j
theorem FX.fz {S S' : St} {X : Nat → Prop} (h : FX X S S') (hX : ∀ a, X a → a = 37 ∨ a = 38) : FZ S S' := ⟨h.1, h.2.1, h.2.2.1, h.2.2.2.1, h.2.2.2.2.1, fun a j q1 q2 _ => h.2.2.2.2.2 a j (fun z => by have := hX a z; omega)⟩
theorem FJ.fz {S S' : St} (h : FJ S S') : FZ S S' := ⟨h.1, h.2.1, h.2.2.1, h.2.2.2.1, h.2.2.2.2.1, fun a j _ _ _ => h.2.2.2.2.2 a j⟩
theorem FZ.d14 {S : St} (v : Int32) : FZ S (stI S 32 14 v) := ⟨fun _ => rfl, fun _ => rfl, fun _ _ => rfl, rfl, rfl, fun a j _ _ q => by rw [st_ne (by omega)]⟩
theorem FZ.hue {S : St} (l : Nat) (v : Int32) : FZ S (stI S 37 l v) := ⟨fun _ => rfl, fun _ => rfl, fun _ _ => rfl, rfl, rfl, fun a j q _ _ => by rw [st_ne (Or.inl q)]⟩
theorem FZ.md {S0 S S1 : St} {al : Nat → Int32} (hF : FZ S S1) (h : MD S0 al S) : MD S0 al S1 := by
  obtain ⟨h1, h2, h3, h4, h5⟩ := h
  have fx : FX (fun a => a = 37 ∨ a = 38 ∨ a = 32) S S1 := ⟨hF.1, hF.2.1, hF.2.2.1, hF.2.2.2.1, hF.2.2.2.2.1, fun a j q => hF.2.2.2.2.2 a j (by omega) (by omega) (by omega)⟩
  have hI := hF.2.2.2.2.2
  exact ⟨FR_SH fx.fr h1, h2.trans (fx.mono (Y := XN) (fun a z => by unfold XN; omega)).fr, fun i hi => by rw [hI 33 i (by decide) (by decide) (by omega)]; exact h3 i hi, fun i hi => by rw [hI 33 i (by decide) (by decide) (by omega)]; exact h4 i hi, fun j => by rw [hI 34 j (by decide) (by decide) (by omega)]; exact h5 j⟩
theorem FZ.wu {S0 S S1 : St} {al : Nat → Int32} {P : Int32} (hF : FZ S S1) (h : WU al S0 S P) : WU al S0 S1 P := ⟨hF.md h.1, by rw [hF.2.2.2.2.2 32 9 (by decide) (by decide) (by omega)]; exact h.2⟩
theorem FZ.mu {al : Nat → Int32} {S0 S S1 : St} {b : Nat → Nat} {n c F : Nat} {P : Int32} (hF : FZ S S1) (h : MU al S0 S b n c F P) : MU al S0 S1 b n c F P := by
  obtain ⟨h1, h2, h3, h4, h5, h6⟩ := h
  have hI : ∀ a j, a ≠ 37 → a ≠ 38 → ¬ (a = 32 ∧ j = 14) → sI S1 a j = sI S a j := hF.2.2.2.2.2
  have m1 := hF.md h1
  obtain ⟨d1, d2, d3, d4, d5⟩ := h2
  obtain ⟨t1, t2, t3, t4, t5, t6⟩ := h4
  exact ⟨m1, ⟨m1.1, by rw [hI 32 2 (by decide) (by decide) (by omega)]; exact d2, d3, d4, fun i hi => by rw [hI 33 _ (by decide) (by decide) (by omega)]; exact d5 i hi⟩, h3, ⟨by rw [hI 32 3 (by decide) (by decide) (by omega)]; exact t1, by rw [hI 32 4 (by decide) (by decide) (by omega)]; exact t2, by rw [hI 32 5 (by decide) (by decide) (by omega)]; exact t3, fun z => by rw [hI 32 6 (by decide) (by decide) (by omega)]; exact t4 z, fun z => by rw [hI 32 7 (by decide) (by decide) (by omega)]; exact t5 z, fun z => by rw [hI 32 8 (by decide) (by decide) (by omega)]; exact t6 z⟩, by rw [hI 32 9 (by decide) (by decide) (by omega)]; exact h5, h6⟩
theorem FQ.ma {S S1 : St} {D : Nat} {g : CT} {hu re : Nat → Nat} (hF : FQ S S1) (h : MA S D g hu re) : MA S1 D g hu re := by
  obtain ⟨h1, h2, h3, h4⟩ := h
  have hI := hF.2.2.2.2.2.2
  exact ⟨h1, fun l t k q1 q2 q3 => by rw [hF.2.2.2.2.2.1]; exact h2 l t k q1 q2 q3, fun l hl => by rw [hI 37 l (by omega) (by omega)]; exact h3 l hl, fun l q1 q2 => by rw [hI 38 l (by omega) (by omega)]; exact h4 l q1 q2⟩
theorem FQ.hk {S S1 : St} {D : Nat} (hF : FQ S S1) (h : HK S D) : HK S1 D := fun l q1 q2 => by
  rw [hF.2.2.2.2.2.2 37 l (by omega) (by omega)]; exact h l q1 q2
theorem FQ.d {S S1 : St} {D : Nat} (hF : FQ S S1) (h : sI S 32 14 = Int32.ofNat D) : sI S1 32 14 = Int32.ofNat D := by
  rw [hF.2.2.2.2.2.2 32 14 (by omega) (by omega)]; exact h
