-- the same by numbers that differ in a piece's own alone
theorem fo_0 {β : Type} (f : Nat → β → β) (b : β) : fo f b 0 = b := rfl
theorem blN_0 (al : Nat → Int32) (p : Nat) (x : Int32) (B : Nat → Int32) (topic : Int32) : blN al p x B topic 0 = 0 := rfl
theorem tmN_n (al : Nat → Int32) (l : Nat) (t : Int32) : tmN al l t none = woF t := rfl
theorem tmN_s (al : Nat → Int32) (l k : Nat) (t : Int32) : tmN al l t (some k) = al (262 + 320 * l + 19 * k) := rfl
theorem lsF_c {al al2 : Nat → Int32} (h5 : OK al) (hA : ∀ k, k < 5360 → al2 k = al k) (d w k : Int32) : lsF al2 d w k = lsF al d w k := by
  have l1 : nat (al 1) ≤ 10 := nat_le h5.1.2.1.2 (by decide)
  have key : ∀ i, i ≤ 10 → fo (lsS al2 d w k) (-1) i = fo (lsS al d w k) (-1) i := by
    intro i
    induction i with
    | zero => intro _; rw [fo_0, fo_0]
    | succ i ih =>
      intro hi
      rw [fo_s, fo_s, ih (by omega)]
      have hb : nat (fo (lsS al d w k) (-1) i) < 10 := by
        rcases ls_b (al := al) (d := d) (w := w) (k := k) i (by omega) with h | ⟨j, hj, h⟩
        · rw [h]; decide
        · rw [h, nat_ofNat (by omega)]; omega
      unfold lsS
      rw [hA _ (by omega), hA (241 + 320 * i) (by omega), hA (242 + 320 * i) (by omega), hA (241 + 320 * nat (fo (fun i b => if al (240 + 320 * i) = d ∧ al (241 + 320 * i) ≤ w ∧ al (242 + 320 * i) ≤ k ∧ (b < 0 ∨ al (241 + 320 * nat b) ≤ al (241 + 320 * i)) then Int32.ofNat i else b) (-1) i)) (by
        have : nat (fo (lsS al d w k) (-1) i) < 10 := hb
        unfold lsS at this
        omega)]
  unfold lsF
  rw [hA 1 (by omega), key _ l1]
theorem allB_c {P Q : Nat → Bool} : ∀ n, (∀ t, t < n → P t = Q t) → allB P n = allB Q n := by
  intro n
  induction n with
  | zero => intro _; rfl
  | succ n ih => intro h; rw [allB, allB, ih (fun t ht => h t (by omega)), h n (by omega)]
theorem fstB_c {P Q : Nat → Bool} : ∀ n, (∀ t, t < n → P t = Q t) → fstB P n = fstB Q n := by
  intro n
  induction n with
  | zero => intro _; rfl
  | succ n ih => intro h; rw [fstB, fstB, ih (fun t ht => h t (by omega)), h n (by omega)]
theorem termF_a {al al2 A : Nat → Int32} (h5 : OK al) (hA : ∀ k, k < 5360 → al2 k = al k) {x : Int32} (hx : x = -1 ∨ ∃ l, l < nat (al 1) ∧ l < 10 ∧ x = Int32.ofNat l) (t : Int32) : termF al2 A x t = termF al A x t := by
  rcases hx with rfl | ⟨l, hl, hl10, rfl⟩
  · unfold termF
    rw [if_pos (by decide), if_pos (by decide)]
  · obtain ⟨-, -, -, o4, o5⟩ := h5.2.2.2.2.1 l hl
    have n16 := nat_le (n := 16) o4.2 (by decide)
    unfold termF tmF
    rw [if_neg (nonneg_lt (by omega)), if_neg (nonneg_lt (by omega)), nat_ofNat (by omega), hA (243 + 320 * l) (by omega)]
    have e : fstB (lnP al2 A l t) (nat (al (243 + 320 * l))) = fstB (lnP al A l t) (nat (al (243 + 320 * l))) := by
      refine fstB_c _ (fun k hk => ?_)
      have n4 := nat_le (n := 4) (o5 k hk).1.2 (by decide)
      unfold lnP
      rw [hA (244 + 320 * l + 19 * k) (by omega), hA (245 + 320 * l + 19 * k) (by omega)]
      congr 1
      refine allB_c _ (fun j hj => ?_)
      unfold tH
      rw [hA _ (by omega), hA (247 + 320 * l + 19 * k + 4 * j) (by omega), hA (248 + 320 * l + 19 * k + 4 * j) (by omega), hA (249 + 320 * l + 19 * k + 4 * j) (by omega)]
    rw [e]
    cases hf : fstB (lnP al A l t) (nat (al (243 + 320 * l))) with
    | none => rw [tmN_n, tmN_n]
    | some k =>
      have hk := fstB_lt _ hf
      rw [tmN_s, tmN_s]
      exact hA _ (by omega)
theorem bsB_c {al al2 : Nat → Int32} (hA : ∀ k, k < 5360 → al2 k = al k) {p h wk : Nat} (hp : p < 8) (hh : h < 12) (hw : wk < 143) (sp : Int32) : bsB al2 p h wk sp = bsB al p h wk sp := by
  unfold bsB hayV
  rw [hA (20 + 27 * p) (by omega), hA (22 + 27 * p) (by omega), hA (3440 + 160 * h) (by omega), hA (3456 + 160 * h + wk) (by omega)]
theorem bl_c {al al2 : Nat → Int32} (h5 : OK al) {g : Nat} (hg : g < nat (al 3)) (hA : ∀ k, k < 5360 → al2 k = al k) (hB : ∀ j, j < 4 → al2 (5360 + 28 * g + j) = al (5360 + 28 * g + j)) (k inn sp : Int32) : bT al2 g k sp = bT al g k sp ∧ bE al2 g k sp = bE al g k sp ∧ bD al2 g k sp = bD al g k sp ∧ bF al2 g k inn sp = bF al g k inn sp ∧ bP al2 g k inn sp = bP al g k inn sp := by
  obtain ⟨pp, hh, od, epp, ehh, eod, fpp, fhh, fod, hpp, hhh, hod, hp8, hh12⟩ := pc_nums h5 hg
  have e0 : al2 (5360 + 28 * g) = al (5360 + 28 * g) := hB 0 (by omega)
  have e1 : al2 (5361 + 28 * g) = al (5361 + 28 * g) := by have := hB 1 (by omega); rw [show 5360 + 28 * g + 1 = 5361 + 28 * g by omega] at this; exact this
  have e2 : al2 (5362 + 28 * g) = al (5362 + 28 * g) := by have := hB 2 (by omega); rw [show 5360 + 28 * g + 2 = 5362 + 28 * g by omega] at this; exact this
  have e3 : al2 (5363 + 28 * g) = al (5363 + 28 * g) := by have := hB 3 (by omega); rw [show 5360 + 28 * g + 3 = 5363 + 28 * g by omega] at this; exact this
  have eX : bX al2 g k = bX al g k := by unfold bX; rw [e0, e3, lsF_c h5 hA]
  have eB : bB al2 g sp = bB al g sp := by
    unfold bB
    rw [e1, e2, e3, ← epp, ← ehh, ← eod]
    exact bsB_c hA hp8 hh12 (by omega) sp
  have hx : bX al g k = -1 ∨ ∃ l, l < nat (al 1) ∧ l < 10 ∧ bX al g k = Int32.ofNat l := by unfold bX; exact ls_cases h5 _ _ _
  have eN : ∀ topic n, n ≤ 24 → blN al2 pp (bX al g k) (bB al g sp) topic n = blN al pp (bX al g k) (bB al g sp) topic n := by
    intro topic n
    induction n with
    | zero => intro _; rw [blN_0, blN_0]
    | succ n ih =>
      intro hn
      rw [blN_s, blN_s, ih (by omega), blC, blC, hA (23 + 27 * pp + n) (by omega), termF_a h5 hA hx]
  have t1 : bT al2 g k sp = bT al g k sp := by unfold bT; rw [e1, eX, eB, ← epp]; exact eN 1 24 (by omega)
  have t2 : bE al2 g k sp = bE al g k sp := by unfold bE; rw [e1, eX, eB, ← epp]; exact eN 0 24 (by omega)
  have t3 : bD al2 g k sp = bD al g k sp := by unfold bD; rw [e3, eX, eB, termF_a h5 hA hx]
  have t4 : bF al2 g k inn sp = bF al g k inn sp := by unfold bF; rw [eX, eB, t2, t3, termF_a h5 hA hx, termF_a h5 hA hx]
  have t5 : bP al2 g k inn sp = bP al g k inn sp := by unfold bP; rw [eX, eB, t2, t4, termF_a h5 hA hx]
  exact ⟨t1, t2, t3, t4, t5⟩
