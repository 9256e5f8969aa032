/-- the shape of a World at w, of a Hand, a Piece, a Pattern, a TermList at q -/
def WSh (S : St) (w : Nat) : Prop := sK S w = 11 ∧ sK S (w + 1) = 14 ∧ sK S (w + 2) = 19 ∧ sK S (w + 3) = 21 ∧ sK S (w + 4) = 18 ∧ sK S (w + 5) = 20 ∧ sK S (w + 6) = 15 ∧ sK S (w + 7) = 15 ∧ sL S (w + 1) = 400 ∧ sL S (w + 2) = 8 ∧ sL S (w + 3) = 10 ∧ sL S (w + 4) = 12 ∧ sL S (w + 5) = 60 ∧ sL S (w + 6) = 6 ∧ sL S (w + 7) = 3 ∧ sR S w 0 = some (w + 1) ∧ sR S w 5 = some (w + 2) ∧ sR S w 7 = some (w + 3) ∧ sR S w 9 = some (w + 4) ∧ sR S w 11 = some (w + 5) ∧ sR S w 13 = some (w + 6) ∧ sR S w 14 = some (w + 7)
def HSh (S : St) (q : Nat) : Prop := sK S q = 3 ∧ sK S (q + 1) = 15 ∧ sK S (q + 2) = 15 ∧ sL S (q + 1) = 6 ∧ sL S (q + 2) = 5 ∧ sR S q 5 = some (q + 1) ∧ sR S q 6 = some (q + 2) ∧ 46 ≤ q ∧ q + 3 ≤ sn S
def GSh (S : St) (q : Nat) : Prop := sK S q = 8 ∧ sK S (q + 1) = 15 ∧ sK S (q + 2) = 15 ∧ sK S (q + 3) = 15 ∧ sL S (q + 1) = 6 ∧ sL S (q + 2) = 6 ∧ sL S (q + 3) = 6 ∧ sR S q 9 = some (q + 1) ∧ sR S q 10 = some (q + 2) ∧ sR S q 11 = some (q + 3) ∧ 46 ≤ q ∧ q + 4 ≤ sn S
def TSh (S : St) (q : Nat) : Prop := sK S q = 6 ∧ sK S (q + 1) = 15 ∧ sL S (q + 1) = 24 ∧ sR S q 3 = some (q + 1) ∧ 46 ≤ q ∧ q + 2 ≤ sn S
def LSh (S : St) (q : Nat) : Prop := sK S q = 10 ∧ sK S (q + 1) = 15 ∧ sK S (q + 2) = 15 ∧ sK S (q + 3) = 15 ∧ sK S (q + 4) = 15 ∧ sL S (q + 2) = sL S (q + 1) ∧ sL S (q + 3) = sL S (q + 1) ∧ sL S (q + 4) = 16 * sL S (q + 1) ∧ sL S (q + 1) ≤ 16 ∧ sR S q 4 = some (q + 1) ∧ sR S q 5 = some (q + 2) ∧ sR S q 6 = some (q + 3) ∧ sR S q 7 = some (q + 4) ∧ 46 ≤ q ∧ q + 5 ≤ sn S
/-- an object and its arrays right behind it -/
def blk (S : St) (q n : Nat) : Prop := sK S q ≤ 13 ∧ ∀ j, 0 < j → j < n → 14 ≤ sK S (q + j)
theorem blk_ne {S : St} {q n q' n' : Nat} (h : blk S q n) (h' : blk S q' n') (hne : q ≠ q') {j j' : Nat} (hj : j < n) (hj' : j' < n') : q + j ≠ q' + j' := by
  intro e
  rcases Nat.lt_trichotomy j j' with hl | hl | hl
  · have hq : q = q' + (j' - j) := by omega
    have h1 := h.1
    have h2 := h'.2 (j' - j) (by omega) (by omega)
    rw [← hq] at h2
    omega
  · omega
  · have hq : q' = q + (j - j') := by omega
    have h1 := h'.1
    have h2 := h.2 (j - j') (by omega) (by omega)
    rw [← hq] at h2
    omega
theorem WSh.blk {S : St} {w : Nat} (h : WSh S w) : blk S w 8 := by
  obtain ⟨h0, h1, h2, h3, h4, h5, h6, h7, -⟩ := h
  refine ⟨by omega, fun j hj hj2 => ?_⟩
  rcases (show j = 1 ∨ j = 2 ∨ j = 3 ∨ j = 4 ∨ j = 5 ∨ j = 6 ∨ j = 7 by omega) with rfl | rfl | rfl | rfl | rfl | rfl | rfl <;> omega
theorem HSh.blk {S : St} {q : Nat} (h : HSh S q) : blk S q 3 := by
  obtain ⟨h0, h1, h2, -⟩ := h
  refine ⟨by omega, fun j hj hj2 => ?_⟩
  rcases (show j = 1 ∨ j = 2 by omega) with rfl | rfl <;> omega
theorem GSh.blk {S : St} {q : Nat} (h : GSh S q) : blk S q 4 := by
  obtain ⟨h0, h1, h2, h3, -⟩ := h
  refine ⟨by omega, fun j hj hj2 => ?_⟩
  rcases (show j = 1 ∨ j = 2 ∨ j = 3 by omega) with rfl | rfl | rfl <;> omega
theorem TSh.blk {S : St} {q : Nat} (h : TSh S q) : blk S q 2 := by
  obtain ⟨h0, h1, -⟩ := h
  refine ⟨by omega, fun j hj hj2 => ?_⟩
  rcases (show j = 1 by omega) with rfl; omega
theorem LSh.blk {S : St} {q : Nat} (h : LSh S q) : blk S q 5 := by
  obtain ⟨h0, h1, h2, h3, h4, -⟩ := h
  refine ⟨by omega, fun j hj hj2 => ?_⟩
  rcases (show j = 1 ∨ j = 2 ∨ j = 3 ∨ j = 4 by omega) with rfl | rfl | rfl | rfl <;> omega
/-- the worlds: the class's own, and its images -/
def WL (S : St) (w : Nat) : Prop := w = 1 ∨ ∃ k, k < 3 ∧ sR S 9 k = some w
/-- the class's objects: their shapes, and whose they are -/
def CS (S : St) : Prop :=
  (∀ k w, k < 3 → sR S 9 k = some w → 46 ≤ w ∧ w + 8 ≤ sn S) ∧
  (∀ k k' w, k < 3 → k' < 3 → sR S 9 k = some w → sR S 9 k' = some w → k = k') ∧
  (∀ w, WL S w → WSh S w) ∧
  (∀ w i q, WL S w → i < 8 → sR S (w + 2) i = some q → TSh S q) ∧
  (∀ w i q, WL S w → i < 10 → sR S (w + 3) i = some q → LSh S q) ∧
  (∀ w i q, WL S w → i < 12 → sR S (w + 4) i = some q → HSh S q) ∧
  (∀ w i q, WL S w → i < 60 → sR S (w + 5) i = some q → GSh S q) ∧
  (∀ w w' i i' q, WL S w → WL S w' → i < 12 → i' < 12 → sR S (w + 4) i = some q → sR S (w' + 4) i' = some q → w = w' ∧ i = i') ∧
  (∀ w w' i i' q, WL S w → WL S w' → i < 60 → i' < 60 → sR S (w + 5) i = some q → sR S (w' + 5) i' = some q → w = w' ∧ i = i')
def nat (x : Int32) : Nat := x.toNatClampNeg
/-- what a row of the reference's says of a Pattern, a TermList, a Hand, a Piece -/
def PRel (al : Nat → Int32) (p q : Nat) (S : St) : Prop := sI S q 0 = al (20 + 27 * p) ∧ sI S q 1 = al (21 + 27 * p) ∧ sI S q 2 = al (22 + 27 * p) ∧ ∀ k, k < 24 → sI S (q + 1) k = al (23 + 27 * p + k)
def kindOf (x : Int32) : Int32 := if x = 7 then 10 else x + 11
def signOf (x : Int32) : Int32 := if x = 0 then 60 else if x = 1 then 62 else 61
def LRel (al : Nat → Int32) (l q : Nat) (S : St) : Prop := sI S q 0 = al (240 + 320 * l) ∧ sI S q 1 = al (241 + 320 * l) ∧ sI S q 2 = al (242 + 320 * l) ∧ sI S q 3 = al (243 + 320 * l) ∧ sL S (q + 1) = nat (al (243 + 320 * l)) ∧ 0 ≤ al (243 + 320 * l) ∧
  ∀ k, k < sL S (q + 1) → sI S (q + 1) k = al (244 + 320 * l + 19 * k) ∧ sI S (q + 2) k = al (262 + 320 * l + 19 * k) ∧ sI S (q + 3) k = al (245 + 320 * l + 19 * k) ∧ 0 ≤ sI S (q + 3) k ∧ sI S (q + 3) k ≤ 4 ∧
    ∀ t, t < nat (sI S (q + 3) k) → sI S (q + 4) (16 * k + 4 * t) = al (246 + 320 * l + 19 * k + 4 * t) ∧ kindOf (sI S (q + 4) (16 * k + 4 * t + 1)) = al (247 + 320 * l + 19 * k + 4 * t) ∧ 0 ≤ sI S (q + 4) (16 * k + 4 * t + 1) ∧ sI S (q + 4) (16 * k + 4 * t + 1) ≤ 7 ∧ signOf (sI S (q + 4) (16 * k + 4 * t + 2)) = al (248 + 320 * l + 19 * k + 4 * t) ∧ sI S (q + 4) (16 * k + 4 * t + 3) = al (249 + 320 * l + 19 * k + 4 * t)
def HRel (al : Nat → Int32) (h q : Nat) (S : St) : Prop := (∀ j, j < 5 → sI S q j = al (3440 + 160 * h + j)) ∧ (∀ s, s < 6 → sI S (q + 1) s = al (3445 + 160 * h + s)) ∧ ∀ wk, wk < 143 → (sI S (q + 2) (wk / 32) >>> Int32.ofNat (wk % 32)) &&& 1 = al (3456 + 160 * h + wk)
def GRel (al : Nat → Int32) (p q : Nat) (S : St) : Prop := (∀ j, j < 9 → sI S q j = al (5360 + 28 * p + j)) ∧ (∀ j, j < 6 → sI S (q + 1) j + 1 = al (5370 + 28 * p + j)) ∧ (∀ s, s < 6 → sI S (q + 2) s = al (5376 + 28 * p + 2 * s)) ∧ ∀ s, s < 6 → sI S (q + 3) s = al (5377 + 28 * p + 2 * s)
/-- the World at w holds what the reference's array holds -/
def CW (al : Nat → Int32) (w : Nat) (S : St) : Prop :=
  (sI S w 1 = al 5 ∧ sI S w 2 = al 6 ∧ sI S w 3 = al 7 ∧ sI S w 4 = al 4 ∧ sI S w 6 = al 0 ∧ sI S w 8 = al 1 ∧ sI S w 10 = al 2 ∧ sI S w 12 = al 3) ∧
  (∀ i, i < 400 → sI S (w + 1) i = (al (7040 + i)).toInt8.toInt32) ∧
  (∀ s, s < 6 → sI S (w + 6) s = al (14 + s)) ∧
  (∀ c, c < 3 → sI S (w + 7) c = al (10 + c)) ∧
  (∀ i, i < nat (al 0) → ∃ q, sR S (w + 2) i = some q ∧ PRel al i q S) ∧
  (∀ i, i < nat (al 1) → ∃ q, sR S (w + 3) i = some q ∧ LRel al i q S) ∧
  (∀ i, i < nat (al 2) → ∃ q, sR S (w + 4) i = some q ∧ HRel al i q S) ∧
  (∀ i, i < nat (al 3) → ∃ q, sR S (w + 5) i = some q ∧ GRel al i q S)
/-- what each number of the reference's may be -/
def OKc (al : Nat → Int32) : Prop := (0 ≤ al 0 ∧ al 0 ≤ 8) ∧ (0 ≤ al 1 ∧ al 1 ≤ 10) ∧ (0 ≤ al 2 ∧ al 2 ≤ 12) ∧ (0 ≤ al 3 ∧ al 3 ≤ 60) ∧ (0 ≤ al 4 ∧ al 4 ≤ 999) ∧ (0 ≤ al 5 ∧ al 5 ≤ 400)
def OKh (al : Nat → Int32) : Prop := ∀ h, h < nat (al 2) → (1 ≤ al (3440 + 160 * h) ∧ al (3440 + 160 * h) ≤ 200) ∧ (1 ≤ al (3441 + 160 * h) ∧ al (3441 + 160 * h) ≤ 12) ∧ (0 ≤ al (3442 + 160 * h) ∧ al (3442 + 160 * h) ≤ 2) ∧ (∀ s, s < 6 → 0 ≤ al (3445 + 160 * h + s) ∧ al (3445 + 160 * h + s) ≤ 100) ∧ ∀ wk, wk < 143 → al (3456 + 160 * h + wk) = 0 ∨ al (3456 + 160 * h + wk) = 1
def OKp (al : Nat → Int32) : Prop := ∀ p, p < nat (al 0) → (0 ≤ al (20 + 27 * p) ∧ al (20 + 27 * p) ≤ 3) ∧ (0 ≤ al (21 + 27 * p) ∧ al (21 + 27 * p) ≤ 16777215) ∧ (0 ≤ al (22 + 27 * p) ∧ al (22 + 27 * p) ≤ 1000000) ∧ (∀ k, k < 24 → 0 ≤ al (23 + 27 * p + k) ∧ al (23 + 27 * p + k) ≤ 1000000)
def OKg (al : Nat → Int32) : Prop := ∀ p, p < nat (al 3) → (0 ≤ al (5360 + 28 * p) ∧ al (5360 + 28 * p) ≤ 2) ∧ (0 ≤ al (5361 + 28 * p) ∧ al (5361 + 28 * p) < al 0) ∧ (0 ≤ al (5362 + 28 * p) ∧ al (5362 + 28 * p) < al 2) ∧ (0 ≤ al (5363 + 28 * p) ∧ al (5363 + 28 * p) ≤ 999) ∧ (-1 ≤ al (5364 + 28 * p) ∧ al (5364 + 28 * p) ≤ 999) ∧ (0 ≤ al (5365 + 28 * p) ∧ al (5365 + 28 * p) ≤ 99 ∧ (al (5364 + 28 * p) = -1 → al (5365 + 28 * p) = 0)) ∧ (∀ j, j < 6 → 0 ≤ al (5370 + 28 * p + j) ∧ al (5370 + 28 * p + j) ≤ 10000) ∧ ∀ s, s < 6 → (0 ≤ al (5376 + 28 * p + 2 * s) ∧ al (5376 + 28 * p + 2 * s) ≤ 999) ∧ 0 ≤ al (5377 + 28 * p + 2 * s) ∧ al (5377 + 28 * p + 2 * s) ≤ 999
def OKl (al : Nat → Int32) : Prop := ∀ l, l < nat (al 1) → (0 ≤ al (240 + 320 * l) ∧ al (240 + 320 * l) ≤ 2) ∧ (0 ≤ al (241 + 320 * l) ∧ al (241 + 320 * l) ≤ 142) ∧ (0 ≤ al (242 + 320 * l) ∧ al (242 + 320 * l) ≤ 999) ∧ (0 ≤ al (243 + 320 * l) ∧ al (243 + 320 * l) ≤ 16) ∧ ∀ k, k < nat (al (243 + 320 * l)) → (0 ≤ al (245 + 320 * l + 19 * k) ∧ al (245 + 320 * l + 19 * k) ≤ 4) ∧ (0 ≤ al (262 + 320 * l + 19 * k) ∧ al (262 + 320 * l + 19 * k) ≤ 9999) ∧ (al (244 + 320 * l + 19 * k) = 5 → al (262 + 320 * l + 19 * k) ≤ 100)
def OKt (al : Nat → Int32) : Prop := ∀ s, s < 6 → 1 ≤ al (14 + s) ∧ al (14 + s) ≤ 9999
def OKb (al : Nat → Int32) : Prop := ∀ i, i < 400 → 0 ≤ al (7040 + i) ∧ al (7040 + i) ≤ 255
def OK (al : Nat → Int32) : Prop := OKc al ∧ OKh al ∧ OKp al ∧ OKg al ∧ OKl al ∧ OKt al ∧ OKb al
/-- the reference holds al, and its images -/
def RM (al : Nat → Int32) (im : Nat → Option (Nat → Int32)) (S : St) : Prop :=
  (∀ i, i < 7440 → sI S 33 i = al i) ∧ ∀ k, k < 3 → (im k = none ∧ sI S 34 k = 0) ∨ ∃ al', im k = some al' ∧ sI S 34 k = 1 ∧ ∀ i, i < 7440 → sI S 33 (7440 * (k + 1) + i) = al' i
/-- the class holds al, and its images -/
def RC (al : Nat → Int32) (im : Nat → Option (Nat → Int32)) (S : St) : Prop :=
  CW al 1 S ∧ ∀ k, k < 3 → (im k = none ∧ sR S 9 k = none) ∨ ∃ al' w, im k = some al' ∧ sR S 9 k = some w ∧ CW al' w S
def INV (S : St) : Prop := ∃ (al : Nat → Int32) (im : Nat → Option (Nat → Int32)), SH S ∧ CS S ∧ RC al im S ∧ RM al im S ∧ OK al ∧ ∀ k al', k < 3 → im k = some al' → OK al'
