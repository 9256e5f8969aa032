-- sets of hands
def cd (b : Nat) : Nat → Nat
  | 0 => 0
  | n + 1 => cd b n + (b.testBit n).toNat
def smN (C : Nat → Nat) (b : Nat) : Nat → Nat
  | 0 => 0
  | n + 1 => smN C b n + (if b.testBit n = true then C n else 0)
def posB (C : Nat → Nat) (b : Nat) : Nat → Bool
  | 0 => true
  | n + 1 => posB C b n && (!b.testBit n || decide (0 < C n))
def okB (C : Nat → Nat) (N H b : Nat) : Bool := posB C b H && decide (N ≤ smN C b H)
theorem cd_pcf (b : Nat) : ∀ n, pcf n b = cd b n := by
  intro n
  induction n with
  | zero => rfl
  | succ n ih =>
    rw [pcf_add n 1 b, ih, cd]
    congr 1
    show (b / 2 ^ n) % 2 + 0 = _
    rw [Nat.testBit_eq_decide_div_mod_eq]
    rcases (show b / 2 ^ n % 2 = 0 ∨ b / 2 ^ n % 2 = 1 by omega) with h | h <;> simp [h]
theorem card_cd {b H : Nat} (hb : b < 2 ^ H) (hH : H ≤ 24) : pcf 24 b = cd b H := by
  rw [show 24 = H + (24 - H) by omega, pcf_add, Nat.div_eq_of_lt hb, pcf_0, cd_pcf]
  rfl
theorem cd_le (b : Nat) : ∀ n, cd b n ≤ n := by
  intro n
  rw [← cd_pcf]
  exact pcf_le n b
/-- the best hands' set against another -/
theorem ex_le {C : Nat → Nat} {t b θ H : Nat} (h1 : ∀ i, i < H → t.testBit i = true → θ ≤ C i) (h2 : ∀ i, i < H → t.testBit i = false → C i ≤ θ) : ∀ n, n ≤ H → smN C b n + θ * cd t n ≤ smN C t n + θ * cd b n := by
  intro n
  induction n with
  | zero => intro _; exact Nat.le_refl _
  | succ n ih =>
    intro hn
    have h := ih (by omega)
    rw [smN, smN, cd, cd, Nat.mul_add, Nat.mul_add]
    cases ht : t.testBit n <;> cases hb : b.testBit n
    · simp; omega
    · have := h2 n (by omega) ht
      simp; omega
    · have := h1 n (by omega) ht
      simp; omega
    · simp; omega
theorem ex_le2 {C : Nat → Nat} {t b θ H : Nat} (h1 : ∀ i, i < H → t.testBit i = true → θ ≤ C i) (h2 : ∀ i, i < H → t.testBit i = false → C i ≤ θ) (hc : cd b H ≤ cd t H) : smN C b H ≤ smN C t H := by
  have h := ex_le (b := b) h1 h2 H (Nat.le_refl _)
  have := Nat.mul_le_mul_left θ hc
  omega
theorem ex_all {C : Nat → Nat} {t b H : Nat} (h1 : ∀ i, i < H → t.testBit i = true) : ∀ n, n ≤ H → smN C b n ≤ smN C t n := by
  intro n
  induction n with
  | zero => intro _; exact Nat.le_refl _
  | succ n ih =>
    intro hn
    have h := ih (by omega)
    rw [smN, smN, h1 n (by omega)]
    cases hb : b.testBit n <;> simp <;> omega
theorem posB_i {C : Nat → Nat} {b : Nat} : ∀ n, posB C b n = true ↔ ∀ i, i < n → b.testBit i = true → 0 < C i := by
  intro n
  induction n with
  | zero => exact ⟨fun _ i h => by omega, fun _ => rfl⟩
  | succ n ih =>
    rw [posB, Bool.and_eq_true, ih]
    constructor
    · rintro ⟨h1, h2⟩ i hi hb
      by_cases e : i = n
      · subst e
        rw [hb] at h2
        simpa using h2
      · exact h1 i (by omega) hb
    · intro h
      refine ⟨fun i hi hb => h i (by omega) hb, ?_⟩
      cases hb : b.testBit n
      · rfl
      · have := h n (by omega) hb
        simpa using this
theorem sm_set {C : Nat → Nat} {t x : Nat} (hx : t.testBit x = false) : ∀ n, smN C (t ||| 2 ^ x) n = smN C t n + (if x < n then C x else 0) ∧ cd (t ||| 2 ^ x) n = cd t n + (if x < n then 1 else 0) := by
  intro n
  induction n with
  | zero => exact ⟨rfl, rfl⟩
  | succ n ih =>
    rw [smN, smN, cd, cd, ih.1, ih.2, Nat.testBit_or, Nat.testBit_two_pow]
    by_cases e : x = n
    · subst e
      rw [hx]
      simp
    · by_cases c : x < n
      · simp [e, c, show x < n + 1 by omega]; omega
      · simp [e, c, show ¬ x < n + 1 by omega]
/-- selection over sets: the reference's, the class's -/
def rfS (C : Nat → Nat) (N H : Nat) (sp : Nat → Int32) (b : Nat) (o : Option Nat) : Option Nat :=
  if okB C N H b = true then match o with
    | none => some b
    | some a => if cd b H < cd a H ∨ (cd b H = cd a H ∧ sp b < sp a) then some b else some a
  else o
def rfB (C : Nat → Nat) (N H : Nat) (sp : Nat → Int32) : Nat → Option Nat
  | 0 => none
  | n + 1 => rfS C N H sp (n + 1) (rfB C N H sp n)
def clS (C : Nat → Nat) (N H m : Nat) (sp : Nat → Int32) (b : Nat) (o : Option Nat) : Option Nat :=
  if cd b H = m ∧ okB C N H b = true then match o with
    | none => some b
    | some a => if sp b < sp a then some b else some a
  else o
def clB (C : Nat → Nat) (N H m : Nat) (sp : Nat → Int32) : Nat → Option Nat
  | 0 => none
  | n + 1 => clS C N H m sp (n + 1) (clB C N H m sp n)
theorem rf_p {C : Nat → Nat} {N H : Nat} {sp : Nat → Int32} : ∀ n a, rfB C N H sp n = some a → 1 ≤ a ∧ a ≤ n ∧ okB C N H a = true := by
  intro n
  induction n with
  | zero => intro a h; cases h
  | succ n ih =>
    intro a h
    rw [rfB] at h
    unfold rfS at h
    by_cases c : okB C N H (n + 1) = true
    · rw [if_pos c] at h
      cases hr : rfB C N H sp n with
      | none => rw [hr] at h; cases h; exact ⟨by omega, by omega, c⟩
      | some a0 =>
        rw [hr] at h
        have h0 := ih a0 hr
        by_cases d : cd (n + 1) H < cd a0 H ∨ (cd (n + 1) H = cd a0 H ∧ sp (n + 1) < sp a0)
        · simp only [d, if_true] at h; cases h; exact ⟨by omega, by omega, c⟩
        · simp only [d, if_false] at h; cases h; exact ⟨h0.1, by omega, h0.2.2⟩
    · rw [if_neg c] at h
      have h0 := ih a h
      exact ⟨h0.1, by omega, h0.2.2⟩
theorem cl_rf {C : Nat → Nat} {N H m : Nat} {sp : Nat → Int32} (hm : ∀ b, okB C N H b = true → m ≤ cd b H) : ∀ n, (rfB C N H sp n = none → clB C N H m sp n = none ∧ ∀ b, 1 ≤ b → b ≤ n → okB C N H b = false) ∧ ∀ a, rfB C N H sp n = some a → (cd a H = m → clB C N H m sp n = some a) ∧ (¬ cd a H = m → clB C N H m sp n = none ∧ ∀ b, 1 ≤ b → b ≤ n → okB C N H b = true → ¬ cd b H = m) := by
  intro n
  induction n with
  | zero => exact ⟨fun _ => ⟨rfl, fun b h1 h2 => by omega⟩, fun a h => by cases h⟩
  | succ n ih =>
    rw [rfB, clB]
    unfold rfS clS
    by_cases c : okB C N H (n + 1) = true
    · rw [if_pos c]
      have hmc := hm (n + 1) c
      cases hr : rfB C N H sp n with
      | none =>
        have h0 := ih.1 hr
        refine ⟨(by intro h; cases h), ?_⟩
        intro a ha
        cases ha
        refine ⟨fun e => ?_, fun e => ?_⟩
        · rw [if_pos ⟨e, c⟩, h0.1]
        · rw [if_neg (fun z => e z.1)]
          refine ⟨h0.1, fun b h1 h2 hb => ?_⟩
          by_cases q : b = n + 1
          · rw [q]; exact e
          · rw [h0.2 b h1 (by omega)] at hb; cases hb
      | some a0 =>
        have h0 := ih.2 a0 hr
        have hma := hm a0 (rf_p n a0 hr).2.2
        by_cases d : cd (n + 1) H < cd a0 H ∨ (cd (n + 1) H = cd a0 H ∧ sp (n + 1) < sp a0)
        · simp only [d, if_true]
          refine ⟨(by intro h; cases h), ?_⟩
          intro a ha
          cases ha
          refine ⟨fun e => ?_, fun e => ?_⟩
          · rw [if_pos ⟨e, c⟩]
            by_cases q : cd a0 H = m
            · rw [h0.1 q]
              have : sp (n + 1) < sp a0 := by
                rcases d with d | d
                · omega
                · exact d.2
              simp only [this, if_true]
            · rw [(h0.2 q).1]
          · rw [if_neg (fun z => e z.1)]
            have q : ¬ cd a0 H = m := by omega
            refine ⟨(h0.2 q).1, fun b h1 h2 hb => ?_⟩
            by_cases qb : b = n + 1
            · rw [qb]; exact e
            · exact (h0.2 q).2 b h1 (by omega) hb
        · simp only [d, if_false]
          refine ⟨(by intro h; cases h), ?_⟩
          intro a ha
          cases ha
          refine ⟨fun e => ?_, fun e => ?_⟩
          · by_cases q : cd (n + 1) H = m
            · rw [if_pos ⟨q, c⟩, h0.1 e]
              have : ¬ sp (n + 1) < sp a0 := fun z => d (Or.inr ⟨by omega, z⟩)
              simp only [this, if_false]
            · rw [if_neg (fun z => q z.1)]; exact h0.1 e
          · have q : ¬ cd (n + 1) H = m := by omega
            rw [if_neg (fun z => q z.1)]
            refine ⟨(h0.2 e).1, fun b h1 h2 hb => ?_⟩
            by_cases qb : b = n + 1
            · rw [qb]; exact q
            · exact (h0.2 e).2 b h1 (by omega) hb
    · rw [if_neg c, if_neg (fun z => c z.2)]
      have c' : okB C N H (n + 1) = false := by simpa using c
      refine ⟨fun h => ⟨(ih.1 h).1, fun b h1 h2 => ?_⟩, fun a ha => ⟨(ih.2 a ha).1, fun e => ⟨((ih.2 a ha).2 e).1, fun b h1 h2 hb => ?_⟩⟩⟩
      · by_cases q : b = n + 1
        · rw [q]; exact c'
        · exact (ih.1 h).2 b h1 (by omega)
      · by_cases q : b = n + 1
        · rw [q, c'] at hb; cases hb
        · exact ((ih.2 a ha).2 e).2 b h1 (by omega) hb
-- bits of numbers
theorem ge_bit {b i : Nat} (hi : i < 32) : ((Int32.ofNat b >>> Int32.ofNat i) &&& 1) = if b.testBit i = true then 1 else 0 := by
  rw [bit_at _ hi]
  have : (Int32.ofNat b).toBitVec.getLsbD i = b.testBit i := by
    show (BitVec.ofNat 32 b).getLsbD i = _
    rw [BitVec.getLsbD_ofNat]
    simp [hi]
  rw [this]
theorem and31 : ∀ i, i < 32 → Int32.ofNat i &&& 31 = Int32.ofNat i := by decide +kernel
theorem shl1 : ∀ i, i < 24 → (1 : Int32) <<< Int32.ofNat i = Int32.ofNat (2 ^ i) := by decide +kernel
theorem or_of (a b : Nat) : Int32.ofNat a ||| Int32.ofNat b = Int32.ofNat (a ||| b) := Int32.toBitVec_inj.mp (by
  rw [Int32.toBitVec_or]
  exact (BitVec.ofNat_or (w := 32) (x := a) (y := b)).symm)
theorem inSet_x {b i : Nat} (hi : i < 12) (S : St) : fX4_isInSet (Int32.ofNat b) (Int32.ofNat i) S = some (b.testBit i, S) := by
  apply Rn.eq
  unfold fX4_isInSet
  rw [and31 i (by omega), ge_bit (by omega)]
  cases hb : b.testBit i
  · exact w_bf (by decide) (w_r0 ⟨rfl, rfl⟩)
  · exact w_bt (by decide) (w_r1 ⟨rfl, rfl⟩)
-- spread
def spL (K : Nat → Nat) (l0 b : Nat) : Nat → Nat
  | 0 => l0
  | n + 1 => if b.testBit n = true then min (spL K l0 b n) (K n) else spL K l0 b n
def spM (K : Nat → Nat) (b : Nat) : Nat → Nat
  | 0 => 0
  | n + 1 => if b.testBit n = true then max (spM K b n) (K n) else spM K b n
theorem spL_m {K : Nat → Nat} {b : Nat} : ∀ n, spL K 200 b n = min 200 (spL K 1000 b n) := by
  intro n
  induction n with
  | zero => rfl
  | succ n ih =>
    rw [spL, spL, ih]
    cases b.testBit n
    · simp
    · simp <;> omega
theorem spL_b {K : Nat → Nat} {b l0 : Nat} : ∀ n, spL K l0 b n ≤ l0 := by
  intro n
  induction n with
  | zero => exact Nat.le_refl _
  | succ n ih =>
    rw [spL]
    cases b.testBit n
    · simpa using ih
    · simp; omega
theorem spL_e {K : Nat → Nat} {b l0 : Nat} : ∀ n i, i < n → b.testBit i = true → spL K l0 b n ≤ K i := by
  intro n
  induction n with
  | zero => intro i h; omega
  | succ n ih =>
    intro i hi hb
    rw [spL]
    by_cases e : i = n
    · subst e; rw [hb]; simp; omega
    · have := ih i (by omega) hb
      cases b.testBit n
      · simpa using this
      · simp; omega
theorem spM_b {K : Nat → Nat} {b H : Nat} (hK : ∀ i, i < H → K i ≤ 200) : ∀ n, n ≤ H → spM K b n ≤ 200 := by
  intro n
  induction n with
  | zero => intro _; rw [spM]; omega
  | succ n ih =>
    intro hn
    have h1 := ih (by omega)
    have h2 := hK n (by omega)
    rw [spM]
    cases b.testBit n
    · simpa using h1
    · simp; omega
theorem cd_mem {b : Nat} : ∀ n, 0 < cd b n → ∃ i, i < n ∧ b.testBit i = true := by
  intro n
  induction n with
  | zero => intro h; rw [cd] at h; omega
  | succ n ih =>
    intro h
    rw [cd] at h
    cases hb : b.testBit n
    · rw [hb] at h
      obtain ⟨i, hi, hi2⟩ := ih (by simpa using h)
      exact ⟨i, by omega, hi2⟩
    · exact ⟨n, by omega, hb⟩
theorem spL_eq {K : Nat → Nat} {b H : Nat} (hK : ∀ i, i < H → K i ≤ 200) (hb : 0 < b) (hb2 : b < 2 ^ H) : spL K 200 b H = spL K 1000 b H := by
  have h1 := pcf_pos H b hb hb2
  rw [cd_pcf] at h1
  obtain ⟨i, hi, hbi⟩ := cd_mem H h1
  have h2 := spL_e (K := K) (l0 := 1000) H i hi hbi
  have h3 := hK i hi
  rw [spL_m]
  omega
def spI (K : Nat → Nat) (H b : Nat) : Int32 := Int32.ofNat (spM K b H) - Int32.ofNat (spL K 1000 b H)
