-- tokens of a text: bytes b, so many n
def rnF (P : Nat → Bool) (n : Nat) : Nat → Nat → Nat
  | 0, p => p
  | f + 1, p => if p < n ∧ P p = true then rnF P n f (p + 1) else p
def rn (P : Nat → Bool) (n p : Nat) : Nat := rnF P n (n - p) p
theorem rn_s {P : Nat → Bool} {n p : Nat} (h1 : p < n) (h2 : P p = true) : rn P n p = rn P n (p + 1) := by
  unfold rn
  rw [show n - p = (n - (p + 1)) + 1 by omega, rnF, if_pos ⟨h1, h2⟩]
theorem rn_e {P : Nat → Bool} {n p : Nat} (h : ¬ (p < n ∧ P p = true)) : rn P n p = p := by
  unfold rn
  cases hf : n - p with
  | zero => rfl
  | succ f => rw [rnF, if_neg h]
theorem rn_b {P : Nat → Bool} {n : Nat} : ∀ k p, n - p = k → p ≤ n → p ≤ rn P n p ∧ rn P n p ≤ n ∧ ¬ (rn P n p < n ∧ P (rn P n p) = true) ∧ ∀ i, p ≤ i → i < rn P n p → P i = true := by
  intro k
  induction k with
  | zero =>
    intro p hk hp
    rw [rn_e (fun h => by omega)]
    exact ⟨Nat.le_refl _, hp, fun h => by omega, fun i h1 h2 => by omega⟩
  | succ k ih =>
    intro p hk hp
    by_cases c : p < n ∧ P p = true
    · rw [rn_s c.1 c.2]
      obtain ⟨h1, h2, h3, h4⟩ := ih (p + 1) (by omega) (by omega)
      refine ⟨by omega, h2, h3, fun i hi1 hi2 => ?_⟩
      by_cases e : i = p
      · rw [e]; exact c.2
      · exact h4 i (by omega) hi2
    · rw [rn_e c]
      exact ⟨Nat.le_refl _, hp, c, fun i h1 h2 => by omega⟩
def spB (x : Nat) : Bool := decide (x = 32 ∨ x = 10)
def leB (x : Nat) : Bool := decide (97 ≤ x ∧ x ≤ 122)
def diB (x : Nat) : Bool := decide (48 ≤ x ∧ x ≤ 57)
def sgB (x : Nat) : Bool := decide (x = 91 ∨ x = 93 ∨ x = 58 ∨ x = 59 ∨ x = 60 ∨ x = 62 ∨ x = 61)
def nvF (b : Nat → Nat) (q : Nat) : Nat → Nat
  | 0 => 0
  | k + 1 => 10 * nvF b q k + (b (q + k) - 48)
def wvF (b : Nat → Nat) (q : Nat) : Nat → Nat
  | 0 => 0
  | k + 1 => 32 * wvF b q k + (b (q + k) - 96)
def tP (b : Nat → Nat) (n c : Nat) : Nat := rn (fun i => spB (b i)) n c
def tN (b : Nat → Nat) (n c : Nat) : Nat := if n ≤ tP b n c then tP b n c else if leB (b (tP b n c)) = true then rn (fun i => leB (b i)) n (tP b n c) else if diB (b (tP b n c)) = true then rn (fun i => diB (b i)) n (tP b n c) else tP b n c + 1
def tK (b : Nat → Nat) (n c : Nat) : Nat := if n ≤ tP b n c then 0 else if leB (b (tP b n c)) = true then 1 else if diB (b (tP b n c)) = true then (if tN b n c - tP b n c ≤ 4 then 2 else 4) else if sgB (b (tP b n c)) = true then 3 else 4
def tV (b : Nat → Nat) (n c : Nat) : Nat := if n ≤ tP b n c then 0 else if leB (b (tP b n c)) = true then 0 else if diB (b (tP b n c)) = true then nvF b (tP b n c) (min 4 (tN b n c - tP b n c)) else 0
theorem tP_b {b : Nat → Nat} {n c : Nat} (hc : c ≤ n) : c ≤ tP b n c ∧ tP b n c ≤ n := by
  have := rn_b (P := fun i => spB (b i)) (n - c) c rfl hc
  exact ⟨this.1, this.2.1⟩
theorem tN_b {b : Nat → Nat} {n c : Nat} (hc : c ≤ n) : tP b n c ≤ tN b n c ∧ tN b n c ≤ n ∧ (tP b n c < n → tP b n c < tN b n c) := by
  have h := tP_b (b := b) hc
  unfold tN
  by_cases e : n ≤ tP b n c
  · rw [if_pos e]; omega
  · rw [if_neg e]
    by_cases l : leB (b (tP b n c)) = true
    · rw [if_pos l, rn_s (P := fun i => leB (b i)) (by omega) l]
      have := rn_b (P := fun i => leB (b i)) (n := n) _ (tP b n c + 1) rfl (by omega)
      omega
    · rw [if_neg l]
      by_cases d : diB (b (tP b n c)) = true
      · rw [if_pos d, rn_s (P := fun i => diB (b i)) (by omega) d]
        have := rn_b (P := fun i => diB (b i)) (n := n) _ (tP b n c + 1) rfl (by omega)
        omega
      · rw [if_neg d]; omega
theorem nvF_b {b : Nat → Nat} {q : Nat} : ∀ k, k ≤ 4 → (∀ i, i < k → diB (b (q + i)) = true) → nvF b q k < 10 ^ k := by
  intro k
  induction k with
  | zero => intro _ _; exact Nat.one_pos
  | succ k ih =>
    intro hk h
    have h1 := ih (by omega) (fun i hi => h i (by omega))
    have h2 := of_decide_eq_true (h k (by omega))
    rw [nvF, Nat.pow_succ]
    omega
theorem tV_b {b : Nat → Nat} {n c : Nat} (hc : c ≤ n) : tV b n c ≤ 9999 := by
  unfold tV
  by_cases e : n ≤ tP b n c
  · rw [if_pos e]; omega
  · rw [if_neg e]
    by_cases l : leB (b (tP b n c)) = true
    · rw [if_pos l]; omega
    · rw [if_neg l]
      by_cases d : diB (b (tP b n c)) = true
      · rw [if_pos d]
        have hN : tN b n c = rn (fun i => diB (b i)) n (tP b n c) := by unfold tN; rw [if_neg e, if_neg l, if_pos d]
        have hb := rn_b (P := fun i => diB (b i)) (n := n) _ (tP b n c) rfl (by omega)
        rw [← hN] at hb
        have hk : min 4 (tN b n c - tP b n c) ≤ 4 := by omega
        have := nvF_b (b := b) (q := tP b n c) (min 4 (tN b n c - tP b n c)) hk (fun i hi => hb.2.2.2 _ (by omega) (by omega))
        have hp : 10 ^ min 4 (tN b n c - tP b n c) ≤ 10 ^ 4 := Nat.pow_le_pow_right (by omega) hk
        omega
      · rw [if_neg d]; omega
-- bytes as the class has them
def cbI (x : Nat) : Int32 := (Int32.ofNat x).toInt8.toInt32
theorem cb_all : ∀ x, x < 256 → ((¬ cbI x < 97 ∧ ¬ 122 < cbI x) ↔ leB x = true) ∧ ((¬ cbI x < 48 ∧ ¬ 57 < cbI x) ↔ diB x = true) ∧ ((cbI x = 32 ∨ cbI x = 10) ↔ spB x = true) ∧ (x < 128 → cbI x = Int32.ofNat x) ∧ (128 ≤ x → cbI x < 0) := by decide +kernel
theorem cb_sg : ∀ x, x < 256 → ((cbI x = 91 ∨ cbI x = 93 ∨ cbI x = 58 ∨ cbI x = 59 ∨ cbI x = 60 ∨ cbI x = 62 ∨ cbI x = 61) ↔ sgB x = true) := by decide +kernel
theorem of_all : ∀ x, x < 256 → ((¬ Int32.ofNat x < 97 ∧ ¬ 122 < Int32.ofNat x) ↔ leB x = true) ∧ ((¬ Int32.ofNat x < 48 ∧ ¬ 57 < Int32.ofNat x) ↔ diB x = true) ∧ ((Int32.ofNat x = 32 ∨ Int32.ofNat x = 10) ↔ spB x = true) ∧ ((Int32.ofNat x = 91 ∨ Int32.ofNat x = 93 ∨ Int32.ofNat x = 58 ∨ Int32.ofNat x = 59 ∨ Int32.ofNat x = 60 ∨ Int32.ofNat x = 62 ∨ Int32.ofNat x = 61) ↔ sgB x = true) := by decide +kernel
theorem isLe_x (x : Int32) (S : St) : fX8_isLetter x S = some (decide (¬ x < 97 ∧ ¬ 122 < x), S) := by
  apply Rn.eq
  unfold fX8_isLetter
  refine w_br (fun c => w_r0 ⟨(decide_eq_false (fun z => z.1 c)).symm, rfl⟩) (fun c => w_br (fun d => w_r0 ⟨(decide_eq_false (fun z => z.2 d)).symm, rfl⟩) (fun d => w_r1 ⟨(decide_eq_true ⟨c, d⟩).symm, rfl⟩))
theorem isDi_x (x : Int32) (S : St) : fX8_isDigit x S = some (decide (¬ x < 48 ∧ ¬ 57 < x), S) := by
  apply Rn.eq
  unfold fX8_isDigit
  refine w_br (fun c => w_r0 ⟨(decide_eq_false (fun z => z.1 c)).symm, rfl⟩) (fun c => w_br (fun d => w_r0 ⟨(decide_eq_false (fun z => z.2 d)).symm, rfl⟩) (fun d => w_r1 ⟨(decide_eq_true ⟨c, d⟩).symm, rfl⟩))
theorem isSg_x (x : Int32) (S : St) : fX8_isSignByte x S = some (decide (x = 91 ∨ x = 93 ∨ x = 58 ∨ x = 59 ∨ x = 60 ∨ x = 62 ∨ x = 61), S) := by
  apply Rn.eq
  unfold fX8_isSignByte
  refine w_br (fun c => w_r1 ⟨(decide_eq_true (Or.inl c)).symm, rfl⟩) (fun c1 => w_br (fun c => w_r1 ⟨by rw [decide_eq_true (by simp [c])], rfl⟩) (fun c2 => w_br (fun c => w_r1 ⟨by rw [decide_eq_true (by simp [c])], rfl⟩) (fun c3 => w_br (fun c => w_r1 ⟨by rw [decide_eq_true (by simp [c])], rfl⟩) (fun c4 => w_br (fun c => w_r1 ⟨by rw [decide_eq_true (by simp [c])], rfl⟩) (fun c5 => w_br (fun c => w_r1 ⟨by rw [decide_eq_true (by simp [c])], rfl⟩) (fun c6 => w_br (fun c => w_r1 ⟨by rw [decide_eq_true (by simp [c])], rfl⟩) (fun c7 => w_r0 ⟨by rw [decide_eq_false (by simp [c1, c2, c3, c4, c5, c6, c7])], rfl⟩)))))))
theorem isLe_m (x : Int32) (S : St) : fX12_isLetter x S = some (decide (¬ x < 97 ∧ ¬ 122 < x), S) := isLe_x x S
theorem isDi_m (x : Int32) (S : St) : fX12_isDigit x S = some (decide (¬ x < 48 ∧ ¬ 57 < x), S) := isDi_x x S
theorem isSg_m (x : Int32) (S : St) : fX12_isSignByte x S = some (decide (x = 91 ∨ x = 93 ∨ x = 58 ∨ x = 59 ∨ x = 60 ∨ x = 62 ∨ x = 61), S) := isSg_x x S
/-- a Reader at r over the text -/
def RD (S : St) (r : Nat) (b : Nat → Nat) (n : Nat) : Prop := SH S ∧ (r = 11 ∨ r = 16) ∧ sR S r 5 = some 2 ∧ sI S r 6 = Int32.ofNat n ∧ n ≤ 400 ∧ (∀ i, b i < 256) ∧ ∀ i, i < 400 → sI S 2 i = cbI (b i)
theorem RD.k {S : St} {r n : Nat} {b : Nat → Nat} (h : RD S r b n) : sK S r = 9 := by
  rcases h.2.1 with e | e
  · rw [e]; exact SH_K11 h.1
  · rw [e]; exact SH_K16 h.1
theorem RD.st {S : St} {r n j : Nat} {b : Nat → Nat} (h : RD S r b n) (v : Int32) (hj : j ≠ 6) : RD (stI S r j v) r b n := by
  obtain ⟨h1, h2, h3, h4, h5, h6, h7⟩ := h
  exact ⟨h1, h2, h3, by rw [st_ne (Or.inr (fun e => hj e.symm))]; exact h4, h5, h6, fun i hi => by rw [st_ne (Or.inl (by omega))]; exact h7 i hi⟩
theorem byte_x {S : St} {r n p : Nat} {b : Nat → Nat} (h : RD S r b n) (hp : p ≤ 1000) : fX8_byteAt r (Int32.ofNat p) S = some (if p < n then cbI (b p) else -1, S) := by
  obtain ⟨h1, h2, h3, h4, h5, h6, h7⟩ := id h
  apply Rn.eq
  unfold fX8_byteAt
  refine w_gR h.k h3 (w_onS (w_bf (nonneg_lt (by omega)) (w_gR h.k h3 (w_nn (w_aL (SH_K2 h1) (SH_L2 h1) (w_br (fun c => w_rt ⟨?_, rfl⟩) (fun c => w_gIe h.k h4 (w_br (fun d => w_rt ⟨?_, rfl⟩) (fun d => ?_)))))))))
  · rw [le_ofNat (by omega) (by omega)] at c
    rw [if_neg (by omega)]
  · rw [le_ofNat (by omega) (by omega)] at d
    rw [if_neg (by omega)]
  · rw [le_ofNat (by omega) (by omega)] at c d
    exact w_gR h.k h3 (w_nn (w_aIe (n := p) (SH_K2 h1) rfl (SH_L2 h1) (by omega) (h7 p (by omega)) (w_rt ⟨by rw [if_pos (by omega)], rfl⟩)))
/-- the Reader's fields at the token from c on -/
def RT (S : St) (r : Nat) (b : Nat → Nat) (n c : Nat) : Prop := sI S r 0 = Int32.ofNat (tK b n c) ∧ sI S r 1 = Int32.ofNat (tV b n c) ∧ sI S r 2 = Int32.ofNat (tP b n c) ∧ sI S r 7 = Int32.ofNat (tN b n c)
