-- how many bits
def pcf : Nat → Nat → Nat
  | 0, _ => 0
  | f + 1, n => n % 2 + pcf f (n / 2)
theorem pcf_s (f n : Nat) : pcf (f + 1) n = n % 2 + pcf f (n / 2) := rfl
theorem pcf_0 : ∀ f, pcf f 0 = 0 := by
  intro f
  induction f with
  | zero => rfl
  | succ f ih => rw [pcf_s, Nat.zero_div, ih]
theorem pcf_le : ∀ f n, pcf f n ≤ f := by
  intro f
  induction f with
  | zero => intro n; exact Nat.le_refl _
  | succ f ih => intro n; rw [pcf_s]; have := ih (n / 2); omega
theorem pcf_pos : ∀ f n, 0 < n → n < 2 ^ f → 0 < pcf f n := by
  intro f
  induction f with
  | zero => intro n h1 h2; simp at h2; omega
  | succ f ih =>
    intro n h1 h2
    rw [pcf_s]
    by_cases c : n % 2 = 0
    · have := ih (n / 2) (by omega) (by rw [Nat.pow_succ] at h2; omega)
      omega
    · omega
theorem pcf_add : ∀ f g n, pcf (f + g) n = pcf f n + pcf g (n / 2 ^ f) := by
  intro f
  induction f with
  | zero => intro g n; simp [pcf]
  | succ f ih =>
    intro g n
    rw [show f + 1 + g = (f + g) + 1 by omega, pcf_s, pcf_s, ih g (n / 2), Nat.div_div_eq_div_mul, Nat.pow_succ, Nat.mul_comm 2 (2 ^ f)]
    omega
theorem kern : ∀ f n, 0 < n → n < 2 ^ f → pcf f (n &&& (n - 1)) + 1 = pcf f n := by
  intro f
  induction f with
  | zero => intro n h1 h2; simp at h2; omega
  | succ f ih =>
    intro n h1 h2
    rw [Nat.pow_succ] at h2
    have hm := Nat.and_mod_two_eq_one (a := n) (b := n - 1)
    rw [pcf_s, pcf_s, Nat.and_div_two]
    by_cases c : n % 2 = 0
    · have e : (n - 1) / 2 = n / 2 - 1 := by omega
      have hz : (n &&& (n - 1)) % 2 = 0 := by omega
      have := ih (n / 2) (by omega) (by omega)
      rw [e, hz, c]
      omega
    · have e : (n - 1) / 2 = n / 2 := by omega
      have hz : (n &&& (n - 1)) % 2 = 0 := by omega
      rw [e, hz, Nat.and_self]
      omega
theorem and_of (a b : Nat) : Int32.ofNat a &&& Int32.ofNat b = Int32.ofNat (a &&& b) := Int32.toBitVec_inj.mp (by
  rw [Int32.toBitVec_and]
  exact (BitVec.ofNat_and (w := 32) (x := a) (y := b)).symm)
theorem ones_eq {f n : Nat} (hf : f ≤ 30) (hn : n < 2 ^ f) (S : St) : fX12_ones (Int32.ofNat n) S = some (Int32.ofNat (pcf f n), S) := by
  have h30 : 2 ^ f ≤ 2 ^ 30 := Nat.pow_le_pow_right (by omega) hf
  apply Rn.eq
  unfold fX12_ones
  refine w_itr (fun k p S' => ∃ v acc, v < 2 ^ f ∧ p = (Int32.ofNat acc, Int32.ofNat v) ∧ acc + pcf f v = pcf f n ∧ k = pcf f v + 1 ∧ S' = S) (fun p S ⟨v, acc, _, _, _, h, _⟩ => by omega) ?_ (pcf f n + 1) FU _ _ (by have := pcf_le f n; unfold FU; omega) ⟨n, 0, hn, rfl, by omega, rfl, rfl⟩
  rintro k kk p S' ⟨v, acc, hv, rfl, ha, hk, rfl⟩ hkk
  dsimp only [fX12_ones_4]
  by_cases c : v = 0
  · subst c
    refine w_bt rfl (w_rt ⟨?_, rfl⟩)
    rw [← ha, pcf_0, Nat.add_zero]
  · refine w_bf ?_ ?_
    · intro e
      have := congrArg nat e
      rw [nat_ofNat (by omega)] at this
      exact c this
    · have e1 : Int32.ofNat v - 1 = Int32.ofNat (v - 1) := (Int32.ofNat_sub v 1 (by omega)).symm
      rw [e1, and_of, succ32]
      have hkn := kern f v (by omega) hv
      have hle : v &&& (v - 1) ≤ v := Nat.and_le_left
      exact hkk _ _ ⟨v &&& (v - 1), acc + 1, by omega, rfl, by omega, by omega, rfl⟩
-- the same by parts
theorem iush_of {n : Nat} (hn : n < 2 ^ 32) : iush (Int32.ofNat n) 1 = Int32.ofNat (n / 2) ∧ iush (Int32.ofNat n) 2 = Int32.ofNat (n / 4) ∧ iush (Int32.ofNat n) 4 = Int32.ofNat (n / 16) ∧ iush (Int32.ofNat n) 8 = Int32.ofNat (n / 256) ∧ iush (Int32.ofNat n) 16 = Int32.ofNat (n / 65536) := by
  have key : ∀ (y : Int32) (k : Nat), k < 32 → (y.toUInt32 &&& Int32.toUInt32 31) = UInt32.ofNat k → iush (Int32.ofNat n) y = Int32.ofNat (n / 2 ^ k) := by
    intro y k hk hy
    unfold iush
    rw [hy]
    apply Int32.toBitVec_inj.mp
    apply BitVec.eq_of_toNat_eq
    show ((BitVec.ofNat 32 n) >>> ((UInt32.ofNat k).toBitVec % 32#32)).toNat = (BitVec.ofNat 32 (n / 2 ^ k)).toNat
    have e : ((UInt32.ofNat k).toBitVec % 32#32).toNat = k := by
      rw [BitVec.toNat_umod]
      show (k % 2 ^ 32) % 32 = k
      rw [Nat.mod_eq_of_lt (show k < 2 ^ 32 by omega), Nat.mod_eq_of_lt hk]
    rw [BitVec.ushiftRight_eq', BitVec.toNat_ushiftRight, e, BitVec.toNat_ofNat, BitVec.toNat_ofNat, Nat.shiftRight_eq_div_pow, Nat.mod_eq_of_lt hn, Nat.mod_eq_of_lt]
    exact Nat.lt_of_le_of_lt (Nat.div_le_self _ _) hn
  exact ⟨key 1 1 (by omega) (by decide), key 2 2 (by omega) (by decide), key 4 4 (by omega) (by decide), key 8 8 (by omega) (by decide), key 16 16 (by omega) (by decide)⟩
theorem and_256 {a y m M : Nat} (ha : a < 256) (hm : m < 256) : (a + 256 * y) &&& (m + 256 * M) = (a &&& m) + 256 * (y &&& M) := by
  have h1 := Nat.and_mod_two_pow (a := a + 256 * y) (b := m + 256 * M) (n := 8)
  have h2 := Nat.and_div_two_pow (a := a + 256 * y) (b := m + 256 * M) (n := 8)
  rw [show (2 : Nat) ^ 8 = 256 from rfl] at h1 h2
  rw [show (a + 256 * y) % 256 = a by omega, show (m + 256 * M) % 256 = m by omega] at h1
  rw [show (a + 256 * y) / 256 = y by omega, show (m + 256 * M) / 256 = M by omega] at h2
  omega
theorem s1_low : ∀ a, a < 256 → ∀ z, z < 2 → (a / 2 + 128 * z) &&& 85 = (a / 2) &&& 85 := by decide +kernel
theorem s2_low : ∀ a, a < 256 → ∀ z, z < 4 → (a / 4 + 64 * z) &&& 51 = (a / 4) &&& 51 := by decide +kernel
theorem s3_low : ∀ a, a < 256 → ∀ z, z < 5 → (a + a / 16 + 16 * z) &&& 15 = (a + a / 16) &&& 15 := by decide +kernel
def pb_1 (a : Nat) : Nat := a - ((a / 2) &&& 85)
def pb_2 (a : Nat) : Nat := (a &&& 51) + ((a / 4) &&& 51)
def pb_3 (a : Nat) : Nat := (a + a / 16) &&& 15
theorem b_all : ∀ a, a < 256 → ((a / 2) &&& 85 ≤ a ∧ pb_1 a < 256 ∧ pb_2 (pb_1 a) % 16 ≤ 4 ∧ pb_2 (pb_1 a) / 16 ≤ 4) ∧ pb_3 (pb_2 (pb_1 a)) = pcf 8 a := by decide +kernel
def ps_1 (M x : Nat) : Nat := x - ((x / 2) &&& M)
def ps_2 (M x : Nat) : Nat := (x &&& M) + ((x / 4) &&& M)
def ps_3 (M x : Nat) : Nat := (x + x / 16) &&& M
theorem s1_256 {a y M : Nat} (ha : a < 256) : ps_1 (85 + 256 * M) (a + 256 * y) = pb_1 a + 256 * ps_1 M y := by
  unfold ps_1 pb_1
  have h1 := s1_low a ha (y % 2) (by omega)
  rw [show (a + 256 * y) / 2 = (a / 2 + 128 * (y % 2)) + 256 * (y / 2) by omega, and_256 (by omega) (by omega), h1]
  have h2 := ((b_all a ha).1).1
  have h3 : (y / 2) &&& M ≤ y / 2 := Nat.and_le_left
  omega
theorem s2_256 {a y M : Nat} (ha : a < 256) : ps_2 (51 + 256 * M) (a + 256 * y) = pb_2 a + 256 * ps_2 M y := by
  unfold ps_2 pb_2
  have h1 := s2_low a ha (y % 4) (by omega)
  rw [show (a + 256 * y) / 4 = (a / 4 + 64 * (y % 4)) + 256 * (y / 4) by omega, and_256 (by omega) (by omega), and_256 (by omega) (by omega), h1]
  omega
theorem s3_256 {a y M : Nat} (ha : a % 16 ≤ 4 ∧ a / 16 ≤ 4) (hy : y % 16 ≤ 4) : ps_3 (15 + 256 * M) (a + 256 * y) = pb_3 a + 256 * ps_3 M y := by
  unfold ps_3 pb_3
  have h1 := s3_low a (by omega) (y % 16) (by omega)
  rw [show (a + 256 * y) + (a + 256 * y) / 16 = (a + a / 16 + 16 * (y % 16)) + 256 * (y + y / 16) by omega, and_256 (by omega) (by omega), h1]
theorem pop_fin {a b c : Nat} (ha : a ≤ 8) (hb : b ≤ 8) (hc : c ≤ 8) : (a + 256 * (b + 256 * (c + 256 * 0)) + (a + 256 * (b + 256 * (c + 256 * 0))) / 256 + (a + 256 * (b + 256 * (c + 256 * 0)) + (a + 256 * (b + 256 * (c + 256 * 0))) / 256) / 65536) % 2 ^ 6 = a + (b + c) ∧ a + 256 * (b + 256 * (c + 256 * 0)) < 2 ^ 28 := by
  have e1 : (a + 256 * (b + 256 * (c + 256 * 0))) / 256 = b + 256 * c := by omega
  rw [e1]
  have e2 : (a + 256 * (b + 256 * (c + 256 * 0)) + (b + 256 * c)) / 65536 = c := by omega
  rw [e2]
  constructor <;> omega
theorem pop_n {n : Nat} (hn : n < 2 ^ 24) : (ps_3 252645135 (ps_2 858993459 (ps_1 1431655765 n)) + ps_3 252645135 (ps_2 858993459 (ps_1 1431655765 n)) / 256 + (ps_3 252645135 (ps_2 858993459 (ps_1 1431655765 n)) + ps_3 252645135 (ps_2 858993459 (ps_1 1431655765 n)) / 256) / 65536) &&& 63 = pcf 24 n ∧ ps_3 252645135 (ps_2 858993459 (ps_1 1431655765 n)) < 2 ^ 28 := by
  obtain ⟨a, b, c, ha, hb, hc, rfl⟩ : ∃ a b c, a < 256 ∧ b < 256 ∧ c < 256 ∧ n = a + 256 * (b + 256 * (c + 256 * 0)) := ⟨n % 256, n / 256 % 256, n / 65536, by omega, by omega, by omega, by omega⟩
  obtain ⟨⟨a1, a2, a3, a4⟩, a5⟩ := b_all a ha
  obtain ⟨⟨e1, e2, e3, e4⟩, e5⟩ := b_all b hb
  obtain ⟨⟨f1, f2, f3, f4⟩, f5⟩ := b_all c hc
  have g1 : ps_1 1431655765 (a + 256 * (b + 256 * (c + 256 * 0))) = pb_1 a + 256 * (pb_1 b + 256 * (pb_1 c + 256 * 0)) := by
    rw [show 1431655765 = 85 + 256 * (85 + 256 * (85 + 256 * 85)) from rfl, s1_256 ha, s1_256 hb, s1_256 hc]; rfl
  have g2 : ps_2 858993459 (pb_1 a + 256 * (pb_1 b + 256 * (pb_1 c + 256 * 0))) = pb_2 (pb_1 a) + 256 * (pb_2 (pb_1 b) + 256 * (pb_2 (pb_1 c) + 256 * 0)) := by
    rw [show 858993459 = 51 + 256 * (51 + 256 * (51 + 256 * 51)) from rfl, s2_256 a2, s2_256 e2, s2_256 f2]; rfl
  have g3 : ps_3 252645135 (pb_2 (pb_1 a) + 256 * (pb_2 (pb_1 b) + 256 * (pb_2 (pb_1 c) + 256 * 0))) = pb_3 (pb_2 (pb_1 a)) + 256 * (pb_3 (pb_2 (pb_1 b)) + 256 * (pb_3 (pb_2 (pb_1 c)) + 256 * 0)) := by
    rw [show 252645135 = 15 + 256 * (15 + 256 * (15 + 256 * 15)) from rfl, s3_256 ⟨a3, a4⟩ (by omega), s3_256 ⟨e3, e4⟩ (by omega), s3_256 ⟨f3, f4⟩ (by omega)]; rfl
  have p1 := pcf_le 8 a
  have p2 := pcf_le 8 b
  have p3 := pcf_le 8 c
  have q1 : pcf 24 (a + 256 * (b + 256 * (c + 256 * 0))) = pcf 8 a + (pcf 8 b + pcf 8 c) := by
    rw [show 24 = 8 + (8 + 8) from rfl, pcf_add, pcf_add]
    rw [show (a + 256 * (b + 256 * (c + 256 * 0))) / 2 ^ 8 = b + 256 * c by omega, show (b + 256 * c) / 2 ^ 8 = c by omega]
    have low : ∀ x y, x < 256 → pcf 8 (x + 256 * y) = pcf 8 x := by
      intro x y hx
      have s : ∀ m, pcf 8 m = m % 2 + (m / 2 % 2 + (m / 2 / 2 % 2 + (m / 2 / 2 / 2 % 2 + (m / 2 / 2 / 2 / 2 % 2 + (m / 2 / 2 / 2 / 2 / 2 % 2 + (m / 2 / 2 / 2 / 2 / 2 / 2 % 2 + (m / 2 / 2 / 2 / 2 / 2 / 2 / 2 % 2 + 0))))))) := fun m => rfl
      rw [s, s]
      omega
    rw [low a _ ha, low b _ hb]
  rw [g1, g2, g3, a5, e5, f5, q1, show 63 = 2 ^ 6 - 1 from rfl, Nat.and_two_pow_sub_one_eq_mod]
  exact pop_fin p1 p2 p3
theorem bitCount_eq {n : Nat} (hn : n < 2 ^ 24) (S : St) : fJ6_bitCount_0f7a4 (Int32.ofNat n) S = some (Int32.ofNat (pcf 24 n), S) := by
  obtain ⟨h1, h2⟩ := pop_n hn
  have l1 : ps_1 1431655765 n ≤ n := Nat.sub_le _ _
  have l2 : ps_2 858993459 (ps_1 1431655765 n) < 2 ^ 26 := by
    have e1 : ps_1 1431655765 n &&& 858993459 ≤ ps_1 1431655765 n := Nat.and_le_left
    have e2 : ps_1 1431655765 n / 4 &&& 858993459 ≤ ps_1 1431655765 n / 4 := Nat.and_le_left
    unfold ps_2
    omega
  have z1 : Int32.ofNat n - (iush (Int32.ofNat n) 1 &&& 1431655765) = Int32.ofNat (ps_1 1431655765 n) := by
    rw [(iush_of (n := n) (by omega)).1, show (1431655765 : Int32) = Int32.ofNat 1431655765 from rfl, and_of]
    exact (Int32.ofNat_sub _ _ (by have : n / 2 &&& 1431655765 ≤ n / 2 := Nat.and_le_left; omega)).symm
  have z2 : (Int32.ofNat (ps_1 1431655765 n) &&& 858993459) + (iush (Int32.ofNat (ps_1 1431655765 n)) 2 &&& 858993459) = Int32.ofNat (ps_2 858993459 (ps_1 1431655765 n)) := by
    rw [(iush_of (n := ps_1 1431655765 n) (by omega)).2.1, show (858993459 : Int32) = Int32.ofNat 858993459 from rfl, and_of, and_of, ← Int32.ofNat_add]; rfl
  have z3 : (Int32.ofNat (ps_2 858993459 (ps_1 1431655765 n)) + iush (Int32.ofNat (ps_2 858993459 (ps_1 1431655765 n))) 4) &&& 252645135 = Int32.ofNat (ps_3 252645135 (ps_2 858993459 (ps_1 1431655765 n))) := by
    rw [(iush_of (n := ps_2 858993459 (ps_1 1431655765 n)) (by omega)).2.2.1, ← Int32.ofNat_add, show (252645135 : Int32) = Int32.ofNat 252645135 from rfl, and_of]; rfl
  unfold fJ6_bitCount_0f7a4
  rw [rt_S, z1, z2, z3, (iush_of (n := ps_3 252645135 (ps_2 858993459 (ps_1 1431655765 n))) (by omega)).2.2.2.1, ← Int32.ofNat_add, (iush_of (n := ps_3 252645135 (ps_2 858993459 (ps_1 1431655765 n)) + ps_3 252645135 (ps_2 858993459 (ps_1 1431655765 n)) / 256) (by omega)).2.2.2.2, ← Int32.ofNat_add, show (63 : Int32) = Int32.ofNat 63 from rfl, and_of, h1]
