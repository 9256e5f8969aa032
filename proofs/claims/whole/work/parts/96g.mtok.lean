-- the reference's step
theorem J_toInt {x : Nat} (h : x < 2 ^ 63) : (Int64.ofNat x).toInt = (x : Int) := Int64.toInt_ofNat_of_lt h
theorem J_of {x : Nat} (h : x < 2 ^ 31) : (Int32.ofNat x).toInt64 = Int64.ofNat x := by
  apply Int64.toInt_inj.mp
  rw [Int32.toInt_toInt64, J_toInt (by omega), Int32.toInt_ofNat_of_lt h]
theorem J_le {a c : Nat} (ha : a < 2 ^ 63) (hc : c < 2 ^ 63) : Int64.ofNat a ≤ Int64.ofNat c ↔ a ≤ c := by
  rw [Int64.le_iff_toInt_le, J_toInt ha, J_toInt hc]; omega
theorem J_lt {a c : Nat} (ha : a < 2 ^ 63) (hc : c < 2 ^ 63) : Int64.ofNat a < Int64.ofNat c ↔ a < c := by
  rw [Int64.lt_iff_toInt_lt, J_toInt ha, J_toInt hc]; omega
theorem J_eq {a c : Nat} (ha : a < 2 ^ 63) (hc : c < 2 ^ 63) : Int64.ofNat a = Int64.ofNat c ↔ a = c := by
  constructor
  · intro h
    have := congrArg Int64.toInt h
    rw [J_toInt ha, J_toInt hc] at this
    omega
  · intro h; rw [h]
theorem J_add (a c : Nat) : Int64.ofNat a + Int64.ofNat c = Int64.ofNat (a + c) := (Int64.ofNat_add a c).symm
theorem J_mul (a c : Nat) : Int64.ofNat a * Int64.ofNat c = Int64.ofNat (a * c) := (Int64.ofNat_mul a c).symm
theorem J_sub {a c : Nat} (h : c ≤ a) : Int64.ofNat a - Int64.ofNat c = Int64.ofNat (a - c) := (Int64.ofNat_sub a c h).symm
theorem cmp_ge {a c : Nat} (ha : a < 2 ^ 63) (hc : c < 2 ^ 63) : 0 ≤ lg_cmp (Int64.ofNat a) (Int64.ofNat c) ↔ c ≤ a := by
  unfold lg_cmp
  by_cases g : c < a
  · rw [if_pos ((J_lt hc ha).mpr g)]; exact ⟨fun _ => by omega, fun _ => by decide⟩
  · rw [if_neg (fun z => g ((J_lt hc ha).mp z))]
    by_cases e : a = c
    · rw [if_pos ((J_eq ha hc).mpr e)]; exact ⟨fun _ => by omega, fun _ => by decide⟩
    · rw [if_neg (fun z => e ((J_eq ha hc).mp z))]; exact ⟨fun z => absurd z (by decide), fun z => by omega⟩
theorem cmp_le {a c : Nat} (ha : a < 2 ^ 63) (hc : c < 2 ^ 63) : lg_cmp (Int64.ofNat a) (Int64.ofNat c) ≤ 0 ↔ a ≤ c := by
  unfold lg_cmp
  by_cases g : c < a
  · rw [if_pos ((J_lt hc ha).mpr g)]; exact ⟨fun z => absurd z (by decide), fun z => by omega⟩
  · rw [if_neg (fun z => g ((J_lt hc ha).mp z))]
    by_cases e : a = c
    · rw [if_pos ((J_eq ha hc).mpr e)]; exact ⟨fun _ => by omega, fun _ => by decide⟩
    · rw [if_neg (fun z => e ((J_eq ha hc).mp z))]; exact ⟨fun _ => by omega, fun _ => by decide⟩
theorem cmp_eq (x y : Int64) : lg_cmp x y = 0 ↔ x = y := by
  unfold lg_cmp
  by_cases e : x = y
  · rw [if_neg (by rw [e]; exact Int64.lt_irrefl), if_pos e]; exact ⟨fun _ => e, fun _ => rfl⟩
  · by_cases g : x > y
    · rw [if_pos g]; exact ⟨fun z => absurd z (by decide), fun z => absurd z e⟩
    · rw [if_neg g, if_neg e]; exact ⟨fun z => absurd z (by decide), fun z => absurd z e⟩
def k3 (a c d : Nat) : Nat := ((a - 96) * 32 + (c - 96)) * 32 + (d - 96)
def k4 (a c d e : Nat) : Nat := k3 a c d * 32 + (e - 96)
def k6 (a c d e f g : Nat) : Nat := k3 a c d * 32768 + k3 e f g
def wO (v : Nat) : Nat := if 32 ≤ v then
  if v = k4 114 97 116 101 then 0 else if v = k6 116 104 114 101 97 100 then 1 else if v = k4 102 105 110 101 then 2 else if v = k4 108 97 116 101 then 3 else if v = k4 100 97 121 115 then 4 else if v = k4 112 97 114 116 then 5
  else if v = k3 104 97 121 then 10 else if v = k6 115 116 105 116 99 104 then 11 else if v = k6 99 111 108 111 117 114 then 12 else if v = k6 103 114 111 117 110 100 then 13 else if v = k4 115 105 122 101 then 14 else if v = k4 115 107 105 108 * 32 + 12 then 15 else if v = k4 115 112 111 116 * 32 + 19 then 16 else if v = k4 119 101 101 107 then 17
  else if v = 294 then 30 else if v = k3 97 110 100 then 31 else if v = k3 110 111 116 then 32 else 99
  else 40 + v - 1
theorem k3_m (a c d : Nat) (ha : 96 ≤ a) (ha2 : a < 200) (hc : 96 ≤ c) (hc2 : c < 200) (hd : 96 ≤ d) (hd2 : d < 200) (S : St) : fX12_three (Int32.ofNat a) (Int32.ofNat c) (Int32.ofNat d) S = some (Int64.ofNat (k3 a c d), S) := by
  unfold fX12_three
  rw [rt_S]
  congr 2
  rw [show (96 : Int32) = Int32.ofNat 96 from rfl, sub_of ha, J_of (by omega), J_of (by omega), J_of (by omega), show (32 : Int64) = Int64.ofNat 32 from rfl, show (96 : Int64) = Int64.ofNat 96 from rfl, J_mul, J_add, J_sub (by omega), J_mul, J_add, J_sub (by omega)]
  congr 1
  unfold k3
  omega
theorem k4_m (a c d e : Nat) (ha : 96 ≤ a) (ha2 : a < 200) (hc : 96 ≤ c) (hc2 : c < 200) (hd : 96 ≤ d) (hd2 : d < 200) (he : 96 ≤ e) (he2 : e < 200) (S : St) : fX12_four (Int32.ofNat a) (Int32.ofNat c) (Int32.ofNat d) (Int32.ofNat e) S = some (Int64.ofNat (k4 a c d e), S) := by
  unfold fX12_four
  rw [cl_S (k3_m a c d ha ha2 hc hc2 hd hd2 S), rt_S]
  congr 2
  rw [J_of (by omega), show (32 : Int64) = Int64.ofNat 32 from rfl, show (96 : Int64) = Int64.ofNat 96 from rfl, J_mul, J_add, J_sub (by omega)]
  congr 1
  unfold k4
  omega
theorem k6_m (x y : Nat) (S : St) : fX12_six (Int64.ofNat x) (Int64.ofNat y) S = some (Int64.ofNat (x * 32768 + y), S) := by
  unfold fX12_six
  rw [rt_S, show (32768 : Int64) = Int64.ofNat 32768 from rfl, J_mul, J_add]
theorem w_is {Rt : Type} {S : St} {Q : Rt → St → Prop} {v c : Nat} {k1 k2 : St → Option (Rt × St)} (hv : v < 2 ^ 63) (hc : c < 2 ^ 63) (h1 : v = c → Rn (k1 S) Q) (h2 : ¬ v = c → Rn (k2 S) Q) : Rn (br (lg_cmp (Int64.ofNat v) (Int64.ofNat c) = 0) k1 k2 S) Q := w_br (fun z => h1 ((J_eq hv hc).mp ((cmp_eq _ _).mp z))) (fun z => h2 (fun q => z ((cmp_eq _ _).mpr (by rw [q]))))
theorem w_six {Rt : Type} {S : St} {Q : Rt → St → Prop} (a c d e f g : Nat) {k : Int64 → St → Option (Rt × St)} (ha : 96 ≤ a) (ha2 : a < 200) (hc : 96 ≤ c) (hc2 : c < 200) (hd : 96 ≤ d) (hd2 : d < 200) (he : 96 ≤ e) (he2 : e < 200) (hf : 96 ≤ f) (hf2 : f < 200) (hg : 96 ≤ g) (hg2 : g < 200) (h : Rn (k (Int64.ofNat (k6 a c d e f g)) S) Q) : Rn (cl (fX12_three (Int32.ofNat a) (Int32.ofNat c) (Int32.ofNat d)) (fun v2 => cl (fX12_three (Int32.ofNat e) (Int32.ofNat f) (Int32.ofNat g)) fun v3 => cl (fX12_six v2 v3) k) S) Q :=
  w_cl (k3_m a c d ha ha2 hc hc2 hd hd2 S) (w_cl (k3_m e f g he he2 hf hf2 hg hg2 S) (w_cl (k6_m _ _ S) h))
theorem five_m (x y : Nat) (h : 96 ≤ y) (h2 : y < 200) : (Int64.ofNat x * 32 + Int64.ofNat y) - 96 = Int64.ofNat (x * 32 + (y - 96)) := by
  rw [show (32 : Int64) = Int64.ofNat 32 from rfl, show (96 : Int64) = Int64.ofNat 96 from rfl, J_mul, J_add, J_sub (by omega)]
  congr 1
  omega
set_option maxHeartbeats 1000000 in
set_option maxRecDepth 10000 in
theorem word_m {v : Nat} (hv : v < 2 ^ 62) (h0 : 0 < v) (S : St) : fX12_wordOf (Int64.ofNat v) S = some (Int32.ofNat (wO v), S) := by
  apply Rn.eq
  unfold fX12_wordOf
  refine w_br (fun g => ?_) (fun g => ?_)
  · rw [show (32 : Int64) = Int64.ofNat 32 from rfl, cmp_ge (by omega) (by omega)] at g
    refine w_cl (k4_m 114 97 116 101 (by decide) (by decide) (by decide) (by decide) (by decide) (by decide) (by decide) (by decide) S) (w_is (by omega) (by decide) (fun e => w_rt ⟨by unfold wO; rw [if_pos g, if_pos e]; rfl, rfl⟩) (fun e0 => ?_))
    refine w_six 116 104 114 101 97 100 (by decide) (by decide) (by decide) (by decide) (by decide) (by decide) (by decide) (by decide) (by decide) (by decide) (by decide) (by decide) (w_is (by omega) (by decide) (fun e => w_rt ⟨by unfold wO; rw [if_pos g, if_neg e0, if_pos e]; rfl, rfl⟩) (fun e1 => ?_))
    refine w_cl (k4_m 102 105 110 101 (by decide) (by decide) (by decide) (by decide) (by decide) (by decide) (by decide) (by decide) S) (w_is (by omega) (by decide) (fun e => w_rt ⟨by unfold wO; rw [if_pos g, if_neg e0, if_neg e1, if_pos e]; rfl, rfl⟩) (fun e2 => ?_))
    refine w_cl (k4_m 108 97 116 101 (by decide) (by decide) (by decide) (by decide) (by decide) (by decide) (by decide) (by decide) S) (w_is (by omega) (by decide) (fun e => w_rt ⟨by unfold wO; rw [if_pos g, if_neg e0, if_neg e1, if_neg e2, if_pos e]; rfl, rfl⟩) (fun e3 => ?_))
    refine w_cl (k4_m 100 97 121 115 (by decide) (by decide) (by decide) (by decide) (by decide) (by decide) (by decide) (by decide) S) (w_is (by omega) (by decide) (fun e => w_rt ⟨by unfold wO; rw [if_pos g, if_neg e0, if_neg e1, if_neg e2, if_neg e3, if_pos e]; rfl, rfl⟩) (fun e4 => ?_))
    refine w_cl (k4_m 112 97 114 116 (by decide) (by decide) (by decide) (by decide) (by decide) (by decide) (by decide) (by decide) S) (w_is (by omega) (by decide) (fun e => w_rt ⟨by unfold wO; rw [if_pos g, if_neg e0, if_neg e1, if_neg e2, if_neg e3, if_neg e4, if_pos e]; rfl, rfl⟩) (fun e5 => ?_))
    refine w_cl (k3_m 104 97 121 (by decide) (by decide) (by decide) (by decide) (by decide) (by decide) S) (w_is (by omega) (by decide) (fun e => w_rt ⟨by unfold wO; rw [if_pos g, if_neg e0, if_neg e1, if_neg e2, if_neg e3, if_neg e4, if_neg e5, if_pos e]; rfl, rfl⟩) (fun e6 => ?_))
    refine w_six 115 116 105 116 99 104 (by decide) (by decide) (by decide) (by decide) (by decide) (by decide) (by decide) (by decide) (by decide) (by decide) (by decide) (by decide) (w_is (by omega) (by decide) (fun e => w_rt ⟨by unfold wO; rw [if_pos g, if_neg e0, if_neg e1, if_neg e2, if_neg e3, if_neg e4, if_neg e5, if_neg e6, if_pos e]; rfl, rfl⟩) (fun e7 => ?_))
    refine w_six 99 111 108 111 117 114 (by decide) (by decide) (by decide) (by decide) (by decide) (by decide) (by decide) (by decide) (by decide) (by decide) (by decide) (by decide) (w_is (by omega) (by decide) (fun e => w_rt ⟨by unfold wO; rw [if_pos g, if_neg e0, if_neg e1, if_neg e2, if_neg e3, if_neg e4, if_neg e5, if_neg e6, if_neg e7, if_pos e]; rfl, rfl⟩) (fun e8 => ?_))
    refine w_six 103 114 111 117 110 100 (by decide) (by decide) (by decide) (by decide) (by decide) (by decide) (by decide) (by decide) (by decide) (by decide) (by decide) (by decide) (w_is (by omega) (by decide) (fun e => w_rt ⟨by unfold wO; rw [if_pos g, if_neg e0, if_neg e1, if_neg e2, if_neg e3, if_neg e4, if_neg e5, if_neg e6, if_neg e7, if_neg e8, if_pos e]; rfl, rfl⟩) (fun e9 => ?_))
    refine w_cl (k4_m 115 105 122 101 (by decide) (by decide) (by decide) (by decide) (by decide) (by decide) (by decide) (by decide) S) (w_is (by omega) (by decide) (fun e => w_rt ⟨by unfold wO; rw [if_pos g, if_neg e0, if_neg e1, if_neg e2, if_neg e3, if_neg e4, if_neg e5, if_neg e6, if_neg e7, if_neg e8, if_neg e9, if_pos e]; rfl, rfl⟩) (fun e10 => ?_))
    refine w_cl (k4_m 115 107 105 108 (by decide) (by decide) (by decide) (by decide) (by decide) (by decide) (by decide) (by decide) S) ?_
    rw [show (108 : Int64) = Int64.ofNat 108 from rfl, five_m _ 108 (by decide) (by decide)]
    refine w_is (by omega) (by decide) (fun e => w_rt ⟨by unfold wO; rw [if_pos g, if_neg e0, if_neg e1, if_neg e2, if_neg e3, if_neg e4, if_neg e5, if_neg e6, if_neg e7, if_neg e8, if_neg e9, if_neg e10, if_pos e]; rfl, rfl⟩) (fun e11 => ?_)
    refine w_cl (k4_m 115 112 111 116 (by decide) (by decide) (by decide) (by decide) (by decide) (by decide) (by decide) (by decide) S) ?_
    rw [show (115 : Int64) = Int64.ofNat 115 from rfl, five_m _ 115 (by decide) (by decide)]
    refine w_is (by omega) (by decide) (fun e => w_rt ⟨by unfold wO; rw [if_pos g, if_neg e0, if_neg e1, if_neg e2, if_neg e3, if_neg e4, if_neg e5, if_neg e6, if_neg e7, if_neg e8, if_neg e9, if_neg e10, if_neg e11, if_pos e]; rfl, rfl⟩) (fun e12 => ?_)
    refine w_cl (k4_m 119 101 101 107 (by decide) (by decide) (by decide) (by decide) (by decide) (by decide) (by decide) (by decide) S) (w_is (by omega) (by decide) (fun e => w_rt ⟨by unfold wO; rw [if_pos g, if_neg e0, if_neg e1, if_neg e2, if_neg e3, if_neg e4, if_neg e5, if_neg e6, if_neg e7, if_neg e8, if_neg e9, if_neg e10, if_neg e11, if_neg e12, if_pos e]; rfl, rfl⟩) (fun e13 => ?_))
    refine w_is (c := 294) (by omega) (by decide) (fun e => w_rt ⟨by unfold wO; rw [if_pos g, if_neg e0, if_neg e1, if_neg e2, if_neg e3, if_neg e4, if_neg e5, if_neg e6, if_neg e7, if_neg e8, if_neg e9, if_neg e10, if_neg e11, if_neg e12, if_neg e13, if_pos e]; rfl, rfl⟩) (fun e14 => ?_)
    refine w_cl (k3_m 97 110 100 (by decide) (by decide) (by decide) (by decide) (by decide) (by decide) S) (w_is (by omega) (by decide) (fun e => w_rt ⟨by unfold wO; rw [if_pos g, if_neg e0, if_neg e1, if_neg e2, if_neg e3, if_neg e4, if_neg e5, if_neg e6, if_neg e7, if_neg e8, if_neg e9, if_neg e10, if_neg e11, if_neg e12, if_neg e13, if_neg e14, if_pos e]; rfl, rfl⟩) (fun e15 => ?_))
    refine w_cl (k3_m 110 111 116 (by decide) (by decide) (by decide) (by decide) (by decide) (by decide) S) (w_is (by omega) (by decide) (fun e => w_rt ⟨by unfold wO; rw [if_pos g, if_neg e0, if_neg e1, if_neg e2, if_neg e3, if_neg e4, if_neg e5, if_neg e6, if_neg e7, if_neg e8, if_neg e9, if_neg e10, if_neg e11, if_neg e12, if_neg e13, if_neg e14, if_neg e15, if_pos e]; rfl, rfl⟩) (fun e16 => ?_))
    exact w_rt ⟨by unfold wO; rw [if_pos g, if_neg e0, if_neg e1, if_neg e2, if_neg e3, if_neg e4, if_neg e5, if_neg e6, if_neg e7, if_neg e8, if_neg e9, if_neg e10, if_neg e11, if_neg e12, if_neg e13, if_neg e14, if_neg e15, if_neg e16]; rfl, rfl⟩
  · rw [show (32 : Int64) = Int64.ofNat 32 from rfl, cmp_ge (by omega) (by omega)] at g
    refine w_rt ⟨?_, rfl⟩
    unfold wO
    rw [if_neg g, show (Int64.ofNat v).toInt32 = Int32.ofNat v from by rw [← J_of (by omega), Int32.toInt32_toInt64], show (40 : Int32) = Int32.ofNat 40 from rfl, show (1 : Int32) = Int32.ofNat 1 from rfl, add_of, sub_of (by omega)]
