-- hours, and what a hand can do
def hrN (al : Nat → Int32) (h day : Nat) : Nat → Nat
  | 0 => 0
  | n + 1 => hrN al h day n + (if hayV al h ((day + n) / 7) = true then nat (al (3441 + 160 * h)) / 2 else nat (al (3441 + 160 * h)))
theorem hrN_b {al : Nat → Int32} {h day : Nat} (hh : nat (al (3441 + 160 * h)) ≤ 12) : ∀ n, hrN al h day n ≤ 12 * n := by
  intro n
  induction n with
  | zero => exact Nat.le_refl _
  | succ n ih =>
    rw [hrN]
    split <;> omega
def cdN (al : Nat → Int32) (p day days h : Nat) : Nat := hrN al h day days / max 1 ((nat (al (22 + 27 * p)) + 10 * nat (al (3440 + 160 * h)) - 1) / (10 * nat (al (3440 + 160 * h))))
theorem hoursIn_x {S : St} {al : Nat → Int32} {h q day days : Nat} (hsh : HSh S q) (r : HRel al h q S) (hday : day ≤ 999) (hdays : days ≤ 60) (hh : 1 ≤ al (3441 + 160 * h) ∧ al (3441 + 160 * h) ≤ 12) : fX2_hoursIn q (Int32.ofNat day) (Int32.ofNat days) S = some (Int32.ofNat (hrN al h day days), S) := by
  have e0 : 0 ≤ al (3441 + 160 * h) := Int32.le_trans (by decide) hh.1
  have hn := nat_le (n := 12) hh.2 (by decide)
  have r1 : sI S q 1 = Int32.ofNat (nat (al (3441 + 160 * h))) := by rw [r.1 1 (by omega), ← cnt_eq e0]; congr 1; omega
  apply Rn.eq
  unfold fX2_hoursIn
  refine w_for (mk := fun (x : Int32) i => (q, Int32.ofNat day, Int32.ofNat days, x, i)) (a := 0) 0 days (fun i x S' => S' = S ∧ x = Int32.ofNat (hrN al h day i)) (by omega) (by omega) ⟨rfl, rfl⟩ ?_ ?_
  · rintro kk x S' ⟨rfl, rfl⟩ hge
    dsimp only [fX2_hoursIn_5]
    exact w_bt hge (w_rt ⟨rfl, rfl⟩)
  · rintro i - hi kk x S' ⟨rfl, rfl⟩ hlt hkk
    dsimp only [fX2_hoursIn_5, fX2_hoursIn_39]
    rw [add_of]
    refine w_bf hlt (w_cl (weekOf_eq _ _) ?_)
    rw [day_div _ (by omega)]
    refine w_ck hsh.k0 (w_cl (hasHay_x hsh r (by omega)) (w_z (fun c => ?_) (fun c => ?_)))
    · refine w_gIe hsh.k0 r1 (w_dv (by decide) ?_)
      rw [show (2 : Int32) = Int32.ofNat 2 from rfl, div_of (by omega) (by omega), add_of]
      exact hkk _ _ ⟨rfl, by rw [hrN, if_pos c]⟩
    · refine w_gIe hsh.k0 r1 ?_
      rw [add_of]
      exact hkk _ _ ⟨rfl, by rw [hrN, if_neg (by rw [c]; decide)]⟩
theorem canDo_x {S : St} {al : Nat → Int32} {h q p hr : Nat} (hsh : HSh S q) (r : HRel al h q S) (hs : 1 ≤ al (3440 + 160 * h) ∧ al (3440 + 160 * h) ≤ 200) (hp : 0 ≤ al (22 + 27 * p) ∧ al (22 + 27 * p) ≤ 1000000) (hhr : hr ≤ 1000) : fX2_canDo q (al (22 + 27 * p)) (Int32.ofNat hr) S = some (Int32.ofNat (hr / max 1 ((nat (al (22 + 27 * p)) + 10 * nat (al (3440 + 160 * h)) - 1) / (10 * nat (al (3440 + 160 * h))))), S) := by
  have e0 : 0 ≤ al (3440 + 160 * h) := Int32.le_trans (by decide) hs.1
  have hn := nat_le (n := 200) hs.2 (by decide)
  have hn1 : 1 ≤ nat (al (3440 + 160 * h)) := by
    have := le_i.mp hs.1
    rw [i1] at this
    show 1 ≤ (al (3440 + 160 * h)).toInt.toNat
    omega
  have pn := nat_le (n := 1000000) hp.2 (by decide)
  have r0 : sI S q 0 = Int32.ofNat (nat (al (3440 + 160 * h))) := by rw [r.1 0 (by omega), ← cnt_eq e0]; congr 1
  have ep := cnt_eq hp.1
  generalize nat (al (3440 + 160 * h)) = k at *
  generalize nat (al (22 + 27 * p)) = st at *
  rw [ep]
  apply Rn.eq
  unfold fX2_canDo
  refine w_gIe hsh.k0 r0 ?_
  have hd : (st + 10 * k - 1) / (10 * k) ≤ st + 10 * k - 1 := Nat.div_le_self _ _
  rw [show (10 : Int32) = Int32.ofNat 10 from rfl, mul_of, add_of, show (1 : Int32) = Int32.ofNat 1 from rfl, sub_of (by omega), div_of (by omega) (by omega), mx_of (by omega) (by omega), div_of (by omega) (by omega)]
  refine w_bt (by rw [le_ofNat (by omega) (by omega)]; omega) (w_dv ?_ (w_dv ?_ (w_rt ⟨rfl, rfl⟩)))
  · intro z; rw [show (0 : Int32) = Int32.ofNat 0 from rfl, eq_ofNat (by omega) (by omega)] at z; omega
  · intro z; rw [show (0 : Int32) = Int32.ofNat 0 from rfl, eq_ofNat (by omega) (by omega)] at z; omega
/-- what each can do, and skills, at hand -/
def PK (S : St) (C K : Nat → Nat) (H : Nat) : Prop := sI S 23 3 = Int32.ofNat H ∧ (∀ i, i < H → sI S 24 i = Int32.ofNat (C i)) ∧ ∀ i, i < H → sI S 25 i = Int32.ofNat (K i)
def PKb (C K : Nat → Nat) (H N : Nat) : Prop := H ≤ 12 ∧ (∀ i, i < H → C i ≤ 1000) ∧ (∀ i, i < H → K i ≤ 200) ∧ 1 ≤ N ∧ N ≤ 40
theorem smN_b {C : Nat → Nat} {b H : Nat} (hC : ∀ i, i < H → C i ≤ 1000) : ∀ n, n ≤ H → smN C b n ≤ 1000 * n := by
  intro n
  induction n with
  | zero => intro _; exact Nat.le_refl _
  | succ n ih =>
    intro hn
    have h1 := ih (by omega)
    have h2 := hC n (by omega)
    rw [smN]
    split <;> omega
theorem pow12 {H : Nat} (h : H ≤ 12) : 2 ^ H ≤ 4096 := Nat.pow_le_pow_right (n := 2) (by omega) h
set_option maxHeartbeats 1000000 in
set_option maxRecDepth 10000 in
theorem allows_x {S : St} {C K : Nat → Nat} {H N b : Nat} (h : SH S) (k : PK S C K H) (kb : PKb C K H N) : fX4_allows 23 (Int32.ofNat b) (Int32.ofNat N) S = some (okB C N H b, S) := by
  obtain ⟨b1, b2, b3, b4, b5⟩ := kb
  have sb := smN_b (C := C) (b := b) b2 H (Nat.le_refl _)
  apply Rn.eq
  unfold fX4_allows
  refine w_for (mk := fun (x : Int32) i => (23, Int32.ofNat b, Int32.ofNat N, x, i)) (a := 0) 0 H (fun i x S' => S' = S ∧ x = Int32.ofNat (smN C b i) ∧ posB C b i = true) (by omega) (by omega) ⟨rfl, rfl, rfl⟩ ?_ ?_
  · rintro kk x S' ⟨rfl, rfl, hp⟩ hge
    dsimp only [fX4_allows_5]
    refine w_gIe (SH_K23 h) k.1 (w_bt hge (w_br (fun c => w_r0 ⟨?_, rfl⟩) (fun c => w_r1 ⟨?_, rfl⟩)))
    · rw [lt_ofNat (by omega) (by omega)] at c
      unfold okB; rw [hp, decide_eq_false (by omega)]; rfl
    · rw [lt_ofNat (by omega) (by omega)] at c
      unfold okB; rw [hp, decide_eq_true (by omega)]; rfl
  · rintro i - hi kk x S' ⟨rfl, rfl, hp⟩ hlt hkk
    dsimp only [fX4_allows_5, fX4_allows_46]
    refine w_gIe (SH_K23 h) k.1 (w_bf hlt (w_cl (inSet_x (by omega) _) (w_z (fun c => ?_) (fun c => hkk _ _ ⟨rfl, ?_, ?_⟩))))
    · have hc := k.2.1 i hi
      have hb2 := b2 i hi
      refine w_gR (SH_K23 h) (SH_R23_4 h) (w_nn (w_aIe (n := i) (SH_K24 h) rfl (SH_L24 h) (by omega) hc (w_br (fun d => ?_) (fun d => w_r0 ⟨?_, rfl⟩))))
      · have d' := (lit_le (m := 1) (by omega) (by omega)).mp d
        refine w_gR (SH_K23 h) (SH_R23_4 h) (w_nn (w_aIe (n := i) (SH_K24 h) rfl (SH_L24 h) (by omega) hc ?_))
        rw [add_of]
        exact hkk _ _ ⟨rfl, by rw [smN, if_pos c], by rw [posB, hp, c, decide_eq_true (by omega)]; rfl⟩
      · have d' : ¬ 1 ≤ C i := fun z => d ((lit_le (m := 1) (by omega) (by omega)).mpr z)
        unfold okB
        have : posB C b H = false := by
          cases hf : posB C b H
          · rfl
          · exact absurd ((posB_i H).mp hf i hi c) (by omega)
        rw [this]; rfl
    · rw [smN, if_neg (by rw [c]; decide)]; rfl
    · rw [posB, hp, c]; rfl
set_option maxHeartbeats 1000000 in
set_option maxRecDepth 10000 in
theorem spread_x {S : St} {C K : Nat → Nat} {H N b : Nat} (h : SH S) (k : PK S C K H) (kb : PKb C K H N) (hb : 0 < b) (hb2 : b < 2 ^ H) : fX4_spreadOf 23 (Int32.ofNat b) S = some (spI K H b, S) := by
  obtain ⟨b1, b2, b3, b4, b5⟩ := kb
  apply Rn.eq
  unfold fX4_spreadOf
  refine w_for (mk := fun (x : Int32 × Int32) i => (23, Int32.ofNat b, x.1, x.2, i)) (a := (200, 0)) 0 H (fun i x S' => S' = S ∧ x.1 = Int32.ofNat (spL K 200 b i) ∧ x.2 = Int32.ofNat (spM K b i)) (by omega) (by omega) ⟨rfl, rfl, rfl⟩ ?_ ?_
  · rintro kk ⟨x, y⟩ S' ⟨rfl, hx, hy⟩ hge
    dsimp only [fX4_spreadOf_9] at hx hy ⊢
    refine w_gIe (SH_K23 h) k.1 (w_bt hge (w_rt ⟨?_, rfl⟩))
    rw [hx, hy, spL_eq b3 hb hb2]; rfl
  · rintro i - hi kk ⟨x, y⟩ S' ⟨rfl, hx, hy⟩ hlt hkk
    dsimp only [fX4_spreadOf_9, fX4_spreadOf_51] at hx hy ⊢
    have hK := k.2.2 i hi
    have hKb := b3 i hi
    have l1 := spL_b (K := K) (b := b) (l0 := 200) i
    have l2 := spM_b (b := b) b3 i (by omega)
    refine w_gIe (SH_K23 h) k.1 (w_bf hlt (w_cl (inSet_x (by omega) _) (w_z (fun c => ?_) (fun c => hkk (_, _) _ ⟨rfl, ?_, ?_⟩))))
    · refine w_gR (SH_K23 h) (SH_R23_5 h) (w_nn (w_aIe (n := i) (SH_K25 h) rfl (SH_L25 h) (by omega) hK (w_gR (SH_K23 h) (SH_R23_5 h) (w_nn (w_aIe (n := i) (SH_K25 h) rfl (SH_L25 h) (by omega) hK ?_)))))
      rw [hx, hy, mn_of (by omega) (by omega), mx_of (by omega) (by omega)]
      exact hkk (Int32.ofNat (min (spL K 200 b i) (K i)), Int32.ofNat (max (spM K b i) (K i))) _ ⟨rfl, by dsimp only; rw [spL, if_pos c], by dsimp only; rw [spM, if_pos c]⟩
    · rw [spL, if_neg (by rw [c]; decide)]; exact hx
    · rw [spM, if_neg (by rw [c]; decide)]; exact hy
/-- the hand not taken yet that can do most -/
def bsN (C : Nat → Nat) (t : Nat) : Nat → Option Nat
  | 0 => none
  | n + 1 => if t.testBit n = true then bsN C t n else match bsN C t n with
    | none => some n
    | some j => if C n ≤ C j then some j else some n
theorem bsN_p {C : Nat → Nat} {t : Nat} : ∀ n, (bsN C t n = none → ∀ i, i < n → t.testBit i = true) ∧ ∀ j, bsN C t n = some j → j < n ∧ t.testBit j = false ∧ ∀ i, i < n → t.testBit i = false → C i ≤ C j := by
  intro n
  induction n with
  | zero => exact ⟨fun _ i h => by omega, fun j h => by cases h⟩
  | succ n ih =>
    rw [bsN]
    by_cases c : t.testBit n = true
    · rw [if_pos c]
      refine ⟨fun h i hi => ?_, fun j h => ?_⟩
      · by_cases e : i = n
        · rw [e]; exact c
        · exact ih.1 h i (by omega)
      · obtain ⟨h1, h2, h3⟩ := ih.2 j h
        refine ⟨by omega, h2, fun i hi hb => ?_⟩
        by_cases e : i = n
        · rw [e, c] at hb; cases hb
        · exact h3 i (by omega) hb
    · rw [if_neg c]
      have c' : t.testBit n = false := by simpa using c
      cases hb : bsN C t n with
      | none =>
        refine ⟨(by intro h; cases h), ?_⟩
        intro j h
        cases h
        refine ⟨by omega, c', fun i hi hti => ?_⟩
        by_cases e : i = n
        · rw [e]; exact Nat.le_refl _
        · rw [ih.1 hb i (by omega)] at hti; cases hti
      | some j0 =>
        obtain ⟨h1, h2, h3⟩ := ih.2 j0 hb
        by_cases d : C n ≤ C j0
        · simp only [d, if_true]
          refine ⟨(by intro h; cases h), ?_⟩
          intro j h
          cases h
          refine ⟨by omega, h2, fun i hi hti => ?_⟩
          by_cases e : i = n
          · rw [e]; exact d
          · exact h3 i (by omega) hti
        · simp only [d, if_false]
          refine ⟨(by intro h; cases h), ?_⟩
          intro j h
          cases h
          refine ⟨by omega, c', fun i hi hti => ?_⟩
          by_cases e : i = n
          · rw [e]; exact Nat.le_refl _
          · have := h3 i (by omega) hti; omega
def fwP (C : Nat → Nat) (N H : Nat) (r : Int32) : Prop := (r = -1 ∧ ∀ b, b < 2 ^ H → okB C N H b = false) ∨ ∃ m b, r = Int32.ofNat m ∧ 1 ≤ m ∧ m ≤ H ∧ 1 ≤ b ∧ b < 2 ^ H ∧ okB C N H b = true ∧ cd b H = m ∧ ∀ b', okB C N H b' = true → m ≤ cd b' H
theorem oI_m1 {o : Option Nat} {H : Nat} (h : ∀ j, o = some j → j < H) (hH : H ≤ 12) : (oI o = -1 ↔ o = none) := by
  cases o with
  | none => exact ⟨fun _ => rfl, fun _ => rfl⟩
  | some j => exact ⟨fun z => absurd z (of_ne_m1 (by have := h j rfl; omega)), fun z => by cases z⟩
set_option maxHeartbeats 1000000 in
set_option maxRecDepth 10000 in
theorem fewest_x {S : St} {C K : Nat → Nat} {H N : Nat} (h : SH S) (k : PK S C K H) (kb : PKb C K H N) : Rn (fX4_fewestFor 23 (Int32.ofNat N) S) (fun r S' => S' = S ∧ fwP C N H r) := by
  obtain ⟨b1, b2, b3, b4, b5⟩ := kb
  have hpw := pow12 b1
  unfold fX4_fewestFor
  refine w_for (mk := fun (x : Int32 × Int32) i => (23, Int32.ofNat N, x.1, x.2, i)) (a := (0, 0)) 1 (H + 1) (fun i x S' => S' = S ∧ ∃ t θ, t < 2 ^ H ∧ x.1 = Int32.ofNat t ∧ x.2 = Int32.ofNat (smN C t H) ∧ cd t H = i - 1 ∧ smN C t H < N ∧ (∀ j, j < H → t.testBit j = true → θ ≤ C j) ∧ ∀ j, j < H → t.testBit j = false → C j ≤ θ) (by omega) (by omega) ⟨rfl, 0, 1000, Nat.two_pow_pos H, rfl, ?_, ?_, ?_, (fun j _ hb => by rw [Nat.zero_testBit] at hb; cases hb), fun j hj _ => b2 j hj⟩ ?_ ?_
  · have : ∀ n, smN C 0 n = 0 := by
      intro n
      induction n with
      | zero => rfl
      | succ n ih => rw [smN, ih, Nat.zero_testBit]; rfl
    rw [this]; rfl
  · have : ∀ n, cd 0 n = 0 := fun n => by rw [← cd_pcf, pcf_0]
    rw [this]
  · have : ∀ n, smN C 0 n = 0 := by
      intro n
      induction n with
      | zero => rfl
      | succ n ih => rw [smN, ih, Nat.zero_testBit]; rfl
    rw [this]; omega
  · rintro kk ⟨x, y⟩ S' ⟨rfl, t, θ, ht, hx, hy, hcd, hlt, h1, h2⟩ hge
    dsimp only [fX4_fewestFor_7] at hx hy ⊢
    refine w_gIe (SH_K23 h) k.1 (w_bt (by rw [lt_ofNat (by omega) (by omega)]; omega) (w_rt ⟨rfl, Or.inl ⟨rfl, fun b hb => ?_⟩⟩))
    have := ex_le2 (b := b) h1 h2 (by have := cd_le b H; omega)
    unfold okB
    rw [decide_eq_false (by omega), Bool.and_false]
  · rintro i hi1 hi kk ⟨x, y⟩ S' ⟨rfl, t, θ, ht, hx, hy, hcd, hlt', h1, h2⟩ hlt hkk
    dsimp only [fX4_fewestFor_7] at hx hy ⊢
    subst hx
    subst hy
    refine w_gIe (SH_K23 h) k.1 (w_bf (by rw [lt_ofNat (by omega) (by omega)]; omega) ?_)
    have hbs := fun n => bsN_p (C := C) (t := t) n
    refine w_for (mk := fun (o : Int32) j => (23, Int32.ofNat N, Int32.ofNat t, Int32.ofNat (smN C t H), Int32.ofNat i, o, j)) (a := -1) 0 H (fun j o S2 => S2 = S' ∧ o = oI (bsN C t j)) (by omega) (by omega) ⟨rfl, rfl⟩ ?_ ?_
    · rintro k2 o S2 ⟨rfl, rfl⟩ hge
      dsimp only [fX4_fewestFor_22]
      refine w_gIe (SH_K23 h) k.1 (w_bt hge ?_)
      cases hb : bsN C t H with
      | none =>
        refine w_bt rfl (w_rt ⟨rfl, Or.inl ⟨rfl, fun b hb' => ?_⟩⟩)
        have := ex_all (C := C) (b := b) ((hbs H).1 hb) H (Nat.le_refl _)
        unfold okB
        rw [decide_eq_false (by omega), Bool.and_false]
      | some x =>
        obtain ⟨x1, x2, x3⟩ := (hbs H).2 x hb
        have hcx := k.2.1 x x1
        have hcb := b2 x x1
        have sset := sm_set (C := C) x2 H
        rw [if_pos x1, if_pos x1] at sset
        have htx : t ||| 2 ^ x < 2 ^ H := Nat.or_lt_two_pow ht (Nat.pow_lt_pow_right (by omega) x1)
        have bit : ∀ j, (t ||| 2 ^ x).testBit j = (t.testBit j || decide (x = j)) := fun j => by rw [Nat.testBit_or, Nat.testBit_two_pow]
        have h1' : ∀ j, j < H → (t ||| 2 ^ x).testBit j = true → C x ≤ C j := fun j hj hb => by
          rw [bit] at hb
          by_cases e : x = j
          · rw [e]; exact Nat.le_refl _
          · have : t.testBit j = true := by simpa [e] using hb
            have := h1 j hj this
            have := h2 x x1 x2
            omega
        have h2' : ∀ j, j < H → (t ||| 2 ^ x).testBit j = false → C j ≤ C x := fun j hj hb => by
          rw [bit] at hb
          have : t.testBit j = false := by
            cases hq : t.testBit j
            · rfl
            · rw [hq] at hb; cases hb
          exact x3 j hj this
        refine w_bf (of_ne_m1 (by omega)) (w_gR (SH_K23 h) (SH_R23_4 h) (w_nn (w_aIe (n := x) (SH_K24 h) rfl (SH_L24 h) (by omega) hcx ?_)))
        rw [show oI (some x) = Int32.ofNat x from rfl, and31 x (by omega), shl1 x (by omega), or_of, add_of]
        refine w_br (fun c => ?_) (fun c => ?_)
        · rw [lt_ofNat (by omega) (by omega)] at c
          refine hkk (Int32.ofNat (t ||| 2 ^ x), Int32.ofNat (smN C t H + C x)) _ ⟨rfl, t ||| 2 ^ x, C x, htx, rfl, by dsimp only; rw [sset.1], by omega, by omega, h1', h2'⟩
        · rw [lt_ofNat (by omega) (by omega)] at c
          refine w_rt ⟨rfl, Or.inr ⟨i, t ||| 2 ^ x, rfl, hi1, by omega, ?_, htx, ?_, by omega, fun b' hb' => ?_⟩⟩
          · apply Nat.pos_of_ne_zero
            intro z
            have := bit x
            rw [z, Nat.zero_testBit] at this
            simp at this
          · unfold okB
            have : posB C (t ||| 2 ^ x) H = true := (posB_i H).mpr (fun j hj hb => by have := h1' j hj hb; omega)
            rw [this, decide_eq_true (by omega)]; rfl
          · rcases Nat.lt_or_ge (cd b' H) i with z | z
            · exfalso
              have := ex_le2 (b := b') h1 h2 (by omega)
              unfold okB at hb'
              rw [decide_eq_false (by omega), Bool.and_false] at hb'
              cases hb'
            · exact z
    · rintro j - hj k2 o S2 ⟨rfl, rfl⟩ hlt2 hk2
      dsimp only [fX4_fewestFor_22, fX4_fewestFor_63, fX4_fewestFor_67]
      refine w_gIe (SH_K23 h) k.1 (w_bf hlt2 (w_cl (inSet_x (by omega) _) (w_z (fun c => hk2 _ _ ⟨rfl, by rw [bsN, if_pos c]⟩) (fun c => ?_))))
      have cn : ¬ t.testBit j = true := by rw [c]; decide
      cases hb : bsN C t j with
      | none =>
        refine w_bt rfl (hk2 _ _ ⟨rfl, ?_⟩)
        rw [bsN, if_neg cn, hb]; rfl
      | some x =>
        obtain ⟨x1, x2, x3⟩ := (hbs j).2 x hb
        have hcx := k.2.1 x (by omega)
        have hcj := k.2.1 j hj
        have q1 := b2 x (by omega)
        have q2 := b2 j hj
        refine w_bf (of_ne_m1 (by omega)) (w_gR (SH_K23 h) (SH_R23_4 h) (w_nn (w_aIe (n := j) (SH_K24 h) rfl (SH_L24 h) (by omega) hcj (w_gR (SH_K23 h) (SH_R23_4 h) (w_nn (w_aIe (n := x) (SH_K24 h) rfl (SH_L24 h) (by omega) hcx (w_br (fun d => hk2 _ _ ⟨rfl, ?_⟩) (fun d => hk2 _ _ ⟨rfl, ?_⟩))))))))
        · rw [le_ofNat (by omega) (by omega)] at d
          rw [bsN, if_neg cn, hb]
          simp only [d, if_true]
        · rw [le_ofNat (by omega) (by omega)] at d
          rw [bsN, if_neg cn, hb]
          simp only [d, if_false]
          rfl
