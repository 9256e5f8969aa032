-- even: the class
theorem mul_b {w t : Nat} (hw : w ≤ 3000) (ht : t ≤ 9999) : w * t ≤ 29997000 := by
  have := Nat.mul_le_mul hw ht
  omega
theorem lr_x {w t : Nat} (hw : w ≤ 3000) (ht : t ≤ 9999) (S : St) : fX1_leastRateFor (Int32.ofNat w) (Int32.ofNat t) S = some (Int32.ofNat (evL w t), S) := by
  have hb := mul_b hw ht
  apply Rn.eq
  unfold fX1_leastRateFor
  refine w_dv (by decide) (w_rt ⟨?_, rfl⟩)
  rw [mul_of, show (3600 : Int32) = Int32.ofNat 3600 from rfl, show (1 : Int32) = Int32.ofNat 1 from rfl, add_of, sub_of (by omega), div_of (by omega) (by omega)]
  unfold evL
  congr 1
theorem near_x {S : St} {w g t r : Nat} (h : SH S) (hg : sI S 27 2 = Int32.ofNat g) (hw : w ≤ 2000) (hg9 : g ≤ 99) (ht : 1 ≤ t ∧ t ≤ 9999) (hr : r ≤ 9999) : fX1_nearestRate 27 (Int32.ofNat w) (Int32.ofNat t) (Int32.ofNat r) S = some (if evL w t ≤ evH w g t then Int32.ofNat (evR w g t r) else -1, S) := by
  have hb := mul_b (w := w) (t := t) (by omega) ht.2
  have hb2 := mul_b (w := w + g + 1) (t := t) (by omega) ht.2
  have hpos : 1 ≤ (w + g + 1) * t := Nat.mul_pos (by omega) (by omega)
  have l1 : evL w t < 2 ^ 31 := by unfold evL; omega
  have l2 : evL (w + g + 1) t < 2 ^ 31 := by unfold evL; omega
  have l3 : 1 ≤ evL (w + g + 1) t := by unfold evL; omega
  have eH : min 9999 (evL (w + g + 1) t - 1) = evH w g t := by
    unfold evH evL
    congr 1
    omega
  have lH : evH w g t ≤ 9999 := by unfold evH; omega
  apply Rn.eq
  unfold fX1_nearestRate
  refine w_cl (lr_x (by omega) ht.2 S) (w_gIe (SH_K27 h) hg ?_)
  rw [add_of, show (1 : Int32) = Int32.ofNat 1 from rfl, add_of]
  refine w_cl (lr_x (by omega) ht.2 S) ?_
  rw [sub_of l3, show (9999 : Int32) = Int32.ofNat 9999 from rfl, mn_of (by omega) (by omega), eH, mn_of (by omega) (by omega), mx_of l1 (by omega)]
  refine w_br (fun c => w_rt ⟨?_, rfl⟩) (fun c => w_rt ⟨?_, rfl⟩)
  · rw [le_ofNat (by omega) l1] at c
    rw [if_pos c]; rfl
  · rw [le_ofNat (by omega) l1] at c
    rw [if_neg c]
/-- rates, times and gap at hand -/
def EK (S : St) (T R : Nat → Nat) (g : Nat) : Prop := (∀ s, s < 6 → sI S 28 s = Int32.ofNat (R s)) ∧ (∀ s, s < 6 → sI S 29 s = Int32.ofNat (T s)) ∧ sI S 27 2 = Int32.ofNat g
def EKb (T R : Nat → Nat) (g : Nat) : Prop := (∀ s, s < 6 → R s ≤ 9999) ∧ (∀ s, s < 6 → 1 ≤ T s ∧ T s ≤ 9999) ∧ g ≤ 99
set_option maxHeartbeats 1000000 in
set_option maxRecDepth 10000 in
theorem chg_x {S : St} {T R : Nat → Nat} {g w : Nat} (h : SH S) (k : EK S T R g) (b : EKb T R g) (hw : w ≤ 2000) : fX1_changeFor 27 (Int32.ofNat w) S = some (evI (evC T R w g 6), S) := by
  apply Rn.eq
  unfold fX1_changeFor
  refine w_for (mk := fun (x : Int32) i => (27, Int32.ofNat w, x, i)) (a := 0) 0 6 (fun i x S' => S' = S ∧ ∃ v, evC T R w g i = some v ∧ x = Int32.ofNat v) (by omega) (by omega) ⟨rfl, 0, rfl, rfl⟩ ?_ ?_
  · rintro kk x S' ⟨rfl, v, hv, rfl⟩ hge
    dsimp only [fX1_changeFor_4]
    exact w_bt hge (w_rt ⟨by rw [hv]; rfl, rfl⟩)
  · rintro i - hi kk x S' ⟨rfl, v, hv, rfl⟩ hlt hkk
    dsimp only [fX1_changeFor_4]
    have e := near_x h k.2.2 hw b.2.2 (b.2.1 i hi) (b.1 i hi)
    have a1 := k.1 i hi
    have a2 := k.2.1 i hi
    refine w_bf hlt (w_gR (SH_K27 h) (SH_R27_4 h) (w_nn (w_aIe (n := i) (SH_K29 h) rfl (SH_L29 h) (by omega) a2 (w_gR (SH_K27 h) (SH_R27_3 h) (w_nn (w_aIe (n := i) (SH_K28 h) rfl (SH_L28 h) (by omega) a1 (w_ck (SH_K27 h) (w_cl e ?_))))))))
    have hev : evC T R w g (i + 1) = if evL w (T i) ≤ evH w g (T i) then some (v + evD (evR w g (T i) (R i)) (R i)) else none := by rw [evC, hv]
    by_cases c : evL w (T i) ≤ evH w g (T i)
    · rw [if_pos c]
      rw [if_pos c] at hev
      have hr := evR_b (b.1 i hi) c
      have hR := b.1 i hi
      have e1 : ¬ Int32.ofNat (evR w g (T i) (R i)) = -1 := by
        intro q
        have := congrArg Int32.toInt q
        rw [toInt_ofNat (by omega), im1] at this
        omega
      refine w_bf e1 (w_gR (SH_K27 h) (SH_R27_3 h) (w_nn (w_aIe (n := i) (SH_K28 h) rfl (SH_L28 h) (by omega) a1 ?_)))
      rw [ab_of (by omega) (by omega), add_of]
      exact hkk _ _ ⟨rfl, _, hev, rfl⟩
    · rw [if_neg c]
      rw [if_neg c] at hev
      exact w_bt rfl (w_rt ⟨by rw [evC_none hev 6 (by omega)]; rfl, rfl⟩)
def hpN (T R : Nat → Nat) : Nat → Nat
  | 0 => 0
  | n + 1 => max (hpN T R n) (R n * 3600 / T n)
theorem hpN_le {T R : Nat → Nat} : ∀ n s, s < n → R s * 3600 / T s ≤ hpN T R n := by
  intro n
  induction n with
  | zero => intro s h; omega
  | succ n ih =>
    intro s h
    rw [hpN]
    by_cases e : s = n
    · subst e; omega
    · have := ih s (by omega); omega
theorem hpN_b {T R : Nat → Nat} (hR : ∀ s, s < 6 → R s ≤ 9999) : ∀ n, n ≤ 6 → hpN T R n ≤ 35996400 := by
  intro n
  induction n with
  | zero => intro _; rw [hpN]; omega
  | succ n ih =>
    intro h
    have h1 := ih (by omega)
    have h2 : R n * 3600 / T n ≤ R n * 3600 := Nat.div_le_self _ _
    have h3 := hR n (by omega)
    rw [hpN]
    omega
set_option maxHeartbeats 1000000 in
set_option maxRecDepth 10000 in
theorem hp_x {S : St} {T R : Nat → Nat} {g : Nat} (h : SH S) (k : EK S T R g) (b : EKb T R g) : fX1_highestPay 27 S = some (Int32.ofNat (hpN T R 6), S) := by
  apply Rn.eq
  unfold fX1_highestPay
  refine w_for (mk := fun (x : Int32) i => (27, x, i)) (a := 0) 0 6 (fun i x S' => S' = S ∧ x = Int32.ofNat (hpN T R i)) (by omega) (by omega) ⟨rfl, rfl⟩ ?_ ?_
  · rintro kk x S' ⟨rfl, rfl⟩ hge
    dsimp only [fX1_highestPay_4]
    exact w_bt hge (w_rt ⟨rfl, rfl⟩)
  · rintro i - hi kk x S' ⟨rfl, rfl⟩ hlt hkk
    dsimp only [fX1_highestPay_4, fX1_highestPay_41]
    have a1 := k.1 i hi
    have a2 := k.2.1 i hi
    obtain ⟨t1, t2⟩ := b.2.1 i hi
    have hR := b.1 i hi
    have hpb := hpN_b (T := T) b.1 i (by omega)
    have hd : R i * 3600 / T i ≤ R i * 3600 := Nat.div_le_self _ _
    have n0 : ¬ Int32.ofNat (T i) ≤ 0 := by rw [show (0 : Int32) = Int32.ofNat 0 from rfl, le_ofNat (by omega) (by omega)]; omega
    have n1 : Int32.ofNat (T i) ≠ 0 := by intro q; rw [show (0 : Int32) = Int32.ofNat 0 from rfl, eq_ofNat (by omega) (by omega)] at q; omega
    refine w_bf hlt (w_gR (SH_K27 h) (SH_R27_4 h) (w_nn (w_aIe (n := i) (SH_K29 h) rfl (SH_L29 h) (by omega) a2 (w_bf n0 (w_gR (SH_K27 h) (SH_R27_3 h) (w_nn (w_aIe (n := i) (SH_K28 h) rfl (SH_L28 h) (by omega) a1 (w_gR (SH_K27 h) (SH_R27_4 h) (w_nn (w_aIe (n := i) (SH_K29 h) rfl (SH_L29 h) (by omega) a2 (w_dv n1 ?_)))))))))))
    rw [show (3600 : Int32) = Int32.ofNat 3600 from rfl, mul_of, div_of (by omega) (by omega), mx_of (by omega) (by omega)]
    exact hkk _ _ ⟨rfl, rfl⟩
def bstP (o : Option (Nat × Nat)) (S : St) : Prop := match o with
  | none => sI S 27 0 = -1
  | some (w, l) => sI S 27 0 = Int32.ofNat w ∧ sI S 27 1 = Int32.ofNat l
theorem EK.s27 {S : St} {T R : Nat → Nat} {g j : Nat} (k : EK S T R g) (v : Int32) (hj : j ≠ 2) : EK (stI S 27 j v) T R g := ⟨fun s hs => by rw [st_ne (Or.inl (by omega))]; exact k.1 s hs, fun s hs => by rw [st_ne (Or.inl (by omega))]; exact k.2.1 s hs, by rw [st_ne (Or.inr (fun e => hj e.symm))]; exact k.2.2⟩
set_option maxHeartbeats 1000000 in
set_option maxRecDepth 10000 in
theorem find_x {S0 S : St} {T R : Nat → Nat} {g : Nat} (h : SH S) (hF : FX (fun b => b = 27 ∨ b = 28 ∨ b = 29 ∨ b = 30) S0 S) (k : EK S T R g) (b : EKb T R g) (z : sI S 27 0 = -1) : Rn (itr (fun k (p : Nat × Int32 × Int32 × Int32) => fX1_find_33 k p.1 p.2.1 p.2.2.1 p.2.2.2) FU (27, Int32.ofNat (hpN T R 6), 1, 1) S) (fun r S' => FX (fun b => b = 27 ∨ b = 28 ∨ b = 29 ∨ b = 30) S0 S' ∧ EK S' T R g ∧ bstP (evB T R g 2000) S' ∧ r = (evB T R g 2000).isSome) := by
  have hpb := hpN_b (T := T) b.1 6 (by omega)
  have fin : ∀ S', SH S' → FX (fun b => b = 27 ∨ b = 28 ∨ b = 29 ∨ b = 30) S0 S' → EK S' T R g → bstP (evB T R g 2000) S' → Rn (fX1_find_115 27 S') (fun r S' => FX (fun b => b = 27 ∨ b = 28 ∨ b = 29 ∨ b = 30) S0 S' ∧ EK S' T R g ∧ bstP (evB T R g 2000) S' ∧ r = (evB T R g 2000).isSome) := by
    intro S' hs hF' hk' hb'
    unfold fX1_find_115
    cases hE : evB T R g 2000 with
    | none =>
      rw [hE] at hb'
      exact w_gIe (SH_K27 hs) hb' (w_bt rfl (w_r0 ⟨hF', hk', hb', rfl⟩))
    | some q =>
      obtain ⟨w, l⟩ := q
      rw [hE] at hb'
      have hp := evB_p b.1 2000 w l hE
      have hb2 : sI S' 27 0 = Int32.ofNat w ∧ sI S' 27 1 = Int32.ofNat l := hb'
      have e1 : ¬ Int32.ofNat w = -1 := by
        intro q
        have := congrArg Int32.toInt q
        rw [toInt_ofNat (by omega), im1] at this
        omega
      exact w_gIe (SH_K27 hs) hb2.1 (w_bf e1 (w_r1 ⟨hF', hk', hb', rfl⟩))
  refine w_itr (fun n p S' => ∃ w f, 1 ≤ w ∧ w ≤ 2001 ∧ n + w = 2002 ∧ p = (27, Int32.ofNat (hpN T R 6), bi f, Int32.ofNat w) ∧ SH S' ∧ FX (fun b => b = 27 ∨ b = 28 ∨ b = 29 ∨ b = 30) S0 S' ∧ EK S' T R g ∧ bstP (evB T R g (w - 1)) S' ∧ (f = false → evB T R g 2000 = evB T R g (w - 1))) (fun p S ⟨w, f, h1, h2, h3, _⟩ => by omega) ?_ 2001 FU _ _ (by unfold FU; omega) ⟨1, true, by omega, by omega, by omega, rfl, h, hF, k, z, fun q => by cases q⟩
  rintro n kk p S' ⟨w, f, hw1, hw2, hn, rfl, hs, hF', hk', hb', hf⟩ hkk
  dsimp only [fX1_find_33]
  by_cases hw : w = 2001
  · subst hw
    refine w_bt (by rw [show (2000 : Int32) = Int32.ofNat 2000 from rfl, lt_ofNat (by omega) (by omega)]; omega) (fin S' hs hF' hk' hb')
  · refine w_bf (by rw [show (2000 : Int32) = Int32.ofNat 2000 from rfl, lt_ofNat (by omega) (by omega)]; omega) ?_
    cases f with
    | false =>
      refine w_bt rfl (fin S' hs hF' hk' ?_)
      rw [hf rfl]; exact hb'
    | true =>
      refine w_bf (by decide) (w_ck (SH_K27 hs) (w_cl (chg_x hs hk' b (w := w) (by omega)) ?_))
      have hs1 : evB T R g w = match evC T R w g 6 with
          | none => evB T R g (w - 1)
          | some v => match evB T R g (w - 1) with
            | none => some (w, v)
            | some (w0, l) => if v < l then some (w, v) else some (w0, l) := by
        obtain ⟨m, rfl⟩ : ∃ m, w = m + 1 := ⟨w - 1, by omega⟩
        rw [Nat.add_sub_cancel]
        exact evB_s
      -- what follows the choice
      have nxt : ∀ (x : Option Nat) (T' : St), x = evC T R w g 6 → SH T' → FX (fun b => b = 27 ∨ b = 28 ∨ b = 29 ∨ b = 30) S0 T' → EK T' T R g → bstP (evB T R g w) T' → Rn (fX1_find_89 kk 27 (Int32.ofNat (hpN T R 6)) (Int32.ofNat w) (evI x) T') (fun r S' => FX (fun b => b = 27 ∨ b = 28 ∨ b = 29 ∨ b = 30) S0 S' ∧ EK S' T R g ∧ bstP (evB T R g 2000) S' ∧ r = (evB T R g 2000).isSome) := by
        intro x T' hx hs' hF2 hk2 hb2
        unfold fX1_find_89 fX1_find_102 fX1_find_107
        have go : ∀ f : Bool, (f = false → evB T R g 2000 = evB T R g w) → Rn (kk (27, Int32.ofNat (hpN T R 6), bi f, Int32.ofNat w + 1) T') (fun r S' => FX (fun b => b = 27 ∨ b = 28 ∨ b = 29 ∨ b = 30) S0 S' ∧ EK S' T R g ∧ bstP (evB T R g 2000) S' ∧ r = (evB T R g 2000).isSome) := fun f hff => hkk _ _ ⟨w + 1, f, by omega, by omega, by omega, by rw [succ32], hs', hF2, hk2, hb2, hff⟩
        cases x with
        | none => exact w_bt rfl (go true (fun q => by cases q))
        | some v =>
          have hv := evC_b (w := w) (g := g) b.1 6 (by omega) v hx.symm
          have e1 : ¬ evI (some v) = -1 := by
            intro q
            have q' : Int32.ofNat v = -1 := q
            have := congrArg Int32.toInt q'
            rw [toInt_ofNat (by omega), im1] at this
            omega
          refine w_bf e1 (w_br (fun c => go false (fun _ => ?_)) (fun c => go true (fun q => by cases q)))
          rw [lt_ofNat (by omega) (by omega)] at c
          refine (evB_stop (w := w) (v := v) (fun s hs6 => ?_) hx.symm hw1 2000 (by omega)).1
          have h1 := hpN_le (T := T) (R := R) 6 s hs6
          have ht := (b.2.1 s hs6).1
          exact (Nat.div_lt_iff_lt_mul (by omega)).mp (by omega)
      cases hx : evC T R w g 6 with
      | none =>
        rw [hx] at hs1
        refine w_bt rfl (nxt none S' hx.symm hs hF' hk' ?_)
        rw [hs1]; exact hb'
      | some v =>
        rw [hx] at hs1
        have hv := evC_b (w := w) (g := g) b.1 6 (by omega) v hx
        have e1 : ¬ evI (some v) = -1 := by
          intro q
          have q' : Int32.ofNat v = -1 := q
          have := congrArg Int32.toInt q'
          rw [toInt_ofNat (by omega), im1] at this
          omega
        have take : evB T R g w = some (w, v) → Rn (fX1_find_77 kk 27 (Int32.ofNat (hpN T R 6)) (Int32.ofNat w) (evI (some v)) S') (fun r S' => FX (fun b => b = 27 ∨ b = 28 ∨ b = 29 ∨ b = 30) S0 S' ∧ EK S' T R g ∧ bstP (evB T R g 2000) S' ∧ r = (evB T R g 2000).isSome) := by
          intro he
          unfold fX1_find_77
          refine w_pI (SH_K27 hs) (w_pI (show sK (stI S' 27 0 _) 27 = 2 from SH_K27 hs) (nxt (some v) _ hx.symm hs ((hF'.stI _ (Or.inl rfl)).stI _ (Or.inl rfl)) ((hk'.s27 _ (by omega)).s27 _ (by omega)) ?_))
          rw [he]
          exact ⟨by rw [st_ne (Or.inr (by omega)), st_get], st_get⟩
        refine w_bf e1 ?_
        cases hE : evB T R g (w - 1) with
        | none =>
          rw [hE] at hb' hs1
          exact w_gIe (SH_K27 hs) hb' (w_bt rfl (take hs1))
        | some q =>
          obtain ⟨w0, l⟩ := q
          rw [hE] at hs1
          have hb2 : sI S' 27 0 = Int32.ofNat w0 ∧ sI S' 27 1 = Int32.ofNat l := by rw [hE] at hb'; exact hb'
          have hp := evB_p b.1 (w - 1) w0 l hE
          have e2 : ¬ Int32.ofNat w0 = -1 := by
            intro q
            have := congrArg Int32.toInt q
            rw [toInt_ofNat (by omega), im1] at this
            omega
          refine w_gIe (SH_K27 hs) hb2.1 (w_bf e2 (w_gIe (SH_K27 hs) hb2.2 (w_br (fun c => ?_) (fun c => ?_))))
          · have c' : Int32.ofNat l ≤ Int32.ofNat v := c
            rw [le_ofNat (by omega) (by omega)] at c'
            refine nxt (some v) S' hx.symm hs hF' hk' ?_
            simp only [show ¬ v < l by omega, if_false] at hs1
            rw [hs1]; exact hb2
          · have c' : ¬ Int32.ofNat l ≤ Int32.ofNat v := c
            rw [le_ofNat (by omega) (by omega)] at c'
            simp only [show v < l by omega, if_true] at hs1
            exact take hs1
