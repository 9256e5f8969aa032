-- bill
def blC (al : Nat → Int32) (p : Nat) (x : Int32) (B : Nat → Int32) (topic : Int32) (i : Nat) (t : Int32) : Int32 := t + (((al (23 + 27 * p + i)).toInt64 * (termF al (askA (Int32.ofNat (i / 4)) (Int32.ofNat (i % 4)) B) x topic).toInt64) / 100).toInt32
def blN (al : Nat → Int32) (p : Nat) (x : Int32) (B : Nat → Int32) (topic : Int32) (n : Nat) : Int32 := fo (blC al p x B topic) 0 n
theorem blN_s (al : Nat → Int32) (p : Nat) (x : Int32) (B : Nat → Int32) (topic : Int32) (n : Nat) : blN al p x B topic (n + 1) = blC al p x B topic n (blN al p x B topic n) := rfl
def bX (al : Nat → Int32) (g : Nat) (k : Int32) : Int32 := lsF al (al (5360 + 28 * g)) (Int32.ofNat (nat (al (5363 + 28 * g)) / 7)) k
def bB (al : Nat → Int32) (g : Nat) (sp : Int32) : Nat → Int32 := bsB al (nat (al (5361 + 28 * g))) (nat (al (5362 + 28 * g))) (nat (al (5363 + 28 * g)) / 7) sp
def bT (al : Nat → Int32) (g : Nat) (k sp : Int32) : Int32 := blN al (nat (al (5361 + 28 * g))) (bX al g k) (bB al g sp) 1 24
def bE (al : Nat → Int32) (g : Nat) (k sp : Int32) : Int32 := blN al (nat (al (5361 + 28 * g))) (bX al g k) (bB al g sp) 0 24
def bD (al : Nat → Int32) (g : Nat) (k sp : Int32) : Int32 := al (5363 + 28 * g) + termF al (askA 9 9 (bB al g sp)) (bX al g k) 4
def bF (al : Nat → Int32) (g : Nat) (k inn sp : Int32) : Int32 := if 0 ≤ inn then mnI (sp * termF al (askA 9 9 (bB al g sp)) (bX al g k) 2 + mxI 0 (inn - bD al g k sp) * termF al (askA 9 9 (bB al g sp)) (bX al g k) 3) (bE al g k sp) else 0
def bP (al : Nat → Int32) (g : Nat) (k inn sp : Int32) : Int32 := if 0 ≤ inn then ((bE al g k sp - bF al g k inn sp).toInt64 * (termF al (askA 9 9 (bB al g sp)) (bX al g k) 5).toInt64 / 100).toInt32 else 0
theorem lg_pos {v : Int32} (h : 0 ≤ v) (c : lg_cmp v.toInt64 0 ≤ 0) : v = 0 := by
  by_cases e : v = 0
  · exact e
  · exfalso
    have hv : 0 < v.toInt := by
      have h1 := le_i.mp h
      rw [i0] at h1
      have h2 : v.toInt ≠ 0 := fun q => e (eq_i.mpr (by rw [q, i0]))
      omega
    have h3 : v.toInt64.toInt = v.toInt := Int32.toInt_toInt64 v
    have h4 : (0 : Int64) < v.toInt64 := by
      rw [Int64.lt_iff_toInt_lt, h3]
      exact hv
    unfold lg_cmp at c
    rw [if_pos h4] at c
    exact absurd c (by decide)
theorem bl_zero (t : Int64) (s : Int32) : s + (((0 : Int32).toInt64 * t) / 100).toInt32 = s := by
  have : (0 : Int32).toInt64 = 0 := rfl
  rw [this, Int64.zero_mul]
  show s + ((0 : Int64) / 100).toInt32 = s
  rw [show ((0 : Int64) / 100).toInt32 = 0 by decide, Int32.add_zero]
theorem fstB_lt {P : Nat → Bool} {k : Nat} : ∀ n, fstB P n = some k → k < n := by
  intro n
  induction n with
  | zero => intro h; cases h
  | succ n ih =>
    intro h
    rw [fstB] at h
    cases hf : fstB P n with
    | some j => rw [hf] at h; cases h; have := ih hf; omega
    | none =>
      rw [hf] at h
      by_cases c : P n = true
      · simp only [c, if_true] at h; cases h; omega
      · simp only [c] at h; cases h
theorem woF_b (t : Int32) : 0 ≤ (woF t).toInt ∧ (woF t).toInt ≤ 9999 := by
  unfold woF
  by_cases c0 : t = 0
  · rw [if_pos c0]; decide
  · by_cases c1 : t = 1
    · rw [if_neg c0, if_pos c1]; decide
    · by_cases c4 : t = 4
      · rw [if_neg c0, if_neg c1, if_pos c4]; decide
      · rw [if_neg c0, if_neg c1, if_neg c4]; decide
theorem termF_b {al A : Nat → Int32} (h5 : OK al) {x : Int32} (hx : x = -1 ∨ ∃ l, l < nat (al 1) ∧ l < 10 ∧ x = Int32.ofNat l) (t : Int32) : 0 ≤ (termF al A x t).toInt ∧ (termF al A x t).toInt ≤ 9999 := by
  rcases hx with rfl | ⟨l, hl, hl10, rfl⟩
  · unfold termF
    rw [if_pos (by decide)]
    exact woF_b t
  · unfold termF tmF
    rw [if_neg (nonneg_lt (by omega)), nat_ofNat (by omega)]
    cases hf : fstB (lnP al A l t) (nat (al (243 + 320 * l))) with
    | none => exact woF_b t
    | some k =>
      have hk := fstB_lt _ hf
      obtain ⟨b1, b2⟩ := ((h5.2.2.2.2.1 l hl).2.2.2.2 k hk).2.1
      have c1 := le_i.mp b1
      have c2 := le_i.mp b2
      rw [i0] at c1
      rw [show (9999 : Int32).toInt = 9999 from rfl] at c2
      exact ⟨c1, c2⟩
-- the class's
def RK (S0 S : St) (B : Nat → Int32) : Prop := FX (fun b => b = 21 ∨ b = 22) S0 S ∧ ∀ j, 2 ≤ j → j < 8 → sI S 22 j = B j
theorem RK.cv {S0 S : St} {B al : Nat → Int32} (h : RK S0 S B) (hc : CV al S0) : CV al S := CV_X hc h.1 (fun a ha => by unfold XC; omega)
theorem RK.s21 {S0 S : St} {B : Nat → Int32} (h : RK S0 S B) {j : Nat} (v : Int32) : RK S0 (stI S 21 j v) B := ⟨h.1.stI v (Or.inl rfl), fun i h1 h2 => by rw [st_ne (Or.inl (by omega))]; exact h.2 i h1 h2⟩
theorem RK.s22 {S0 S : St} {B : Nat → Int32} (h : RK S0 S B) {j : Nat} (v : Int32) (hj : j < 2) : RK S0 (stI S 22 j v) B := ⟨h.1.stI v (Or.inr rfl), fun i h1 h2 => by rw [st_ne (Or.inr (by omega))]; exact h.2 i h1 h2⟩
theorem RK.term {S0 S : St} {B al : Nat → Int32} (h : RK S0 S B) (hc : CV al S0) {d w k : Int32} (hr : sR S0 21 5 = lsR S0 (lsF al d w k)) {st co : Int32} (h0 : sI S 22 0 = st) (h1 : sI S 22 1 = co) (topic : Int32) {Rt : Type} {Q : Rt → St → Prop} {f : Int32 → St → Option (Rt × St)} (hf : Rn (f (termF al (askA st co B) (lsF al d w k) topic) S) Q) : Rn ((gR 1 21 5 fun v1 => gR 1 21 6 fun v2 => cl (fX11_termOf v1 topic v2) f) S) Q := by
  have cv := h.cv hc
  have e := termOf_x cv (a := 22) (SH_K22 cv.1) (SH_L22 cv.1) d w k topic
  rw [termF_c (A' := askA st co B) (fun j hj => ?_)] at e
  · refine w_gR (v := lsR S (lsF al d w k)) (SH_K21 cv.1) ?_ (w_gR (SH_K21 cv.1) (SH_R21_6 cv.1) (w_cl e hf))
    rw [h.1.2.2.1, hr, lsR_fr h.1.fr]
  · rcases (show j = 0 ∨ j = 1 ∨ 2 ≤ j by omega) with rfl | rfl | h2
    · rw [h0]; rfl
    · rw [h1]; rfl
    · rw [h.2 j h2 hj]
      unfold askA
      rw [if_neg (by omega), if_neg (by omega)]
set_option maxHeartbeats 1000000 in
set_option maxRecDepth 10000 in
theorem stitches_x {S0 S : St} {B al : Nat → Int32} {d w k : Int32} {p qp : Nat} (h : RK S0 S B) (hc : CV al S0) (hr : sR S0 21 5 = lsR S0 (lsF al d w k)) (hT : TSh S0 qp) (rT : PRel al p qp S0) (ho : ∀ i, i < 24 → 0 ≤ al (23 + 27 * p + i)) (z0 : sI S 21 0 = 0) (z1 : sI S 21 1 = 0) (z3 : sI S 21 3 = 0) (z4 : sI S 21 4 = 0) : Rn (fX0_reckonStitches 21 (some qp) S) (fun _ S' => RK S0 S' B ∧ sI S' 21 0 = blN al p (lsF al d w k) B 1 24 ∧ sI S' 21 1 = blN al p (lsF al d w k) B 0 24 ∧ sI S' 21 3 = 0 ∧ sI S' 21 4 = 0) := by
  have gp := hT.ge
  unfold fX0_reckonStitches
  refine w_for (mk := fun (b : Unit) s => (21, some qp, s)) (a := ()) 0 6 (fun s _ S' => RK S0 S' B ∧ sI S' 21 0 = blN al p (lsF al d w k) B 1 (4 * s) ∧ sI S' 21 1 = blN al p (lsF al d w k) B 0 (4 * s) ∧ sI S' 21 3 = 0 ∧ sI S' 21 4 = 0) (by omega) (by omega) ⟨h, z0, z1, z3, z4⟩ ?_ ?_
  · rintro kk b S' hJ hge
    dsimp only [fX0_reckonStitches_2]
    exact w_bt hge (w_rt hJ)
  · rintro s - hs kk b S' hJ hlt hkk
    dsimp only [fX0_reckonStitches_2]
    refine w_bf hlt ?_
    refine w_for (mk := fun (b : Unit) c => (21, some qp, Int32.ofNat s, c)) (a := ()) 0 4 (fun c _ S' => RK S0 S' B ∧ sI S' 21 0 = blN al p (lsF al d w k) B 1 (4 * s + c) ∧ sI S' 21 1 = blN al p (lsF al d w k) B 0 (4 * s + c) ∧ sI S' 21 3 = 0 ∧ sI S' 21 4 = 0) (by omega) (by omega) hJ ?_ ?_
    · rintro k2 b2 S2 hJ2 hge
      dsimp only [fX0_reckonStitches_10]
      exact w_bt hge (hkk () _ hJ2)
    · rintro c - hcc k2 b2 S2 ⟨r1, t0, t1, t3, t4⟩ hlt2 hk2
      dsimp only [fX0_reckonStitches_10, fX0_reckonStitches_105]
      have hs2 : SH S2 := (r1.cv hc).1
      have hT2 : TSh S2 qp := by
        unfold TSh at hT ⊢
        rw [r1.1.1, r1.1.1, r1.1.2.1, r1.1.2.2.1, r1.1.2.2.2.1]
        exact hT
      have rT2 := PRel_of (al' := al) rT (fun j => r1.1.2.2.2.2.2 qp j (by omega)) (fun j => r1.1.2.2.2.2.2 (qp + 1) j (by omega)) (fun _ _ => rfl)
      have e := countOf_eq hT2 rT2 (s := s) (c := c) hs hcc
      have hdiv : (4 * s + c) / 4 = s := by omega
      have hmod : (4 * s + c) % 4 = c := by omega
      refine w_bf hlt2 (w_nn (w_ck hT2.k0 (w_cl e (w_br (fun c0 => hk2 () _ ?_) (fun c0 => ?_)))))
      · have hz := lg_pos (ho _ (by omega)) c0
        refine ⟨r1, ?_, ?_, t3, t4⟩
        · rw [t0, show 4 * s + (c + 1) = (4 * s + c) + 1 by omega, blN_s, blC, hz, bl_zero]
        · rw [t1, show 4 * s + (c + 1) = (4 * s + c) + 1 by omega, blN_s, blC, hz, bl_zero]
      · have k21 : sK S2 21 = 1 := SH_K21 hs2
        have k22 : sK S2 22 = 15 := SH_K22 hs2
        have l22 : sL S2 22 = 8 := SH_L22 hs2
        refine w_gR k21 (SH_R21_6 hs2) (w_nn (w_wI (n := 0) k22 rfl l22 (by omega) (w_gR (show sK (stI S2 22 0 _) 21 = 1 from k21) (show sR (stI S2 22 0 _) 21 6 = some 22 from SH_R21_6 hs2) (w_nn (w_wI (n := 1) (show sK (stI S2 22 0 _) 22 = 15 from k22) rfl (show sL (stI S2 22 0 _) 22 = 8 from l22) (by omega) ?_)))))
        have r2 := (r1.s22 (j := 0) (Int32.ofNat s) (by omega)).s22 (j := 1) (Int32.ofNat c) (by omega)
        have u0 : sI (stI (stI S2 22 0 (Int32.ofNat s)) 22 1 (Int32.ofNat c)) 22 0 = Int32.ofNat s := by rw [st_ne (Or.inr (by omega)), st_get]
        have u1 : sI (stI (stI S2 22 0 (Int32.ofNat s)) 22 1 (Int32.ofNat c)) 22 1 = Int32.ofNat c := st_get
        have v0 : ∀ j, sI (stI (stI S2 22 0 (Int32.ofNat s)) 22 1 (Int32.ofNat c)) 21 j = sI S2 21 j := fun j => by rw [st_ne (Or.inl (by omega)), st_ne (Or.inl (by omega))]
        generalize stI (stI S2 22 0 (Int32.ofNat s)) 22 1 (Int32.ofNat c) = T2 at r2 u0 u1 v0 ⊢
        have hT2s : SH T2 := (r2.cv hc).1
        refine w_gIe (SH_K21 hT2s) ((v0 0).trans t0) (r2.term hc hr u0 u1 1 (w_dvJ (by decide) (w_pI (SH_K21 hT2s) ?_)))
        have r3 := r2.s21 (j := 0) (blN al p (lsF al d w k) B 1 (4 * s + c) + ((al (23 + 27 * p + (4 * s + c))).toInt64 * (termF al (askA (Int32.ofNat s) (Int32.ofNat c) B) (lsF al d w k) 1).toInt64 / 100).toInt32)
        have w1 : ∀ X, sI (stI T2 21 0 X) 21 1 = blN al p (lsF al d w k) B 0 (4 * s + c) := fun X => by rw [st_ne (Or.inr (by omega))]; exact (v0 1).trans t1
        have w2 : ∀ X, sI (stI T2 21 0 X) 22 0 = Int32.ofNat s := fun X => by rw [st_ne (Or.inl (by omega))]; exact u0
        have w3 : ∀ X, sI (stI T2 21 0 X) 22 1 = Int32.ofNat c := fun X => by rw [st_ne (Or.inl (by omega))]; exact u1
        refine w_gIe (show sK (stI T2 21 0 _) 21 = 1 from SH_K21 hT2s) (w1 _) (r3.term hc hr (w2 _) (w3 _) 0 (w_dvJ (by decide) (w_pI (show sK (stI T2 21 0 _) 21 = 1 from SH_K21 hT2s) (hk2 () _ ⟨r3.s21 _, ?_, ?_, ?_, ?_⟩))))
        · rw [st_ne (Or.inr (by omega)), st_get, show 4 * s + (c + 1) = (4 * s + c) + 1 by omega, blN_s, blC, hdiv, hmod]
        · rw [st_get, show 4 * s + (c + 1) = (4 * s + c) + 1 by omega, blN_s, blC, hdiv, hmod]
        · rw [st_ne (Or.inr (by omega)), st_ne (Or.inr (by omega))]; exact (v0 3).trans t3
        · rw [st_ne (Or.inr (by omega)), st_ne (Or.inr (by omega))]; exact (v0 4).trans t4
