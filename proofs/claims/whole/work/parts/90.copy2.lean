theorem w_wRo {Rt : Type} {S : St} {Q : Rt → St → Prop} {kd ek a n m : Nat} {v : Option Nat} {i : Int32} {k : St → Option (Rt × St)} (hk : sK S a = kd) (hb : ∀ b, v = some b → sK S b = ek) (hi : i = Int32.ofNat n) (hl : sL S a = m) (hn : n < m ∧ n < 2147483648) (h : Rn (k (stR S a n v)) Q) : Rn (wR kd ek a i v k S) Q := by
  cases v with
  | none => exact w_wRN hk hi hl hn h
  | some b => exact w_wR hk (hb b rfl) hi hl hn h
/-- the pool's form is kept -/
def KL (S S' : St) : Prop := (∀ a, sK S' a = sK S a) ∧ (∀ a, sL S' a = sL S a) ∧ sn S' = sn S ∧ sm S' = sm S
theorem WSh.r0 {S : St} {w : Nat} (h : WSh S w) : sR S w 0 = some (w + 1) := h.2.2.2.2.2.2.2.2.2.2.2.2.2.2.2.1
theorem WSh.r5 {S : St} {w : Nat} (h : WSh S w) : sR S w 5 = some (w + 2) := h.2.2.2.2.2.2.2.2.2.2.2.2.2.2.2.2.1
theorem WSh.r7 {S : St} {w : Nat} (h : WSh S w) : sR S w 7 = some (w + 3) := h.2.2.2.2.2.2.2.2.2.2.2.2.2.2.2.2.2.1
theorem WSh.r13 {S : St} {w : Nat} (h : WSh S w) : sR S w 13 = some (w + 6) := h.2.2.2.2.2.2.2.2.2.2.2.2.2.2.2.2.2.2.2.2.1
theorem WSh.r14 {S : St} {w : Nat} (h : WSh S w) : sR S w 14 = some (w + 7) := h.2.2.2.2.2.2.2.2.2.2.2.2.2.2.2.2.2.2.2.2.2
theorem WSh.k1 {S : St} {w : Nat} (h : WSh S w) : sK S (w + 1) = 14 := h.2.1
theorem WSh.k2 {S : St} {w : Nat} (h : WSh S w) : sK S (w + 2) = 19 := h.2.2.1
theorem WSh.k3 {S : St} {w : Nat} (h : WSh S w) : sK S (w + 3) = 21 := h.2.2.2.1
theorem WSh.k6 {S : St} {w : Nat} (h : WSh S w) : sK S (w + 6) = 15 := h.2.2.2.2.2.2.1
theorem WSh.k7 {S : St} {w : Nat} (h : WSh S w) : sK S (w + 7) = 15 := h.2.2.2.2.2.2.2.1
theorem WSh.l1 {S : St} {w : Nat} (h : WSh S w) : sL S (w + 1) = 400 := h.2.2.2.2.2.2.2.2.1
theorem WSh.l2 {S : St} {w : Nat} (h : WSh S w) : sL S (w + 2) = 8 := h.2.2.2.2.2.2.2.2.2.1
theorem WSh.l3 {S : St} {w : Nat} (h : WSh S w) : sL S (w + 3) = 10 := h.2.2.2.2.2.2.2.2.2.2.1
theorem WSh.l6 {S : St} {w : Nat} (h : WSh S w) : sL S (w + 6) = 6 := h.2.2.2.2.2.2.2.2.2.2.2.2.2.1
theorem WSh.l7 {S : St} {w : Nat} (h : WSh S w) : sL S (w + 7) = 3 := h.2.2.2.2.2.2.2.2.2.2.2.2.2.2.1
set_option maxHeartbeats 1000000 in
set_option maxRecDepth 10000 in
theorem cpL_x {S : St} {s d : Nat} (h1 : SH S) (hC : CS S) (hd : WL S d) (hs : WL S s) (hne : s ≠ d) : Rn (itr (fun k (p : Nat × Option Nat × Int32) => fX10_copyTexts_44 k p.1 p.2.1 p.2.2) FU (d, some s, 0) S) (fun _ S' => SH S' ∧ CS S' ∧ KL S S' ∧ (∀ a, a ≠ d + 3 → AG S S' a) ∧ ∀ k, k < 10 → sR S' (d + 3) k = sR S (s + 3) k) := by
  have hwd := WL_lt h1 hC hd
  have hws := WL_lt h1 hC hs
  have Wd0 := hC.2.2.1 d hd
  have Ws0 := hC.2.2.1 s hs
  have dW : ∀ j, j < 8 → s + j ≠ d + 3 := fun j hj => blk_ne Ws0.blk Wd0.blk hne hj (by omega)
  refine w_for (mk := fun (b : Unit) i => (d, some s, i)) (a := ()) 0 10 (fun i _ S' => SH S' ∧ CS S' ∧ KL S S' ∧ (∀ a, a ≠ d + 3 → AG S S' a) ∧ ∀ k, k < i → sR S' (d + 3) k = sR S (s + 3) k) (by omega) (by omega) ⟨h1, hC, ⟨fun _ => rfl, fun _ => rfl, rfl, rfl⟩, fun _ _ => AG.rfl, fun k hk => by omega⟩ ?_ ?_
  · rintro kk - S' hJ hge
    dsimp only [fX10_copyTexts_44]
    exact w_bt hge (w_rt hJ)
  · rintro i - hi kk - S' ⟨j1, j2, j3, j4, j5⟩ hlt hkk
    dsimp only [fX10_copyTexts_44]
    have wl : ∀ w, WL S' w ↔ WL S w := fun w => by
      unfold WL
      have : ∀ k, sR S' 9 k = sR S 9 k := (j4 9 (by omega)).2.2.2
      simp only [this]
    have Wd := j2.2.2.1 d ((wl d).mpr hd)
    have Ws := j2.2.2.1 s ((wl s).mpr hs)
    refine w_bf hlt (w_gR Wd.1 Wd.r7 (w_nn (w_gR Ws.1 Ws.r7 (w_nn (w_aR (n := i) Ws.k3 rfl Ws.l3 (by omega) rfl (w_nn ?_))))))
    refine w_wRo (n := i) Wd.k3 (fun b hb => (shL j2 ((wl s).mpr hs) hi hb).k0) rfl Wd.l3 (by omega) (hkk () _ ⟨SH_put j1 _ (by omega), ?_, ⟨j3.1, j3.2.1, j3.2.2.1, j3.2.2.2⟩, fun a ha => (j4 a ha).stR _ ha, fun k hk => ?_⟩)
    · refine CS_put j1 j2 ((wl d).mpr hd) (by omega) (fun z => by omega) ?_ (fun z => by omega) (fun z => by omega)
      rintro - q hq
      exact shL j2 ((wl s).mpr hs) hi hq
    · rw [sR_stR]
      by_cases e : k = i
      · subst e; rw [if_pos ⟨rfl, rfl⟩]; exact (j4 (s + 3) (dW 3 (by omega))).2.2.2 k
      · rw [if_neg (fun z => e z.2)]; exact j5 k (by omega)
set_option maxHeartbeats 1000000 in
set_option maxRecDepth 10000 in
theorem texts_x {S : St} {s d : Nat} (h1 : SH S) (hC : CS S) (hd : WL S d) (hs : WL S s) (hne : s ≠ d) : Rn (fX10_copyTexts d (some s) S) (fun _ S' => SH S' ∧ CS S' ∧ KL S S' ∧ (∀ a, a ≠ d → a ≠ d + 2 → a ≠ d + 3 → AG S S' a) ∧ (sI S' d 6 = sI S s 6 ∧ sI S' d 8 = sI S s 8 ∧ (∀ j, j ≠ 6 → j ≠ 8 → sI S' d j = sI S d j) ∧ ∀ j, sR S' d j = sR S d j) ∧ (∀ k, k < 8 → sR S' (d + 2) k = sR S (s + 2) k) ∧ ∀ k, k < 10 → sR S' (d + 3) k = sR S (s + 3) k) := by
  have hwd := WL_lt h1 hC hd
  have hws := WL_lt h1 hC hs
  have Wd0 := hC.2.2.1 d hd
  have Ws0 := hC.2.2.1 s hs
  have dW : ∀ j j', j < 8 → j' < 8 → s + j ≠ d + j' := fun j j' hj hj' => blk_ne Ws0.blk Wd0.blk hne hj hj'
  have hn0 := dW 0 0 (by omega) (by omega)
  unfold fX10_copyTexts
  refine w_nn (w_gI Ws0.1 (w_pI Wd0.1 ?_))
  refine w_for (mk := fun (b : Unit) i => (d, some s, i)) (a := ()) 0 8 (fun i _ S' => SH S' ∧ CS S' ∧ KL S S' ∧ (∀ a, a ≠ d → a ≠ d + 2 → AG S S' a) ∧ (sI S' d 6 = sI S s 6 ∧ (∀ j, j ≠ 6 → sI S' d j = sI S d j) ∧ ∀ j, sR S' d j = sR S d j) ∧ ∀ k, k < i → sR S' (d + 2) k = sR S (s + 2) k) (by omega) (by omega) ⟨h1, hC, ⟨fun _ => rfl, fun _ => rfl, rfl, rfl⟩, fun a ha _ => AG.rfl.stI _ ha, ⟨st_get, fun j hj => st_ne (Or.inr hj), fun _ => rfl⟩, fun k hk => by omega⟩ ?_ ?_
  · rintro kk - S1 ⟨j1, j2, j3, j4, ⟨j5, j6, j7⟩, j8⟩ hge
    dsimp only [fX10_copyTexts_10]
    have wl : ∀ w, WL S1 w ↔ WL S w := fun w => by
      unfold WL
      have : ∀ k, sR S1 9 k = sR S 9 k := (j4 9 (by omega) (by omega)).2.2.2
      simp only [this]
    have Wd := j2.2.2.1 d ((wl d).mpr hd)
    have Ws := j2.2.2.1 s ((wl s).mpr hs)
    have e8 : sI S1 s 8 = sI S s 8 := (j4 s (by omega) (by have := dW 0 2 (by omega) (by omega); omega)).2.2.1 8
    refine w_bt hge (w_nn (w_gIe Ws.1 e8 (w_pI Wd.1 ((cpL_x (S := stI S1 d 8 (sI S s 8)) (s := s) (d := d) j1 j2 ((wl d).mpr hd) ((wl s).mpr hs) hne).mono ?_))))
    rintro - S' ⟨k1, k2, k3, k4, k5⟩
    refine ⟨k1, k2, ⟨fun a => (k3.1 a).trans (j3.1 a), fun a => (k3.2.1 a).trans (j3.2.1 a), k3.2.2.1.trans j3.2.2.1, k3.2.2.2.trans j3.2.2.2⟩, fun a a1 a2 a3 => (j4 a a1 a2).trans ((AG.rfl.stI _ a1).trans (k4 a a3)), ⟨?_, ?_, fun j z6 z8 => ?_, fun j => ?_⟩, fun k hk => ?_, fun k hk => ?_⟩
    · rw [(k4 d (by omega)).2.2.1, st_ne (Or.inr (by omega))]; exact j5
    · rw [(k4 d (by omega)).2.2.1, st_get]
    · rw [(k4 d (by omega)).2.2.1, st_ne (Or.inr z8)]; exact j6 j z6
    · rw [(k4 d (by omega)).2.2.2]; exact j7 j
    · rw [(k4 (d + 2) (by omega)).2.2.2]; exact j8 k hk
    · rw [k5 k hk]; exact (j4 (s + 3) (dW 3 0 (by omega) (by omega)) (dW 3 2 (by omega) (by omega))).2.2.2 k
  · rintro i - hi kk - S' ⟨j1, j2, j3, j4, j5, j8⟩ hlt hkk
    dsimp only [fX10_copyTexts_10]
    have wl : ∀ w, WL S' w ↔ WL S w := fun w => by
      unfold WL
      have : ∀ k, sR S' 9 k = sR S 9 k := (j4 9 (by omega) (by omega)).2.2.2
      simp only [this]
    have Wd := j2.2.2.1 d ((wl d).mpr hd)
    have Ws := j2.2.2.1 s ((wl s).mpr hs)
    refine w_bf hlt (w_gR Wd.1 Wd.r5 (w_nn (w_gR Ws.1 Ws.r5 (w_nn (w_aR (n := i) Ws.k2 rfl Ws.l2 (by omega) rfl (w_nn ?_))))))
    refine w_wRo (n := i) Wd.k2 (fun b hb => (shT j2 ((wl s).mpr hs) hi hb).k0) rfl Wd.l2 (by omega) (hkk () _ ⟨SH_put j1 _ (by omega), ?_, j3, fun a ha hb => (j4 a ha hb).stR _ hb, ⟨j5.1, j5.2.1, fun j => ?_⟩, fun k hk => ?_⟩)
    · refine CS_put j1 j2 ((wl d).mpr hd) (by omega) ?_ (fun z => by omega) (fun z => by omega) (fun z => by omega)
      rintro - q hq
      exact shT j2 ((wl s).mpr hs) hi hq
    · rw [sR_stR, if_neg (fun z => by omega)]; exact j5.2.2 j
    · rw [sR_stR]
      by_cases e : k = i
      · subst e; rw [if_pos ⟨rfl, rfl⟩]; exact (j4 (s + 2) (dW 2 0 (by omega) (by omega)) (dW 2 2 (by omega) (by omega))).2.2.2 k
      · rw [if_neg (fun z => e z.2)]; exact j8 k (by omega)
set_option maxHeartbeats 1000000 in
set_option maxRecDepth 10000 in
theorem copy_x {S0 : St} {al : Nat → Int32} {s d : Nat} (h1 : SH S0) (hC : CS S0) (hd : WL S0 d) (hs : WL S0 s) (hne : s ≠ d) (h5 : OK al) (hW : CW al s S0) : Rn (fX10_copyFrom d (some s) S0) (fun _ S' => SH S' ∧ CS S' ∧ sn S' ≤ sn S0 + 276 ∧ sm S' ≤ sm S0 + 2016 ∧ CW al d S' ∧ ∀ a, a < sn S0 → ¬ (d ≤ a ∧ a < d + 8) → ¬ ownH S0 d a → ¬ ownG S0 d a → AG S0 S' a) := by
  have hwd := WL_lt h1 hC hd
  have hws := WL_lt h1 hC hs
  have h46 := h1.2.2.2
  have Wd0 := hC.2.2.1 d hd
  have Ws0 := hC.2.2.1 s hs
  have dW : ∀ j j', j < 8 → j' < 8 → s + j ≠ d + j' := fun j j' hj hj' => blk_ne Ws0.blk Wd0.blk hne hj hj'
  have n0 : nat (al 0) ≤ 8 := nat_le h5.1.1.2 (by decide)
  have n1 : nat (al 1) ≤ 10 := nat_le h5.1.2.1.2 (by decide)
  have n2 : nat (al 2) ≤ 12 := nat_le h5.1.2.2.1.2 (by decide)
  have n3 : nat (al 3) ≤ 60 := nat_le h5.1.2.2.2.1.2 (by decide)
  obtain ⟨⟨w1, w2, w3, w4, w5, w6, w7, w8⟩, wt, wu, wv, wp, wq, wh, wg⟩ := hW
  unfold fX10_copyFrom
  -- numbers and rows of numbers
  refine w_nn (w_gR Ws0.1 Ws0.r0 (w_gR Wd0.1 Wd0.r0 (w_nn (w_nn (w_cp (n := 400) Ws0.k1 Wd0.k1 Ws0.l1 Wd0.l1 rfl (by omega) ?_)))))
  have f1 : FX (fun b => b = d ∨ b = d + 1 ∨ b = d + 6 ∨ b = d + 7) S0 (stA S0 (d + 1) (va_cpy (sI S0 (s + 1)) (sI S0 (d + 1)) 0 0 400)) := FX.rfl.stA _ (by omega)
  have nX : ∀ j, j < 8 → ¬ (s + j = d ∨ s + j = d + 1 ∨ s + j = d + 6 ∨ s + j = d + 7) := fun j hj => by
    have a0 := dW j 0 hj (by omega)
    have a1 := dW j 1 hj (by omega)
    have a6 := dW j 6 hj (by omega)
    have a7 := dW j 7 hj (by omega)
    omega
  have F : ∀ T : St, FX (fun b => b = d ∨ b = d + 1 ∨ b = d + 6 ∨ b = d + 7) S0 T → WSh T s ∧ WSh T d ∧ ∀ j k, j < 8 → sI T (s + j) k = sI S0 (s + j) k := fun T hT => ⟨(FR_CS hT.fr hC).2.2.1 s ((FR_WL hT.fr s).mpr hs), (FR_CS hT.fr hC).2.2.1 d ((FR_WL hT.fr d).mpr hd), fun j k hj => hT.2.2.2.2.2 (s + j) k (nX j hj)⟩
  have g1 : ∀ T, FX (fun b => b = d ∨ b = d + 1 ∨ b = d + 6 ∨ b = d + 7) S0 T → ∀ j v, FX (fun b => b = d ∨ b = d + 1 ∨ b = d + 6 ∨ b = d + 7) S0 (stI T d j v) := fun T hT j v => hT.stI v (Or.inl rfl)
  have f2 := g1 _ f1 1 (al 5)
  have f3 := g1 _ f2 2 (al 6)
  have f4 := g1 _ f3 3 (al 7)
  have f5 := g1 _ f4 4 (al 4)
  refine w_gIe (v := al 5) (F _ f1).1.1 (((F _ f1).2.2 0 1 (by omega)).trans w1) (w_pI (F _ f1).2.1.1 (w_gIe (v := al 6) (F _ f2).1.1 (((F _ f2).2.2 0 2 (by omega)).trans w2) (w_pI (F _ f2).2.1.1 (w_gIe (v := al 7) (F _ f3).1.1 (((F _ f3).2.2 0 3 (by omega)).trans w3) (w_pI (F _ f3).2.1.1 (w_gIe (v := al 4) (F _ f4).1.1 (((F _ f4).2.2 0 4 (by omega)).trans w4) (w_pI (F _ f4).2.1.1 ?_)))))))
  have t5 : ∀ i, i < 400 → sI (stI (stI (stI (stI (stA S0 (d + 1) (va_cpy (sI S0 (s + 1)) (sI S0 (d + 1)) 0 0 400)) d 1 (al 5)) d 2 (al 6)) d 3 (al 7)) d 4 (al 4)) (d + 1) i = (al (7040 + i)).toInt8.toInt32 := fun i hi => by
    rw [st_ne (Or.inl (by omega)), st_ne (Or.inl (by omega)), st_ne (Or.inl (by omega)), st_ne (Or.inl (by omega)), sI_stA, if_pos rfl, cpy_in hi]; exact wt i hi
  have u5 : sI (stI (stI (stI (stI (stA S0 (d + 1) (va_cpy (sI S0 (s + 1)) (sI S0 (d + 1)) 0 0 400)) d 1 (al 5)) d 2 (al 6)) d 3 (al 7)) d 4 (al 4)) d 1 = al 5 ∧ sI (stI (stI (stI (stI (stA S0 (d + 1) (va_cpy (sI S0 (s + 1)) (sI S0 (d + 1)) 0 0 400)) d 1 (al 5)) d 2 (al 6)) d 3 (al 7)) d 4 (al 4)) d 2 = al 6 ∧ sI (stI (stI (stI (stI (stA S0 (d + 1) (va_cpy (sI S0 (s + 1)) (sI S0 (d + 1)) 0 0 400)) d 1 (al 5)) d 2 (al 6)) d 3 (al 7)) d 4 (al 4)) d 3 = al 7 ∧ sI (stI (stI (stI (stI (stA S0 (d + 1) (va_cpy (sI S0 (s + 1)) (sI S0 (d + 1)) 0 0 400)) d 1 (al 5)) d 2 (al 6)) d 3 (al 7)) d 4 (al 4)) d 4 = al 4 := by
    refine ⟨?_, ?_, ?_, ?_⟩ <;> simp [sI_stI]
  generalize stI (stI (stI (stI (stA S0 (d + 1) (va_cpy (sI S0 (s + 1)) (sI S0 (d + 1)) 0 0 400)) d 1 (al 5)) d 2 (al 6)) d 3 (al 7)) d 4 (al 4) = S5 at f5 t5 u5 ⊢
  obtain ⟨Ws5, Wd5, eq5⟩ := F _ f5
  refine w_gR Ws5.1 Ws5.r13 (w_gR Wd5.1 Wd5.r13 (w_nn (w_nn (w_cp (n := 6) Ws5.k6 Wd5.k6 Ws5.l6 Wd5.l6 rfl (by omega) ?_))))
  have f6 := f5.stA (a := d + 6) (va_cpy (sI S5 (s + 6)) (sI S5 (d + 6)) 0 0 6) (by omega)
  obtain ⟨Ws6, Wd6, eq6⟩ := F _ f6
  refine w_gR Ws6.1 Ws6.r14 (w_gR Wd6.1 Wd6.r14 (w_nn (w_nn (w_cp (n := 3) Ws6.k7 Wd6.k7 Ws6.l7 Wd6.l7 rfl (by omega) ?_))))
  have f7 := f6.stA (a := d + 7) (va_cpy (sI (stA S5 (d + 6) (va_cpy (sI S5 (s + 6)) (sI S5 (d + 6)) 0 0 6)) (s + 7)) (sI (stA S5 (d + 6) (va_cpy (sI S5 (s + 6)) (sI S5 (d + 6)) 0 0 6)) (d + 7)) 0 0 3) (by omega)
  have t7 : ∀ i, i < 400 → sI (stA (stA S5 (d + 6) (va_cpy (sI S5 (s + 6)) (sI S5 (d + 6)) 0 0 6)) (d + 7) (va_cpy (sI (stA S5 (d + 6) (va_cpy (sI S5 (s + 6)) (sI S5 (d + 6)) 0 0 6)) (s + 7)) (sI (stA S5 (d + 6) (va_cpy (sI S5 (s + 6)) (sI S5 (d + 6)) 0 0 6)) (d + 7)) 0 0 3)) (d + 1) i = (al (7040 + i)).toInt8.toInt32 := fun i hi => by rw [sI_stA, if_neg (by omega), sI_stA, if_neg (by omega)]; exact t5 i hi
  have u7 : ∀ j, sI (stA (stA S5 (d + 6) (va_cpy (sI S5 (s + 6)) (sI S5 (d + 6)) 0 0 6)) (d + 7) (va_cpy (sI (stA S5 (d + 6) (va_cpy (sI S5 (s + 6)) (sI S5 (d + 6)) 0 0 6)) (s + 7)) (sI (stA S5 (d + 6) (va_cpy (sI S5 (s + 6)) (sI S5 (d + 6)) 0 0 6)) (d + 7)) 0 0 3)) d j = sI S5 d j := fun j => by rw [sI_stA, if_neg (by omega), sI_stA, if_neg (by omega)]
  have p7 : ∀ i, i < 6 → sI (stA (stA S5 (d + 6) (va_cpy (sI S5 (s + 6)) (sI S5 (d + 6)) 0 0 6)) (d + 7) (va_cpy (sI (stA S5 (d + 6) (va_cpy (sI S5 (s + 6)) (sI S5 (d + 6)) 0 0 6)) (s + 7)) (sI (stA S5 (d + 6) (va_cpy (sI S5 (s + 6)) (sI S5 (d + 6)) 0 0 6)) (d + 7)) 0 0 3)) (d + 6) i = al (14 + i) := fun i hi => by rw [sI_stA, if_neg (by omega), sI_stA, if_pos rfl, cpy_in hi, eq5 6 i (by omega)]; exact wu i hi
  have q7 : ∀ i, i < 3 → sI (stA (stA S5 (d + 6) (va_cpy (sI S5 (s + 6)) (sI S5 (d + 6)) 0 0 6)) (d + 7) (va_cpy (sI (stA S5 (d + 6) (va_cpy (sI S5 (s + 6)) (sI S5 (d + 6)) 0 0 6)) (s + 7)) (sI (stA S5 (d + 6) (va_cpy (sI S5 (s + 6)) (sI S5 (d + 6)) 0 0 6)) (d + 7)) 0 0 3)) (d + 7) i = al (10 + i) := fun i hi => by rw [sI_stA, if_pos rfl, cpy_in hi, eq6 7 i (by omega)]; exact wv i hi
  generalize stA (stA S5 (d + 6) (va_cpy (sI S5 (s + 6)) (sI S5 (d + 6)) 0 0 6)) (d + 7) (va_cpy (sI (stA S5 (d + 6) (va_cpy (sI S5 (s + 6)) (sI S5 (d + 6)) 0 0 6)) (s + 7)) (sI (stA S5 (d + 6) (va_cpy (sI S5 (s + 6)) (sI S5 (d + 6)) 0 0 6)) (d + 7)) 0 0 3) = Sa at f7 t7 u7 p7 q7 ⊢
  obtain ⟨Wsa, Wda, eqa⟩ := F _ f7
  have sa := FR_SH f7.fr h1
  have ca := FR_CS f7.fr hC
  have hda := (FR_WL f7.fr d).mpr hd
  have hsa := (FR_WL f7.fr s).mpr hs
  -- texts
  refine w_ck Wda.1 (w_clr (texts_x sa ca hda hsa hne) ?_)
  rintro - Sb ⟨sb, cb, kb, ab, ⟨b6, b8, bj, br⟩, bT, bL⟩
  have wlb : ∀ w, WL Sb w ↔ WL S0 w := fun w => by
    rw [← FR_WL f7.fr w]
    unfold WL
    have : ∀ k, sR Sb 9 k = sR Sa 9 k := (ab 9 (by omega) (by omega) (by omega)).2.2.2
    simp only [this]
  have Wdb := cb.2.2.1 d ((wlb d).mpr hd)
  have Wsb := cb.2.2.1 s ((wlb s).mpr hs)
  -- up to the hands nothing changed but in the world's own cells
  have agb : ∀ a, ¬ (d ≤ a ∧ a < d + 8) → AG S0 Sb a := fun a ha => (f7.ag (by omega)).trans (ab a (by omega) (by omega) (by omega))
  have agc : ∀ a, ¬ (d ≤ a ∧ a < d + 8) → AG S0 (stI Sb d 10 (al 2)) a := fun a ha => (agb a ha).stI _ (by omega)
  have ftS : ∀ a, FT S0 s a → ¬ (d ≤ a ∧ a < d + 8) := fun a ha => FT_W hC hs hd hne ha
  have es : ∀ j k, j < 8 → sI Sb (s + j) k = sI S0 (s + j) k := fun j k hj => (agb (s + j) (ftS _ (Or.inl ⟨by omega, by omega⟩))).2.2.1 k
  have snb : sn Sb = sn S0 := kb.2.2.1.trans f7.2.2.2.1
  have smb : sm Sb = sm S0 := kb.2.2.2.trans f7.2.2.2.2.1
  unfold fX10_copyHands
  refine w_ck Wdb.1 (w_clr (P := fun _ S2 => cpHJ (stI Sb d 10 (al 2)) al d 12 S2) (w_nn (w_gIe (v := al 2) Wsb.1 ((es 0 10 (by omega)).trans w7) (w_pI Wdb.1 (cpH_x (S1 := stI Sb d 10 (al 2)) (s := s) (d := d) sb cb ((wlb d).mpr hd) ((wlb s).mpr hs) hne h5 ?_ ?_)))) ?_)
  · rw [st_ne (Or.inl (by have := dW 0 0 (by omega) (by omega); omega))]; exact (es 0 10 (by omega)).trans w7
  · intro i hi
    obtain ⟨q, hq, r⟩ := wh i hi
    have hag : ∀ j, j < 3 → AG S0 (stI Sb d 10 (al 2)) (q + j) := fun j hj => agc _ (ftS _ (Or.inr (Or.inr (Or.inr (Or.inl ⟨i, q, by omega, hq, by omega, by omega⟩)))))
    exact ⟨q, by rw [(agc (s + 4) (ftS _ (Or.inl ⟨by omega, by omega⟩))).2.2.2]; exact hq, HRel_of r (fun j => (hag 0 (by omega)).2.2.1 j) (fun j => (hag 1 (by omega)).2.2.1 j) (fun j => (hag 2 (by omega)).2.2.1 j) (fun _ _ => rfl)⟩
  rintro - Sd ⟨sd, cd, d3, d4, d5, d6, d7, d8⟩
  rw [sn_stI, snb] at d3 d4
  rw [sm_stI, smb] at d5
  have r4c : ∀ i, sR (stI Sb d 10 (al 2)) (d + 4) i = sR S0 (d + 4) i := fun i => by
    show sR Sb (d + 4) i = _
    rw [(ab (d + 4) (by omega) (by omega) (by omega)).2.2.2, f7.2.2.1]
  have ownHc : ∀ a, ownH (stI Sb d 10 (al 2)) d a → ownH S0 d a := fun a ⟨i, q, hi, hq, hh⟩ => ⟨i, q, hi, by rw [← r4c]; exact hq, hh⟩
  have nW : ∀ j, j < 8 → ¬ ownH S0 d (d + j) ∧ ¬ ownG S0 d (d + j) := fun j hj => ⟨fun ⟨i, q, hi, hq, hh⟩ => by
    have hs' := shH hC hd hi hq
    exact blk_in Wd0.blk hs'.blk (ne_kind Wd0.1 hs'.1 (by decide)) (a := d + j) (by omega) (by omega) hh.1 hh.2, fun ⟨i, q, hi, hq, hh⟩ => by
    have hs' := shG hC hd hi hq
    exact blk_in Wd0.blk hs'.blk (ne_kind Wd0.1 hs'.1 (by decide)) (a := d + j) (by omega) (by omega) hh.1 hh.2⟩
  have agd : ∀ j, j < 8 → j ≠ 4 → AG (stI Sb d 10 (al 2)) Sd (d + j) := fun j hj h4 => d6 _ (by rw [sn_stI, snb]; omega) (by omega) (fun z => (nW j hj).1 (ownHc _ z))
  have wld : ∀ w, WL Sd w ↔ WL S0 w := fun w => by
    rw [← wlb w]
    unfold WL
    have : ∀ k, sR Sd 9 k = sR Sb 9 k := (d6 9 (by rw [sn_stI, snb]; omega) (by omega) (fun ⟨i, q, hi, hq, hh⟩ => by have := (shH hC hd hi (by rw [← r4c]; exact hq)).ge; omega)).2.2.2
    simp only [this]
  have agS : ∀ a, a < sn S0 → ¬ (d ≤ a ∧ a < d + 8) → ¬ ownH S0 d a → AG S0 Sd a := fun a a1 a2 a3 => (agc a a2).trans (d6 a (by rw [sn_stI, snb]; exact a1) (by omega) (fun z => a3 (ownHc _ z)))
  have ftH : ∀ a, FT S0 s a → a < sn S0 ∧ ¬ (d ≤ a ∧ a < d + 8) ∧ ¬ ownH S0 d a ∧ ¬ ownG S0 d a := fun a ha => ⟨FT_lt h1 hC hs ha, ftS a ha, fun ⟨i, q, hi, hq, hh⟩ => FT_H hC hs hd hne hi hq ha hh, fun ⟨i, q, hi, hq, hh⟩ => FT_G hC hs hd hne hi hq ha hh⟩
  have Wdd := cd.2.2.1 d ((wld d).mpr hd)
  have Wsd := cd.2.2.1 s ((wld s).mpr hs)
  have agde : ∀ a, a < sn S0 → ¬ (d ≤ a ∧ a < d + 8) → ¬ ownH S0 d a → AG S0 (stI Sd d 12 (al 3)) a := fun a a1 a2 a3 => (agS a a1 a2 a3).stI _ (by omega)
  have es2 : ∀ k, sI Sd s k = sI S0 s k := fun k => by obtain ⟨z1, z2, z3, -⟩ := ftH (s + 0) (Or.inl ⟨by omega, by omega⟩); exact (agS s z1 z2 z3).2.2.1 k
  unfold fX10_copyPieces
  refine w_ck Wdd.1 (w_clr (P := fun _ S2 => cpGJ (stI Sd d 12 (al 3)) al d 60 S2) (w_nn (w_gIe (v := al 3) Wsd.1 ((es2 12).trans w8) (w_pI Wdd.1 (cpG_x (S1 := stI Sd d 12 (al 3)) (s := s) (d := d) sd cd ((wld d).mpr hd) ((wld s).mpr hs) hne h5 ?_ ?_)))) ?_)
  · rw [st_ne (Or.inl (by have := dW 0 0 (by omega) (by omega); omega))]; exact (es2 12).trans w8
  · intro i hi
    obtain ⟨q, hq, r⟩ := wg i hi
    have hag : ∀ j, j < 4 → AG S0 (stI Sd d 12 (al 3)) (q + j) := fun j hj => by
      obtain ⟨z1, z2, z3, -⟩ := ftH (q + j) (Or.inr (Or.inr (Or.inr (Or.inr ⟨i, q, by omega, hq, by omega, by omega⟩))))
      exact agde _ z1 z2 z3
    have hs5 : AG S0 (stI Sd d 12 (al 3)) (s + 5) := by
      obtain ⟨z1, z2, z3, -⟩ := ftH (s + 5) (Or.inl ⟨by omega, by omega⟩)
      exact agde _ z1 z2 z3
    exact ⟨q, by rw [hs5.2.2.2]; exact hq, GRel_of r (fun j => (hag 0 (by omega)).2.2.1 j) (fun j => (hag 1 (by omega)).2.2.1 j) (fun j => (hag 2 (by omega)).2.2.1 j) (fun j => (hag 3 (by omega)).2.2.1 j) (fun _ _ => rfl)⟩
  rintro - Sf ⟨sf, cf, e3, e4, e5, e6, e7, e8⟩
  rw [sn_stI] at e3 e4
  rw [sm_stI] at e5
  have r5e : ∀ i, sR (stI Sd d 12 (al 3)) (d + 5) i = sR S0 (d + 5) i := fun i => by
    show sR Sd (d + 5) i = _
    rw [(agd 5 (by omega) (by omega)).2.2.2]
    show sR Sb (d + 5) i = _
    rw [(ab (d + 5) (by omega) (by omega) (by omega)).2.2.2, f7.2.2.1]
  have ownGe : ∀ a, ownG (stI Sd d 12 (al 3)) d a → ownG S0 d a := fun a ⟨i, q, hi, hq, hh⟩ => ⟨i, q, hi, by rw [← r5e]; exact hq, hh⟩
  have agf : ∀ j, j < 8 → j ≠ 5 → AG (stI Sd d 12 (al 3)) Sf (d + j) := fun j hj h4 => e6 _ (by rw [sn_stI]; omega) (by omega) (fun z => (nW j hj).2 (ownGe _ z))
  have fin : ∀ a, a < sn S0 → ¬ (d ≤ a ∧ a < d + 8) → ¬ ownH S0 d a → ¬ ownG S0 d a → AG S0 Sf a := fun a a1 a2 a3 a4 => (agde a a1 a2 a3).trans (e6 a (by rw [sn_stI]; omega) (by omega) (fun z => a4 (ownGe _ z)))
  have fj : ∀ j k, 0 < j → j < 8 → j ≠ 4 → j ≠ 5 → sI Sf (d + j) k = sI Sb (d + j) k := fun j k h0 hj h4 h5 => by
    rw [(agf j hj h5).2.2.1, st_ne (Or.inl (by omega)), (agd j hj h4).2.2.1, st_ne (Or.inl (by omega))]
  have fd : ∀ k, k ≠ 12 → k ≠ 10 → sI Sf d k = sI Sb d k := fun k h12 h10 => by
    have z1 := (agf 0 (by omega) (by omega)).2.2.1 k
    have z2 := (agd 0 (by omega) (by omega)).2.2.1 k
    rw [Nat.add_zero] at z1 z2
    rw [z1, st_ne (Or.inr h12), z2, st_ne (Or.inr h10)]
  have fr : ∀ j k, j < 8 → j ≠ 4 → j ≠ 5 → sR Sf (d + j) k = sR Sb (d + j) k := fun j k hj h4 h5 => by
    rw [(agf j hj h5).2.2.2]
    show sR Sd (d + j) k = _
    rw [(agd j hj h4).2.2.2]
    rfl
  refine w_rt ⟨sf, cf, by omega, by omega, ⟨⟨?_, ?_, ?_, ?_, ?_, ?_, ?_, ?_⟩, fun i hi => ?_, fun i hi => ?_, fun i hi => ?_, fun i hi => ?_, fun i hi => ?_, fun i hi => ?_, fun i hi => ?_⟩, fin⟩
  · rw [fd 1 (by omega) (by omega), bj 1 (by omega) (by omega), u7]; exact u5.1
  · rw [fd 2 (by omega) (by omega), bj 2 (by omega) (by omega), u7]; exact u5.2.1
  · rw [fd 3 (by omega) (by omega), bj 3 (by omega) (by omega), u7]; exact u5.2.2.1
  · rw [fd 4 (by omega) (by omega), bj 4 (by omega) (by omega), u7]; exact u5.2.2.2
  · rw [fd 6 (by omega) (by omega), b6]; exact (eqa 0 6 (by omega)).trans w5
  · rw [fd 8 (by omega) (by omega), b8]; exact (eqa 0 8 (by omega)).trans w6
  · have z1 := (agf 0 (by omega) (by omega)).2.2.1 10
    have z2 := (agd 0 (by omega) (by omega)).2.2.1 10
    rw [Nat.add_zero] at z1 z2
    rw [z1, st_ne (Or.inr (by omega)), z2, st_get]
  · have z1 := (agf 0 (by omega) (by omega)).2.2.1 12
    rw [Nat.add_zero] at z1
    rw [z1, st_get]
  · rw [fj 1 i (by omega) (by omega) (by omega) (by omega), (ab (d + 1) (by omega) (by omega) (by omega)).2.2.1]; exact t7 i hi
  · rw [fj 6 i (by omega) (by omega) (by omega) (by omega), (ab (d + 6) (by omega) (by omega) (by omega)).2.2.1]; exact p7 i hi
  · rw [fj 7 i (by omega) (by omega) (by omega) (by omega), (ab (d + 7) (by omega) (by omega) (by omega)).2.2.1]; exact q7 i hi
  · obtain ⟨q, hq, r⟩ := wp i hi
    have hag : ∀ j, j < 2 → AG S0 Sf (q + j) := fun j hj => by
      obtain ⟨z1, z2, z3, z4⟩ := ftH (q + j) (Or.inr (Or.inl ⟨i, q, by omega, hq, by omega, by omega⟩))
      exact fin _ z1 z2 z3 z4
    refine ⟨q, ?_, PRel_of r (fun j => (hag 0 (by omega)).2.2.1 j) (fun j => (hag 1 (by omega)).2.2.1 j) (fun _ _ => rfl)⟩
    rw [fr 2 i (by omega) (by omega) (by omega), bT i (by omega), f7.2.2.1]; exact hq
  · obtain ⟨q, hq, r⟩ := wq i hi
    have hsh := shL hC hs (show i < 10 by omega) hq
    have hag : ∀ j, j < 5 → AG S0 Sf (q + j) := fun j hj => by
      obtain ⟨z1, z2, z3, z4⟩ := ftH (q + j) (Or.inr (Or.inr (Or.inl ⟨i, q, by omega, hq, by omega, by omega⟩)))
      exact fin _ z1 z2 z3 z4
    refine ⟨q, ?_, LRel_of r (hag 1 (by omega)).2.1 hsh.le (fun j => (hag 0 (by omega)).2.2.1 j) (fun j => (hag 1 (by omega)).2.2.1 j) (fun j => (hag 2 (by omega)).2.2.1 j) (fun j => (hag 3 (by omega)).2.2.1 j) (fun j => (hag 4 (by omega)).2.2.1 j) (fun _ _ => rfl)⟩
    rw [fr 3 i (by omega) (by omega) (by omega), bL i (by omega), f7.2.2.1]; exact hq
  · obtain ⟨q, hq, r⟩ := d8 i (by omega) hi
    have hsh := shH cd ((wld d).mpr hd) (show i < 12 by omega) hq
    have hge := hsh.ge
    have hhi := hsh.hi
    have hqd : q ≠ d := ne_kind hsh.1 Wdd.1 (by decide)
    have hag : ∀ j, j < 3 → AG Sd Sf (q + j) := fun j hj => by
      have hnd : q + j ≠ d := fun z => blk_ne hsh.blk Wdd.blk hqd (j' := 0) hj (by omega) z
      have hn5 : q + j ≠ d + 5 := fun z => blk_ne hsh.blk Wdd.blk hqd hj (by omega) z
      refine (AG.rfl.stI _ hnd).trans (e6 (q + j) (by rw [sn_stI]; omega) hn5 (fun ⟨i', q', hi', hq', hh⟩ => ?_))
      have hs' := shG cd ((wld d).mpr hd) hi' (show sR Sd (d + 5) i' = some q' from hq')
      exact blk_in hsh.blk hs'.blk (ne_kind hsh.1 hs'.1 (by decide)) (a := q + j) (by omega) (by omega) hh.1 hh.2
    refine ⟨q, ?_, HRel_of r (fun j => (hag 0 (by omega)).2.2.1 j) (fun j => (hag 1 (by omega)).2.2.1 j) (fun j => (hag 2 (by omega)).2.2.1 j) (fun _ _ => rfl)⟩
    rw [(agf 4 (by omega) (by omega)).2.2.2]; exact hq
  · exact e8 i (by omega) hi
