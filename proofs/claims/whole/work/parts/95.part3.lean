-- the class's choice
def stP (K : Nat → Nat) (H : Nat) (o : Option Nat) (x y : Int32) : Prop := match o with
  | none => x = 0 ∧ y = 0
  | some b => x = Int32.ofNat b ∧ y = spI K H b
theorem cl_p {C : Nat → Nat} {N H m : Nat} {sp : Nat → Int32} : ∀ n a, clB C N H m sp n = some a → 1 ≤ a ∧ a ≤ n ∧ cd a H = m ∧ okB C N H a = true := by
  intro n
  induction n with
  | zero => intro a h; cases h
  | succ n ih =>
    intro a h
    rw [clB] at h
    unfold clS at h
    by_cases c : cd (n + 1) H = m ∧ okB C N H (n + 1) = true
    · rw [if_pos c] at h
      cases hr : clB C N H m sp n with
      | none => rw [hr] at h; cases h; exact ⟨by omega, by omega, c⟩
      | some a0 =>
        rw [hr] at h
        have h0 := ih a0 hr
        by_cases d : sp (n + 1) < sp a0
        · simp only [d, if_true] at h; cases h; exact ⟨by omega, by omega, c⟩
        · simp only [d, if_false] at h; cases h; exact ⟨h0.1, by omega, h0.2.2⟩
    · rw [if_neg c] at h
      have h0 := ih a h
      exact ⟨h0.1, by omega, h0.2.2⟩
theorem PK.s23 {S : St} {C K : Nat → Nat} {H j : Nat} (k : PK S C K H) (v : Int32) (hj : j ≠ 3) : PK (stI S 23 j v) C K H := ⟨by rw [st_ne (Or.inr (fun e => hj e.symm))]; exact k.1, fun i hi => by rw [st_ne (Or.inl (by omega))]; exact k.2.1 i hi, fun i hi => by rw [st_ne (Or.inl (by omega))]; exact k.2.2 i hi⟩
theorem PK.s26 {S : St} {C K : Nat → Nat} {H j : Nat} (k : PK S C K H) (v : Int32) : PK (stI S 26 j v) C K H := ⟨by rw [st_ne (Or.inl (by omega))]; exact k.1, fun i hi => by rw [st_ne (Or.inl (by omega))]; exact k.2.1 i hi, fun i hi => by rw [st_ne (Or.inl (by omega))]; exact k.2.2 i hi⟩
set_option maxHeartbeats 1000000 in
set_option maxRecDepth 10000 in
theorem choose_x {S : St} {C K : Nat → Nat} {H N m : Nat} (h : SH S) (k : PK S C K H) (kb : PKb C K H N) (hm : sI S 23 0 = Int32.ofNat m) (hmb : m ≤ 12) : Rn (fX4_chooseSet 23 (Int32.ofNat N) S) (fun _ S' => FX (fun b => b = 23) S S' ∧ PK S' C K H ∧ sI S' 23 0 = Int32.ofNat m ∧ stP K H (clB C N H m (spI K H) (2 ^ H - 1)) (sI S' 23 2) (sI S' 23 1)) := by
  have b1 := kb.1
  have hpw := pow12 b1
  have hpp : 0 < 2 ^ H := Nat.two_pow_pos H
  unfold fX4_chooseSet
  refine w_pI (SH_K23 h) (w_pI (show sK (stI S 23 2 0) 23 = 5 from SH_K23 h) ?_)
  refine w_for (mk := fun (x : Unit) i => (23, Int32.ofNat N, i)) (a := ()) 1 (2 ^ H) (fun i _ S' => FX (fun b => b = 23) S S' ∧ PK S' C K H ∧ sI S' 23 0 = Int32.ofNat m ∧ stP K H (clB C N H m (spI K H) (i - 1)) (sI S' 23 2) (sI S' 23 1)) (by omega) (by omega) ⟨(FX.stI (X := fun b => b = 23) (a := 23) (FX.stI (X := fun b => b = 23) (a := 23) FX.rfl 0 rfl) 0 rfl), (k.s23 _ (by omega)).s23 _ (by omega), by rw [st_ne (Or.inr (by omega)), st_ne (Or.inr (by omega))]; exact hm, by rw [st_ne (Or.inr (by omega)), st_get], st_get⟩ ?_ ?_
  · rintro kk - S' ⟨hF, k', hm', hs⟩ hge
    dsimp only [fX4_chooseSet_12]
    have s' := FR_SH hF.fr h
    rw [← shl1 H (by omega)] at hge
    refine w_gIe (SH_K23 s') k'.1 (w_bt ?_ (w_rt ⟨hF, k', hm', hs⟩))
    rw [and31 H (by omega), ← shl1 H (by omega)]; exact hge
  · rintro i hi1 hi kk - S' ⟨hF, k', hm', hs⟩ hlt hkk
    dsimp only [fX4_chooseSet_12, fX4_chooseSet_63, fX4_chooseSet_73]
    have s' := FR_SH hF.fr h
    have hcd := card_cd (b := i) (H := H) hi (by omega)
    have hcl := cd_le i H
    have hstep : clB C N H m (spI K H) i = clS C N H m (spI K H) i (clB C N H m (spI K H) (i - 1)) := by
      obtain ⟨n, rfl⟩ : ∃ n, i = n + 1 := ⟨i - 1, by omega⟩
      rw [Nat.add_sub_cancel]; rfl
    refine w_gIe (SH_K23 s') k'.1 (w_bf ?_ (w_cl (bitCount_eq (by omega) S') (w_gIe (SH_K23 s') hm' ?_)))
    · rw [and31 H (by omega), shl1 H (by omega)]; exact hlt
    rw [hcd]
    have skip : clB C N H m (spI K H) i = clB C N H m (spI K H) (i - 1) → Rn (kk (23, Int32.ofNat N, Int32.ofNat i + 1) S') (fun _ S' => FX (fun b => b = 23) S S' ∧ PK S' C K H ∧ sI S' 23 0 = Int32.ofNat m ∧ stP K H (clB C N H m (spI K H) (2 ^ H - 1)) (sI S' 23 2) (sI S' 23 1)) := fun e => hkk () _ ⟨hF, k', hm', by rw [Nat.add_sub_cancel, e]; exact hs⟩
    have take : clB C N H m (spI K H) i = some i → Rn ((pI 5 23 2 (Int32.ofNat i) <| pI 5 23 1 (spI K H i) <| kk (23, Int32.ofNat N, Int32.ofNat i + 1)) S') (fun _ S' => FX (fun b => b = 23) S S' ∧ PK S' C K H ∧ sI S' 23 0 = Int32.ofNat m ∧ stP K H (clB C N H m (spI K H) (2 ^ H - 1)) (sI S' 23 2) (sI S' 23 1)) := fun e => by
      refine w_pI (SH_K23 s') (w_pI (show sK (stI S' 23 2 _) 23 = 5 from SH_K23 s') (hkk () _ ⟨(hF.stI _ rfl).stI _ rfl, (k'.s23 _ (by omega)).s23 _ (by omega), by rw [st_ne (Or.inr (by omega)), st_ne (Or.inr (by omega))]; exact hm', ?_⟩))
      rw [Nat.add_sub_cancel, e]
      exact ⟨by rw [st_ne (Or.inr (by omega)), st_get], st_get⟩
    refine w_br (fun c => ?_) (fun c => skip ?_)
    · rw [eq_ofNat (by omega) (by omega)] at c
      refine w_ck (SH_K23 s') (w_cl (allows_x s' k' kb) (w_z (fun d => ?_) (fun d => skip ?_)))
      · unfold clS at hstep
        rw [if_pos ⟨c, d⟩] at hstep
        refine w_ck (SH_K23 s') (w_cl (spread_x s' k' kb hi1 hi) ?_)
        cases hr : clB C N H m (spI K H) (i - 1) with
        | none =>
          rw [hr] at hs hstep
          exact w_gIe (SH_K23 s') hs.1 (w_bt rfl (take hstep))
        | some a =>
          have ha := cl_p _ a hr
          rw [hr] at hs hstep
          refine w_gIe (SH_K23 s') hs.1 (w_bf (by rw [show (0 : Int32) = Int32.ofNat 0 from rfl, eq_ofNat (by omega) (by omega)]; omega) (w_gIe (SH_K23 s') hs.2 (w_br (fun e => skip ?_) (fun e => take ?_))))
          · simp only [Int32.not_lt.mpr e, if_false] at hstep
            rw [hstep, hr]
          · simp only [Int32.not_le.mp e, if_true] at hstep
            exact hstep
      · unfold clS at hstep
        rw [if_neg (fun z => by rw [d] at z; cases z.2)] at hstep
        exact hstep
    · rw [eq_ofNat (by omega) (by omega)] at c
      unfold clS at hstep
      rw [if_neg (fun z => c z.1)] at hstep
      exact hstep
-- sharing out
def nxN (C g : Nat → Nat) (b : Nat) : Nat → Option Nat
  | 0 => none
  | n + 1 => if b.testBit n = true ∧ g n < C n then match nxN C g b n with
      | none => some n
      | some j => if g n < g j then some n else some j
    else nxN C g b n
def gvS (C g : Nat → Nat) (b H : Nat) : Nat → Nat := match nxN C g b H with
  | none => g
  | some j => fun i => if i = j then g i + 1 else g i
def gvN (C : Nat → Nat) (b H : Nat) : Nat → Nat → Nat
  | 0 => fun _ => 0
  | n + 1 => gvS C (gvN C b H n) b H
theorem nx_lt {C g : Nat → Nat} {b : Nat} : ∀ n, (∀ j, nxN C g b n = some j → j < n ∧ b.testBit j = true ∧ g j < C j) ∧ (nxN C g b n = none → ∀ i, i < n → b.testBit i = true → C i ≤ g i) := by
  intro n
  induction n with
  | zero => exact ⟨(fun j h => by cases h), fun _ i h => by omega⟩
  | succ n ih =>
    rw [nxN]
    by_cases c : b.testBit n = true ∧ g n < C n
    · rw [if_pos c]
      cases hx : nxN C g b n with
      | none =>
        refine ⟨?_, (by intro h; cases h)⟩
        intro j h
        cases h
        exact ⟨by omega, c⟩
      | some j0 =>
        have h0 := ih.1 j0 hx
        by_cases d : g n < g j0
        · simp only [d, if_true]
          refine ⟨?_, (by intro h; cases h)⟩
          intro j h
          cases h
          exact ⟨by omega, c⟩
        · simp only [d, if_false]
          refine ⟨?_, (by intro h; cases h)⟩
          intro j h
          cases h
          exact ⟨by omega, h0.2⟩
    · rw [if_neg c]
      refine ⟨fun j h => ?_, fun h i hi hb => ?_⟩
      · have := ih.1 j h; exact ⟨by omega, this.2⟩
      · by_cases e : i = n
        · subst e
          rcases Nat.lt_or_ge (g i) (C i) with z | z
          · exact absurd ⟨hb, z⟩ c
          · exact z
        · exact ih.2 h i (by omega) hb
theorem sm_up {g : Nat → Nat} {b x : Nat} (hx : b.testBit x = true) : ∀ n, smN (fun i => if i = x then g i + 1 else g i) b n = smN g b n + (if x < n then 1 else 0) := by
  intro n
  induction n with
  | zero => rfl
  | succ n ih =>
    rw [smN, smN, ih]
    by_cases e : n = x
    · subst e
      rw [hx]
      simp
      omega
    · cases hb : b.testBit n
      · by_cases c : x < n
        · simp [c, show x < n + 1 by omega]
        · simp [c, show ¬ x < n + 1 by omega]
      · by_cases c : x < n
        · simp [e, c, show x < n + 1 by omega]; omega
        · simp [e, c, show ¬ x < n + 1 by omega]
theorem sm_le {C g : Nat → Nat} {b : Nat} : ∀ n, (∀ i, i < n → b.testBit i = true → C i ≤ g i) → smN C b n ≤ smN g b n := by
  intro n
  induction n with
  | zero => intro _; exact Nat.le_refl _
  | succ n ih =>
    intro h
    have h1 := ih (fun i hi hb => h i (by omega) hb)
    rw [smN, smN]
    cases hb : b.testBit n
    · simpa using h1
    · have := h n (by omega) hb
      simp; omega
theorem gv_p {C : Nat → Nat} {b H N : Nat} (hN : N ≤ smN C b H) : ∀ n, n ≤ N → smN (gvN C b H n) b H = n ∧ (∀ i, gvN C b H n i ≤ n) := by
  intro n
  induction n with
  | zero =>
    intro _
    refine ⟨?_, fun i => Nat.le_refl _⟩
    have : ∀ m, smN (gvN C b H 0) b m = 0 := by
      intro m
      induction m with
      | zero => rfl
      | succ m ih => rw [smN, ih]; split <;> rfl
    exact this H
  | succ n ih =>
    intro hn
    obtain ⟨h1, h2⟩ := ih (by omega)
    rw [gvN, gvS]
    cases hx : nxN C (gvN C b H n) b H with
    | none =>
      exfalso
      have := sm_le H ((nx_lt (C := C) (g := gvN C b H n) (b := b) H).2 hx)
      omega
    | some j =>
      obtain ⟨j1, j2, j3⟩ := (nx_lt (C := C) (g := gvN C b H n) (b := b) H).1 j hx
      refine ⟨?_, fun i => ?_⟩
      · have := sm_up (g := gvN C b H n) j2 H
        rw [if_pos j1, h1] at this
        exact this
      · have := h2 i
        show (if i = j then gvN C b H n i + 1 else gvN C b H n i) ≤ n + 1
        split <;> omega
theorem gv_some {C : Nat → Nat} {b H N n : Nat} (hN : N ≤ smN C b H) (hn : n < N) : ∃ j, nxN C (gvN C b H n) b H = some j := by
  cases hx : nxN C (gvN C b H n) b H with
  | some j => exact ⟨j, rfl⟩
  | none =>
    exfalso
    have h1 := (gv_p hN n (by omega)).1
    have := sm_le H ((nx_lt (C := C) (g := gvN C b H n) (b := b) H).2 hx)
    omega
set_option maxHeartbeats 1000000 in
set_option maxRecDepth 10000 in
theorem share_x {S : St} {C K : Nat → Nat} {H N b : Nat} (h : SH S) (k : PK S C K H) (kb : PKb C K H N) (hb : sI S 23 2 = Int32.ofNat b) (hN : N ≤ smN C b H) (z : ∀ i, i < H → sI S 26 i = 0) : Rn (fX4_shareOut 23 (Int32.ofNat N) S) (fun _ S' => FX (fun b => b = 26) S S' ∧ ∀ i, i < H → sI S' 26 i = Int32.ofNat (gvN C b H N i)) := by
  obtain ⟨b1, b2, b3, b4, b5⟩ := kb
  unfold fX4_shareOut
  refine w_for (mk := fun (x : Unit) i => (23, Int32.ofNat N, i)) (a := ()) 0 N (fun n _ S' => FX (fun b => b = 26) S S' ∧ ∀ i, i < H → sI S' 26 i = Int32.ofNat (gvN C b H n i)) (by omega) (by omega) ⟨FX.rfl, z⟩ ?_ ?_
  · rintro kk - S' hJ hge
    dsimp only [fX4_shareOut_2]
    exact w_bt hge (w_rt hJ)
  · rintro n - hn kk - S' ⟨hF, hv⟩ hlt hkk
    dsimp only [fX4_shareOut_2]
    have s' := FR_SH hF.fr h
    have gb := (gv_p hN n (by omega)).2
    have k3 : sI S' 23 3 = Int32.ofNat H := by rw [hF.2.2.2.2.2 23 3 (by omega)]; exact k.1
    have k2 : sI S' 23 2 = Int32.ofNat b := by rw [hF.2.2.2.2.2 23 2 (by omega)]; exact hb
    have kc : ∀ i, i < H → sI S' 24 i = Int32.ofNat (C i) := fun i hi => by rw [hF.2.2.2.2.2 24 i (by omega)]; exact k.2.1 i hi
    obtain ⟨x, hx⟩ := gv_some (C := C) (b := b) (H := H) hN hn
    obtain ⟨x1, x2, x3⟩ := (nx_lt (C := C) (g := gvN C b H n) (b := b) H).1 x hx
    refine w_bf hlt ?_
    refine w_for (mk := fun (o : Int32) j => (23, Int32.ofNat N, Int32.ofNat n, o, j)) (a := -1) 0 H (fun j o S2 => S2 = S' ∧ o = oI (nxN C (gvN C b H n) b j)) (by omega) (by omega) ⟨rfl, rfl⟩ ?_ ?_
    · rintro k2' o S2 ⟨rfl, rfl⟩ hge
      dsimp only [fX4_shareOut_12, fX4_shareOut_95]
      rw [hx]
      have gx := gb x
      refine w_gIe (SH_K23 s') k3 (w_bt hge (w_bf (of_ne_m1 (by omega)) (w_gR (SH_K23 s') (SH_R23_6 s') (w_nn (w_aIe (n := x) (SH_K26 s') rfl (SH_L26 s') (by omega) (hv x x1) (w_wI (n := x) (SH_K26 s') rfl (SH_L26 s') (by omega) (hkk () _ ⟨hF.stI _ rfl, fun i hi => ?_⟩)))))))
      have eg : gvN C b H (n + 1) i = if i = x then gvN C b H n i + 1 else gvN C b H n i := by rw [gvN, gvS, hx]
      rw [eg]
      by_cases e : i = x
      · subst e; rw [st_get, if_pos rfl, succ32]
      · rw [st_ne (Or.inr e), if_neg e]; exact hv i hi
    · rintro j - hj k2' o S2 ⟨rfl, rfl⟩ hlt2 hk2
      dsimp only [fX4_shareOut_12, fX4_shareOut_71, fX4_shareOut_74]
      have gj := gb j
      have cj := b2 j hj
      have hn' : nxN C (gvN C b H n) b (j + 1) = if b.testBit j = true ∧ gvN C b H n j < C j then (match nxN C (gvN C b H n) b j with
          | none => some j
          | some j' => if gvN C b H n j < gvN C b H n j' then some j else some j') else nxN C (gvN C b H n) b j := rfl
      refine w_gIe (SH_K23 s') k3 (w_bf hlt2 (w_gIe (SH_K23 s') k2 (w_cl (inSet_x (by omega) _) (w_z (fun c => ?_) (fun c => hk2 _ _ ⟨rfl, by rw [hn', if_neg (fun z => by rw [c] at z; cases z.1)]⟩)))))
      refine w_gR (SH_K23 s') (SH_R23_6 s') (w_nn (w_aIe (n := j) (SH_K26 s') rfl (SH_L26 s') (by omega) (hv j hj) (w_gR (SH_K23 s') (SH_R23_4 s') (w_nn (w_aIe (n := j) (SH_K24 s') rfl (SH_L24 s') (by omega) (kc j hj) (w_br (fun d => ?_) (fun d => ?_)))))))
      · rw [le_ofNat (by omega) (by omega)] at d
        exact hk2 _ _ ⟨rfl, by rw [hn', if_neg (fun z => by omega)]⟩
      · rw [le_ofNat (by omega) (by omega)] at d
        rw [if_pos ⟨c, by omega⟩] at hn'
        cases hy : nxN C (gvN C b H n) b j with
        | none =>
          rw [hy] at hn'
          exact w_bt rfl (hk2 _ _ ⟨rfl, by rw [hn']; rfl⟩)
        | some y =>
          rw [hy] at hn'
          obtain ⟨y1, y2, y3⟩ := (nx_lt (C := C) (g := gvN C b H n) (b := b) j).1 y hy
          have gy := gb y
          refine w_bf (of_ne_m1 (by omega)) (w_gR (SH_K23 s') (SH_R23_6 s') (w_nn (w_aIe (n := j) (SH_K26 s') rfl (SH_L26 s') (by omega) (hv j hj) (w_gR (SH_K23 s') (SH_R23_6 s') (w_nn (w_aIe (n := y) (SH_K26 s') rfl (SH_L26 s') (by omega) (hv y (by omega)) (w_br (fun e => ?_) (fun e => ?_))))))))
          · rw [le_ofNat (by omega) (by omega)] at e
            simp only [show ¬ gvN C b H n j < gvN C b H n y by omega, if_false] at hn'
            exact hk2 _ _ ⟨rfl, by rw [hn']⟩
          · rw [le_ofNat (by omega) (by omega)] at e
            simp only [show gvN C b H n j < gvN C b H n y by omega, if_true] at hn'
            exact hk2 _ _ ⟨rfl, by rw [hn']; rfl⟩
