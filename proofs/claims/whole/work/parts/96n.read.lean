-- reading a pattern, in the class
def itemS (b : Nat → Nat) (n : Nat) (s : PS) : Bool × PS := item b n s.1 s.2.1 s.2.2.1 s.2.2.2.1 s.2.2.2.2.1 s.2.2.2.2.2.1 s.2.2.2.2.2.2
def its (b : Nat → Nat) (n : Nat) : Nat → PS → PS
  | 0, s => s
  | f + 1, s => if tK b n s.1 = 0 ∧ s.2.1 = 0 then s else if (itemS b n s).1 = true then its b n f (itemS b n s).2 else (itemS b n s).2
def CIs (S : St) (b : Nat → Nat) (n : Nat) (s : PS) : Prop := CIp S b n s.1 s.2.1 s.2.2.1 s.2.2.2.1 s.2.2.2.2.1 s.2.2.2.2.2.1 s.2.2.2.2.2.2
theorem item_c {b : Nat → Nat} {n c D F : Nat} {P : Int32} {g : CT} {hu re : Nat → Nat} (hc : c ≤ n) (h : (item b n c D F P g hu re).1 = true) : c < (item b n c D F P g hu re).2.1 := by
  have hp := tP_b (b := b) hc
  have hn := tN_b (b := b) hc
  have hp2 := tP_b (b := b) hn.2.1
  have hn2 := tN_b (b := b) hn.2.1
  by_cases z : tK b n c = 0
  · exfalso
    rw [item, if_neg (fun q => by have := q.1.1; omega), if_neg (fun q => by have := q.1.1; omega), if_neg (by omega), if_neg (fun q => by have := q.1.1; omega)] at h
    exact absurd (show false = true from h) (by decide)
  · have hl := tK_lt z
    unfold item at h ⊢
    by_cases c1 : oneL b n c ∧ b (tP b n c) = 107
    · rw [if_pos c1] at h ⊢
      unfold colI at h ⊢
      by_cases c2 : tK b n (tN b n c) = 2
      · rw [if_pos c2]; show c < tN b n (tN b n c); omega
      · rw [if_neg c2] at h; exact absurd (show false = true from h) (by decide)
    · rw [if_neg c1] at h ⊢
      by_cases c3 : oneL b n c ∧ 97 ≤ b (tP b n c) ∧ b (tP b n c) ≤ 102
      · rw [if_pos c3] at h ⊢
        unfold stiI at h ⊢
        by_cases c2 : tK b n (tN b n c) = 2
        · rw [if_pos c2]; show c < tN b n (tN b n c); omega
        · rw [if_neg c2] at h; exact absurd (show false = true from h) (by decide)
      · rw [if_neg c3] at h ⊢
        by_cases c4 : tK b n c = 2
        · rw [if_pos c4] at h ⊢
          unfold opnI at h ⊢
          by_cases c2 : isS b n (tN b n c) 91
          · rw [if_pos c2]; show c < tN b n (tN b n c); omega
          · rw [if_neg c2] at h; exact absurd (show false = true from h) (by decide)
        · rw [if_neg c4] at h ⊢
          by_cases c5 : isS b n c 93 ∧ 0 < D
          · rw [if_pos c5]; show c < tN b n c; omega
          · rw [if_neg c5] at h; exact absurd (show false = true from h) (by decide)
/-- what the class knows at the end of the items -/
def EN (S0 S : St) (b : Nat → Nat) (n : Nat) (s : PS) : Prop := FC XP S0 S ∧ RD S 11 b n ∧ sI S 11 3 = Int32.ofNat s.2.2.1 ∧ s.2.2.1 ≤ 4 ∧ sI S 11 4 = s.2.2.2.1 ∧ (s.2.2.1 = 0 → CA S 0 s.2.2.2.2.1 s.2.2.2.2.2.1 s.2.2.2.2.2.2)
theorem SH_r5 {S : St} {r : Nat} (h : SH S) (hr : r = 11 ∨ r = 16) (v : Option Nat) : SH (stR S r 5 v) := by
  refine ⟨h.1, h.2.1, fun q hq => ?_, h.2.2.2⟩
  have hq2 : ∀ q ∈ rL, ¬ ((q.1 = 11 ∨ q.1 = 16) ∧ q.2.1 = 5) := by decide
  have := hq2 q hq
  rw [sR_stR, if_neg (fun z => this ⟨by rw [z.1]; exact hr, z.2⟩)]
  exact h.2.2.1 q hq
theorem start_x {S : St} {r n : Nat} {b : Nat → Nat} (h : SH S) (hr : r = 11 ∨ r = 16) (hn : n ≤ 400) (hb : ∀ i, b i < 256) (hB : ∀ i, i < 400 → sI S 2 i = cbI (b i)) : Rn (fX8_start r (some 2) (Int32.ofNat n) S) (fun _ S' => FC (fun a _ => a = r) (stR S r 5 (some 2)) S' ∧ RD S' r b n ∧ RT S' r b n 0 ∧ sI S' r 3 = 0 ∧ sI S' r 4 = -1) := by
  have s1 := SH_r5 h hr (some 2)
  have kr : ∀ S', SH S' → sK S' r = 9 := fun S' h' => by
    rcases hr with e | e
    · rw [e]; exact SH_K11 h'
    · rw [e]; exact SH_K16 h'
  unfold fX8_start
  refine w_pR (kr S h) (w_onS (w_aL (SH_K2 s1) (SH_L2 s1) ?_))
  have e : mxI 0 (mnI (Int32.ofNat n) (Int32.ofNat 400)) = Int32.ofNat n := by
    rw [mn_of (by omega) (by omega), show (0 : Int32) = Int32.ofNat 0 from rfl, mx_of (by omega) (by omega)]
    congr 1
    omega
  rw [e]
  dsimp only [fX8_start_24]
  have hR5 : sR (stR S r 5 (some 2)) r 5 = some 2 := by rw [sR_stR, if_pos ⟨rfl, rfl⟩]
  have hB1 : ∀ i, i < 400 → sI (stR S r 5 (some 2)) 2 i = cbI (b i) := hB
  generalize stR S r 5 (some 2) = S1 at *
  have f2 : FC (fun a _ => a = r) S1 (stI S1 r 6 (Int32.ofNat n)) := FC.rfl.st _ rfl
  have f3 : FC (fun a _ => a = r) S1 (stI (stI S1 r 6 (Int32.ofNat n)) r 7 0) := f2.st _ rfl
  have f4 : FC (fun a _ => a = r) S1 (stI (stI (stI S1 r 6 (Int32.ofNat n)) r 7 0) r 3 0) := f3.st _ rfl
  have f5 : FC (fun a _ => a = r) S1 (stI (stI (stI (stI S1 r 6 (Int32.ofNat n)) r 7 0) r 3 0) r 4 (-1)) := f4.st _ rfl
  refine w_pI (kr _ s1) (w_pI (kr _ (f2.sh s1)) (w_pI (kr _ (f3.sh s1)) (w_pI (kr _ (f4.sh s1)) (w_ck (kr _ (f5.sh s1)) ?_))))
  have hd : RD (stI (stI (stI (stI S1 r 6 (Int32.ofNat n)) r 7 0) r 3 0) r 4 (-1)) r b n := by
    refine ⟨f5.sh s1, hr, by rw [f5.2.2.1]; exact hR5, ?_, hn, hb, fun i hi => by rw [f5.i (by omega)]; exact hB1 i hi⟩
    rw [st_ne (Or.inr (by decide)), st_ne (Or.inr (by decide)), st_ne (Or.inr (by decide)), st_get]
  have h7 : sI (stI (stI (stI (stI S1 r 6 (Int32.ofNat n)) r 7 0) r 3 0) r 4 (-1)) r 7 = Int32.ofNat 0 := by
    rw [st_ne (Or.inr (by decide)), st_ne (Or.inr (by decide)), st_get]; rfl
  have h3 : sI (stI (stI (stI (stI S1 r 6 (Int32.ofNat n)) r 7 0) r 3 0) r 4 (-1)) r 3 = 0 := by
    rw [st_ne (Or.inr (by decide)), st_get]
  have h4 : sI (stI (stI (stI (stI S1 r 6 (Int32.ofNat n)) r 7 0) r 3 0) r 4 (-1)) r 4 = -1 := st_get
  generalize stI (stI (stI (stI S1 r 6 (Int32.ofNat n)) r 7 0) r 3 0) r 4 (-1) = S2 at *
  refine w_clr (step_x hd (Nat.zero_le _) h7) ?_
  rintro _ S3 ⟨g1, g2⟩
  exact w_rt ⟨f5.trans (g1.mono (fun a j z => z.1)), hd.tx g1, g2, by rw [g1.i (by unfold TX; omega)]; exact h3, by rw [g1.i (by unfold TX; omega)]; exact h4⟩
def s0 : PS := (0, 0, 0, -1, (fun _ _ _ => 0), (fun _ => 0), (fun _ => 1))
/-- all the stitches -/
def tSum (f : Nat → Nat → Nat) : Nat := fo (fun t a => fo (fun k a => a + f t k) a 4) 0 6
def tSI (S : St) : Int32 := fo (fun t a => fo (fun k a => a + sI S 12 (5 * t + k)) a 4) 0 6
theorem sum_x {S : St} (h : SH S) : fX6_stitchesInAll 10 S = some (tSI S, S) := by
  apply Rn.eq
  unfold fX6_stitchesInAll
  refine w_for (mk := fun (a : Int32) i => ((10 : Nat), a, i)) (a := 0) 0 6 (fun t a S' => S' = S ∧ a = fo (fun t a => fo (fun k a => a + sI S 12 (5 * t + k)) a 4) 0 t) (by omega) (by omega) ⟨rfl, rfl⟩ ?_ ?_
  · rintro k a S1 ⟨rfl, e⟩ _
    dsimp only [fX6_stitchesInAll_4]
    exact w_bt (by decide) (w_rt ⟨e, rfl⟩)
  · rintro t _ ht k a S1 ⟨rfl, e⟩ hn hk
    dsimp only [fX6_stitchesInAll_4]
    refine w_bf hn ?_
    refine w_for (mk := fun (a : Int32) i => ((10 : Nat), a, Int32.ofNat t, i)) (a := a) 0 4 (fun k' a' S' => S' = S1 ∧ a' = fo (fun k a => a + sI S1 12 (5 * t + k)) a k') (by omega) (by omega) ⟨rfl, rfl⟩ ?_ ?_
    · rintro k2 a2 S2 ⟨rfl, e2⟩ _
      dsimp only [fX6_stitchesInAll_12]
      exact w_bt (by decide) (hk _ _ ⟨rfl, by rw [e2, e]; rfl⟩)
    · rintro j _ hj k2 a2 S2 ⟨rfl, e2⟩ hn2 hk2
      dsimp only [fX6_stitchesInAll_12]
      refine w_bf hn2 (w_ck (SH_K10 h) (w_cl (count_x (l := 0) h (by omega) ht (by omega)) (hk2 _ _ ⟨rfl, ?_⟩)))
      rw [fo_s, ← e2, show 30 * 0 + 5 * t + j = 5 * t + j by omega]
theorem tSum_le {f : Nat → Nat → Nat} {t k : Nat} (ht : t < 6) (hk : k < 4) : f t k ≤ tSum f := by
  simp only [tSum, fo]
  rcases (show t = 0 ∨ t = 1 ∨ t = 2 ∨ t = 3 ∨ t = 4 ∨ t = 5 by omega) with rfl | rfl | rfl | rfl | rfl | rfl <;> rcases (show k = 0 ∨ k = 1 ∨ k = 2 ∨ k = 3 by omega) with rfl | rfl | rfl | rfl <;> omega
theorem fo_cg {β : Type} {f g : Nat → β → β} {a : β} : ∀ m, (∀ k, k < m → ∀ x, f k x = g k x) → fo f a m = fo g a m := by
  intro m
  induction m with
  | zero => intro _; rfl
  | succ m ih => intro h; rw [fo_s, fo_s, ih (fun k hk => h k (by omega)), h m (by omega)]
theorem tSum_cg {f g : Nat → Nat → Nat} (h : ∀ t k, t < 6 → k < 4 → f t k = g t k) : tSum f = tSum g := by
  unfold tSum
  exact fo_cg 6 (fun t ht x => fo_cg 4 (fun k hk y => by rw [h t k ht hk]))
theorem fo_le {f g : Nat → Nat} : ∀ m {a c : Nat}, a ≤ c → (∀ k, k < m → f k ≤ g k) → fo (fun k a => a + f k) a m ≤ fo (fun k a => a + g k) c m := by
  intro m
  induction m with
  | zero => intro a c h _; exact h
  | succ m ih => intro a c h h2; rw [fo_s, fo_s]; exact Nat.add_le_add (ih h (fun k hk => h2 k (by omega))) (h2 m (by omega))
theorem tSum_mono {f g : Nat → Nat → Nat} (h : ∀ t k, t < 6 → k < 4 → f t k ≤ g t k) : tSum f ≤ tSum g := by
  unfold tSum
  have : ∀ m, m ≤ 6 → fo (fun t a => fo (fun k a => a + f t k) a 4) 0 m ≤ fo (fun t a => fo (fun k a => a + g t k) a 4) 0 m := by
    intro m
    induction m with
    | zero => intro _; exact Nat.le_refl _
    | succ m ih => intro hm; rw [fo_s, fo_s]; exact fo_le 4 (ih (by omega)) (fun k hk => h m k (by omega) hk)
  exact this 6 (by omega)
theorem tSum_sat {g : Nat → Nat → Nat} {M : Nat} (hM : 1000000 < M) : (tSum (fun t k => min M (g t k)) ≤ 1000000 ↔ tSum g ≤ 1000000) ∧ (tSum g ≤ 1000000 → ∀ t k, t < 6 → k < 4 → min M (g t k) = g t k) := by
  have h2 : tSum g ≤ 1000000 → ∀ t k, t < 6 → k < 4 → min M (g t k) = g t k := by
    intro h t k ht hk
    have := tSum_le (f := g) ht hk
    omega
  refine ⟨⟨fun h => ?_, fun h => ?_⟩, h2⟩
  · have : tSum (fun t k => min M (g t k)) = tSum g := tSum_cg (fun t k ht hk => by
      have : min M (g t k) ≤ _ := tSum_le (f := fun t k => min M (g t k)) ht hk
      omega)
    rw [← this]; exact h
  · rw [tSum_cg (h2 h)]; exact h
theorem tSum_bd {g : Nat → Nat → Nat} {M : Nat} (hM : M ≤ 2000000) : tSum (fun t k => min M (g t k)) ≤ 24 * M := by
  have := tSum_mono (f := fun t k => min M (g t k)) (g := fun _ _ => M) (fun t k _ _ => by omega)
  have e : tSum (fun _ _ => M) = 24 * M := by simp only [tSum, fo]; omega
  omega
theorem fo_of {f : Nat → Int32} {g : Nat → Nat} : ∀ m {a : Int32} {c : Nat}, a = Int32.ofNat c → (∀ k, k < m → f k = Int32.ofNat (g k)) → fo (fun k a => a + f k) a m = Int32.ofNat (fo (fun k a => a + g k) c m) := by
  intro m
  induction m with
  | zero => intro a c h _; exact h
  | succ m ih => intro a c h h2; rw [fo_s, fo_s, ih h (fun k hk => h2 k (by omega)), h2 m (by omega), add_of]
theorem tSI_of {S : St} {g : CT} {L : Nat} (h : A12 L S g) : tSI S = Int32.ofNat (tSum (fun t k => min 1000001 (g 0 t k))) := by
  unfold tSI tSum
  have : ∀ m, m ≤ 6 → fo (fun t a => fo (fun k a => a + sI S 12 (5 * t + k)) a 4) 0 m = Int32.ofNat (fo (fun t a => fo (fun k a => a + min 1000001 (g 0 t k)) a 4) 0 m) := by
    intro m
    induction m with
    | zero => intro _; rfl
    | succ m ih =>
      intro hm
      rw [fo_s, fo_s]
      exact fo_of (f := fun k => sI S 12 (5 * m + k)) (g := fun k => min 1000001 (g 0 m k)) 4 (ih (by omega)) (fun k hk => by have := h 0 m k (Nat.zero_le _) (by omega) (by omega); rw [show 30 * 0 + 5 * m + k = 5 * m + k by omega] at this; exact this)
  exact this 6 (by omega)
/-- the end of a reading -/
def fiF (s : PS) : Nat := if s.2.2.1 = 0 ∧ 1000000 < tSum (s.2.2.2.2.1 0) then 4 else s.2.2.1
def fiP (s : PS) : Int32 := if s.2.2.1 = 0 ∧ 1000000 < tSum (s.2.2.2.2.1 0) then 0 else s.2.2.2.1
def RX (S0 S : St) (s : PS) : Prop := FC XP S0 S ∧ SH S ∧ sI S 11 3 = Int32.ofNat (fiF s) ∧ fiF s ≤ 4 ∧ sI S 11 4 = fiP s ∧ (fiF s = 0 → ∀ t k, t < 6 → k < 4 → sI S 12 (5 * t + k) = Int32.ofNat (s.2.2.2.2.1 0 t k))
theorem end_x {S0 S : St} {b : Nat → Nat} {n : Nat} {s : PS} (h : EN S0 S b n s) : Rn (fX6_read_79 10 S) (fun _ S' => RX S0 S' s) := by
  obtain ⟨hF, hd, h3, h34, h4, hA⟩ := h
  have hS := hd.1
  unfold fX6_read_79
  refine w_ck (SH_K10 hS) (w_cl (sum_x hS) ?_)
  by_cases z : s.2.2.1 = 0
  · have hc := hA z
    rw [tSI_of hc.2.1]
    have hb := tSum_bd (g := s.2.2.2.2.1 0) (M := 1000001) (by omega)
    have hs := tSum_sat (g := s.2.2.2.2.1 0) (M := 1000001) (by omega)
    refine w_br (fun u => ?_) (fun u => ?_)
    · rw [show (1000000 : Int32) = Int32.ofNat 1000000 from rfl, le_ofNat (by omega) (by omega)] at u
      have u := hs.1.mp u
      have eF : fiF s = s.2.2.1 := by rw [fiF, if_neg (fun q => by omega)]
      have eP : fiP s = s.2.2.2.1 := by rw [fiP, if_neg (fun q => by omega)]
      refine w_rt ⟨hF, hS, by rw [eF]; exact h3, by rw [eF]; exact h34, by rw [eP]; exact h4, fun _ t k ht hk => ?_⟩
      have := hc.2.1 0 t k (Nat.le_refl _) ht (by omega)
      rw [hs.2 u t k ht hk, show 30 * 0 + 5 * t + k = 5 * t + k by omega] at this
      exact this
    · rw [show (1000000 : Int32) = Int32.ofNat 1000000 from rfl, le_ofNat (by omega) (by omega)] at u
      have u : 1000000 < tSum (s.2.2.2.2.1 0) := by
        rcases Nat.lt_or_ge 1000000 (tSum (s.2.2.2.2.1 0)) with q | q
        · exact q
        · exact absurd (hs.1.mpr q) u
      have eF : fiF s = 4 := by rw [fiF, if_pos ⟨z, u⟩]
      have eP : fiP s = 0 := by rw [fiP, if_pos ⟨z, u⟩]
      refine w_gR (SH_K10 hS) (SH_R10_0 hS) (w_nn (w_ck (SH_K11 hS) (w_clr (note_x (f := 4) hd h3 h34 h4) ?_)))
      rintro _ S2 ⟨f2, n3, n4⟩
      have f2 : FC NX S S2 := f2
      refine w_rt ⟨hF.trans (f2.mono (fun a j q => q.xp)), f2.sh hS, ?_, by rw [eF]; omega, ?_, fun q => by rw [eF] at q; exact absurd q (by decide)⟩
      · rw [n3, eF, ntF, if_pos z]
      · rw [n4, eP, ntP, if_pos z]
  · have eF : fiF s = s.2.2.1 := by rw [fiF, if_neg (fun q => z q.1)]
    have eP : fiP s = s.2.2.2.1 := by rw [fiP, if_neg (fun q => z q.1)]
    refine w_br (fun u => ?_) (fun u => ?_)
    · exact w_rt ⟨hF, hS, by rw [eF]; exact h3, by rw [eF]; exact h34, by rw [eP]; exact h4, fun q => by rw [eF] at q; exact absurd q z⟩
    · refine w_gR (SH_K10 hS) (SH_R10_0 hS) (w_nn (w_ck (SH_K11 hS) (w_clr (note_x (f := 4) hd h3 h34 h4) ?_)))
      rintro _ S2 ⟨f2, n3, n4⟩
      have f2 : FC NX S S2 := f2
      refine w_rt ⟨hF.trans (f2.mono (fun a j q => q.xp)), f2.sh hS, ?_, by rw [eF]; exact h34, ?_, fun q => by rw [eF] at q; exact absurd q z⟩
      · rw [n3, eF, ntF, if_neg z]
      · rw [n4, eP, ntP, if_neg z]
theorem loop_x {S0 S : St} {b : Nat → Nat} {n : Nat} {s : PS} (hc : CIs S b n s) (hF : FC XP S0 S) (hz : s.1 = 0) : Rn (itr (fun k (p : Nat × Int32 × Int32) => fX6_read_31 k p.1 p.2.1 p.2.2) FU (10, 1, 0) S) (fun _ S' => RX S0 S' (its b n (n + 1) s)) := by
  have h400 := hc.1.2.2.2.2.1
  refine w_itr (fun m p S' => (∃ s' i f, p = ((10 : Nat), (1 : Int32), Int32.ofNat i) ∧ i ≤ s'.1 ∧ CIs S' b n s' ∧ FC XP S0 S' ∧ its b n f s' = its b n (n + 1) s ∧ n + 1 ≤ f + s'.1 ∧ m = f + 2) ∨ (∃ i, p = ((10 : Nat), (0 : Int32), i) ∧ 1 ≤ m ∧ EN S0 S' b n (its b n (n + 1) s))) ?_ ?_ (n + 3) FU _ _ (by unfold FU; omega) (Or.inl ⟨s, 0, n + 1, rfl, by omega, hc, hF, rfl, by omega, rfl⟩)
  · rintro p S' (⟨s', i, f, _, _, _, _, _, h6, h7⟩ | ⟨i, _, h2, _⟩)
    · omega
    · omega
  rintro m k p S' (⟨s', i, f, rfl, hi, c1, f1, e1, hf, hm⟩ | ⟨i, rfl, _, he⟩) hk
  · obtain ⟨hd, hcn, ht, hDc, h1, h3, hF4, h4, hA⟩ := id c1
    have hS := hd.1
    have hkk := tK_le b n s'.1
    dsimp only [fX6_read_31]
    obtain ⟨f0, rfl⟩ : ∃ f0, f = f0 + 1 := ⟨f - 1, by omega⟩
    have hgo : ¬ (tK b n s'.1 = 0 ∧ s'.2.1 = 0) → Rn (fX6_read_60 k 10 (Int32.ofNat i) S') (fun _ S' => RX S0 S' (its b n (n + 1) s)) := by
      intro hne
      dsimp only [fX6_read_60]
      refine w_ck (SH_K10 hS) (w_clr (item_x c1) ?_)
      rintro r S2 ⟨er, f2, pc⟩
      have er : r = (itemS b n s').1 := er
      have pc : PC S2 b n (itemS b n s') := pc
      rw [its, if_neg hne] at e1
      refine w_z (fun u => ?_) (fun u => ?_)
      · rw [u] at er
        rw [if_pos er.symm] at e1
        dsimp only [fX6_read_72]
        have hcc : s'.1 < (itemS b n s').2.1 := item_c hcn er.symm
        exact hk _ _ (Or.inl ⟨(itemS b n s').2, i + 1, f0, by rw [succ32], by omega, pc.1 er.symm, f1.trans f2, e1, by omega, by omega⟩)
      · rw [u] at er
        rw [if_neg (by rw [← er]; decide)] at e1
        dsimp only [fX6_read_71, fX6_read_72]
        obtain ⟨q1, q2, q3, q4⟩ := pc.2 er.symm
        have q4 : (itemS b n s').2.2.2.1 = 1 := q4
        have q3 : sI S2 11 4 = (itemS b n s').2.2.2.2.1 := q3
        refine hk _ _ (Or.inr ⟨_, rfl, by omega, ?_⟩)
        rw [← e1]
        refine ⟨f1.trans f2, q1, by rw [q4]; exact q2, by rw [q4]; decide, q3, fun z => by rw [q4] at z; exact absurd z (by decide)⟩
    refine w_bf ?_ (w_bf (by decide) (w_gR (SH_K10 hS) (SH_R10_0 hS) (w_nn (w_gIe (SH_K11 hS) ht.1 (w_br (fun u => w_gIe (SH_K10 hS) h1 (w_br (fun v => ?_) (fun v => hgo ?_))) (fun u => hgo ?_))))))
    · rw [show (400 : Int32) = Int32.ofNat 400 from rfl, lt_ofNat (by omega) (by omega)]; omega
    · rw [show (0 : Int32) = Int32.ofNat 0 from rfl, eq_ofNat (by omega) (by omega)] at u
      rw [show (0 : Int32) = Int32.ofNat 0 from rfl, le_ofNat (by omega) (by omega)] at v
      dsimp only [fX6_read_71, fX6_read_72]
      have v : s'.2.1 = 0 := by omega
      rw [its, if_pos ⟨u, v⟩] at e1
      refine hk _ _ (Or.inr ⟨_, rfl, by omega, ?_⟩)
      rw [← e1]
      exact ⟨f1, hd, h3, hF4, h4, fun z => by have := hA z; rw [v] at this; exact this⟩
    · rw [show (0 : Int32) = Int32.ofNat 0 from rfl, le_ofNat (by omega) (by omega)] at v
      exact fun z => v (by omega)
    · rw [show (0 : Int32) = Int32.ofNat 0 from rfl, eq_ofNat (by omega) (by omega)] at u
      exact fun z => u z.1
  · dsimp only [fX6_read_31]
    exact w_br (fun _ => end_x he) (fun _ => w_bt rfl (end_x he))
