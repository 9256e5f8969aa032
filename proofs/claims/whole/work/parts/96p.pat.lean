-- a new Pattern
def ptF (g : Nat → Nat → Nat) (j : Nat) : Int32 := Int32.ofNat (g (j / 4) (j % 4))
theorem pat_loop {S2 : St} {q : Nat} {g : Nat → Nat → Nat} (hS : SH S2) (hq : 46 ≤ q) (hk0 : sK S2 q = 6) (hk1 : sK S2 (q + 1) = 15) (hl1 : sL S2 (q + 1) = 24) (hr : sR S2 q 3 = some (q + 1)) (hg : ∀ t k, t < 6 → k < 4 → sI S2 12 (5 * t + k) = Int32.ofNat (g t k)) : Rn (itr (fun k (p : Nat × Option Nat × Int32 × Int32) => fX5_init_28 k p.1 p.2.1 p.2.2.1 p.2.2.2) FU (q, some 10, 0, 0) S2) (fun _ S' => FX (fun a => a = q ∨ a = q + 1) S2 S' ∧ (∀ j, j ≠ 2 → sI S' q j = sI S2 q j) ∧ sI S' q 2 = Int32.ofNat (tSum g) ∧ ∀ j, j < 24 → sI S' (q + 1) j = ptF g j) := by
  refine w_for (mk := fun (a : Int32) i => (q, some 10, a, i)) (a := 0) 0 6 (fun t a S' => FX (fun a => a = q + 1) S2 S' ∧ a = Int32.ofNat (fo (fun t a => fo (fun k a => a + g t k) a 4) 0 t) ∧ ∀ j, j < 4 * t → sI S' (q + 1) j = ptF g j) (by omega) (by omega) ⟨FX.rfl, rfl, fun j hj => by omega⟩ ?_ ?_
  · rintro k a S1 ⟨f1, e1, g1⟩ _
    dsimp only [fX5_init_28]
    have k0 : sK S1 q = 6 := by rw [f1.1]; exact hk0
    refine w_bt (by decide) (w_pI k0 (w_rt ⟨(f1.mono (fun a (z : a = q + 1) => Or.inr z)).stI _ (Or.inl rfl), fun j hj => ?_, ?_, fun j hj => ?_⟩))
    · rw [st_ne (Or.inr hj)]; exact f1.2.2.2.2.2 q j (by omega)
    · rw [st_get, e1]; rfl
    · rw [st_ne (Or.inl (by omega))]; exact g1 j (by omega)
  · rintro t _ ht k a S1 ⟨f1, e1, g1⟩ hn hk
    dsimp only [fX5_init_28]
    refine w_bf hn ?_
    refine w_for (mk := fun (a : Int32) i => (q, some 10, a, Int32.ofNat t, i)) (a := a) 0 4 (fun k' a' S' => FX (fun a => a = q + 1) S2 S' ∧ a' = Int32.ofNat (fo (fun k a => a + g t k) (fo (fun t a => fo (fun k a => a + g t k) a 4) 0 t) k') ∧ ∀ j, j < 4 * t + k' → sI S' (q + 1) j = ptF g j) (by omega) (by omega) ⟨f1, e1, fun j hj => g1 j (by omega)⟩ ?_ ?_
    · rintro k2 a2 S3 ⟨f3, e3, g3⟩ _
      dsimp only [fX5_init_38]
      exact w_bt (by decide) (hk _ _ ⟨f3, e3, fun j hj => g3 j (by omega)⟩)
    · rintro i _ hi k2 a2 S3 ⟨f3, e3, g3⟩ hn2 hk2
      dsimp only [fX5_init_38]
      have s3 := FR_SH f3.fr hS
      have k0 : sK S3 q = 6 := by rw [f3.1]; exact hk0
      have k1 : sK S3 (q + 1) = 15 := by rw [f3.1]; exact hk1
      have l1 : sL S3 (q + 1) = 24 := by rw [f3.2.1]; exact hl1
      have r1 : sR S3 q 3 = some (q + 1) := by rw [f3.2.2.1]; exact hr
      have c1 : sI S3 12 (30 * 0 + 5 * t + i) = Int32.ofNat (g t i) := by
        rw [f3.2.2.2.2.2 12 _ (by omega), show 30 * 0 + 5 * t + i = 5 * t + i by omega]; exact hg t i ht hi
      have ix : Int32.ofNat t * 4 + Int32.ofNat i = Int32.ofNat (4 * t + i) := by
        rw [show (4 : Int32) = Int32.ofNat 4 from rfl, mul_of, add_of, Nat.mul_comm]
      have e2 : ptF g (4 * t + i) = Int32.ofNat (g t i) := by
        unfold ptF
        rw [show (4 * t + i) / 4 = t by omega, show (4 * t + i) % 4 = i by omega]
      refine w_bf hn2 (w_gR k0 r1 (w_nn (w_ck (SH_K10 s3) (w_cl (count_x (l := 0) s3 (by omega) ht (by omega)) (w_nn (w_wI (n := 4 * t + i) k1 ix l1 (by omega) ?_))))))
      have f4 : FX (fun a => a = q + 1) S2 (stI S3 (q + 1) (4 * t + i) (sI S3 12 (30 * 0 + 5 * t + i))) := f3.stI _ rfl
      refine w_gR (v := some (q + 1)) k0 r1 (w_nn (w_aI (n := 4 * t + i) k1 ix l1 (by omega) (hk2 _ _ ⟨f4, ?_, fun j hj => ?_⟩)))
      · rw [st_get, c1, e3, add_of]; rfl
      · by_cases e : j = 4 * t + i
        · rw [e, st_get, c1, e2]
        · rw [st_ne (Or.inr e)]; exact g3 j (by omega)
theorem init_pat {S : St} {g : Nat → Nat → Nat} (hS : SH S) (x1 x2 : Int32) (hg : ∀ t k, t < 6 → k < 4 → sI S 12 (5 * t + k) = Int32.ofNat (g t k)) : Rn (fX5_init (sn S) x1 x2 (some 10) (stN S 6 0 4)) (fun _ S1 => EX S S1 ∧ sn S1 = sn S + 2 ∧ sm S1 = sm S + 28 ∧ TSh S1 (sn S) ∧ sI S1 (sn S) 0 = x1 ∧ sI S1 (sn S) 1 = x2 ∧ sI S1 (sn S) 2 = Int32.ofNat (tSum g) ∧ ∀ j, j < 24 → sI S1 (sn S + 1) j = ptF g j) := by
  have h46 := hS.2.2.2
  unfold fX5_init
  generalize hq : sn S = q at *
  refine w_nA (m := 24) rfl (by omega) (w_pR (by (simp [sK_stN, sn_stN, nq2, nq3, nq4, hq] <;> omega)) (w_pI (by (simp [sK_stN, sK_stR, sn_stN, sn_stR, nq2, nq3, nq4, hq] <;> omega)) (w_pI (by (simp [sK_stN, sK_stR, sK_stI, sn_stN, sn_stR, nq2, nq3, nq4, hq] <;> omega)) ?_)))
  have hE : EX S (stI (stI (stR (stN (stN S 6 0 4) 15 24 24) q 3 (some (q + 1))) q 0 x1) q 1 x2) := (((((EX.rfl (S := S)).new 6 0 4).new 15 24 24).stR (a := q) (j := 3) (some (q + 1)) (by omega)).stI (a := q) (j := 0) x1 (by omega)).stI (a := q) (j := 1) x2 (by omega)
  have e1 : sn (stN S 6 0 4) = q + 1 := by rw [sn_stN, hq]
  rw [e1]
  have a1 : sK (stI (stI (stR (stN (stN S 6 0 4) 15 24 24) q 3 (some (q + 1))) q 0 x1) q 1 x2) q = 6 := by (simp [sK_stN, sK_stR, sK_stI, sn_stN, sn_stR, nq2, nq3, nq4, hq] <;> omega)
  have a2 : sK (stI (stI (stR (stN (stN S 6 0 4) 15 24 24) q 3 (some (q + 1))) q 0 x1) q 1 x2) (q + 1) = 15 := by (simp [sK_stN, sK_stR, sK_stI, sn_stN, sn_stR, nq2, nq3, nq4, hq] <;> omega)
  have a3 : sL (stI (stI (stR (stN (stN S 6 0 4) 15 24 24) q 3 (some (q + 1))) q 0 x1) q 1 x2) (q + 1) = 24 := by (simp [sL_stN, sL_stR, sL_stI, sn_stN, sn_stR, nq2, nq3, nq4, hq] <;> omega)
  have a4 : sR (stI (stI (stR (stN (stN S 6 0 4) 15 24 24) q 3 (some (q + 1))) q 0 x1) q 1 x2) q 3 = some (q + 1) := by (simp [sR_stN, sR_stR, sR_stI, sn_stN, sn_stR, nq2, nq3, nq4, hq] <;> omega)
  have a5 : sI (stI (stI (stR (stN (stN S 6 0 4) 15 24 24) q 3 (some (q + 1))) q 0 x1) q 1 x2) q 0 = x1 := by rw [st_ne (Or.inr (by decide)), st_get]
  have a6 : sI (stI (stI (stR (stN (stN S 6 0 4) 15 24 24) q 3 (some (q + 1))) q 0 x1) q 1 x2) q 1 = x2 := st_get
  have a7 : sn (stI (stI (stR (stN (stN S 6 0 4) 15 24 24) q 3 (some (q + 1))) q 0 x1) q 1 x2) = q + 2 := by simp [sn_stN, sn_stR, sn_stI, hq]
  have a8 : sm (stI (stI (stR (stN (stN S 6 0 4) 15 24 24) q 3 (some (q + 1))) q 0 x1) q 1 x2) = sm S + 28 := by simp [sm_stN, sm_stR, sm_stI]
  generalize stI (stI (stR (stN (stN S 6 0 4) 15 24 24) q 3 (some (q + 1))) q 0 x1) q 1 x2 = S2 at *
  refine Rn.mono (pat_loop (g := g) (EX_SH hE hS) h46 a1 a2 a3 a4 (fun t k ht hk => by rw [(hE.2 12 (by omega)).2.2.1]; exact hg t k ht hk)) ?_
  rintro _ S3 ⟨f3, z1, z2, z3⟩
  refine ⟨FX.ex hE f3 (by intro a ha; omega), by rw [f3.2.2.2.1]; exact a7, by rw [f3.2.2.2.2.1]; exact a8, ⟨by rw [f3.1]; exact a1, by rw [f3.1]; exact a2, by rw [f3.2.1]; exact a3, by rw [f3.2.2.1]; exact a4, h46, by rw [f3.2.2.2.1, a7]; omega⟩, by rw [z1 0 (by decide)]; exact a5, by rw [z1 1 (by decide)]; exact a6, z2, z3⟩
def ptA (al : Nat → Int32) (n : Nat) (x1 x2 : Int32) (g : Nat → Nat → Nat) : Nat → Int32 := va_up (rowA (va_up (va_up (va_up al (20 + 27 * n) x1) (20 + 27 * n + 1) x2) (20 + 27 * n + 2) (Int32.ofNat (tSum g))) (ptF g) (20 + 27 * n + 3) 24) 0 (Int32.ofNat n + 1)
theorem ptA_out {al : Nat → Int32} {n k : Nat} {x1 x2 : Int32} {g : Nat → Nat → Nat} (h0 : k ≠ 0) (h : ¬ (20 + 27 * n ≤ k ∧ k < 47 + 27 * n)) : ptA al n x1 x2 g k = al k := by
  unfold ptA
  rw [va_up_n h0, rowA_out (by omega), va_up_n (by omega), va_up_n (by omega), va_up_n (by omega)]
theorem ptA_0 {al : Nat → Int32} {n : Nat} {x1 x2 : Int32} {g : Nat → Nat → Nat} : ptA al n x1 x2 g (20 + 27 * n) = x1 := by
  unfold ptA
  rw [va_up_n (by omega), rowA_out (by omega), va_up_n (by omega), va_up_n (by omega), va_up_eq]
theorem ptA_1 {al : Nat → Int32} {n : Nat} {x1 x2 : Int32} {g : Nat → Nat → Nat} : ptA al n x1 x2 g (21 + 27 * n) = x2 := by
  unfold ptA
  rw [va_up_n (by omega), rowA_out (by omega), va_up_n (by omega), show 21 + 27 * n = 20 + 27 * n + 1 by omega, va_up_eq]
theorem ptA_2 {al : Nat → Int32} {n : Nat} {x1 x2 : Int32} {g : Nat → Nat → Nat} : ptA al n x1 x2 g (22 + 27 * n) = Int32.ofNat (tSum g) := by
  unfold ptA
  rw [va_up_n (by omega), rowA_out (by omega), show 22 + 27 * n = 20 + 27 * n + 2 by omega, va_up_eq]
theorem ptA_3 {al : Nat → Int32} {n j : Nat} {x1 x2 : Int32} {g : Nat → Nat → Nat} (hj : j < 24) : ptA al n x1 x2 g (23 + 27 * n + j) = ptF g j := by
  unfold ptA
  rw [va_up_n (by omega), show 23 + 27 * n + j = 20 + 27 * n + 3 + j by omega, rowA_in hj]
