theorem st_get {S : St} {a j : Nat} {v : Int32} : sI (stI S a j v) a j = v := by rw [sI_stI, if_pos ⟨rfl, rfl⟩]
theorem st_ne {S : St} {a j b k : Nat} {v : Int32} (h : b ≠ a ∨ k ≠ j) : sI (stI S a j v) b k = sI S b k := by
  rw [sI_stI, if_neg]
  rintro ⟨rfl, rfl⟩
  rcases h with h | h <;> exact h rfl
/-- the numbers' ranges, when rows of one hand or one piece change -/
theorem OK_hand {al al' : Nat → Int32} {h : Nat} (hOK : OK al) (hh : h < nat (al 2)) (hal : ∀ k, ¬ (3440 + 160 * h ≤ k ∧ k < 3600 + 160 * h) → al' k = al k)
    (hr : (1 ≤ al' (3440 + 160 * h) ∧ al' (3440 + 160 * h) ≤ 200) ∧ (1 ≤ al' (3441 + 160 * h) ∧ al' (3441 + 160 * h) ≤ 12) ∧ (0 ≤ al' (3442 + 160 * h) ∧ al' (3442 + 160 * h) ≤ 2) ∧ (∀ s, s < 6 → 0 ≤ al' (3445 + 160 * h + s) ∧ al' (3445 + 160 * h + s) ≤ 100) ∧ ∀ wk, wk < 143 → al' (3456 + 160 * h + wk) = 0 ∨ al' (3456 + 160 * h + wk) = 1) : OK al' := by
  obtain ⟨oc, oh, op, og, ol, ot, ob⟩ := hOK
  have n2 : nat (al 2) ≤ 12 := nat_le oc.2.2.1.2 (by decide)
  have n3 : nat (al 3) ≤ 60 := nat_le oc.2.2.2.1.2 (by decide)
  have n0 : nat (al 0) ≤ 8 := nat_le oc.1.2 (by decide)
  have n1 : nat (al 1) ≤ 10 := nat_le oc.2.1.2 (by decide)
  have e0 := hal 0 (by omega)
  have e1 := hal 1 (by omega)
  have e2 := hal 2 (by omega)
  have e3 := hal 3 (by omega)
  refine ⟨?_, fun i hi => ?_, fun p hp => ?_, fun p hp => ?_, fun l hl => ?_, fun s hs => ?_, fun i hi => ?_⟩
  · unfold OKc
    rw [e0, e1, e2, e3, hal 4 (by omega), hal 5 (by omega)]
    exact oc
  · rw [e2] at hi
    by_cases e : i = h
    · subst e; exact hr
    · obtain ⟨a, b, c, d, f⟩ := oh i hi
      rw [hal _ (by omega), hal _ (by omega), hal _ (by omega)]
      exact ⟨a, b, c, fun s hs => by rw [hal _ (by omega)]; exact d s hs, fun wk hw => by rw [hal _ (by omega)]; exact f wk hw⟩
  · rw [e0] at hp
    obtain ⟨a, b, c, d⟩ := op p hp
    rw [hal _ (by omega), hal _ (by omega), hal _ (by omega)]
    exact ⟨a, b, c, fun k hk => by rw [hal _ (by omega)]; exact d k hk⟩
  · rw [e3] at hp
    obtain ⟨a, b, c, d, e, f, g, i⟩ := og p hp
    rw [e0, e2, hal _ (by omega), hal _ (by omega), hal _ (by omega), hal _ (by omega), hal _ (by omega), hal _ (by omega)]
    exact ⟨a, b, c, d, e, f, fun j hj => by rw [hal _ (by omega)]; exact g j hj, fun s hs => by rw [hal _ (by omega), hal _ (by omega)]; exact i s hs⟩
  · rw [e1] at hl
    obtain ⟨a, b, c, d, e⟩ := ol l hl
    have n4 : nat (al (243 + 320 * l)) ≤ 16 := nat_le d.2 (by decide)
    rw [hal (240 + 320 * l) (by omega), hal (241 + 320 * l) (by omega), hal (242 + 320 * l) (by omega), hal (243 + 320 * l) (by omega)]
    refine ⟨a, b, c, d, fun k hk => ?_⟩
    rw [hal _ (by omega), hal _ (by omega), hal _ (by omega)]
    exact e k hk
  · rw [hal _ (by omega)]; exact ot s hs
  · rw [hal _ (by omega)]; exact ob i hi
theorem OK_piece {al al' : Nat → Int32} {h : Nat} (hOK : OK al) (hh : h < nat (al 3)) (hal : ∀ k, ¬ (5360 + 28 * h ≤ k ∧ k < 5388 + 28 * h) → al' k = al k)
    (hr : (0 ≤ al' (5360 + 28 * h) ∧ al' (5360 + 28 * h) ≤ 2) ∧ (0 ≤ al' (5361 + 28 * h) ∧ al' (5361 + 28 * h) < al 0) ∧ (0 ≤ al' (5362 + 28 * h) ∧ al' (5362 + 28 * h) < al 2) ∧ (0 ≤ al' (5363 + 28 * h) ∧ al' (5363 + 28 * h) ≤ 999) ∧ (-1 ≤ al' (5364 + 28 * h) ∧ al' (5364 + 28 * h) ≤ 999) ∧ (0 ≤ al' (5365 + 28 * h) ∧ al' (5365 + 28 * h) ≤ 99 ∧ (al' (5364 + 28 * h) = -1 → al' (5365 + 28 * h) = 0)) ∧ (∀ j, j < 6 → 0 ≤ al' (5370 + 28 * h + j) ∧ al' (5370 + 28 * h + j) ≤ 10000) ∧ ∀ s, s < 6 → (0 ≤ al' (5376 + 28 * h + 2 * s) ∧ al' (5376 + 28 * h + 2 * s) ≤ 999) ∧ 0 ≤ al' (5377 + 28 * h + 2 * s) ∧ al' (5377 + 28 * h + 2 * s) ≤ 999) : OK al' := by
  obtain ⟨oc, oh, op, og, ol, ot, ob⟩ := hOK
  have n2 : nat (al 2) ≤ 12 := nat_le oc.2.2.1.2 (by decide)
  have n3 : nat (al 3) ≤ 60 := nat_le oc.2.2.2.1.2 (by decide)
  have n0 : nat (al 0) ≤ 8 := nat_le oc.1.2 (by decide)
  have n1 : nat (al 1) ≤ 10 := nat_le oc.2.1.2 (by decide)
  have e0 := hal 0 (by omega)
  have e1 := hal 1 (by omega)
  have e2 := hal 2 (by omega)
  have e3 := hal 3 (by omega)
  refine ⟨?_, fun i hi => ?_, fun p hp => ?_, fun p hp => ?_, fun l hl => ?_, fun s hs => ?_, fun i hi => ?_⟩
  · unfold OKc
    rw [e0, e1, e2, e3, hal 4 (by omega), hal 5 (by omega)]
    exact oc
  · rw [e2] at hi
    obtain ⟨a, b, c, d, f⟩ := oh i hi
    rw [hal _ (by omega), hal _ (by omega), hal _ (by omega)]
    exact ⟨a, b, c, fun s hs => by rw [hal _ (by omega)]; exact d s hs, fun wk hw => by rw [hal _ (by omega)]; exact f wk hw⟩
  · rw [e0] at hp
    obtain ⟨a, b, c, d⟩ := op p hp
    rw [hal _ (by omega), hal _ (by omega), hal _ (by omega)]
    exact ⟨a, b, c, fun k hk => by rw [hal _ (by omega)]; exact d k hk⟩
  · rw [e3] at hp
    rw [e0, e2]
    by_cases e : p = h
    · subst e; exact hr
    · obtain ⟨a, b, c, d, e, f, g, i⟩ := og p hp
      rw [hal _ (by omega), hal _ (by omega), hal _ (by omega), hal _ (by omega), hal _ (by omega), hal _ (by omega)]
      exact ⟨a, b, c, d, e, f, fun j hj => by rw [hal _ (by omega)]; exact g j hj, fun s hs => by rw [hal _ (by omega), hal _ (by omega)]; exact i s hs⟩
  · rw [e1] at hl
    obtain ⟨a, b, c, d, e⟩ := ol l hl
    have n4 : nat (al (243 + 320 * l)) ≤ 16 := nat_le d.2 (by decide)
    rw [hal (240 + 320 * l) (by omega), hal (241 + 320 * l) (by omega), hal (242 + 320 * l) (by omega), hal (243 + 320 * l) (by omega)]
    refine ⟨a, b, c, d, fun k hk => ?_⟩
    rw [hal _ (by omega), hal _ (by omega), hal _ (by omega)]
    exact e k hk
  · rw [hal _ (by omega)]; exact ot s hs
  · rw [hal _ (by omega)]; exact ob i hi
-- advance
theorem H_advance (S : St) (x1 x2 : Int32) (hI : INV S) : Stq INV (fX11_advance 0 x1 x2) (fX12_advance 32 x1 x2) S := by
  obtain ⟨al, im, h1, h2, h3, h4, h5, h6⟩ := id hI
  have hs : sI S 1 10 = al 2 := h3.1.1.2.2.2.2.2.2.1
  have hW := WSh_1 h1
  have h33 : sI S 33 2 = al 2 := h4.1 2 (by decide)
  by_cases hx : wi x1 0 (al 2 - 1) = true
  · obtain ⟨n, hn, rfl⟩ := (wi_cnt h5.1.2.2.1.1).mp hx
    have hn12 : n < 12 := Nat.lt_of_lt_of_le hn (nat_le (n := 12) h5.1.2.2.1.2 (by decide))
    obtain ⟨q, hq, r⟩ := h3.1.2.2.2.2.2.2.1 n hn
    have hsh := shH h2 (Or.inl rfl) hn12 hq
    by_cases hy : wi x2 1 100000 = true
    · have hc : fX11_advance 0 (Int32.ofNat n) x2 S = some (sI S q 3 + x2, stI S q 3 (sI S q 3 + x2)) := by
        unfold fX11_advance
        rw [gR_at (SH_K0 h1) (SH_R0_0 h1), nn_S, ck_at (SH_K1 h1), cl_S (handAt_ok hW hs h5.1.2.2.1 hn), hq, on_S, cl_within, br_b, if_pos hy, gI_at hsh.1, pI_at hsh.1, gI_at (by rw [sK_stI]; exact hsh.1), rt_S, st_get]
      have hF : FR (fun b => q ≤ b ∧ b < q + 3) S (stI S q 3 (sI S q 3 + x2)) := FR.rfl.stI _ (by omega)
      have e3 : sI S q 3 = al (3440 + 160 * n + 3) := r.1 3 (by omega)
      have g1 := FR_SH hF h1
      have hal : ∀ k, k ≠ 3440 + 160 * n + 3 → va_up al (3440 + 160 * n + 3) (sI S q 3 + x2) k = al k := fun k hk => va_up_n hk
      have h46 : 46 ≤ q := hsh.2.2.2.2.2.2.2.1
      have i33 : ∀ j, sI (stI S q 3 (sI S q 3 + x2)) 33 j = sI S 33 j := fun j => st_ne (Or.inl (by omega))
      have hm : fX12_advance 32 (Int32.ofNat n) x2 (stI S q 3 (sI S q 3 + x2)) = some (sI S q 3 + x2, stI (stI S q 3 (sI S q 3 + x2)) 33 (3440 + 160 * n + 3) (sI S q 3 + x2)) := by
        unfold fX12_advance
        have ei : (3440 + 160 * Int32.ofNat n + 3 : Int32) = Int32.ofNat (3440 + 160 * n + 3) := of3 3440 160 0 n 3 _ _ _ rfl rfl rfl
        rw [ck_at (SH_K32 g1), cl_S (isOf_eq g1 _ 2 (k := 2) rfl (by decide)), i33, h33, br_b, if_pos hx, cl_isIn, br_b, if_pos hy, gR_at (SH_K32 g1) (SH_R32_0 g1), nn_S, aI_at (i := 3440 + 160 * Int32.ofNat n + 3) (n := 3440 + 160 * n + 3) (SH_K33 g1) ei (by omega) (by rw [SH_L33 g1]; omega), i33, h4.1 _ (by omega), ← e3, wI_at (i := 3440 + 160 * Int32.ofNat n + 3) (n := 3440 + 160 * n + 3) (SH_K33 g1) ei (by omega) (by rw [SH_L33 g1]; omega), ck_at (by rw [sK_stI]; exact SH_K32 g1), cl_S (handOf_eq (x := Int32.ofNat n) (y := 3) (n := n) (j := 3) (FR_SH (FR.rfl.stI (X := XN) _ (by unfold XN; omega)) g1) rfl rfl hn12 (by omega)), rt_S, st_get]
      have hrel : HRel (va_up al (3440 + 160 * n + 3) (sI S q 3 + x2)) n q (stI S q 3 (sI S q 3 + x2)) := by
        refine ⟨fun j hj => ?_, fun s hs => ?_, fun wk hw => ?_⟩
        · by_cases e : j = 3
          · subst e; rw [st_get, va_up_eq]
          · rw [st_ne (Or.inr e), hal _ (by omega)]; exact r.1 j hj
        · rw [st_ne (Or.inl (by omega)), hal _ (by omega)]; exact r.2.1 s hs
        · rw [st_ne (Or.inl (by omega)), hal _ (by omega)]; exact r.2.2 wk hw
      refine stq_write (al := al) (im := im) (im' := im) hc g1 (FR_CS hF h2) (RC_H h3 h2 h5 h6 hn hq hF (fun k hk => hal k (by omega)) hrel) (by rw [sn_stI]; omega) (by rw [sm_stI]; omega) hm (FR.rfl.stI _ (by unfold XN; omega)) (RM_up (RM_fr h4 hF (by omega) (by omega)) (by omega) _) (OK_hand h5 hn (fun k hk => hal k (by omega)) ?_) h6
      obtain ⟨a, b, c, d, e⟩ := h5.2.1 n hn
      rw [hal _ (by omega), hal _ (by omega), hal _ (by omega)]
      exact ⟨a, b, c, fun s hs => by rw [hal _ (by omega)]; exact d s hs, fun wk hw => by rw [hal _ (by omega)]; exact e wk hw⟩
    · refine stq_read (r := -1) (S1 := S) (S2 := S) hI ?_ FR.rfl ?_ FR.rfl
      · unfold fX11_advance
        rw [gR_at (SH_K0 h1) (SH_R0_0 h1), nn_S, ck_at (SH_K1 h1), cl_S (handAt_ok hW hs h5.1.2.2.1 hn), hq, on_S, cl_within, br_b, if_neg hy, rt_S]
      · unfold fX12_advance
        rw [ck_at (SH_K32 h1), cl_S (isOf_eq h1 _ 2 (k := 2) rfl (by decide)), h33, br_b, if_pos hx, cl_isIn, br_b, if_neg hy, rt_S]
  · refine stq_read (r := -1) (S1 := S) (S2 := S) hI ?_ FR.rfl ?_ FR.rfl
    · unfold fX11_advance
      rw [gR_at (SH_K0 h1) (SH_R0_0 h1), nn_S, ck_at (SH_K1 h1), cl_S (handAt_no hW hs (by simpa using hx)), on_N, rt_S]
    · unfold fX12_advance
      rw [ck_at (SH_K32 h1), cl_S (isOf_eq h1 _ 2 (k := 2) rfl (by decide)), h33, br_b, if_neg hx, rt_S]
