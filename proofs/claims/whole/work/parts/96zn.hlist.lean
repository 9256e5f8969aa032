theorem llA_out {al : Nat → Int32} {p k L : Nat} {x1 x2 y : Int32} {f : Nat → Int32} (h0 : k ≠ 1) (h : ¬ (240 + 320 * p ≤ k ∧ k < 560 + 320 * p)) : llA al p x1 x2 y L f k = al k := by
  unfold llA
  rw [va_up_n h0, rowA_out (by omega), va_up_n (by omega), va_up_n (by omega), va_up_n (by omega), va_up_n (by omega)]
theorem llA_0 {al : Nat → Int32} {p L : Nat} {x1 x2 y : Int32} {f : Nat → Int32} : llA al p x1 x2 y L f (240 + 320 * p) = x1 := by
  unfold llA
  rw [va_up_n (by omega), rowA_out (by omega), va_up_n (by omega), va_up_n (by omega), va_up_n (by omega), va_up_eq]
theorem llA_1 {al : Nat → Int32} {p L : Nat} {x1 x2 y : Int32} {f : Nat → Int32} : llA al p x1 x2 y L f (241 + 320 * p) = x2 := by
  unfold llA
  rw [va_up_n (by omega), rowA_out (by omega), va_up_n (by omega), va_up_n (by omega), show 241 + 320 * p = 240 + 320 * p + 1 by omega, va_up_eq]
theorem llA_2 {al : Nat → Int32} {p L : Nat} {x1 x2 y : Int32} {f : Nat → Int32} : llA al p x1 x2 y L f (242 + 320 * p) = y := by
  unfold llA
  rw [va_up_n (by omega), rowA_out (by omega), va_up_n (by omega), show 242 + 320 * p = 240 + 320 * p + 2 by omega, va_up_eq]
theorem llA_3 {al : Nat → Int32} {p L : Nat} {x1 x2 y : Int32} {f : Nat → Int32} : llA al p x1 x2 y L f (243 + 320 * p) = Int32.ofNat L := by
  unfold llA
  rw [va_up_n (by omega), rowA_out (by omega), show 243 + 320 * p = 240 + 320 * p + 3 by omega, va_up_eq]
theorem llA_f {al : Nat → Int32} {p L k j : Nat} {x1 x2 y : Int32} {f : Nat → Int32} (e : k = 244 + 320 * p + j) (hj : j < 304) : llA al p x1 x2 y L f k = f j := by
  unfold llA
  rw [va_up_n (by omega), e, show 244 + 320 * p + j = 240 + 320 * p + 4 + j by omega, rowA_in hj]
theorem llA_ok {al : Nat → Int32} {p L : Nat} {x1 x2 P : Int32} {f : Nat → Int32} {d : Nat → Nat → Nat} (hOK : OK al) (hp : al 1 = Int32.ofNat p) (hlt : p < 10) (hx1 : wi x1 0 2 = true) (hx2 : wi x2 0 142 = true) (hf : MDf f L d) (hg : ∀ l, l < L → gL (d l)) : OK (llA (tpA al 0 P) p x1 x2 (al 4) L f) := by
  have a1 := of_decide_eq_true hx1
  have a2 := of_decide_eq_true hx2
  have hL := hf.1
  refine OK_add_l (n := p) (tpA_ok hOK) (by rw [tpA_n (by decide)]; exact hp) hlt (fun k _ q1 q2 => llA_out q1 q2) va_up_eq ⟨?_, ?_, ?_, ?_, fun k hk => ?_⟩
  · rw [llA_0]; exact ⟨Int32.not_lt.mp a1.1, Int32.not_lt.mp a1.2⟩
  · rw [llA_1]; exact ⟨Int32.not_lt.mp a2.1, Int32.not_lt.mp a2.2⟩
  · rw [llA_2]; exact hOK.1.2.2.2.2.1
  · rw [llA_3]
    refine ⟨ofNat_nonneg (by omega), ?_⟩
    rw [show (16 : Int32) = Int32.ofNat 16 from rfl, le_ofNat (by omega) (by omega)]; exact hL
  · rw [llA_3, nat_ofNat (by omega)] at hk
    obtain ⟨b1, b2, b3, b4, b5⟩ := hf.2 k hk
    obtain ⟨g1, g2, g3, g4, g5⟩ := hg k hk
    rw [llA_f (j := 19 * k + 1) (by omega) (by omega), llA_f (k := 262 + 320 * p + 19 * k) (j := 19 * k + 18) (by omega) (by omega), llA_f (k := 244 + 320 * p + 19 * k) (j := 19 * k) (by omega) (by omega), b1, b2, b3]
    refine ⟨⟨ofNat_nonneg (by omega), ?_⟩, ⟨ofNat_nonneg (by omega), ?_⟩, fun z => ?_⟩
    · rw [show (4 : Int32) = Int32.ofNat 4 from rfl, le_ofNat (by omega) (by omega)]; exact g4
    · rw [show (9999 : Int32) = Int32.ofNat 9999 from rfl, le_ofNat (by omega) (by omega)]; exact g2
    · rw [show (5 : Int32) = Int32.ofNat 5 from rfl, eq_ofNat (by omega) (by omega)] at z
      rw [show (100 : Int32) = Int32.ofNat 100 from rfl, le_ofNat (by omega) (by omega)]; exact g3 z
theorem llA_rel {al : Nat → Int32} {p L q : Nat} {x1 x2 y : Int32} {f : Nat → Int32} {d : Nat → Nat → Nat} {S3 T : St} (hf : MDf f L d) (hC : CD S3 L d) (z0 : sI T q 0 = x1) (z1 : sI T q 1 = x2) (z2 : sI T q 2 = y) (z3 : sI T q 3 = Int32.ofNat L) (F1 : FA T (q + 1) L (sI S3 17)) (F2 : FA T (q + 2) L (sI S3 18)) (F3 : FA T (q + 3) L (sI S3 19)) (F4 : FA T (q + 4) (16 * L) (sI S3 20)) : LRel (llA al p x1 x2 y L f) p q T := by
  have hL := hf.1
  refine ⟨by rw [z0, llA_0], by rw [z1, llA_1], by rw [z2, llA_2], by rw [z3, llA_3], by rw [F1.2.1, llA_3, nat_ofNat (by omega)], by rw [llA_3]; exact ofNat_nonneg (by omega), fun k hk => ?_⟩
  rw [F1.2.1] at hk
  obtain ⟨b1, b2, b3, b4, b5⟩ := hf.2 k hk
  obtain ⟨⟨g1, g2, g3, g4, g5⟩, c1, c2, c3, c4⟩ := hC.2 k hk
  rw [F1.2.2 k hk, F2.2.2 k hk, F3.2.2 k hk, c1, c2, c3, llA_f (k := 244 + 320 * p + 19 * k) (j := 19 * k) (by omega) (by omega), llA_f (k := 262 + 320 * p + 19 * k) (j := 19 * k + 18) (by omega) (by omega), llA_f (k := 245 + 320 * p + 19 * k) (j := 19 * k + 1) (by omega) (by omega), b1, b2, b3, nat_ofNat (by omega)]
  refine ⟨rfl, rfl, rfl, ofNat_nonneg (by omega), by rw [show (4 : Int32) = Int32.ofNat 4 from rfl, le_ofNat (by omega) (by omega)]; exact g4, fun t ht => ?_⟩
  obtain ⟨u0, u1, u2, u3⟩ := g5 t ht
  have k0 := c4 t 0 ht (by decide)
  have k1 := c4 t 1 ht (by decide)
  have k2 := c4 t 2 ht (by decide)
  have k3 := c4 t 3 ht (by decide)
  have l0 := b5 t 0 ht (by decide)
  have l1 := b5 t 1 ht (by decide)
  have l2 := b5 t 2 ht (by decide)
  have l3 := b5 t 3 ht (by decide)
  rw [F4.2.2 _ (by omega), F4.2.2 _ (by omega), F4.2.2 _ (by omega), F4.2.2 _ (by omega), k1, k2, k3, show 16 * k + 4 * t = 16 * k + 4 * t + 0 by omega, k0, llA_f (k := 246 + 320 * p + 19 * k + 4 * t) (j := 19 * k + (2 + 4 * t + 0)) (by omega) (by omega), llA_f (k := 247 + 320 * p + 19 * k + 4 * t) (j := 19 * k + (2 + 4 * t + 1)) (by omega) (by omega), llA_f (k := 248 + 320 * p + 19 * k + 4 * t) (j := 19 * k + (2 + 4 * t + 2)) (by omega) (by omega), llA_f (k := 249 + 320 * p + 19 * k + 4 * t) (j := 19 * k + (2 + 4 * t + 3)) (by omega) (by omega), l0, l1, l2, l3]
  refine ⟨rfl, rfl, ofNat_nonneg (by omega), ?_, rfl, rfl⟩
  rw [show (7 : Int32) = Int32.ofNat 7 from rfl, le_ofNat (by omega) (by omega)]; exact u1
theorem stq_go2 {Ru : Type} {f g : St → Option (Ru × St)} {S : St} {al : Nat → Int32} {im : Nat → Option (Nat → Int32)} (A : (Nat → Int32) → Prop) (r0 : Ru) (h : IN al im S) (hf : Rn (f S) (fun r S1 => r = r0 ∧ SH S1 ∧ (∀ j, sI S1 33 j = sI S 33 j) ∧ ∀ al', A al' → OK al' ∧ CQ S al' im S1)) (hg : ∀ S1, MD S1 al S1 → Rn (g S1) (fun r S2 => r = r0 ∧ ∃ al', A al' ∧ MD S1 al' S2)) : Stq INV f g S := by
  obtain ⟨h1, h2, h3, h4, h5, h6⟩ := h
  obtain ⟨r, S1, ef, rfl, c1, c6, hA⟩ := hf
  have hM : MD S1 al S1 := ⟨c1, FR.rfl, fun i hi => by rw [c6]; exact h4.1 i hi, fun _ _ => rfl, fun _ => rfl⟩
  obtain ⟨r', S2, eg, rfl, al', ha, m1, m2, m3, m4, m5⟩ := hg S1 hM
  obtain ⟨hOK, _, c2, c3, c4, c5, _, c7⟩ := hA al' ha
  refine stq_write (al := al) (im := im) ef c1 c2 c3 c4 c5 eg m2 ⟨m3, fun k hk => ?_⟩ hOK h6
  rcases h4.2 k hk with ⟨a, b⟩ | ⟨al0, a, b, c⟩
  · exact Or.inl ⟨a, by rw [m5, c7]; exact b⟩
  · exact Or.inr ⟨al0, a, by rw [m5, c7]; exact b, fun i hi => by rw [m4 _ (by omega), c6]; exact c i hi⟩
set_option maxHeartbeats 1000000 in
set_option maxRecDepth 10000 in
theorem list_x {al : Nat → Int32} {im : Nat → Option (Nat → Int32)} {S : St} {p : Nat} {x1 x2 : Int32} (hN : IN al im S) (hp : al 1 = Int32.ofNat p) (hlt : p < 10) (hx1 : wi x1 0 2 = true) (hx2 : wi x2 0 142 = true) : Rn (fX11_list 0 x1 x2 S) (fun r S1 => r = (if (sLs al).2.2.1 = 0 then Int32.ofNat p else -1) ∧ SH S1 ∧ (∀ j, sI S1 33 j = sI S 33 j) ∧ ∀ al', agL al p x1 x2 (sLs al) al' → OK al' ∧ CQ S al' im S1) := by
  obtain ⟨h1, h2, h3, h4, h5, h6⟩ := id hN
  have hc : sI S 1 8 = Int32.ofNat p := by rw [← hp]; exact h3.1.1.2.2.2.2.2.1
  have h5' := h5.1.2.2.2.2.2
  have hn4 : nat (al 5) ≤ 400 := nat_le h5'.2 (by decide)
  have ht : sI S 1 1 = Int32.ofNat (nat (al 5)) := by rw [h3.1.1.1]; exact cnt_eq h5'.1
  have ic1 := tp_ic hN.ic
  have hB : ∀ i, i < 400 → sI (stI (stI (stI S 1 1 0) 1 2 0) 1 3 (-1)) 2 i = cbI (byT al i) := fun i hi => by
    rw [st_ne (Or.inl (by decide)), st_ne (Or.inl (by decide)), st_ne (Or.inl (by decide)), h3.1.2.1 i hi, byT_of h5.2.2.2.2.2.2 hi]
    rfl
  have hc1 : sI (stI (stI (stI S 1 1 0) 1 2 0) 1 3 (-1)) 1 8 = Int32.ofNat p := by rw [st_ne (Or.inr (by decide)), st_ne (Or.inr (by decide)), st_ne (Or.inr (by decide))]; exact hc
  have fx1 : FX (fun a => a = 1) S (stI (stI (stI S 1 1 0) 1 2 0) 1 3 (-1)) := ((FX.rfl.stI (X := fun a => a = 1) _ rfl).stI _ rfl).stI _ rfl
  unfold fX11_list
  refine w_gR (SH_K0 h1) (SH_R0_0 h1) (w_nn (w_ck (SH_K1 h1) (w_cl (tp_x h1) ?_)))
  rw [ht]
  generalize stI (stI (stI S 1 1 0) 1 2 0) 1 3 (-1) = S1 at *
  have s1 := ic1.1
  refine w_gR (SH_K0 s1) (SH_R0_0 s1) (w_nn (w_gIe (SH_K1 s1) hc1 (w_bf ?_ (w_cl (isDealer_eq _ _) (w_zt hx1 (w_cl (within_eq _ _ _ _) (w_zt hx2 (w_gR (SH_K0 s1) (SH_R0_3 s1) (w_gR (SH_K0 s1) (SH_R0_0 s1) (w_nn (w_gR (SH_K1 s1) (SH_R1_0 s1) (w_nn (w_ck (SH_K15 s1) (w_clr (lread_x s1 hn4 (byT_lt h5.2.2.2.2.2.2) hB) ?_))))))))))))))
  · rw [show (10 : Int32) = Int32.ofNat 10 from rfl, le_ofNat (by omega) (by omega)]; omega
  have hRR : lins (byT al) (nat (al 5)) (nat (al 5) + 1) s0L = sLs al := rfl
  rw [hRR]
  generalize sLs al = R at *
  rintro _ S2 ⟨f2, q3, q34, q4, qc⟩
  have ic2 : IC (tpA al 0 (-1)) im S2 := IC_fr (IC_r5 ic1 (Or.inr rfl)) (f2.fx (Y := fun a => 15 ≤ a ∧ a ≤ 20) (fun a j z => z)).fr (fun a z => by omega)
  have s2 := ic2.1
  have ic3 := kf_ic (F := R.2.2.1) (P := R.2.2.2.1) ic2
  refine w_gR (SH_K0 s2) (SH_R0_0 s2) (w_gR (SH_K0 s2) (SH_R0_3 s2) (w_nn (w_gR (SH_K15 s2) (SH_R15_0 s2) (w_nn (w_ck (SH_K1 s2) (w_cl (kf_x s2 (Or.inr rfl) q3 q4) ?_))))))
  have e2 : ∀ a j, a ≠ 1 → sI (stI (stI S2 1 2 (Int32.ofNat R.2.2.1)) 1 3 R.2.2.2.1) a j = sI S2 a j := fun a j ha => by rw [st_ne (Or.inl ha), st_ne (Or.inl ha)]
  have e3 : sI (stI (stI S2 1 2 (Int32.ofNat R.2.2.1)) 1 3 R.2.2.2.1) 1 2 = Int32.ofNat R.2.2.1 := by rw [st_ne (Or.inr (by decide)), st_get]
  have e4 : sn (stI (stI S2 1 2 (Int32.ofNat R.2.2.1)) 1 3 R.2.2.2.1) = sn S := by
    show sn S2 = sn S
    rw [f2.2.2.2.1]
    exact fx1.2.2.2.1
  have e5 : sm (stI (stI S2 1 2 (Int32.ofNat R.2.2.1)) 1 3 R.2.2.2.1) = sm S := by
    show sm S2 = sm S
    rw [f2.2.2.2.2.1]
    exact fx1.2.2.2.2.1
  have e6 : ∀ a j, 33 ≤ a → sI (stI (stI S2 1 2 (Int32.ofNat R.2.2.1)) 1 3 R.2.2.2.1) a j = sI S a j := fun a j ha => by
    rw [e2 a j (by omega), f2.i (by omega)]
    exact fx1.2.2.2.2.2 a j (by omega)
  show Rn ((gR 12 0 0 fun v21 => _) (stI (stI S2 1 2 (Int32.ofNat R.2.2.1)) 1 3 R.2.2.2.1)) _
  generalize stI (stI S2 1 2 (Int32.ofNat R.2.2.1)) 1 3 R.2.2.2.1 = S3 at *
  have s3 := ic3.1
  refine w_gR (SH_K0 s3) (SH_R0_0 s3) (w_nn (w_gIe (SH_K1 s3) e3 (w_br (fun u => ?_) (fun u => ?_))))
  · rw [show (0 : Int32) = Int32.ofNat 0 from rfl, eq_ofNat (by omega) (by omega)] at u
    rw [u] at ic3
    obtain ⟨qd, q15⟩ := qc u
    have qd3 : CD S3 R.2.1 R.2.2.2.2 := by
      refine ⟨qd.1, fun l hl => ?_⟩
      obtain ⟨a1, a2, a3, a4, a5⟩ := qd.2 l hl
      exact ⟨a1, by rw [e2 17 l (by decide)]; exact a2, by rw [e2 18 l (by decide)]; exact a3, by rw [e2 19 l (by decide)]; exact a4, fun t j ht hj => by rw [e2 20 _ (by decide)]; exact a5 t j ht hj⟩
    have hday : sI S3 1 4 = al 4 := by rw [ic3.2.2.1.1.1.2.2.2.1, tpA_n (by decide)]
    rw [if_pos u]
    refine w_gR (SH_K0 s3) (SH_R0_0 s3) (w_nO ?_)
    have hE0 : EX S3 (stN S3 10 0 8) := (EX.rfl (S := S3)).new 10 0 8
    have s3' : SH (stN S3 10 0 8) := EX_SH hE0 s3
    have hday' : sI (stN S3 10 0 8) 1 4 = al 4 := by rw [(hE0.2 1 (by have := s3.2.2.2; omega)).2.2.1]; exact hday
    refine w_gR (SH_K0 s3') (SH_R0_0 s3') (w_nn (w_gIe (SH_K1 s3') hday' (w_gR (SH_K0 s3') (SH_R0_3 s3') (w_clr (init_list s3 qd.1 (by rw [e2 15 1 (by decide)]; exact q15)) ?_))))
    rintro _ S4 ⟨hE, hsn, hsm, hsh, z0, z1, z2, z3, F1, F2, F3, F4⟩
    have k1 := EX_SH hE s3
    have hc4 : sI S4 1 8 = Int32.ofNat p := by
      rw [(hE.2 1 (by have := s3.2.2.2; omega)).2.2.1, ic3.2.2.1.1.1.2.2.2.2.2.1, tpA_n (by omega)]; exact hp
    have k2 := SH_put k1 (a := 4) (j := p) (some (sn S3)) (by omega)
    refine w_nn (w_ck (SH_K1 k1) (w_cl (r := Int32.ofNat p) (S1 := stI (stR S4 4 p (some (sn S3))) 1 8 (Int32.ofNat p + 1)) ?_ (w_rt ⟨rfl, SHi k2 _ _ _, fun j => ?_, fun al' ha => ?_⟩)))
    · apply Rn.eq
      unfold fX10_addList
      have hwn : wi (Int32.ofNat p) 0 9 = true := by
        rw [show (0 : Int32) = Int32.ofNat 0 from rfl, show (9 : Int32) = Int32.ofNat 9 from rfl, wi_ofNat (by omega) (by omega) (by omega)]
        exact decide_eq_true (by omega)
      exact w_gIe (SH_K1 k1) hc4 (w_cl (within_eq _ _ _ _) (w_zt hwn (w_gR (SH_K1 k1) (SH_R1_7 k1) (w_nn (w_wR (n := p) (m := 10) (SH_K4 k1) hsh.1 rfl (SH_L4 k1) (by omega) (w_gIe (SH_K1 k2) (v := Int32.ofNat p) hc4 (w_pI (SH_K1 k2) (w_rt ⟨rfl, rfl⟩))))))))
    · rw [st_ne (Or.inl (by decide)), sI_stR, (hE.2 33 (by have := s3.2.2.2; omega)).2.2.1, e6 33 j (by decide)]
    · unfold agL at ha
      rw [if_pos u] at ha
      obtain ⟨f, hf, rfl⟩ := ha
      refine ⟨llA_ok h5 hp hlt hx1 hx2 hf (fun l hl => (qd.2 l hl).1), ?_⟩
      exact CQ_addL ic3 (by rw [tpA_n (by omega)]; exact hp) hlt hE (Nat.le_refl _) hsh (fun k _ q1 q2 => llA_out q1 q2) va_up_eq (llA_rel hf qd3 z0 z1 z2 z3 F1 F2 F3 F4) (by omega) (by omega) (fun j => e6 33 j (by omega)) (fun j => e6 34 j (by omega))
  · rw [show (0 : Int32) = Int32.ofNat 0 from rfl, eq_ofNat (by omega) (by omega)] at u
    rw [if_neg u]
    refine w_rt ⟨rfl, s3, fun j => e6 33 j (by decide), fun al' ha => ?_⟩
    unfold agL at ha
    rw [if_neg u] at ha
    subst ha
    exact ⟨tpA_ok h5, ic3.cq e4 e5 (fun j => e6 33 j (by omega)) (fun j => e6 34 j (by omega))⟩
set_option maxHeartbeats 1000000 in
set_option maxRecDepth 10000 in
theorem H_list (S : St) (x1 x2 : Int32) (hI : INV S) : Stq INV (fX11_list 0 x1 x2) (fX12_list 32 x1 x2) S := by
  obtain ⟨al, im, hN⟩ : ∃ al im, IN al im S := hI
  obtain ⟨h1, h2, h3, h4, h5, h6⟩ := id hN
  have l0 : nat (al 1) ≤ 10 := nat_le h5.1.2.1.2 (by decide)
  obtain ⟨p, hp⟩ : ∃ p, p = nat (al 1) := ⟨_, rfl⟩
  have hp2 : al 1 = Int32.ofNat p := by rw [hp]; exact cnt_eq h5.1.2.1.1
  have hc : sI S 1 8 = Int32.ofNat p := by rw [← hp2]; exact h3.1.1.2.2.2.2.2.1
  have h5' := h5.1.2.2.2.2.2
  have hn4 : nat (al 5) ≤ 400 := nat_le h5'.2 (by decide)
  have hno : (¬ p < 10 ∨ wi x1 0 2 = false ∨ wi x2 0 142 = false) → Stq INV (fX11_list 0 x1 x2) (fX12_list 32 x1 x2) S := by
    intro hno
    refine stq_go (tpA al 0 (-1)) (-2) hN (tpA_ok h5) ?_ ?_
    · have ic1 := tp_ic hN.ic
      have hc1 : sI (stI (stI (stI S 1 1 0) 1 2 0) 1 3 (-1)) 1 8 = Int32.ofNat p := by rw [st_ne (Or.inr (by decide)), st_ne (Or.inr (by decide)), st_ne (Or.inr (by decide))]; exact hc
      have cq : CQ S (tpA al 0 (-1)) im (stI (stI (stI S 1 1 0) 1 2 0) 1 3 (-1)) := ic1.cq rfl rfl (fun j => by rw [st_ne (Or.inl (by decide)), st_ne (Or.inl (by decide)), st_ne (Or.inl (by decide))]) (fun j => by rw [st_ne (Or.inl (by decide)), st_ne (Or.inl (by decide)), st_ne (Or.inl (by decide))])
      unfold fX11_list
      refine w_gR (SH_K0 h1) (SH_R0_0 h1) (w_nn (w_ck (SH_K1 h1) (w_cl (tp_x h1) ?_)))
      generalize stI (stI (stI S 1 1 0) 1 2 0) 1 3 (-1) = S1 at *
      have s1 := ic1.1
      refine w_gR (SH_K0 s1) (SH_R0_0 s1) (w_nn (w_gIe (SH_K1 s1) hc1 (w_br (fun u => w_rt ⟨rfl, cq⟩) (fun u => w_cl (isDealer_eq _ _) (w_z (fun v => w_cl (within_eq _ _ _ _) (w_z (fun w => ?_) (fun w => w_rt ⟨rfl, cq⟩))) (fun v => w_rt ⟨rfl, cq⟩))))))
      exfalso
      rw [show (10 : Int32) = Int32.ofNat 10 from rfl, le_ofNat (by omega) (by omega)] at u
      rcases hno with q | q | q
      · omega
      · rw [q] at v; exact absurd v (by decide)
      · rw [q] at w; exact absurd w (by decide)
    · intro S1 m
      unfold fX12_list
      refine w_ck m.k32 (w_clr (begins_m m (cnt_eq h5'.1) hn4 h5.2.2.2.2.2.2) ?_)
      rintro _ S2 ⟨m1, _⟩
      refine w_gR m1.k32 m1.r (w_nn (m_aI (n := 1) m1 rfl (by decide) ?_))
      rw [tpA_n (by decide), hp2]
      refine w_br (fun u => w_rt ⟨rfl, m1⟩) (fun u => w_cl (isIn_eq _ _ _ _) (w_z (fun v => w_cl (isIn_eq _ _ _ _) (w_z (fun w => ?_) (fun w => w_rt ⟨rfl, m1⟩))) (fun v => w_rt ⟨rfl, m1⟩)))
      exfalso
      rw [show (10 : Int32) = Int32.ofNat 10 from rfl, eq_ofNat (by omega) (by omega)] at u
      rcases hno with q | q | q
      · omega
      · rw [q] at v; exact absurd v (by decide)
      · rw [q] at w; exact absurd w (by decide)
  by_cases hlt : p < 10
  · cases hx1 : wi x1 0 2
    · exact hno (Or.inr (Or.inl hx1))
    · cases hx2 : wi x2 0 142
      · exact hno (Or.inr (Or.inr hx2))
      · exact stq_go2 (agL al p x1 x2 (sLs al)) (if (sLs al).2.2.1 = 0 then Int32.ofNat p else -1) hN (list_x hN hp2 hlt hx1 hx2) (fun S1 m => list_m m h5 hp2 hlt hx1 hx2)
  · exact hno (Or.inl hlt)
