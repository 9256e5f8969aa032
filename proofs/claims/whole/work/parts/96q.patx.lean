def byT (al : Nat → Int32) (i : Nat) : Nat := if i < 400 then nat (al (7040 + i)) else 0
theorem byT_of {al : Nat → Int32} (h : OKb al) {i : Nat} (hi : i < 400) : al (7040 + i) = Int32.ofNat (byT al i) := by
  unfold byT
  rw [if_pos hi]
  exact cnt_eq (h i hi).1
theorem byT_lt {al : Nat → Int32} (h : OKb al) (i : Nat) : byT al i < 256 := by
  unfold byT
  by_cases hi : i < 400
  · rw [if_pos hi]
    have := nat_le (n := 255) (h i hi).2 (by decide)
    omega
  · rw [if_neg hi]; decide
theorem tp_x {S : St} (h : SH S) : fX10_takeTape 1 S = some (sI S 1 1, stI (stI (stI S 1 1 0) 1 2 0) 1 3 (-1)) := by
  apply Rn.eq
  unfold fX10_takeTape
  have s1 : SH (stI S 1 1 0) := (FC.rfl.st (X := fun _ _ => True) (S := S) _ trivial).sh h
  have s2 : SH (stI (stI S 1 1 0) 1 2 0) := (FC.rfl.st (X := fun _ _ => True) _ trivial).sh s1
  exact w_gI (SH_K1 h) (w_pI (SH_K1 h) (w_pI (SH_K1 s1) (w_pI (SH_K1 s2) (w_rt ⟨rfl, rfl⟩))))
theorem kf_x {S : St} {r : Nat} {F : Nat} {P : Int32} (h : SH S) (hr : r = 11 ∨ r = 16) (h3 : sI S r 3 = Int32.ofNat F) (h4 : sI S r 4 = P) : fX10_keepFault 1 (some r) S = some ((), stI (stI S 1 2 (Int32.ofNat F)) 1 3 P) := by
  apply Rn.eq
  have kr : ∀ S', SH S' → sK S' r = 9 := fun S' h' => by
    rcases hr with e | e
    · rw [e]; exact SH_K11 h'
    · rw [e]; exact SH_K16 h'
  unfold fX10_keepFault
  have s1 : SH (stI S 1 2 (Int32.ofNat F)) := (FC.rfl.st (X := fun _ _ => True) (S := S) _ trivial).sh h
  exact w_nn (w_gIe (kr S h) h3 (w_pI (SH_K1 h) (w_gIe (kr _ s1) (v := P) (by rw [st_ne (Or.inl (by omega))]; exact h4) (w_pI (SH_K1 s1) (w_rt ⟨rfl, rfl⟩)))))
theorem tp_ic {al : Nat → Int32} {im : Nat → Option (Nat → Int32)} {S : St} (h : IC al im S) : IC (tpA al 0 (-1)) im (stI (stI (stI S 1 1 0) 1 2 0) 1 3 (-1)) := by
  refine IC_tape h (((FX.rfl.stI (X := fun a => a = 1) _ rfl).stI _ rfl).stI _ rfl) ?_ ?_ st_get (fun j hj => ?_)
  · rw [st_ne (Or.inr (by decide)), st_ne (Or.inr (by decide)), st_get]
  · rw [st_ne (Or.inr (by decide)), st_get]; rfl
  · rw [st_ne (Or.inr (by omega)), st_ne (Or.inr (by omega)), st_ne (Or.inr (by omega))]
theorem kf_ic {al : Nat → Int32} {im : Nat → Option (Nat → Int32)} {S : St} {F : Nat} {P : Int32} (h : IC (tpA al 0 (-1)) im S) : IC (tpA al F P) im (stI (stI S 1 2 (Int32.ofNat F)) 1 3 P) := by
  rw [← tpA_t (F := 0) (P := -1) (G := F) (Q := P)]
  refine IC_tape h ((FX.rfl.stI (X := fun a => a = 1) _ rfl).stI _ rfl) ?_ ?_ st_get (fun j hj => ?_)
  · rw [st_ne (Or.inr (by decide)), st_ne (Or.inr (by decide))]
    have := h.2.2.1.1.1.1
    rw [tpA_5] at this
    exact this
  · rw [st_ne (Or.inr (by decide)), st_get]
  · rw [st_ne (Or.inr (by omega)), st_ne (Or.inr (by omega))]
theorem IC.cq {al : Nat → Int32} {im : Nat → Option (Nat → Int32)} {S0 S : St} (h : IC al im S) (h1 : sn S = sn S0) (h2 : sm S = sm S0) (h3 : ∀ j, sI S 33 j = sI S0 33 j) (h4 : ∀ j, sI S 34 j = sI S0 34 j) : CQ S0 al im S := ⟨h.1, h.2.1, h.2.2.1, by omega, by omega, h3, h4⟩
def sPt (al : Nat → Int32) : PS := its (byT al) (nat (al 5)) (nat (al 5) + 1) s0
def aPt (al : Nat → Int32) (p : Nat) (x1 x2 : Int32) : Nat → Int32 := if fiF (sPt al) = 0 then ptA (tpA al 0 (fiP (sPt al))) p x1 x2 ((sPt al).2.2.2.2.1 0) else tpA al (fiF (sPt al)) (fiP (sPt al))
set_option maxHeartbeats 1000000 in
set_option maxRecDepth 10000 in
theorem pat_x {al : Nat → Int32} {im : Nat → Option (Nat → Int32)} {S : St} {p : Nat} {x1 x2 : Int32} (hN : IN al im S) (hp : al 0 = Int32.ofNat p) (hlt : p < 8) (hx1 : wi x1 0 3 = true) (hx2 : wi x2 0 16777215 = true) : Rn (fX11_pattern 0 x1 x2 S) (fun r S1 => r = (if fiF (sPt al) = 0 then Int32.ofNat p else -1) ∧ CQ S (aPt al p x1 x2) im S1) := by
  obtain ⟨h1, h2, h3, h4, h5, h6⟩ := id hN
  have hc : sI S 1 6 = Int32.ofNat p := by rw [← hp]; exact h3.1.1.2.2.2.2.1
  have h5' := h5.1.2.2.2.2.2
  have hn4 : nat (al 5) ≤ 400 := nat_le h5'.2 (by decide)
  have ht : sI S 1 1 = Int32.ofNat (nat (al 5)) := by rw [h3.1.1.1]; exact cnt_eq h5'.1
  have ic1 := tp_ic hN.ic
  have hB : ∀ i, i < 400 → sI (stI (stI (stI S 1 1 0) 1 2 0) 1 3 (-1)) 2 i = cbI (byT al i) := fun i hi => by
    rw [st_ne (Or.inl (by decide)), st_ne (Or.inl (by decide)), st_ne (Or.inl (by decide)), h3.1.2.1 i hi, byT_of h5.2.2.2.2.2.2 hi]
    rfl
  have hc1 : sI (stI (stI (stI S 1 1 0) 1 2 0) 1 3 (-1)) 1 6 = Int32.ofNat p := by rw [st_ne (Or.inr (by decide)), st_ne (Or.inr (by decide)), st_ne (Or.inr (by decide))]; exact hc
  have fx1 : FX (fun a => a = 1) S (stI (stI (stI S 1 1 0) 1 2 0) 1 3 (-1)) := ((FX.rfl.stI (X := fun a => a = 1) _ rfl).stI _ rfl).stI _ rfl
  unfold fX11_pattern
  refine w_gR (SH_K0 h1) (SH_R0_0 h1) (w_nn (w_ck (SH_K1 h1) (w_cl (tp_x h1) ?_)))
  rw [ht]
  generalize stI (stI (stI S 1 1 0) 1 2 0) 1 3 (-1) = S1 at *
  have s1 := ic1.1
  refine w_gR (SH_K0 s1) (SH_R0_0 s1) (w_nn (w_gIe (SH_K1 s1) hc1 (w_bf ?_ (w_cl (within_eq _ _ _ _) (w_zt hx1 (w_cl (within_eq _ _ _ _) (w_zt hx2 (w_gR (SH_K0 s1) (SH_R0_2 s1) (w_gR (SH_K0 s1) (SH_R0_0 s1) (w_nn (w_gR (SH_K1 s1) (SH_R1_0 s1) (w_nn (w_ck (SH_K10 s1) (w_clr (read_x s1 hn4 (byT_lt h5.2.2.2.2.2.2) hB) ?_))))))))))))))
  · rw [show (8 : Int32) = Int32.ofNat 8 from rfl, le_ofNat (by omega) (by omega)]; omega
  rintro _ S2 ⟨f2, q3, q34, q4, qc⟩
  have q34 : fiF (sPt al) ≤ 4 := q34
  have ic2 : IC (tpA al 0 (-1)) im S2 := IC_fr (IC_r5 ic1 (Or.inl rfl)) (f2.fx (Y := fun a => 10 ≤ a ∧ a ≤ 14) (fun a j z => z)).fr (fun a z => by omega)
  have s2 := ic2.1
  have ic3 := kf_ic (F := fiF (sPt al)) (P := fiP (sPt al)) ic2
  refine w_gR (SH_K0 s2) (SH_R0_0 s2) (w_gR (SH_K0 s2) (SH_R0_2 s2) (w_nn (w_gR (SH_K10 s2) (SH_R10_0 s2) (w_nn (w_ck (SH_K1 s2) (w_cl (kf_x s2 (Or.inl rfl) q3 q4) ?_))))))
  have e2 : ∀ a j, a ≠ 1 → sI (stI (stI S2 1 2 (Int32.ofNat (fiF (sPt al)))) 1 3 (fiP (sPt al))) a j = sI S2 a j := fun a j ha => by rw [st_ne (Or.inl ha), st_ne (Or.inl ha)]
  have e3 : sI (stI (stI S2 1 2 (Int32.ofNat (fiF (sPt al)))) 1 3 (fiP (sPt al))) 1 2 = Int32.ofNat (fiF (sPt al)) := by rw [st_ne (Or.inr (by decide)), st_get]
  have e4 : sn (stI (stI S2 1 2 (Int32.ofNat (fiF (sPt al)))) 1 3 (fiP (sPt al))) = sn S := by
    show sn S2 = sn S
    rw [f2.2.2.2.1]
    exact fx1.2.2.2.1
  have e5 : sm (stI (stI S2 1 2 (Int32.ofNat (fiF (sPt al)))) 1 3 (fiP (sPt al))) = sm S := by
    show sm S2 = sm S
    rw [f2.2.2.2.2.1]
    exact fx1.2.2.2.2.1
  have e6 : ∀ a j, 33 ≤ a → sI (stI (stI S2 1 2 (Int32.ofNat (fiF (sPt al)))) 1 3 (fiP (sPt al))) a j = sI S a j := fun a j ha => by
    rw [e2 a j (by omega), f2.i (by omega)]
    exact fx1.2.2.2.2.2 a j (by omega)
  show Rn ((gR 12 0 0 fun v21 => _) (stI (stI S2 1 2 (Int32.ofNat (fiF (sPt al)))) 1 3 (fiP (sPt al)))) _
  generalize stI (stI S2 1 2 (Int32.ofNat (fiF (sPt al)))) 1 3 (fiP (sPt al)) = S3 at *
  have s3 := ic3.1
  refine w_gR (SH_K0 s3) (SH_R0_0 s3) (w_nn (w_gIe (SH_K1 s3) e3 (w_br (fun u => ?_) (fun u => ?_))))
  · rw [show (0 : Int32) = Int32.ofNat 0 from rfl, eq_ofNat (by omega) (by omega)] at u
    rw [u] at ic3
    unfold aPt
    rw [if_pos u, if_pos u]
    refine w_gR (SH_K0 s3) (SH_R0_0 s3) (w_nO ?_)
    have s3' : SH (stN S3 6 0 4) := EX_SH ((EX.rfl (S := S3)).new 6 0 4) s3
    refine w_gR (SH_K0 s3') (SH_R0_2 s3') (w_clr (init_pat (g := (sPt al).2.2.2.2.1 0) s3 x1 x2 (fun t k ht hk => by rw [e2 12 _ (by omega)]; exact qc u t k ht hk)) ?_)
    rintro _ S4 ⟨hE, hsn, hsm, hsh, z0, z1, z2, z3⟩
    have k1 := EX_SH hE s3
    have hc4 : sI S4 1 6 = Int32.ofNat p := by
      rw [(hE.2 1 (by have := s3.2.2.2; omega)).2.2.1, ic3.2.2.1.1.1.2.2.2.2.1, tpA_n (by omega)]; exact hp
    refine w_nn (w_ck (SH_K1 k1) (w_cl (r := Int32.ofNat p) (S1 := stI (stR S4 3 p (some (sn S3))) 1 6 (Int32.ofNat p + 1)) ?_ (w_rt ⟨rfl, ?_⟩)))
    · apply Rn.eq
      unfold fX10_addPattern
      have hwn : wi (Int32.ofNat p) 0 7 = true := by
        rw [show (0 : Int32) = Int32.ofNat 0 from rfl, show (7 : Int32) = Int32.ofNat 7 from rfl, wi_ofNat (by omega) (by omega) (by omega)]
        exact decide_eq_true (by omega)
      have k2 := SH_put k1 (a := 3) (j := p) (some (sn S3)) (by omega)
      exact w_gIe (SH_K1 k1) hc4 (w_cl (within_eq _ _ _ _) (w_zt hwn (w_gR (SH_K1 k1) (SH_R1_5 k1) (w_nn (w_wR (n := p) (m := 8) (SH_K3 k1) hsh.1 rfl (SH_L3 k1) (by omega) (w_gIe (SH_K1 k2) (v := Int32.ofNat p) hc4 (w_pI (SH_K1 k2) (w_rt ⟨rfl, rfl⟩))))))))
    · refine CQ_addT ic3 (by rw [tpA_n (by omega)]; exact hp) hlt hE (Nat.le_refl _) hsh (fun k _ q1 q2 => ptA_out q1 q2) va_up_eq ⟨?_, ?_, ?_, fun j hj => ?_⟩ (by omega) (by omega) (fun j => e6 33 j (by omega)) (fun j => e6 34 j (by omega))
      · rw [z0, ptA_0]
      · rw [z1, ptA_1]
      · rw [z2, ptA_2]
      · rw [z3 j hj, ptA_3 hj]
  · rw [show (0 : Int32) = Int32.ofNat 0 from rfl, eq_ofNat (by omega) (by omega)] at u
    unfold aPt
    rw [if_neg u, if_neg u]
    exact w_rt ⟨rfl, ic3.cq e4 e5 (fun j => e6 33 j (by omega)) (fun j => e6 34 j (by omega))⟩
