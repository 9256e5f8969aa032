-- copies
theorem FX.stA {X : Nat → Prop} {S S1 : St} (h : FX X S S1) {a : Nat} (f : Nat → Int32) (ha : X a) : FX X S (stA S1 a f) := ⟨h.1, h.2.1, h.2.2.1, h.2.2.2.1, h.2.2.2.2.1, fun b k hb => by rw [sI_stA, if_neg (fun q => hb (by rw [q]; exact ha))]; exact h.2.2.2.2.2 b k hb⟩
theorem FX.ag {X : Nat → Prop} {S S1 : St} (h : FX X S S1) {a : Nat} (ha : ¬ X a) : AG S S1 a := ⟨h.1 a, h.2.1 a, fun j => h.2.2.2.2.2 a j ha, fun j => h.2.2.1 a j⟩
theorem w_cp {Rt : Type} {S : St} {Q : Rt → St → Prop} {kd a b n la lb : Nat} {x : Int32} {k : St → Option (Rt × St)} (ha : sK S a = kd) (hb : sK S b = kd) (hla : sL S a = la) (hlb : sL S b = lb) (hx : x = Int32.ofNat n) (hn : n ≤ la ∧ n ≤ lb ∧ n < 2147483648) (h : Rn (k (stA S b (va_cpy (sI S a) (sI S b) 0 0 n))) Q) : Rn (cp kd a 0 b 0 x k S) Q := by
  subst hx
  show Rn (if _ then _ else _) Q
  rw [show (0 : Int32).toNatClampNeg = 0 from rfl, ofNat_clamp hn.2.2, if_pos ⟨ha, hb, by decide, by decide, ofNat_nonneg hn.2.2, by omega, by omega⟩]
  exact h
theorem cpy_in {f g : Nat → Int32} {n k : Nat} (h : k < n) : va_cpy f g 0 0 n k = f k := by
  unfold va_cpy
  rw [if_pos (by omega), Nat.zero_add, Nat.sub_zero]
set_option maxHeartbeats 1000000 in
set_option maxRecDepth 10000 in
theorem copyH_x {S : St} {q qs : Nat} (hq : HSh S q) (hs : HSh S qs) (hne : q ≠ qs) : Rn (fX2_copyFrom q (some qs) S) (fun _ S' => FX (fun b => q ≤ b ∧ b < q + 3) S S' ∧ (∀ j, j < 5 → sI S' q j = sI S qs j) ∧ (∀ j, j < 6 → sI S' (q + 1) j = sI S (qs + 1) j) ∧ ∀ j, j < 5 → sI S' (q + 2) j = sI S (qs + 2) j) := by
  have dj : ∀ j j', j < 3 → j' < 3 → q + j ≠ qs + j' := fun j j' hj hj' => blk_ne hq.blk hs.blk hne hj hj'
  have nb : ∀ j', j' < 3 → ¬ (q ≤ qs + j' ∧ qs + j' < q + 3) := fun j' hj' z => dj (qs + j' - q) j' (by omega) hj' (by omega)
  unfold fX2_copyFrom
  have kq := hq.k0
  have ks := hs.k0
  have F : ∀ T : St, FX (fun b => q ≤ b ∧ b < q + 3) S T → sK T q = 3 ∧ sK T qs = 3 ∧ (∀ j, sI T qs j = sI S qs j) := fun T hT => ⟨by rw [hT.1]; exact kq, by rw [hT.1]; exact ks, fun j => hT.2.2.2.2.2 qs j (nb 0 (by omega))⟩
  have f0 : FX (fun b => q ≤ b ∧ b < q + 3) S S := FX.rfl
  have f1 := f0.stI (a := q) (j := 0) (sI S qs 0) (by omega)
  have f2 := f1.stI (a := q) (j := 1) (sI S qs 1) (by omega)
  have f3 := f2.stI (a := q) (j := 2) (sI S qs 2) (by omega)
  have f4 := f3.stI (a := q) (j := 3) (sI S qs 3) (by omega)
  have f5 := f4.stI (a := q) (j := 4) (sI S qs 4) (by omega)
  refine w_nn (w_gI ks (w_pI kq (w_gIe (F _ f1).2.1 ((F _ f1).2.2 1) (w_pI (F _ f1).1 (w_gIe (F _ f2).2.1 ((F _ f2).2.2 2) (w_pI (F _ f2).1 (w_gIe (F _ f3).2.1 ((F _ f3).2.2 3) (w_pI (F _ f3).1 (w_gIe (F _ f4).2.1 ((F _ f4).2.2 4) (w_pI (F _ f4).1 ?_))))))))))
  have v5 : ∀ j, j < 5 → sI (stI (stI (stI (stI (stI S q 0 (sI S qs 0)) q 1 (sI S qs 1)) q 2 (sI S qs 2)) q 3 (sI S qs 3)) q 4 (sI S qs 4)) q j = sI S qs j := by
    intro j hj
    rcases (show j = 0 ∨ j = 1 ∨ j = 2 ∨ j = 3 ∨ j = 4 by omega) with rfl | rfl | rfl | rfl | rfl <;> simp [sI_stI]
  generalize stI (stI (stI (stI (stI S q 0 (sI S qs 0)) q 1 (sI S qs 1)) q 2 (sI S qs 2)) q 3 (sI S qs 3)) q 4 (sI S qs 4) = T at f5 v5 ⊢
  have hqT := FX_H f5 hq
  have hsT := FX_H f5 hs
  refine w_gR hsT.k0 hsT.r5 (w_gR hqT.k0 hqT.r5 (w_nn (w_nn (w_cp (n := 6) hsT.k1 hqT.k1 hsT.l1 hqT.l1 rfl (by omega) ?_))))
  have f6 := f5.stA (a := q + 1) (va_cpy (sI T (qs + 1)) (sI T (q + 1)) 0 0 6) (by omega)
  have hq6 := FX_H f6 hq
  have hs6 := FX_H f6 hs
  refine w_gR hs6.k0 hs6.r6 (w_gR hq6.k0 hq6.r6 (w_nn (w_nn (w_cp (n := 5) hs6.k2 hq6.k2 hs6.l2 hq6.l2 rfl (by omega) (w_rt ⟨f6.stA _ (by omega), fun j hj => ?_, fun j hj => ?_, fun j hj => ?_⟩)))))
  · rw [sI_stA, if_neg (by omega), sI_stA, if_neg (by omega)]; exact v5 j hj
  · rw [sI_stA, if_neg (by omega), sI_stA, if_pos rfl, cpy_in hj]; exact f5.2.2.2.2.2 (qs + 1) j (nb 1 (by omega))
  · rw [sI_stA, if_pos rfl, cpy_in hj]; exact f6.2.2.2.2.2 (qs + 2) j (nb 2 (by omega))
set_option maxHeartbeats 1000000 in
set_option maxRecDepth 10000 in
theorem copyG_x {S : St} {q qs : Nat} (hq : GSh S q) (hs : GSh S qs) (hne : q ≠ qs) : Rn (fX7_copyFrom q (some qs) S) (fun _ S' => FX (fun b => q ≤ b ∧ b < q + 4) S S' ∧ (∀ j, j < 9 → sI S' q j = sI S qs j) ∧ (∀ j, j < 6 → sI S' (q + 1) j = sI S (qs + 1) j) ∧ (∀ j, j < 6 → sI S' (q + 2) j = sI S (qs + 2) j) ∧ ∀ j, j < 6 → sI S' (q + 3) j = sI S (qs + 3) j) := by
  have dj : ∀ j j', j < 4 → j' < 4 → q + j ≠ qs + j' := fun j j' hj hj' => blk_ne hq.blk hs.blk hne hj hj'
  have nb : ∀ j', j' < 4 → ¬ (q ≤ qs + j' ∧ qs + j' < q + 4) := fun j' hj' z => dj (qs + j' - q) j' (by omega) hj' (by omega)
  unfold fX7_copyFrom
  have kq := hq.k0
  have ks := hs.k0
  have F : ∀ T : St, FX (fun b => q ≤ b ∧ b < q + 4) S T → sK T q = 8 ∧ sK T qs = 8 ∧ (∀ j, sI T qs j = sI S qs j) := fun T hT => ⟨by rw [hT.1]; exact kq, by rw [hT.1]; exact ks, fun j => hT.2.2.2.2.2 qs j (nb 0 (by omega))⟩
  have f0 : FX (fun b => q ≤ b ∧ b < q + 4) S S := FX.rfl
  have f1 := f0.stI (a := q) (j := 0) (sI S qs 0) (by omega)
  have f2 := f1.stI (a := q) (j := 1) (sI S qs 1) (by omega)
  have f3 := f2.stI (a := q) (j := 2) (sI S qs 2) (by omega)
  have f4 := f3.stI (a := q) (j := 3) (sI S qs 3) (by omega)
  have f5 := f4.stI (a := q) (j := 4) (sI S qs 4) (by omega)
  have f6 := f5.stI (a := q) (j := 5) (sI S qs 5) (by omega)
  have f7 := f6.stI (a := q) (j := 6) (sI S qs 6) (by omega)
  have f8 := f7.stI (a := q) (j := 7) (sI S qs 7) (by omega)
  have f9 := f8.stI (a := q) (j := 8) (sI S qs 8) (by omega)
  refine w_nn (w_gI ks (w_pI kq (w_gIe (F _ f1).2.1 ((F _ f1).2.2 1) (w_pI (F _ f1).1 (w_gIe (F _ f2).2.1 ((F _ f2).2.2 2) (w_pI (F _ f2).1 (w_gIe (F _ f3).2.1 ((F _ f3).2.2 3) (w_pI (F _ f3).1 (w_gIe (F _ f4).2.1 ((F _ f4).2.2 4) (w_pI (F _ f4).1 (w_gIe (F _ f5).2.1 ((F _ f5).2.2 5) (w_pI (F _ f5).1 (w_gIe (F _ f6).2.1 ((F _ f6).2.2 6) (w_pI (F _ f6).1 (w_gIe (F _ f7).2.1 ((F _ f7).2.2 7) (w_pI (F _ f7).1 (w_gIe (F _ f8).2.1 ((F _ f8).2.2 8) (w_pI (F _ f8).1 ?_))))))))))))))))))
  have v9 : ∀ j, j < 9 → sI (stI (stI (stI (stI (stI (stI (stI (stI (stI S q 0 (sI S qs 0)) q 1 (sI S qs 1)) q 2 (sI S qs 2)) q 3 (sI S qs 3)) q 4 (sI S qs 4)) q 5 (sI S qs 5)) q 6 (sI S qs 6)) q 7 (sI S qs 7)) q 8 (sI S qs 8)) q j = sI S qs j := by
    intro j hj
    rcases (show j = 0 ∨ j = 1 ∨ j = 2 ∨ j = 3 ∨ j = 4 ∨ j = 5 ∨ j = 6 ∨ j = 7 ∨ j = 8 by omega) with rfl | rfl | rfl | rfl | rfl | rfl | rfl | rfl | rfl <;> simp [sI_stI]
  generalize stI (stI (stI (stI (stI (stI (stI (stI (stI S q 0 (sI S qs 0)) q 1 (sI S qs 1)) q 2 (sI S qs 2)) q 3 (sI S qs 3)) q 4 (sI S qs 4)) q 5 (sI S qs 5)) q 6 (sI S qs 6)) q 7 (sI S qs 7)) q 8 (sI S qs 8) = T at f9 v9 ⊢
  have hqT := FX_G f9 hq
  have hsT := FX_G f9 hs
  refine w_gR hsT.k0 hsT.r9 (w_gR hqT.k0 hqT.r9 (w_nn (w_nn (w_cp (n := 6) hsT.k1 hqT.k1 hsT.l1 hqT.l1 rfl (by omega) ?_))))
  have g1 := f9.stA (a := q + 1) (va_cpy (sI T (qs + 1)) (sI T (q + 1)) 0 0 6) (by omega)
  have hq1 := FX_G g1 hq
  have hs1 := FX_G g1 hs
  refine w_gR hs1.k0 hs1.r10 (w_gR hq1.k0 hq1.r10 (w_nn (w_nn (w_cp (n := 6) hs1.k2 hq1.k2 hs1.l2 hq1.l2 rfl (by omega) ?_))))
  have g2 := g1.stA (a := q + 2) (va_cpy (sI (stA T (q + 1) (va_cpy (sI T (qs + 1)) (sI T (q + 1)) 0 0 6)) (qs + 2)) (sI (stA T (q + 1) (va_cpy (sI T (qs + 1)) (sI T (q + 1)) 0 0 6)) (q + 2)) 0 0 6) (by omega)
  have hq2 := FX_G g2 hq
  have hs2 := FX_G g2 hs
  refine w_gR hs2.k0 hs2.r11 (w_gR hq2.k0 hq2.r11 (w_nn (w_nn (w_cp (n := 6) hs2.k3 hq2.k3 hs2.l3 hq2.l3 rfl (by omega) (w_rt ⟨g2.stA _ (by omega), fun j hj => ?_, fun j hj => ?_, fun j hj => ?_, fun j hj => ?_⟩)))))
  · rw [sI_stA, if_neg (by omega), sI_stA, if_neg (by omega), sI_stA, if_neg (by omega)]; exact v9 j hj
  · rw [sI_stA, if_neg (by omega), sI_stA, if_neg (by omega), sI_stA, if_pos rfl, cpy_in hj]; exact f9.2.2.2.2.2 (qs + 1) j (nb 1 (by omega))
  · rw [sI_stA, if_neg (by omega), sI_stA, if_pos rfl, cpy_in hj]; exact g1.2.2.2.2.2 (qs + 2) j (nb 2 (by omega))
  · rw [sI_stA, if_pos rfl, cpy_in hj]; exact g2.2.2.2.2.2 (qs + 3) j (nb 3 (by omega))

/-- of the world d: the cells of its own hands -/
def ownH (S : St) (d a : Nat) : Prop := ∃ i q, i < 12 ∧ sR S (d + 4) i = some q ∧ q ≤ a ∧ a < q + 3
theorem WSh.kH {S : St} {w : Nat} (h : WSh S w) : sK S (w + 4) = 18 := h.2.2.2.2.1
theorem WSh.lH {S : St} {w : Nat} (h : WSh S w) : sL S (w + 4) = 12 := h.2.2.2.2.2.2.2.2.2.2.2.1
theorem WSh.rH {S : St} {w : Nat} (h : WSh S w) : sR S w 9 = some (w + 4) := h.2.2.2.2.2.2.2.2.2.2.2.2.2.2.2.2.2.2.1
def cpHJ (S1 : St) (al : Nat → Int32) (d i : Nat) (S : St) : Prop := SH S ∧ CS S ∧ sn S1 ≤ sn S ∧ sn S ≤ sn S1 + 3 * i ∧ sm S ≤ sm S1 + 18 * i ∧ (∀ a, a < sn S1 → a ≠ d + 4 → ¬ ownH S1 d a → AG S1 S a) ∧ (∀ k, i ≤ k → sR S (d + 4) k = sR S1 (d + 4) k) ∧ ∀ k, k < i → k < nat (al 2) → ∃ q, sR S (d + 4) k = some q ∧ HRel al k q S
set_option maxHeartbeats 1000000 in
set_option maxRecDepth 10000 in
theorem cpH_x {S1 : St} {al : Nat → Int32} {s d : Nat} (h1 : SH S1) (hC : CS S1) (hd : WL S1 d) (hs : WL S1 s) (hne : s ≠ d) (h5 : OK al) (hcnt : sI S1 s 10 = al 2) (hsrc : ∀ i, i < nat (al 2) → ∃ q, sR S1 (s + 4) i = some q ∧ HRel al i q S1) : Rn (itr (fun k (p : Nat × Option Nat × Int32) => fX10_copyHands_10 k p.1 p.2.1 p.2.2) FU (d, some s, 0) S1) (fun _ S2 => cpHJ S1 al d 12 S2) := by
  have hwl := WL_lt h1 hC hd
  have hws := WL_lt h1 hC hs
  have h46 := h1.2.2.2
  have nc : nat (al 2) ≤ 12 := nat_le h5.1.2.2.1.2 (by decide)
  have ft : ∀ a, FT S1 s a → a < sn S1 ∧ a ≠ d + 4 ∧ ¬ ownH S1 d a := fun a ha => ⟨FT_lt h1 hC hs ha, fun e => FT_W hC hs hd hne ha ⟨by omega, by omega⟩, fun ⟨i, q, hi, hq, hh⟩ => FT_H hC hs hd hne hi hq ha hh⟩
  have n9 : 9 < sn S1 ∧ 9 ≠ d + 4 ∧ ¬ ownH S1 d 9 := ⟨by omega, by omega, fun ⟨i, q, hi, hq, hh⟩ => by have := (shH hC hd hi hq).ge; omega⟩
  refine w_for (mk := fun (b : Unit) i => (d, some s, i)) (a := ()) 0 12 (fun i _ S => cpHJ S1 al d i S) (by omega) (by omega) ⟨h1, hC, Nat.le_refl _, by omega, by omega, fun _ _ _ _ => AG.rfl, fun _ _ => rfl, fun k hk => by omega⟩ ?_ ?_
  · rintro kk - S hJ hge
    dsimp only [fX10_copyHands_10]
    exact w_bt hge (w_rt hJ)
  · rintro i - hi kk - S hJ hlt hkk
    obtain ⟨j1, j2, j3, j4, j5, j6, j7, j8⟩ := id hJ
    dsimp only [fX10_copyHands_10, fX10_copyHands_70]
    have wl : ∀ w, WL S w ↔ WL S1 w := fun w => by
      unfold WL
      have : ∀ k, sR S 9 k = sR S1 9 k := (j6 9 n9.1 n9.2.1 n9.2.2).2.2.2
      simp only [this]
    have hdS := (wl d).mpr hd
    have hsS := (wl s).mpr hs
    have Ws := j2.2.2.1 s hsS
    have Wd := j2.2.2.1 d hdS
    have as : ∀ j, j < 8 → AG S1 S (s + j) := fun j hj => by obtain ⟨z1, z2, z3⟩ := ft (s + j) (Or.inl ⟨by omega, by omega⟩); exact j6 _ z1 z2 z3
    have cS : sI S s 10 = al 2 := ((as 0 (by omega)).2.2.1 10).trans hcnt
    refine w_bf hlt (w_nn (w_ck Ws.1 ?_))
    by_cases hc : i < nat (al 2)
    · obtain ⟨qs, hqs1, rqs1⟩ := hsrc i hc
      have hqsS : sR S (s + 4) i = some qs := by rw [(as 4 (by omega)).2.2.2]; exact hqs1
      have hag : ∀ j, j < 3 → AG S1 S (qs + j) := fun j hj => by obtain ⟨z1, z2, z3⟩ := ft (qs + j) (Or.inr (Or.inr (Or.inr (Or.inl ⟨i, qs, hi, hqs1, by omega, by omega⟩)))); exact j6 _ z1 z2 z3
      have rqsS : HRel al i qs S := HRel_of rqs1 (fun j => (hag 0 (by omega)).2.2.1 j) (fun j => (hag 1 (by omega)).2.2.1 j) (fun j => (hag 2 (by omega)).2.2.1 j) (fun _ _ => rfl)
      have e := handAt_ok Ws cS h5.1.2.2.1 hc
      rw [hqsS] at e
      have hqsh := shH j2 hsS hi hqsS
      -- from a state with its slot filled
      have fin : ∀ (T : St) (q : Nat), SH T → CS T → (∀ w, WL T w ↔ WL S1 w) → sn S1 ≤ sn T → sn T ≤ sn S1 + 3 * (i + 1) → sm T ≤ sm S1 + 18 * (i + 1) → (∀ a, a < sn S1 → a ≠ d + 4 → ¬ ownH S1 d a → AG S1 T a) → (∀ k, i + 1 ≤ k → sR T (d + 4) k = sR S1 (d + 4) k) → sR T (d + 4) i = some q → (∀ k, k < i → k < nat (al 2) → ∃ q, sR T (d + 4) k = some q ∧ HRel al k q T) → (sn S1 ≤ q ∨ sR S1 (d + 4) i = some q) → sR T (s + 4) i = some qs → HRel al i qs T → Rn (fX10_copyHands_60 kk d (some s) (Int32.ofNat i) (some qs) T) (fun _ S2 => cpHJ S1 al d 12 S2) := by
        intro T q t1 t2 twl t3 t4 t5 t6 t7 tq t8 tnew tqs rqs
        unfold fX10_copyHands_60 fX10_copyHands_70
        have Wd2 := t2.2.2.1 d ((twl d).mpr hd)
        have hq := shH t2 ((twl d).mpr hd) hi tq
        have hqs := shH t2 ((twl s).mpr hs) hi tqs
        have hqne : q ≠ qs := fun z => by
          subst z
          have hC := t2
          exact hne (hC.2.2.2.2.2.2.2.1 d s i i q ((twl d).mpr hd) ((twl s).mpr hs) hi hi tq tqs).1.symm
        refine w_gR Wd2.1 Wd2.rH (w_nn (w_aR (n := i) Wd2.kH rfl Wd2.lH (by omega) tq (w_nn (w_ck hq.k0 (w_clr (copyH_x hq hqs hqne) ?_)))))
        rintro - S' ⟨hF, c1, c2, c3⟩
        have hfr := hF.fr
        refine hkk () _ ⟨FR_SH hfr t1, FR_CS hfr t2, by rw [hF.2.2.2.1]; exact t3, by rw [hF.2.2.2.1]; exact t4, by rw [hF.2.2.2.2.1]; exact t5, fun a a1 a2 a3 => (t6 a a1 a2 a3).trans (hF.ag (fun z => ?_)), fun k hk => by rw [hF.2.2.1]; exact t7 k hk, fun k hk hkc => ?_⟩
        · rcases tnew with tn | tn
          · omega
          · exact a3 ⟨i, q, hi, tn, z.1, z.2⟩
        · by_cases ek : k = i
          · subst ek
            exact ⟨q, by rw [hF.2.2.1]; exact tq, ⟨fun j hj => (c1 j hj).trans (rqs.1 j hj), fun j hj => (c2 j hj).trans (rqs.2.1 j hj), fun wk hw => by rw [c3 _ (by omega)]; exact rqs.2.2 wk hw⟩⟩
          · obtain ⟨q', tq', r'⟩ := t8 k (by omega) hkc
            have hq' := shH t2 ((twl d).mpr hd) (show k < 12 by omega) tq'
            have hqq : q' ≠ q := fun z => by
              subst z
              have hC := t2
              exact ek (hC.2.2.2.2.2.2.2.1 d d k i q' ((twl d).mpr hd) ((twl d).mpr hd) (by omega) hi tq' tq).2
            have hag2 : ∀ j, j < 3 → AG T S' (q' + j) := fun j hj => hF.ag (fun z => blk_in hq'.blk hq.blk hqq (a := q' + j) (by omega) (by omega) z.1 z.2)
            exact ⟨q', by rw [hF.2.2.1]; exact tq', HRel_of r' (fun j => (hag2 0 (by omega)).2.2.1 j) (fun j => (hag2 1 (by omega)).2.2.1 j) (fun j => (hag2 2 (by omega)).2.2.1 j) (fun _ _ => rfl)⟩
      refine w_cl e (w_onS (w_gR Wd.1 Wd.rH (w_nn ?_)))
      have hslot := j7 i (Nat.le_refl _)
      cases hv : sR S (d + 4) i with
      | some q =>
        refine w_aR (n := i) Wd.kH rfl Wd.lH (by omega) hv (w_onS ?_)
        exact fin S q j1 j2 wl j3 (by omega) (by omega) j6 (fun k hk => j7 k (by omega)) hv j8 (Or.inr (by rw [← hslot]; exact hv)) hqsS rqsS
      | none =>
        refine w_aR (n := i) Wd.kH rfl Wd.lH (by omega) hv (w_onN ?_)
        have hge := hqsh.ge
        have hhi := hqsh.hi
        refine w_gR Wd.1 Wd.rH (w_nO ?_)
        refine w_gIe (v := sI S qs 0) (show sK (stN S 3 0 7) qs = 3 by rw [sK_stN, if_neg (by omega)]; exact hqsh.k0) (show sI (stN S 3 0 7) qs 0 = sI S qs 0 by rw [sI_stN, if_neg (by omega)]) ?_
        refine w_gIe (v := sI S qs 1) (show sK (stN S 3 0 7) qs = 3 by rw [sK_stN, if_neg (by omega)]; exact hqsh.k0) (show sI (stN S 3 0 7) qs 1 = sI S qs 1 by rw [sI_stN, if_neg (by omega)]) ?_
        refine w_gIe (v := sI S qs 2) (show sK (stN S 3 0 7) qs = 3 by rw [sK_stN, if_neg (by omega)]; exact hqsh.k0) (show sI (stN S 3 0 7) qs 2 = sI S qs 2 by rw [sI_stN, if_neg (by omega)]) ?_
        refine w_clr (init_hand j1.2.2.2 (sI S qs 0) (sI S qs 1) (sI S qs 2)) ?_
        rintro - T ⟨hE, hsn, hsm, hsh, -⟩
        have t1 := EX_SH hE j1
        have t2 := EX_CS hE j1 j2
        have twl : ∀ w, WL T w ↔ WL S w := fun w => EX_WL hE j1 w
        have Wd2 := t2.2.2.1 d ((twl d).mpr hdS)
        have hdl := WL_lt j1 j2 hdS
        have hsl := WL_lt j1 j2 hsS
        refine w_nn (w_wR (n := i) Wd2.kH hsh.k0 rfl Wd2.lH (by omega) ?_)
        have u2 : CS (stR T (d + 4) i (some (sn S))) := by
          refine CS_put t1 t2 ((twl d).mpr hdS) (by omega) (fun z => by omega) (fun z => by omega) ?_ ?_
          · rintro - q z
            cases z
            refine ⟨hsh, fun w k hw hk z => ?_⟩
            have hwS := (twl w).mp hw
            rw [(hE.2 _ (by have := (WL_lt j1 j2 hwS).2; omega)).2.2.2] at z
            have := (shH j2 hwS hk z).hi
            omega
          · intro z; omega
        have ga : ∀ a, a < sn S → a ≠ d + 4 → AG S (stR T (d + 4) i (some (sn S))) a := fun a ha hb => (hE.2 a ha).stR _ hb
        have uwl : ∀ w, WL (stR T (d + 4) i (some (sn S))) w ↔ WL S1 w := fun w => by
          rw [← wl w]
          unfold WL
          have : ∀ k, sR (stR T (d + 4) i (some (sn S))) 9 k = sR S 9 k := (ga 9 (by omega) n9.2.1).2.2.2
          simp only [this]
        have ss : ∀ k, k ≠ i → sR (stR T (d + 4) i (some (sn S))) (d + 4) k = sR S (d + 4) k := fun k hk => by
          rw [sR_stR, if_neg (fun z => hk z.2)]
          exact (hE.2 (d + 4) (by omega)).2.2.2 k
        have sne : s + 4 ≠ d + 4 := by omega
        refine fin _ (sn S) (SH_put t1 _ (by omega)) u2 uwl (Nat.le_trans j3 hE.1) (by rw [sn_stR]; omega) (by rw [sm_stR]; omega) (fun a a1 a2 a3 => (j6 a a1 a2 a3).trans (ga a (by omega) a2)) (fun k hk => by rw [ss k (by omega)]; exact j7 k (by omega)) (by rw [sR_stR, if_pos ⟨rfl, rfl⟩]) (fun k hk hkc => ?_) (Or.inl j3) (by rw [(ga (s + 4) (by omega) sne).2.2.2]; exact hqsS) ?_
        · obtain ⟨q', tq', r'⟩ := j8 k hk hkc
          have hq' := shH j2 hdS (show k < 12 by omega) tq'
          have z1 := hq'.hi
          exact ⟨q', by rw [ss k (by omega)]; exact tq', HRel_of r' (fun j => (hE.2 _ (by omega)).2.2.1 j) (fun j => (hE.2 _ (by omega)).2.2.1 j) (fun j => (hE.2 _ (by omega)).2.2.1 j) (fun _ _ => rfl)⟩
        · exact HRel_of rqsS (fun j => (hE.2 _ (by omega)).2.2.1 j) (fun j => (hE.2 _ (by omega)).2.2.1 j) (fun j => (hE.2 _ (by omega)).2.2.1 j) (fun _ _ => rfl)
    · have hx : wi (Int32.ofNat i) 0 (al 2 - 1) = false := by
        cases hw : wi (Int32.ofNat i) 0 (al 2 - 1)
        · rfl
        · obtain ⟨n, hn, hz⟩ := (wi_cnt h5.1.2.2.1.1).mp hw
          rw [eq_ofNat (by omega) (by omega)] at hz
          omega
      have e := handAt_no Ws cS hx
      refine w_cl e (w_onN (hkk () _ ⟨j1, j2, j3, by omega, by omega, j6, fun k hk => j7 k (by omega), fun k hk hkc => j8 k (by omega) hkc⟩))
/-- of the world d: the cells of its own pieces -/
def ownG (S : St) (d a : Nat) : Prop := ∃ i q, i < 60 ∧ sR S (d + 5) i = some q ∧ q ≤ a ∧ a < q + 4
theorem WSh.kG {S : St} {w : Nat} (h : WSh S w) : sK S (w + 5) = 20 := h.2.2.2.2.2.1
theorem WSh.lG {S : St} {w : Nat} (h : WSh S w) : sL S (w + 5) = 60 := h.2.2.2.2.2.2.2.2.2.2.2.2.1
theorem WSh.rG {S : St} {w : Nat} (h : WSh S w) : sR S w 11 = some (w + 5) := h.2.2.2.2.2.2.2.2.2.2.2.2.2.2.2.2.2.2.2.1
def cpGJ (S1 : St) (al : Nat → Int32) (d i : Nat) (S : St) : Prop := SH S ∧ CS S ∧ sn S1 ≤ sn S ∧ sn S ≤ sn S1 + 4 * i ∧ sm S ≤ sm S1 + 30 * i ∧ (∀ a, a < sn S1 → a ≠ d + 5 → ¬ ownG S1 d a → AG S1 S a) ∧ (∀ k, i ≤ k → sR S (d + 5) k = sR S1 (d + 5) k) ∧ ∀ k, k < i → k < nat (al 3) → ∃ q, sR S (d + 5) k = some q ∧ GRel al k q S
set_option maxHeartbeats 1000000 in
set_option maxRecDepth 10000 in
theorem cpG_x {S1 : St} {al : Nat → Int32} {s d : Nat} (h1 : SH S1) (hC : CS S1) (hd : WL S1 d) (hs : WL S1 s) (hne : s ≠ d) (h5 : OK al) (hcnt : sI S1 s 12 = al 3) (hsrc : ∀ i, i < nat (al 3) → ∃ q, sR S1 (s + 5) i = some q ∧ GRel al i q S1) : Rn (itr (fun k (p : Nat × Option Nat × Int32) => fX10_copyPieces_10 k p.1 p.2.1 p.2.2) FU (d, some s, 0) S1) (fun _ S2 => cpGJ S1 al d 60 S2) := by
  have hwl := WL_lt h1 hC hd
  have hws := WL_lt h1 hC hs
  have h46 := h1.2.2.2
  have nc : nat (al 3) ≤ 60 := nat_le h5.1.2.2.2.1.2 (by decide)
  have ft : ∀ a, FT S1 s a → a < sn S1 ∧ a ≠ d + 5 ∧ ¬ ownG S1 d a := fun a ha => ⟨FT_lt h1 hC hs ha, fun e => FT_W hC hs hd hne ha ⟨by omega, by omega⟩, fun ⟨i, q, hi, hq, hh⟩ => FT_G hC hs hd hne hi hq ha hh⟩
  have n9 : 9 < sn S1 ∧ 9 ≠ d + 5 ∧ ¬ ownG S1 d 9 := ⟨by omega, by omega, fun ⟨i, q, hi, hq, hh⟩ => by have := (shG hC hd hi hq).ge; omega⟩
  refine w_for (mk := fun (b : Unit) i => (d, some s, i)) (a := ()) 0 60 (fun i _ S => cpGJ S1 al d i S) (by omega) (by omega) ⟨h1, hC, Nat.le_refl _, by omega, by omega, fun _ _ _ _ => AG.rfl, fun _ _ => rfl, fun k hk => by omega⟩ ?_ ?_
  · rintro kk - S hJ hge
    dsimp only [fX10_copyPieces_10]
    exact w_bt hge (w_rt hJ)
  · rintro i - hi kk - S hJ hlt hkk
    obtain ⟨j1, j2, j3, j4, j5, j6, j7, j8⟩ := id hJ
    dsimp only [fX10_copyPieces_10, fX10_copyPieces_74]
    have wl : ∀ w, WL S w ↔ WL S1 w := fun w => by
      unfold WL
      have : ∀ k, sR S 9 k = sR S1 9 k := (j6 9 n9.1 n9.2.1 n9.2.2).2.2.2
      simp only [this]
    have hdS := (wl d).mpr hd
    have hsS := (wl s).mpr hs
    have Ws := j2.2.2.1 s hsS
    have Wd := j2.2.2.1 d hdS
    have as : ∀ j, j < 8 → AG S1 S (s + j) := fun j hj => by obtain ⟨z1, z2, z3⟩ := ft (s + j) (Or.inl ⟨by omega, by omega⟩); exact j6 _ z1 z2 z3
    have cS : sI S s 12 = al 3 := ((as 0 (by omega)).2.2.1 12).trans hcnt
    refine w_bf hlt (w_nn (w_ck Ws.1 ?_))
    by_cases hc : i < nat (al 3)
    · obtain ⟨qs, hqs1, rqs1⟩ := hsrc i hc
      have hqsS : sR S (s + 5) i = some qs := by rw [(as 5 (by omega)).2.2.2]; exact hqs1
      have hag : ∀ j, j < 4 → AG S1 S (qs + j) := fun j hj => by obtain ⟨z1, z2, z3⟩ := ft (qs + j) (Or.inr (Or.inr (Or.inr (Or.inr ⟨i, qs, hi, hqs1, by omega, by omega⟩)))); exact j6 _ z1 z2 z3
      have rqsS : GRel al i qs S := GRel_of rqs1 (fun j => (hag 0 (by omega)).2.2.1 j) (fun j => (hag 1 (by omega)).2.2.1 j) (fun j => (hag 2 (by omega)).2.2.1 j) (fun j => (hag 3 (by omega)).2.2.1 j) (fun _ _ => rfl)
      have e := pieceAt_ok Ws cS h5.1.2.2.2.1 hc
      rw [hqsS] at e
      have hqsh := shG j2 hsS hi hqsS
      -- from a state with its slot filled
      have fin : ∀ (T : St) (q : Nat), SH T → CS T → (∀ w, WL T w ↔ WL S1 w) → sn S1 ≤ sn T → sn T ≤ sn S1 + 4 * (i + 1) → sm T ≤ sm S1 + 30 * (i + 1) → (∀ a, a < sn S1 → a ≠ d + 5 → ¬ ownG S1 d a → AG S1 T a) → (∀ k, i + 1 ≤ k → sR T (d + 5) k = sR S1 (d + 5) k) → sR T (d + 5) i = some q → (∀ k, k < i → k < nat (al 3) → ∃ q, sR T (d + 5) k = some q ∧ GRel al k q T) → (sn S1 ≤ q ∨ sR S1 (d + 5) i = some q) → sR T (s + 5) i = some qs → GRel al i qs T → Rn (fX10_copyPieces_64 kk d (some s) (Int32.ofNat i) (some qs) T) (fun _ S2 => cpGJ S1 al d 60 S2) := by
        intro T q t1 t2 twl t3 t4 t5 t6 t7 tq t8 tnew tqs rqs
        unfold fX10_copyPieces_64 fX10_copyPieces_74
        have Wd2 := t2.2.2.1 d ((twl d).mpr hd)
        have hq := shG t2 ((twl d).mpr hd) hi tq
        have hqs := shG t2 ((twl s).mpr hs) hi tqs
        have hqne : q ≠ qs := fun z => by
          subst z
          have hC := t2
          exact hne (hC.2.2.2.2.2.2.2.2 d s i i q ((twl d).mpr hd) ((twl s).mpr hs) hi hi tq tqs).1.symm
        refine w_gR Wd2.1 Wd2.rG (w_nn (w_aR (n := i) Wd2.kG rfl Wd2.lG (by omega) tq (w_nn (w_ck hq.k0 (w_clr (copyG_x hq hqs hqne) ?_)))))
        rintro - S' ⟨hF, c1, c2, c3, c4⟩
        have hfr := hF.fr
        refine hkk () _ ⟨FR_SH hfr t1, FR_CS hfr t2, by rw [hF.2.2.2.1]; exact t3, by rw [hF.2.2.2.1]; exact t4, by rw [hF.2.2.2.2.1]; exact t5, fun a a1 a2 a3 => (t6 a a1 a2 a3).trans (hF.ag (fun z => ?_)), fun k hk => by rw [hF.2.2.1]; exact t7 k hk, fun k hk hkc => ?_⟩
        · rcases tnew with tn | tn
          · omega
          · exact a3 ⟨i, q, hi, tn, z.1, z.2⟩
        · by_cases ek : k = i
          · subst ek
            exact ⟨q, by rw [hF.2.2.1]; exact tq, ⟨fun j hj => (c1 j hj).trans (rqs.1 j hj), fun j hj => by rw [c2 j hj]; exact rqs.2.1 j hj, fun j hj => (c3 j hj).trans (rqs.2.2.1 j hj), fun j hj => (c4 j hj).trans (rqs.2.2.2 j hj)⟩⟩
          · obtain ⟨q', tq', r'⟩ := t8 k (by omega) hkc
            have hq' := shG t2 ((twl d).mpr hd) (show k < 60 by omega) tq'
            have hqq : q' ≠ q := fun z => by
              subst z
              have hC := t2
              exact ek (hC.2.2.2.2.2.2.2.2 d d k i q' ((twl d).mpr hd) ((twl d).mpr hd) (by omega) hi tq' tq).2
            have hag2 : ∀ j, j < 4 → AG T S' (q' + j) := fun j hj => hF.ag (fun z => blk_in hq'.blk hq.blk hqq (a := q' + j) (by omega) (by omega) z.1 z.2)
            exact ⟨q', by rw [hF.2.2.1]; exact tq', GRel_of r' (fun j => (hag2 0 (by omega)).2.2.1 j) (fun j => (hag2 1 (by omega)).2.2.1 j) (fun j => (hag2 2 (by omega)).2.2.1 j) (fun j => (hag2 3 (by omega)).2.2.1 j) (fun _ _ => rfl)⟩
      refine w_cl e (w_onS (w_gR Wd.1 Wd.rG (w_nn ?_)))
      have hslot := j7 i (Nat.le_refl _)
      cases hv : sR S (d + 5) i with
      | some q =>
        refine w_aR (n := i) Wd.kG rfl Wd.lG (by omega) hv (w_onS ?_)
        exact fin S q j1 j2 wl j3 (by omega) (by omega) j6 (fun k hk => j7 k (by omega)) hv j8 (Or.inr (by rw [← hslot]; exact hv)) hqsS rqsS
      | none =>
        refine w_aR (n := i) Wd.kG rfl Wd.lG (by omega) hv (w_onN ?_)
        have hge := hqsh.ge
        have hhi := hqsh.hi
        refine w_gR Wd.1 Wd.rG (w_nO ?_)
        refine w_gIe (v := sI S qs 0) (show sK (stN S 8 0 12) qs = 8 by rw [sK_stN, if_neg (by omega)]; exact hqsh.k0) (show sI (stN S 8 0 12) qs 0 = sI S qs 0 by rw [sI_stN, if_neg (by omega)]) ?_
        refine w_gIe (v := sI S qs 1) (show sK (stN S 8 0 12) qs = 8 by rw [sK_stN, if_neg (by omega)]; exact hqsh.k0) (show sI (stN S 8 0 12) qs 1 = sI S qs 1 by rw [sI_stN, if_neg (by omega)]) ?_
        refine w_gIe (v := sI S qs 2) (show sK (stN S 8 0 12) qs = 8 by rw [sK_stN, if_neg (by omega)]; exact hqsh.k0) (show sI (stN S 8 0 12) qs 2 = sI S qs 2 by rw [sI_stN, if_neg (by omega)]) ?_
        refine w_gIe (v := sI S qs 3) (show sK (stN S 8 0 12) qs = 8 by rw [sK_stN, if_neg (by omega)]; exact hqsh.k0) (show sI (stN S 8 0 12) qs 3 = sI S qs 3 by rw [sI_stN, if_neg (by omega)]) ?_
        refine w_clr (init_piece j1.2.2.2 (sI S qs 0) (sI S qs 1) (sI S qs 2) (sI S qs 3)) ?_
        rintro - T ⟨hE, hsn, hsm, hsh, -⟩
        have t1 := EX_SH hE j1
        have t2 := EX_CS hE j1 j2
        have twl : ∀ w, WL T w ↔ WL S w := fun w => EX_WL hE j1 w
        have Wd2 := t2.2.2.1 d ((twl d).mpr hdS)
        have hdl := WL_lt j1 j2 hdS
        have hsl := WL_lt j1 j2 hsS
        refine w_nn (w_wR (n := i) Wd2.kG hsh.k0 rfl Wd2.lG (by omega) ?_)
        have u2 : CS (stR T (d + 5) i (some (sn S))) := by
          refine CS_put t1 t2 ((twl d).mpr hdS) (by omega) (fun z => by omega) (fun z => by omega) ?_ ?_
          · intro z; omega
          · rintro - q z
            cases z
            refine ⟨hsh, fun w k hw hk z => ?_⟩
            have hwS := (twl w).mp hw
            rw [(hE.2 _ (by have := (WL_lt j1 j2 hwS).2; omega)).2.2.2] at z
            have := (shG j2 hwS hk z).hi
            omega
        have ga : ∀ a, a < sn S → a ≠ d + 5 → AG S (stR T (d + 5) i (some (sn S))) a := fun a ha hb => (hE.2 a ha).stR _ hb
        have uwl : ∀ w, WL (stR T (d + 5) i (some (sn S))) w ↔ WL S1 w := fun w => by
          rw [← wl w]
          unfold WL
          have : ∀ k, sR (stR T (d + 5) i (some (sn S))) 9 k = sR S 9 k := (ga 9 (by omega) n9.2.1).2.2.2
          simp only [this]
        have ss : ∀ k, k ≠ i → sR (stR T (d + 5) i (some (sn S))) (d + 5) k = sR S (d + 5) k := fun k hk => by
          rw [sR_stR, if_neg (fun z => hk z.2)]
          exact (hE.2 (d + 5) (by omega)).2.2.2 k
        have sne : s + 5 ≠ d + 5 := by omega
        refine fin _ (sn S) (SH_put t1 _ (by omega)) u2 uwl (Nat.le_trans j3 hE.1) (by rw [sn_stR]; omega) (by rw [sm_stR]; omega) (fun a a1 a2 a3 => (j6 a a1 a2 a3).trans (ga a (by omega) a2)) (fun k hk => by rw [ss k (by omega)]; exact j7 k (by omega)) (by rw [sR_stR, if_pos ⟨rfl, rfl⟩]) (fun k hk hkc => ?_) (Or.inl j3) (by rw [(ga (s + 5) (by omega) sne).2.2.2]; exact hqsS) ?_
        · obtain ⟨q', tq', r'⟩ := j8 k hk hkc
          have hq' := shG j2 hdS (show k < 60 by omega) tq'
          have z1 := hq'.hi
          exact ⟨q', by rw [ss k (by omega)]; exact tq', GRel_of r' (fun j => (hE.2 _ (by omega)).2.2.1 j) (fun j => (hE.2 _ (by omega)).2.2.1 j) (fun j => (hE.2 _ (by omega)).2.2.1 j) (fun j => (hE.2 _ (by omega)).2.2.1 j) (fun _ _ => rfl)⟩
        · exact GRel_of rqsS (fun j => (hE.2 _ (by omega)).2.2.1 j) (fun j => (hE.2 _ (by omega)).2.2.1 j) (fun j => (hE.2 _ (by omega)).2.2.1 j) (fun j => (hE.2 _ (by omega)).2.2.1 j) (fun _ _ => rfl)
    · have hx : wi (Int32.ofNat i) 0 (al 3 - 1) = false := by
        cases hw : wi (Int32.ofNat i) 0 (al 3 - 1)
        · rfl
        · obtain ⟨n, hn, hz⟩ := (wi_cnt h5.1.2.2.2.1.1).mp hw
          rw [eq_ofNat (by omega) (by omega)] at hz
          omega
      have e := pieceAt_no Ws cS hx
      refine w_cl e (w_onN (hkk () _ ⟨j1, j2, j3, by omega, by omega, j6, fun k hk => j7 k (by omega), fun k hk hkc => j8 k (by omega) hkc⟩))
