-- a piece's numbers
theorem pc_nums {al : Nat → Int32} (h5 : OK al) {g : Nat} (hg : g < nat (al 3)) : ∃ pp hh od, pp = nat (al (5361 + 28 * g)) ∧ hh = nat (al (5362 + 28 * g)) ∧ od = nat (al (5363 + 28 * g)) ∧ al (5361 + 28 * g) = Int32.ofNat pp ∧ al (5362 + 28 * g) = Int32.ofNat hh ∧ al (5363 + 28 * g) = Int32.ofNat od ∧ pp < nat (al 0) ∧ hh < nat (al 2) ∧ od ≤ 999 ∧ pp < 8 ∧ hh < 12 := by
  obtain ⟨-, ⟨p1, p2⟩, ⟨q1, q2⟩, ⟨d1, d2⟩, -⟩ := h5.2.2.2.1 g hg
  have n0 := nat_le (n := 8) h5.1.1.2 (by decide)
  have n2 := nat_le (n := 12) h5.1.2.2.1.2 (by decide)
  have d3 := nat_le (n := 999) d2 (by decide)
  have lt : ∀ a b : Int32, 0 ≤ a → a < b → nat a < nat b := fun a b ha hb => by
    have h1 := le_i.mp ha
    have h2 := lt_i.mp hb
    rw [i0] at h1
    show a.toInt.toNat < b.toInt.toNat
    omega
  have l0 := lt _ _ p1 p2
  have l2 := lt _ _ q1 q2
  exact ⟨_, _, _, rfl, rfl, rfl, cnt_eq p1, cnt_eq q1, cnt_eq d1, l0, l2, d3, by omega, by omega⟩
set_option maxHeartbeats 1000000 in
set_option maxRecDepth 10000 in
theorem losses_x {S0 S : St} {B al : Nat → Int32} {d w k : Int32} {q g : Nat} {E D : Int32} (h : RK S0 S B) (hc : CV al S0) (hr : sR S0 21 5 = lsR S0 (lsF al d w k)) (hG : GSh S0 q) (r : GRel al g q S0) (a0 : sI S 22 0 = 9) (a1 : sI S 22 1 = 9) (z1 : sI S 21 1 = E) (z2 : sI S 21 2 = D) : Rn (fX0_reckonLosses 21 (some q) S) (fun _ S' => RK S0 S' B ∧ sI S' 21 0 = sI S 21 0 ∧ sI S' 21 1 = E ∧ sI S' 21 2 = D ∧ sI S' 21 3 = mnI (al (5365 + 28 * g) * termF al (askA 9 9 B) (lsF al d w k) 2 + mxI 0 (al (5364 + 28 * g) - D) * termF al (askA 9 9 B) (lsF al d w k) 3) E ∧ sI S' 21 4 = ((E - mnI (al (5365 + 28 * g) * termF al (askA 9 9 B) (lsF al d w k) 2 + mxI 0 (al (5364 + 28 * g) - D) * termF al (askA 9 9 B) (lsF al d w k) 3) E).toInt64 * (termF al (askA 9 9 B) (lsF al d w k) 5).toInt64 / 100).toInt32) := by
  have gq := hG.ge
  have hS : SH S := (h.cv hc).1
  have kq : sK S q = 8 := by rw [h.1.1]; exact hG.k0
  have e4 : sI S q 4 = al (5364 + 28 * g) := by rw [h.1.2.2.2.2.2 q 4 (by omega), r.1 4 (by omega)]; congr 1; omega
  have e5 : sI S q 5 = al (5365 + 28 * g) := by rw [h.1.2.2.2.2.2 q 5 (by omega), r.1 5 (by omega)]; congr 1; omega
  unfold fX0_reckonLosses
  refine w_nn (w_gIe kq e4 (w_gIe (SH_K21 hS) z2 (w_gIe kq e5 (h.term hc hr a0 a1 2 (h.term hc hr a0 a1 3 (w_pI (SH_K21 hS) ?_))))))
  generalize al (5365 + 28 * g) * termF al (askA 9 9 B) (lsF al d w k) 2 + mxI 0 (al (5364 + 28 * g) - D) * termF al (askA 9 9 B) (lsF al d w k) 3 = F0
  have r1 := h.s21 (j := 3) F0
  refine w_gIe (show sK (stI S 21 3 _) 21 = 1 from SH_K21 hS) st_get (w_gIe (show sK (stI S 21 3 _) 21 = 1 from SH_K21 hS) (v := E) (by rw [st_ne (Or.inr (by omega))]; exact z1) (w_pI (show sK (stI S 21 3 _) 21 = 1 from SH_K21 hS) ?_))
  have r2 := r1.s21 (j := 3) (mnI F0 E)
  refine w_gIe (v := E) (show sK (stI (stI S 21 3 _) 21 3 _) 21 = 1 from SH_K21 hS) (by rw [st_ne (Or.inr (by omega)), st_ne (Or.inr (by omega))]; exact z1) (w_gIe (show sK (stI (stI S 21 3 _) 21 3 _) 21 = 1 from SH_K21 hS) st_get ?_)
  refine r2.term hc hr (st := 9) (co := 9) (by rw [st_ne (Or.inl (by omega)), st_ne (Or.inl (by omega))]; exact a0) (by rw [st_ne (Or.inl (by omega)), st_ne (Or.inl (by omega))]; exact a1) 5 (w_dvJ (by decide) (w_pI (show sK (stI (stI S 21 3 _) 21 3 _) 21 = 1 from SH_K21 hS) (w_rt ⟨r2.s21 _, ?_, ?_, ?_, ?_, st_get⟩)))
  · rw [st_ne (Or.inr (by omega)), st_ne (Or.inr (by omega)), st_ne (Or.inr (by omega))]
  · rw [st_ne (Or.inr (by omega)), st_ne (Or.inr (by omega)), st_ne (Or.inr (by omega))]; exact z1
  · rw [st_ne (Or.inr (by omega)), st_ne (Or.inr (by omega)), st_ne (Or.inr (by omega))]; exact z2
  · rw [st_ne (Or.inr (by omega)), st_get]
theorem FX_T {X : Nat → Prop} {S S' : St} {q : Nat} (hF : FX X S S') (h : TSh S q) : TSh S' q := by
  unfold TSh at h ⊢
  rw [hF.1, hF.1, hF.2.1, hF.2.2.1, hF.2.2.2.1]
  exact h
theorem FX_H {X : Nat → Prop} {S S' : St} {q : Nat} (hF : FX X S S') (h : HSh S q) : HSh S' q := by
  unfold HSh at h ⊢
  rw [hF.1, hF.1, hF.1, hF.2.1, hF.2.1, hF.2.2.1, hF.2.2.1, hF.2.2.2.1]
  exact h
theorem FX_G {X : Nat → Prop} {S S' : St} {q : Nat} (hF : FX X S S') (h : GSh S q) : GSh S' q := by
  unfold GSh at h ⊢
  rw [hF.1, hF.1, hF.1, hF.1, hF.2.1, hF.2.1, hF.2.1, hF.2.2.1, hF.2.2.1, hF.2.2.1, hF.2.2.2.1]
  exact h
theorem FX_P {X : Nat → Prop} {S S' : St} {al : Nat → Int32} {p q : Nat} (hF : FX X S S') (hX : ∀ a, X a → a < 46) (hq : 46 ≤ q) (h : PRel al p q S) : PRel al p q S' := PRel_of h (fun j => hF.2.2.2.2.2 q j (fun z => by have := hX _ z; omega)) (fun j => hF.2.2.2.2.2 (q + 1) j (fun z => by have := hX _ z; omega)) (fun _ _ => rfl)
theorem FX_HR {X : Nat → Prop} {S S' : St} {al : Nat → Int32} {p q : Nat} (hF : FX X S S') (hX : ∀ a, X a → a < 46) (hq : 46 ≤ q) (h : HRel al p q S) : HRel al p q S' := HRel_of h (fun j => hF.2.2.2.2.2 q j (fun z => by have := hX _ z; omega)) (fun j => hF.2.2.2.2.2 (q + 1) j (fun z => by have := hX _ z; omega)) (fun j => hF.2.2.2.2.2 (q + 2) j (fun z => by have := hX _ z; omega)) (fun _ _ => rfl)
theorem FX_GR {X : Nat → Prop} {S S' : St} {al : Nat → Int32} {p q : Nat} (hF : FX X S S') (hX : ∀ a, X a → a < 46) (hq : 46 ≤ q) (h : GRel al p q S) : GRel al p q S' := GRel_of h (fun j => hF.2.2.2.2.2 q j (fun z => by have := hX _ z; omega)) (fun j => hF.2.2.2.2.2 (q + 1) j (fun z => by have := hX _ z; omega)) (fun j => hF.2.2.2.2.2 (q + 2) j (fun z => by have := hX _ z; omega)) (fun j => hF.2.2.2.2.2 (q + 3) j (fun z => by have := hX _ z; omega)) (fun _ _ => rfl)
theorem lsR_st21 {S : St} {v : Option Nat} (x : Int32) : lsR (stR S 21 5 v) x = lsR S x := by
  have e : sR (stR S 21 5 v) 4 (nat x) = sR S 4 (nat x) := by rw [sR_stR, if_neg (by rintro ⟨z, -⟩; omega)]
  unfold lsR
  rw [e]
set_option maxHeartbeats 1000000 in
set_option maxRecDepth 10000 in
theorem reckon_x {S : St} {al : Nat → Int32} {q g : Nat} {k : Int32} (h : CV al S) (hg : g < nat (al 3)) (hG : GSh S q) (r : GRel al g q S) : Rn (fX0_reckon 21 (some 1) (some q) k S) (fun _ S' => FR XC S S' ∧ sI S' 21 0 = bT al g k (al (5365 + 28 * g)) ∧ sI S' 21 1 = bE al g k (al (5365 + 28 * g)) ∧ sI S' 21 2 = bD al g k (al (5365 + 28 * g)) ∧ sI S' 21 3 = bF al g k (al (5364 + 28 * g)) (al (5365 + 28 * g)) ∧ sI S' 21 4 = bP al g k (al (5364 + 28 * g)) (al (5365 + 28 * g))) := by
  obtain ⟨h1, h2, h3, h5⟩ := id h
  have gq := hG.ge
  obtain ⟨pp, hh, od, epp, ehh, eod, fpp, fhh, fod, hpp, hhh, hod, hp8, hh12⟩ := pc_nums h5 hg
  have x0 : sI S q 0 = al (5360 + 28 * g) := r.1 0 (by omega)
  have x1 : sI S q 1 = Int32.ofNat pp := by rw [r.1 1 (by omega), ← fpp]; congr 1; omega
  have x2 : sI S q 2 = Int32.ofNat hh := by rw [r.1 2 (by omega), ← fhh]; congr 1; omega
  have x3 : sI S q 3 = Int32.ofNat od := by rw [r.1 3 (by omega), ← fod]; congr 1; omega
  have x4 : sI S q 4 = al (5364 + 28 * g) := by rw [r.1 4 (by omega)]; congr 1; omega
  have x5 : sI S q 5 = al (5365 + 28 * g) := by rw [r.1 5 (by omega)]; congr 1; omega
  unfold fX0_reckon
  have k21 := SH_K21 h1
  have kq := hG.k0
  have f0 : FX (fun b => b = 21) S S := FX.rfl
  have f5 := ((((f0.stI (a := 21) (j := 0) 0 rfl).stI (a := 21) (j := 1) 0 rfl).stI (a := 21) (j := 2) (Int32.ofNat od) rfl).stI (a := 21) (j := 3) 0 rfl).stI (a := 21) (j := 4) 0 rfl
  refine w_pI k21 (w_pI (show sK (stI S 21 0 0) 21 = 1 from k21) (w_nn (w_gIe (show sK (stI (stI S 21 0 0) 21 1 0) q = 8 from kq) (v := Int32.ofNat od) (by rw [st_ne (Or.inl (by omega)), st_ne (Or.inl (by omega))]; exact x3) (w_pI (show sK (stI (stI S 21 0 0) 21 1 0) 21 = 1 from k21) (w_pI (show sK (stI (stI (stI S 21 0 0) 21 1 0) 21 2 _) 21 = 1 from k21) (w_pI (show sK (stI (stI (stI (stI S 21 0 0) 21 1 0) 21 2 _) 21 3 0) 21 = 1 from k21) ?_))))))
  have y0 : sI (stI (stI (stI (stI (stI S 21 0 0) 21 1 0) 21 2 (Int32.ofNat od)) 21 3 0) 21 4 0) 21 0 = 0 := by simp [sI_stI]
  have y1 : sI (stI (stI (stI (stI (stI S 21 0 0) 21 1 0) 21 2 (Int32.ofNat od)) 21 3 0) 21 4 0) 21 1 = 0 := by simp [sI_stI]
  have y3 : sI (stI (stI (stI (stI (stI S 21 0 0) 21 1 0) 21 2 (Int32.ofNat od)) 21 3 0) 21 4 0) 21 3 = 0 := by simp [sI_stI]
  have y4 : sI (stI (stI (stI (stI (stI S 21 0 0) 21 1 0) 21 2 (Int32.ofNat od)) 21 3 0) 21 4 0) 21 4 = 0 := by simp [sI_stI]
  generalize stI (stI (stI (stI (stI S 21 0 0) 21 1 0) 21 2 (Int32.ofNat od)) 21 3 0) 21 4 0 = S5 at f5 y0 y1 y3 y4 ⊢
  have c5 : CV al S5 := CV_X h f5 (fun a ha => by unfold XC; omega)
  have s5 := c5.1
  have kq5 : sK S5 q = 8 := by rw [f5.1]; exact kq
  have eq5 : ∀ j, sI S5 q j = sI S q j := fun j => f5.2.2.2.2.2 q j (by omega)
  obtain ⟨qp, p1, p2, p3, p4, -⟩ := pattern_at c5 hpp
  obtain ⟨qh, t1, t2, t3, t4, -⟩ := hand_at c5 hhh
  have gp := p3.ge
  have gh := t3.ge
  have ew : (Int32.ofNat od) / 7 = Int32.ofNat (od / 7) := day_div od (by omega)
  have lk := listKnown_eq c5 (al (5360 + 28 * g)) (Int32.ofNat (od / 7)) k
  have la := listAt_ls c5 (al (5360 + 28 * g)) (Int32.ofNat (od / 7)) k
  refine w_gIe kq5 ((eq5 1).trans x1) (w_nn (w_ck (SH_K1 s5) (w_cl p1 (w_gIe kq5 ((eq5 2).trans x2) (w_ck (SH_K1 s5) (w_cl t1 (w_onS (w_onS (w_gIe kq5 ((eq5 3).trans x3) (w_cl (weekOf_eq _ _) ?_))))))))))
  rw [ew]
  refine w_gIe kq5 ((eq5 0).trans x0) (w_ck (SH_K1 s5) (w_cl lk (w_ck (SH_K1 s5) (w_cl la (w_pR (SH_K21 s5) ?_)))))
  have hxx : lsF al (al (5360 + 28 * g)) (Int32.ofNat (od / 7)) k = bX al g k := by unfold bX; rw [eod]
  have hF6 : FR XC S (stR S5 21 5 (lsR S5 (lsF al (al (5360 + 28 * g)) (Int32.ofNat (od / 7)) k))) := (f5.fr.mono (fun a ha => by unfold XC; omega)).st21 _
  have hr6 : sR (stR S5 21 5 (lsR S5 (lsF al (al (5360 + 28 * g)) (Int32.ofNat (od / 7)) k))) 21 5 = lsR (stR S5 21 5 (lsR S5 (lsF al (al (5360 + 28 * g)) (Int32.ofNat (od / 7)) k))) (lsF al (al (5360 + 28 * g)) (Int32.ofNat (od / 7)) k) := by
    rw [sR_stR, if_pos ⟨rfl, rfl⟩, lsR_st21]
  have v0 : ∀ a j, sI (stR S5 21 5 (lsR S5 (lsF al (al (5360 + 28 * g)) (Int32.ofNat (od / 7)) k))) a j = sI S5 a j := fun _ _ => rfl
  have c6 := CV_fr h hF6
  have sh6 : TSh (stR S5 21 5 (lsR S5 (lsF al (al (5360 + 28 * g)) (Int32.ofNat (od / 7)) k))) qp ∧ HSh (stR S5 21 5 (lsR S5 (lsF al (al (5360 + 28 * g)) (Int32.ofNat (od / 7)) k))) qh ∧ GSh (stR S5 21 5 (lsR S5 (lsF al (al (5360 + 28 * g)) (Int32.ofNat (od / 7)) k))) q := by
    have ne : ∀ a j, 46 ≤ a → sR (stR S5 21 5 (lsR S5 (lsF al (al (5360 + 28 * g)) (Int32.ofNat (od / 7)) k))) a j = sR S5 a j := fun a j ha => by rw [sR_stR, if_neg (by rintro ⟨z, -⟩; omega)]
    have hG5 := FX_G f5 hG
    refine ⟨?_, ?_, ?_⟩
    · unfold TSh at p3 ⊢; rw [ne _ _ gp]; exact p3
    · unfold HSh at t3 ⊢; rw [ne _ _ gh, ne _ _ gh]; exact t3
    · unfold GSh at hG5 ⊢; rw [ne _ _ gq, ne _ _ gq, ne _ _ gq]; exact hG5
  obtain ⟨T6, H6, G6⟩ := sh6
  have rp6 : PRel al pp qp (stR S5 21 5 (lsR S5 (lsF al (al (5360 + 28 * g)) (Int32.ofNat (od / 7)) k))) := p4
  have rh6 : HRel al hh qh (stR S5 21 5 (lsR S5 (lsF al (al (5360 + 28 * g)) (Int32.ofNat (od / 7)) k))) := t4
  have rg5 : GRel al g q S5 := FX_GR f5 (fun a ha => by omega) gq r
  have rg6 : GRel al g q (stR S5 21 5 (lsR S5 (lsF al (al (5360 + 28 * g)) (Int32.ofNat (od / 7)) k))) := rg5
  have n33 : ∀ (S' : St), FX (fun b => b = 21 ∨ b = 22) (stR S5 21 5 (lsR S5 (lsF al (al (5360 + 28 * g)) (Int32.ofNat (od / 7)) k))) S' → FR XC S S' := fun S' hf => hF6.trans (hf.fr.mono (fun a ha => by unfold XC; omega))
  generalize stR S5 21 5 (lsR S5 (lsF al (al (5360 + 28 * g)) (Int32.ofNat (od / 7)) k)) = S6 at hF6 hr6 v0 c6 T6 H6 G6 rp6 rh6 rg6 n33 ⊢
  have s6 := c6.1
  have eq6 : ∀ j, sI S6 q j = sI S q j := fun j => (v0 q j).trans (eq5 j)
  have w46 : ∀ a : Nat, a = 21 ∨ a = 22 → a < 46 := fun a ha => by omega
  refine w_gR (SH_K21 s6) (SH_R21_6 s6) (w_gIe G6.k0 ((eq6 5).trans x5) ?_)
  refine w_clr (askFor_x (a := 22) (p := pp) (h := hh) (SH_K22 s6) (SH_L22 s6) (by omega) T6 rp6 H6 rh6 (by omega)) ?_
  rintro - S7 ⟨f7, a7⟩
  have hB7 : bsB al pp hh (od / 7) (al (5365 + 28 * g)) = bB al g (al (5365 + 28 * g)) := by unfold bB; rw [← epp, ← ehh, ← eod]
  rw [hB7] at a7
  have rk7 : RK S6 S7 (bB al g (al (5365 + 28 * g))) := ⟨f7.mono (fun a ha => Or.inr ha), fun j hj hj8 => by rw [a7 j hj8]; unfold askA; rw [if_neg (by omega), if_neg (by omega)]⟩
  have s7 := (rk7.cv c6).1
  have z7 : ∀ j, sI S7 21 j = sI S5 21 j := fun j => (f7.2.2.2.2.2 21 j (by omega)).trans (v0 21 j)
  refine w_ck (SH_K21 s7) (w_clr (stitches_x rk7 c6 hr6 T6 rp6 (fun i hi => ((h5.2.2.1 pp hpp).2.2.2 i hi).1) ((z7 0).trans y0) ((z7 1).trans y1) ((z7 3).trans y3) ((z7 4).trans y4)) ?_)
  rintro - S8 ⟨rk8, u0, u1, u3, u4⟩
  have s8 := (rk8.cv c6).1
  have eq8 : ∀ j, sI S8 q j = sI S q j := fun j => (rk8.1.2.2.2.2.2 q j (by omega)).trans (eq6 j)
  refine w_gR (SH_K21 s8) (SH_R21_6 s8) (w_gIe (FX_G rk8.1 G6).k0 ((eq8 5).trans x5) ?_)
  refine w_clr (askFor_x (a := 22) (p := pp) (h := hh) (SH_K22 s8) (SH_L22 s8) (by omega) (FX_T rk8.1 T6) (FX_P rk8.1 w46 gp rp6) (FX_H rk8.1 H6) (FX_HR rk8.1 w46 gh rh6) (by omega)) ?_
  rintro - S9 ⟨f9, a9⟩
  rw [hB7] at a9
  have rk9 : RK S6 S9 (bB al g (al (5365 + 28 * g))) := ⟨rk8.1.trans (f9.mono (fun a ha => Or.inr ha)), fun j hj hj8 => by rw [a9 j hj8]; unfold askA; rw [if_neg (by omega), if_neg (by omega)]⟩
  have s9 := (rk9.cv c6).1
  have z9 : ∀ j, sI S9 21 j = sI S8 21 j := fun j => f9.2.2.2.2.2 21 j (by omega)
  have eq9 : ∀ j, sI S9 q j = sI S q j := fun j => (rk9.1.2.2.2.2.2 q j (by omega)).trans (eq6 j)
  have a90 : sI S9 22 0 = 9 := a9 0 (by omega)
  have a91 : sI S9 22 1 = 9 := a9 1 (by omega)
  refine w_gIe (FX_G rk9.1 G6).k0 ((eq9 3).trans x3) (rk9.term c6 hr6 a90 a91 4 (w_pI (SH_K21 s9) ?_))
  have rk10 := rk9.s21 (j := 2) (Int32.ofNat od + termF al (askA 9 9 (bB al g (al (5365 + 28 * g)))) (lsF al (al (5360 + 28 * g)) (Int32.ofNat (od / 7)) k) 4)
  have hDD : Int32.ofNat od + termF al (askA 9 9 (bB al g (al (5365 + 28 * g)))) (lsF al (al (5360 + 28 * g)) (Int32.ofNat (od / 7)) k) 4 = bD al g k (al (5365 + 28 * g)) := by unfold bD; rw [hxx, fod]
  have hTT : blN al pp (lsF al (al (5360 + 28 * g)) (Int32.ofNat (od / 7)) k) (bB al g (al (5365 + 28 * g))) 1 24 = bT al g k (al (5365 + 28 * g)) := by unfold bT; rw [hxx, epp]
  have hEE : blN al pp (lsF al (al (5360 + 28 * g)) (Int32.ofNat (od / 7)) k) (bB al g (al (5365 + 28 * g))) 0 24 = bE al g k (al (5365 + 28 * g)) := by unfold bE; rw [hxx, epp]
  rw [hDD] at rk10 ⊢
  rw [hTT] at u0
  rw [hEE] at u1
  have q0 : sI (stI S9 21 2 (bD al g k (al (5365 + 28 * g)))) 21 0 = bT al g k (al (5365 + 28 * g)) := by rw [st_ne (Or.inr (by omega)), z9]; exact u0
  have q1 : sI (stI S9 21 2 (bD al g k (al (5365 + 28 * g)))) 21 1 = bE al g k (al (5365 + 28 * g)) := by rw [st_ne (Or.inr (by omega)), z9]; exact u1
  have q2 : sI (stI S9 21 2 (bD al g k (al (5365 + 28 * g)))) 21 2 = bD al g k (al (5365 + 28 * g)) := st_get
  have q3 : sI (stI S9 21 2 (bD al g k (al (5365 + 28 * g)))) 21 3 = 0 := by rw [st_ne (Or.inr (by omega)), z9]; exact u3
  have q4 : sI (stI S9 21 2 (bD al g k (al (5365 + 28 * g)))) 21 4 = 0 := by rw [st_ne (Or.inr (by omega)), z9]; exact u4
  have b0 : sI (stI S9 21 2 (bD al g k (al (5365 + 28 * g)))) 22 0 = 9 := by rw [st_ne (Or.inl (by omega))]; exact a90
  have b1 : sI (stI S9 21 2 (bD al g k (al (5365 + 28 * g)))) 22 1 = 9 := by rw [st_ne (Or.inl (by omega))]; exact a91
  generalize stI S9 21 2 (bD al g k (al (5365 + 28 * g))) = S10 at rk10 q0 q1 q2 q3 q4 b0 b1 ⊢
  have s10 := (rk10.cv c6).1
  have G10 := FX_G rk10.1 G6
  have hin := isIn_v G10 (v := al (5364 + 28 * g)) (((rk10.1.2.2.2.2.2 q 4 (by omega)).trans (eq6 4)).trans x4)
  have hm1 : -1 ≤ al (5364 + 28 * g) := (h5.2.2.2.1 g hg).2.2.2.2.1.1
  have hneg := neg_iff hm1
  refine w_ck G10.k0 (w_cl hin (w_z (fun c => ?_) (fun c => ?_)))
  · have hi : 0 ≤ al (5364 + 28 * g) := by
      apply Classical.byContradiction
      intro z
      rw [hneg.mpr z] at c
      exact absurd c (by decide)
    refine w_ck (SH_K21 s10) (w_clr (losses_x rk10 c6 hr6 G6 rg6 b0 b1 q1 q2) ?_)
    rintro - S11 ⟨rk11, j0, j1, j2, j3, j4⟩
    rw [hxx] at j3 j4
    refine w_rt ⟨n33 _ rk11.1, j0.trans q0, j1, j2, ?_, ?_⟩
    · rw [j3]; unfold bF; rw [if_pos hi]
    · rw [j4]; unfold bP bF; rw [if_pos hi, if_pos hi]
  · have hi : ¬ 0 ≤ al (5364 + 28 * g) := hneg.mp (by simpa using c)
    refine w_rt ⟨n33 _ rk10.1, q0, q1, q2, ?_, ?_⟩
    · rw [q3]; unfold bF; rw [if_neg hi]
    · rw [q4]; unfold bP; rw [if_neg hi]
