-- part: the class
def skN (al : Nat → Int32) (h : Nat) : Nat := nat (al (3440 + 160 * h))
theorem pk_b {al : Nat → Int32} (h5 : OK al) {p d days N H : Nat} (hH : H = nat (al 2)) (hp : p < nat (al 0)) (hdays : days ≤ 60) (hN : 1 ≤ N ∧ N ≤ 40) : PKb (cdN al p d days) (skN al) H N := by
  have n2 : nat (al 2) ≤ 12 := nat_le h5.1.2.2.1.2 (by decide)
  refine ⟨by omega, fun i hi => ?_, fun i hi => ?_, hN.1, hN.2⟩
  · have h1 := nat_le (n := 12) (h5.2.1 i (by omega)).2.1.2 (by decide)
    have h2 := hrN_b (al := al) (h := i) (day := d) h1 days
    have h3 : cdN al p d days i ≤ hrN al i d days := Nat.div_le_self _ _
    omega
  · exact nat_le (n := 200) (h5.2.1 i (by omega)).1.2 (by decide)
theorem rfb_none {C : Nat → Nat} {N H : Nat} {sp : Nat → Int32} (h : ∀ b, b < 2 ^ H → okB C N H b = false) : rfB C N H sp (2 ^ H - 1) = none := by
  cases hr : rfB C N H sp (2 ^ H - 1) with
  | none => rfl
  | some a =>
    have := rf_p _ a hr
    have hp := Nat.two_pow_pos H
    rw [h a (by omega)] at this
    cases this.2.2
theorem rfb_some {C : Nat → Nat} {N H m b0 : Nat} {sp : Nat → Int32} (h1 : 1 ≤ b0) (h2 : b0 < 2 ^ H) (h3 : okB C N H b0 = true) (h4 : cd b0 H = m) (h5 : ∀ b', okB C N H b' = true → m ≤ cd b' H) : ∃ a, rfB C N H sp (2 ^ H - 1) = some a ∧ cd a H = m ∧ clB C N H m sp (2 ^ H - 1) = some a := by
  have key := cl_rf (sp := sp) h5 (2 ^ H - 1)
  cases hr : rfB C N H sp (2 ^ H - 1) with
  | none =>
    have := (key.1 hr).2 b0 h1 (by omega)
    rw [h3] at this
    cases this
  | some a =>
    by_cases e : cd a H = m
    · exact ⟨a, rfl, e, (key.2 a hr).1 e⟩
    · exact absurd h4 (((key.2 a hr).2 e).2 b0 h1 (by omega) h3)
set_option maxHeartbeats 1000000 in
set_option maxRecDepth 10000 in
theorem pfind_x {S : St} {al : Nat → Int32} {p qp d days N H : Nat} (h : CV al S) (hp : p < nat (al 0)) (hT : TSh S qp) (rT : PRel al p qp S) (hH : H = nat (al 2)) (hd : al 4 = Int32.ofNat d) (hd9 : d ≤ 999) (hdays : days ≤ 60) (hN : 1 ≤ N ∧ N ≤ 40) : Rn (fX4_find 23 (some 1) (some qp) (Int32.ofNat N) (Int32.ofNat days) S) (fun r S' => FR XC S S' ∧ r = (rfB (cdN al p d days) N H (spI (skN al) H) (2 ^ H - 1)).isSome ∧ ∀ b, rfB (cdN al p d days) N H (spI (skN al) H) (2 ^ H - 1) = some b → sI S' 23 0 = Int32.ofNat (cd b H) ∧ sI S' 23 1 = spI (skN al) H b ∧ sI S' 23 2 = Int32.ofNat b ∧ sI S' 23 3 = Int32.ofNat H ∧ ∀ i, i < H → sI S' 26 i = Int32.ofNat (gvN (cdN al p d days) b H N i)) := by
  obtain ⟨h1, h2, h3, h5⟩ := id h
  have kb := pk_b (d := d) h5 hH hp hdays hN
  have n2 : nat (al 2) ≤ 12 := nat_le h5.1.2.2.1.2 (by decide)
  have e2 := cnt_eq h5.1.2.2.1.1
  have gp := hT.ge
  have hc : sI S 1 10 = Int32.ofNat H := by rw [hH, ← e2]; exact h3.1.2.2.2.2.2.2.1
  have hpp := (h5.2.2.1 p hp).2.2.1
  generalize hC : cdN al p d days = C at kb ⊢
  unfold fX4_find
  refine w_nn (w_gIe (SH_K1 h1) hc (w_pI (SH_K23 h1) ?_))
  rw [show (12 : Int32) = Int32.ofNat 12 from rfl, mn_of (by omega) (by omega), show min H 12 = H by omega]
  refine w_for (mk := fun (b : Unit) i => (23, some 1, some qp, Int32.ofNat N, Int32.ofNat days, i)) (a := ()) 0 H (fun i _ S' => FX (fun b => b = 23 ∨ b = 24 ∨ b = 25 ∨ b = 26) S S' ∧ sI S' 23 3 = Int32.ofNat H ∧ ∀ j, j < i → sI S' 24 j = Int32.ofNat (C j) ∧ sI S' 25 j = Int32.ofNat (skN al j) ∧ sI S' 26 j = 0) (by omega) (by omega) ⟨FX.rfl.stI _ (Or.inl rfl), st_get, fun j hj => by omega⟩ ?_ ?_
  · rintro kk - S1 ⟨hF, hk3, hv⟩ hge
    dsimp only [fX4_find_16]
    have s1 := FR_SH hF.fr h1
    have k1 : PK S1 C (skN al) H := ⟨hk3, fun i hi => (hv i hi).1, fun i hi => (hv i hi).2.1⟩
    refine w_gIe (SH_K23 s1) hk3 (w_bt hge (w_ck (SH_K23 s1) (w_clr (fewest_x s1 k1 kb) ?_)))
    rintro r S1' ⟨rfl, hw⟩
    refine w_pI (SH_K23 s1) (w_gIe (show sK (stI S1' 23 0 r) 23 = 5 from SH_K23 s1) st_get ?_)
    have hF2 := hF.stI (a := 23) (j := 0) r (Or.inl rfl)
    rcases hw with ⟨rfl, hno⟩ | ⟨m, b0, rfl, m1, m2, b1, b2, b3, b4, b5⟩
    · have hr := rfb_none (sp := spI (skN al) H) hno
      refine w_bt rfl (w_r0 ⟨hF2.fr.mono (fun a ha => by unfold XC; omega), by rw [hr]; rfl, fun b hb => by rw [hr] at hb; cases hb⟩)
    · obtain ⟨a, r1, r2, r3⟩ := rfb_some (sp := spI (skN al) H) b1 b2 b3 b4 b5
      have ha := rf_p _ a r1
      have haN : N ≤ smN C a H := by
        have := ha.2.2
        unfold okB at this
        rw [Bool.and_eq_true] at this
        exact of_decide_eq_true this.2
      have k2 := k1.s23 (j := 0) (Int32.ofNat m) (by omega)
      refine w_bf (of_ne_m1 (by omega)) (w_ck (show sK (stI S1' 23 0 _) 23 = 5 from SH_K23 s1) (w_clr (choose_x (show SH (stI S1' 23 0 (Int32.ofNat m)) from s1) k2 kb st_get (by omega)) ?_))
      rintro - S3 ⟨f3, k3, m3, st3⟩
      rw [r3] at st3
      have s3 : SH S3 := FR_SH f3.fr (show SH (stI S1' 23 0 (Int32.ofNat m)) from s1)
      have z3 : ∀ i, i < H → sI S3 26 i = 0 := fun i hi => by rw [f3.2.2.2.2.2 26 i (by omega), st_ne (Or.inl (by omega))]; exact (hv i hi).2.2
      refine w_ck (SH_K23 s3) (w_clr (share_x s3 k3 kb st3.1 haN z3) ?_)
      rintro - S4 ⟨f4, v4⟩
      have e23 : ∀ j, sI S4 23 j = sI S3 23 j := fun j => f4.2.2.2.2.2 23 j (by omega)
      refine w_r1 ⟨((hF2.trans (f3.mono (fun a ha => Or.inl ha))).trans (f4.mono (fun a ha => Or.inr (Or.inr (Or.inr ha))))).fr.mono (fun a ha => by unfold XC; omega), by rw [r1]; rfl, fun b hb => ?_⟩
      rw [r1] at hb
      cases hb
      exact ⟨by rw [e23, r2]; exact m3, by rw [e23]; exact st3.2, by rw [e23]; exact st3.1, by rw [e23]; exact k3.1, v4⟩
  · rintro i - hi kk - S1 ⟨hF, hk3, hv⟩ hlt hkk
    dsimp only [fX4_find_16, fX4_find_61, fX4_find_97]
    have cv1 := CV_X h hF (fun a ha => by unfold XC; omega)
    have s1 := cv1.1
    obtain ⟨q, t1, t2, t3, t4, -⟩ := hand_at cv1 (show i < nat (al 2) by omega)
    have gq := t3.ge
    obtain ⟨o1, o2, -⟩ := h5.2.1 i (by omega)
    have es : sI S1 q 0 = Int32.ofNat (skN al i) := by
      rw [t4.1 0 (by omega)]
      unfold skN
      exact cnt_eq (Int32.le_trans (by decide) o1.1)
    have f2 := hF.stI (a := 26) (j := i) 0 (by omega)
    have f3 := f2.stI (a := 25) (j := i) (Int32.ofNat (skN al i)) (by omega)
    have s3 := FR_SH f3.fr h1
    have t33 : HSh (stI (stI S1 26 i 0) 25 i (Int32.ofNat (skN al i))) q := t3
    have t43 : HRel al i q (stI (stI S1 26 i 0) 25 i (Int32.ofNat (skN al i))) := HRel_of t4 (fun j => by rw [st_ne (Or.inl (by omega)), st_ne (Or.inl (by omega))]) (fun j => by rw [st_ne (Or.inl (by omega)), st_ne (Or.inl (by omega))]) (fun j => by rw [st_ne (Or.inl (by omega)), st_ne (Or.inl (by omega))]) (fun _ _ => rfl)
    have e22 : sI (stI (stI S1 26 i 0) 25 i (Int32.ofNat (skN al i))) qp 2 = al (22 + 27 * p) := by rw [f3.2.2.2.2.2 qp 2 (by omega)]; exact rT.2.2.1
    have e4 : sI (stI (stI S1 26 i 0) 25 i (Int32.ofNat (skN al i))) 1 4 = Int32.ofNat d := by rw [f3.2.2.2.2.2 1 4 (by omega), ← hd]; exact h3.1.2.2.2.1
    have hrb := hrN_b (al := al) (h := i) (day := d) (nat_le (n := 12) o2.2 (by decide)) days
    have eh := hoursIn_x t33 t43 hd9 hdays o2
    have ec := canDo_x (p := p) t33 t43 o1 hpp (hr := hrN al i d days) (by omega)
    have hCi : C i = hrN al i d days / max 1 ((nat (al (22 + 27 * p)) + 10 * nat (al (3440 + 160 * i)) - 1) / (10 * nat (al (3440 + 160 * i)))) := by rw [← hC]; rfl
    rw [← hCi] at ec
    refine w_gIe (SH_K23 s1) hk3 (w_bf hlt (w_nn (w_ck (SH_K1 s1) (w_cl t1 (w_gR (SH_K23 s1) (SH_R23_6 s1) (w_nn (w_wI (n := i) (SH_K26 s1) rfl (SH_L26 s1) (by omega) ?_)))))))
    refine w_gR (show sK (stI S1 26 i 0) 23 = 5 from SH_K23 s1) (show sR (stI S1 26 i 0) 23 5 = some 25 from SH_R23_5 s1) (w_onS (w_gIe (v := Int32.ofNat (skN al i)) (show sK (stI S1 26 i 0) q = 3 from t3.k0) (show sI (stI S1 26 i 0) q 0 = Int32.ofNat (skN al i) by rw [st_ne (Or.inl (by omega))]; exact es) (w_nn (w_wI (n := i) (show sK (stI S1 26 i 0) 25 = 15 from SH_K25 s1) rfl (show sL (stI S1 26 i 0) 25 = 12 from SH_L25 s1) (by omega) ?_))))
    refine w_gR (SH_K23 s3) (SH_R23_4 s3) (w_onS (w_nn (w_gIe (FX_T f3 hT).k0 e22 (w_nn (w_gIe (SH_K1 s3) e4 (w_ck t33.k0 (w_cl eh (w_ck t33.k0 (w_cl ec (w_nn (w_wI (n := i) (SH_K24 s3) rfl (SH_L24 s3) (by omega) (hkk () _ ⟨f3.stI _ (by omega), ?_, fun j hj => ?_⟩))))))))))))
    · rw [st_ne (Or.inl (by omega)), st_ne (Or.inl (by omega)), st_ne (Or.inl (by omega))]; exact hk3
    · by_cases e : j = i
      · subst e
        exact ⟨st_get, by rw [st_ne (Or.inl (by omega)), st_get], by rw [st_ne (Or.inl (by omega)), st_ne (Or.inl (by omega)), st_get]⟩
      · obtain ⟨v1, v2, v3⟩ := hv j (by omega)
        exact ⟨by rw [st_ne (Or.inr e), st_ne (Or.inl (by omega)), st_ne (Or.inl (by omega))]; exact v1, by rw [st_ne (Or.inl (by omega)), st_ne (Or.inr e), st_ne (Or.inl (by omega))]; exact v2, by rw [st_ne (Or.inl (by omega)), st_ne (Or.inl (by omega)), st_ne (Or.inr e)]; exact v3⟩
