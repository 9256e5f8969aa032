-- in
def inA (al : Nat → Int32) (g : Nat) (dy x2 x3 : Int32) : Nat → Int32 := va_up (va_up (va_up al (5360 + 28 * g + 4) dy) (5360 + 28 * g + 5) x2) (5360 + 28 * g + 6) x3
def inC (al : Nat → Int32) (g : Nat) (dy x2 x3 off net cut : Int32) : Nat → Int32 := va_up (va_up (va_up (inA al g dy x2 x3) (5360 + 28 * g + 7) off) (5360 + 28 * g + 8) net) (5360 + 28 * g + 9) cut
def inD (al : Nat → Int32) (g h : Nat) (dy x2 x3 off net cut d3 d4 : Int32) : Nat → Int32 := va_up (va_up (inC al g dy x2 x3 off net cut) (3440 + 160 * h + 3) d3) (3440 + 160 * h + 4) d4
theorem inA_n {al : Nat → Int32} {g : Nat} {dy x2 x3 : Int32} {k : Nat} (h : ¬ (5360 + 28 * g + 4 ≤ k ∧ k < 5360 + 28 * g + 7)) : inA al g dy x2 x3 k = al k := by
  unfold inA
  rw [va_up_n (by omega), va_up_n (by omega), va_up_n (by omega)]
theorem inC_n {al : Nat → Int32} {g : Nat} {dy x2 x3 off net cut : Int32} {k : Nat} (h : ¬ (5360 + 28 * g + 4 ≤ k ∧ k < 5360 + 28 * g + 10)) : inC al g dy x2 x3 off net cut k = al k := by
  unfold inC
  rw [va_up_n (by omega), va_up_n (by omega), va_up_n (by omega), inA_n (by omega)]
theorem inD_n {al : Nat → Int32} {g h : Nat} {dy x2 x3 off net cut d3 d4 : Int32} {k : Nat} (h1 : ¬ (5360 + 28 * g + 4 ≤ k ∧ k < 5360 + 28 * g + 10)) (h2 : k ≠ 3440 + 160 * h + 3) (h3 : k ≠ 3440 + 160 * h + 4) : inD al g h dy x2 x3 off net cut d3 d4 k = al k := by
  unfold inD
  rw [va_up_n h3, va_up_n h2, inC_n h1]
theorem inA_4 {al : Nat → Int32} {g : Nat} {dy x2 x3 : Int32} : inA al g dy x2 x3 (5360 + 28 * g + 4) = dy := by
  unfold inA
  rw [va_up_n (by omega), va_up_n (by omega), va_up_eq]
theorem inA_5 {al : Nat → Int32} {g : Nat} {dy x2 x3 : Int32} : inA al g dy x2 x3 (5360 + 28 * g + 5) = x2 := by
  unfold inA
  rw [va_up_n (by omega), va_up_eq]
theorem inA_6 {al : Nat → Int32} {g : Nat} {dy x2 x3 : Int32} : inA al g dy x2 x3 (5360 + 28 * g + 6) = x3 := by
  unfold inA
  rw [va_up_eq]
theorem OK_in {al al' : Nat → Int32} {g : Nat} {dy x2 : Int32} (h5 : OK al) (hg : g < nat (al 3)) (hal : ∀ k, ¬ (5360 + 28 * g + 4 ≤ k ∧ k < 5360 + 28 * g + 10) → al' k = al k) (h4 : al' (5360 + 28 * g + 4) = dy) (h5' : al' (5360 + 28 * g + 5) = x2) (hd : 0 ≤ dy ∧ dy ≤ 999) (hx : 0 ≤ x2 ∧ x2 ≤ 99) : OK al' := by
  refine OK_piece h5 hg (fun k hk => hal k (by omega)) ?_
  obtain ⟨o1, o2, o3, o4, o5, o6, o7, o8⟩ := h5.2.2.2.1 g hg
  rw [hal (5360 + 28 * g) (by omega), hal (5361 + 28 * g) (by omega), hal (5362 + 28 * g) (by omega), hal (5363 + 28 * g) (by omega), show 5364 + 28 * g = 5360 + 28 * g + 4 by omega, show 5365 + 28 * g = 5360 + 28 * g + 5 by omega, h4, h5']
  refine ⟨o1, o2, o3, o4, ⟨Int32.le_trans (by decide) hd.1, hd.2⟩, ⟨hx.1, hx.2, fun e => ?_⟩, fun j hj => by rw [hal _ (by omega)]; exact o7 j hj, fun s hs => by rw [hal _ (by omega), hal _ (by omega)]; exact o8 s hs⟩
  rw [e] at hd
  exact absurd hd.1 (by decide)
theorem m_wI2 {Rt : Type} {S0 S : St} {al : Nat → Int32} {Q : Rt → St → Prop} {n : Nat} {i v : Int32} {k : St → Option (Rt × St)} (m : MD S0 al S) (hi : i = Int32.ofNat n) (hn : n < 7440) (h : ∀ S', MD S0 (va_up al n v) S' → (∀ j, sI S' 32 j = sI S 32 j) → Rn (k S') Q) : Rn (wI 33 i v k S) Q :=
  w_wI (SH_K33 m.1) hi (SH_L33 m.1) ⟨by omega, by omega⟩ (h _ (m.w33 hn v) (fun j => st_ne (Or.inl (by omega))))
set_option maxHeartbeats 1000000 in
set_option maxRecDepth 10000 in
theorem in158_m {S0 S : St} {al : Nat → Int32} {g h cr : Nat} {x2 x3 paid off cut : Int32} (m : MD S0 al S) (hg : g < 60) (hh : h < 12) (hcr : cr < 3) (fcr : al (3440 + 160 * h + 2) = Int32.ofNat cr) (h30 : sI S 32 30 = cut) : Rn (fX12_in_158 32 x2 x3 (5360 + 28 * Int32.ofNat g) (3440 + 160 * Int32.ofNat h) paid off S) (fun r S' => r = paid - off ∧ MD S0 (va_up (inD al g h (al 4) x2 x3 off (paid - off) cut (al (3440 + 160 * h + 3) - off) (al (3440 + 160 * h + 4) + (paid - off))) (10 + cr) (al (10 + cr) + cut)) S') := by
  have ip : ∀ c : Nat, (5360 + 28 * Int32.ofNat g) + Int32.ofNat c = Int32.ofNat (5360 + 28 * g + c) := fun c => ix_add (n := 5360 + 28 * g) (m := c) (ix_add (n := 5360) (m := 28 * g) rfl (ix_mul (n := 28) (m := g) rfl rfl)) rfl
  have ih : ∀ c : Nat, (3440 + 160 * Int32.ofNat h) + Int32.ofNat c = Int32.ofNat (3440 + 160 * h + c) := fun c => ix_add (n := 3440 + 160 * h) (m := c) (ix_add (n := 3440) (m := 160 * h) rfl (ix_mul (n := 160) (m := h) rfl rfl)) rfl
  unfold fX12_in_158
  refine w_gR m.k32 m.r (w_gR m.k32 m.r (w_nn (m_aI (n := 4) m rfl (by omega) (w_nn (m_wI2 m (ip 4) (by omega) (fun S1 m1 k1 => ?_))))))
  refine w_gR m1.k32 m1.r (w_nn (m_wI2 m1 (ip 5) (by omega) (fun S2 m2 k2 => ?_)))
  refine w_gR m2.k32 m2.r (w_nn (m_wI2 m2 (ip 6) (by omega) (fun S3 m3 k3 => ?_)))
  refine w_gR m3.k32 m3.r (w_nn (m_wI2 m3 (ip 7) (by omega) (fun S4 m4 k4 => ?_)))
  refine w_gR m4.k32 m4.r (w_nn (m_wI2 m4 (ip 8) (by omega) (fun S5 m5 k5 => ?_)))
  have c5 : sI S5 32 30 = cut := by rw [k5, k4, k3, k2, k1, h30]
  refine w_gR m5.k32 m5.r (w_gIe m5.k32 c5 (w_nn (m_wI2 m5 (ip 9) (by omega) (fun S6 m6 k6 => ?_))))
  have m6' : MD S0 (inC al g (al 4) x2 x3 off (paid - off) cut) S6 := m6
  clear m6 m5 m4 m3 m2 m1
  have e3 : inC al g (al 4) x2 x3 off (paid - off) cut (3440 + 160 * h + 3) = al (3440 + 160 * h + 3) := inC_n (by omega)
  refine w_gR m6'.k32 m6'.r (w_nn (m_aI (n := 3440 + 160 * h + 3) m6' (ih 3) (by omega) ?_))
  rw [e3]
  refine m_wI2 m6' (ih 3) (by omega) (fun S7 m7 k7 => ?_)
  have e4 : va_up (inC al g (al 4) x2 x3 off (paid - off) cut) (3440 + 160 * h + 3) (al (3440 + 160 * h + 3) - off) (3440 + 160 * h + 4) = al (3440 + 160 * h + 4) := by rw [va_up_n (by omega)]; exact inC_n (by omega)
  refine w_gR m7.k32 m7.r (w_nn (m_aI (n := 3440 + 160 * h + 4) m7 (ih 4) (by omega) ?_))
  rw [e4]
  refine m_wI2 m7 (ih 4) (by omega) (fun S8 m8 k8 => ?_)
  have m8' : MD S0 (inD al g h (al 4) x2 x3 off (paid - off) cut (al (3440 + 160 * h + 3) - off) (al (3440 + 160 * h + 4) + (paid - off))) S8 := m8
  clear m8 m7
  have c8 : sI S8 32 30 = cut := by rw [k8, k7, k6]; exact c5
  have e2 : inD al g h (al 4) x2 x3 off (paid - off) cut (al (3440 + 160 * h + 3) - off) (al (3440 + 160 * h + 4) + (paid - off)) (3440 + 160 * h + 2) = Int32.ofNat cr := by rw [inD_n (by omega) (by omega) (by omega)]; exact fcr
  have e10 : inD al g h (al 4) x2 x3 off (paid - off) cut (al (3440 + 160 * h + 3) - off) (al (3440 + 160 * h + 4) + (paid - off)) (10 + cr) = al (10 + cr) := inD_n (by omega) (by omega) (by omega)
  refine w_gR m8'.k32 m8'.r (w_gR m8'.k32 m8'.r (w_nn (m_aI (n := 3440 + 160 * h + 2) m8' (ih 2) (by omega) ?_)))
  rw [e2]
  refine w_nn (m_aI (n := 10 + cr) m8' (Int32.ofNat_add 10 cr).symm (by omega) ?_)
  rw [e10]
  exact w_gIe m8'.k32 c8 (m_wI2 m8' (Int32.ofNat_add 10 cr).symm (by omega) (fun S9 m9 k9 => w_rt ⟨rfl, m9⟩))
set_option maxHeartbeats 1000000 in
set_option maxRecDepth 10000 in
theorem settle_x {S : St} {q qh cr : Nat} {paid debt net0 cr0 cut : Int32} (h : SH S) (hG : GSh S q) (hH : HSh S qh) (e1 : sI S 21 1 - sI S 21 3 - sI S 21 4 = paid) (e4 : sI S 21 4 = cut) (d3 : sI S qh 3 = debt) (d4 : sI S qh 4 = net0) (d2 : sI S qh 2 = Int32.ofNat cr) (hcr : cr < 3) (c8 : sI S 8 cr = cr0) : fX11_settle 0 (some q) (some qh) S = some ((), stI (stI (stI (stI (stI S q 7 (mnI (paid / 2) debt)) q 8 (paid - mnI (paid / 2) debt)) qh 3 (debt - mnI (paid / 2) debt)) qh 4 (net0 + (paid - mnI (paid / 2) debt))) 8 cr (cr0 + cut)) := by
  have gq := hG.ge
  have gh := hH.ge
  have hne : q ≠ qh := ne_kind hG.1 hH.1 (by decide)
  have p := paid_x h
  rw [e1] at p
  apply Rn.eq
  unfold fX11_settle
  have kq := hG.k0
  have kh := hH.k0
  refine w_gR (SH_K0 h) (SH_R0_4 h) (w_nn (w_ck (SH_K21 h) (w_cl p (w_dv (by decide) (w_nn (w_gIe kh d3 (w_nn (w_pI kq ?_))))))))
  generalize mnI (paid / 2) debt = off
  refine w_gIe (show sK (stI S q 7 off) q = 8 from kq) st_get (w_pI (show sK (stI S q 7 off) q = 8 from kq) ?_)
  refine w_gIe (v := debt) (show sK (stI (stI S q 7 off) q 8 (paid - off)) qh = 3 from kh) (by rw [st_ne (Or.inl (by omega)), st_ne (Or.inl (by omega))]; exact d3) (w_gIe (v := off) (show sK (stI (stI S q 7 off) q 8 (paid - off)) q = 8 from kq) (by rw [st_ne (Or.inr (by omega)), st_get]) (w_pI (show sK (stI (stI S q 7 off) q 8 (paid - off)) qh = 3 from kh) ?_))
  refine w_gIe (v := net0) (show sK (stI (stI (stI S q 7 off) q 8 (paid - off)) qh 3 (debt - off)) qh = 3 from kh) (by rw [st_ne (Or.inr (by omega)), st_ne (Or.inl (by omega)), st_ne (Or.inl (by omega))]; exact d4) (w_gIe (v := paid - off) (show sK (stI (stI (stI S q 7 off) q 8 (paid - off)) qh 3 (debt - off)) q = 8 from kq) (by rw [st_ne (Or.inl (by omega)), st_get]) (w_pI (show sK (stI (stI (stI S q 7 off) q 8 (paid - off)) qh 3 (debt - off)) qh = 3 from kh) ?_))
  have f5 : FX (fun b => b = q ∨ b = qh) S (stI (stI (stI (stI S q 7 off) q 8 (paid - off)) qh 3 (debt - off)) qh 4 (net0 + (paid - off))) := (((FX.rfl.stI _ (Or.inl rfl)).stI _ (Or.inl rfl)).stI _ (Or.inr rfl)).stI _ (Or.inr rfl)
  have g2 : sI (stI (stI (stI (stI S q 7 off) q 8 (paid - off)) qh 3 (debt - off)) qh 4 (net0 + (paid - off))) qh 2 = Int32.ofNat cr := by rw [st_ne (Or.inr (by omega)), st_ne (Or.inr (by omega)), st_ne (Or.inl (by omega)), st_ne (Or.inl (by omega))]; exact d2
  generalize stI (stI (stI (stI S q 7 off) q 8 (paid - off)) qh 3 (debt - off)) qh 4 (net0 + (paid - off)) = T at f5 g2 ⊢
  have sT := FR_SH f5.fr h
  have t4 : sI T 21 4 = cut := by rw [f5.2.2.2.2.2 21 4 (by omega)]; exact e4
  have t8 : sI T 8 cr = cr0 := by rw [f5.2.2.2.2.2 8 cr (by omega)]; exact c8
  have ac : fX10_addCarried 1 (Int32.ofNat cr) cut T = some ((), stI T 8 cr (cr0 + cut)) := by
    apply Rn.eq
    unfold fX10_addCarried
    have hw : wi (Int32.ofNat cr) 0 2 = true := by
      rw [show (0 : Int32) = Int32.ofNat 0 from rfl, show (2 : Int32) = Int32.ofNat 2 from rfl, wi_ofNat (by omega) (by omega) (by omega)]
      exact decide_eq_true (by omega)
    refine w_cl (within_eq _ _ _ _) (w_zt hw (w_gR (SH_K1 sT) (SH_R1_14 sT) (w_nn (w_aIe (n := cr) (SH_K8 sT) rfl (SH_L8 sT) (by omega) t8 (w_wI (n := cr) (SH_K8 sT) rfl (SH_L8 sT) (by omega) (w_rt ⟨rfl, rfl⟩))))))
  exact w_gR (SH_K0 sT) (SH_R0_0 sT) (w_gIe (by rw [f5.1]; exact kh) g2 (w_gR (SH_K0 sT) (SH_R0_4 sT) (w_nn (w_gIe (SH_K21 sT) t4 (w_nn (w_ck (SH_K1 sT) (w_cl ac (w_rt ⟨rfl, rfl⟩))))))))
