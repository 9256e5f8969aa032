-- what a line may ask
def askA (st co : Int32) (B : Nat → Int32) : Nat → Int32 := fun j => if j = 0 then st else if j = 1 then co else B j
def hayV (al : Nat → Int32) (h wk : Nat) : Bool := decide (wk < 143 ∧ al (3456 + 160 * h + wk) = 1)
def bsB (al : Nat → Int32) (p h wk : Nat) (sp : Int32) : Nat → Int32 := fun j => if j = 2 then al (20 + 27 * p) else if j = 3 then mnI (al (22 + 27 * p) / 100) 9999 else if j = 4 then al (3440 + 160 * h) else if j = 5 then sp else if j = 6 then Int32.ofNat wk else bi (hayV al h wk)
theorem hasHay_x {S : St} {al : Nat → Int32} {h q wk : Nat} (hsh : HSh S q) (r : HRel al h q S) (hwk : wk < 1000) : fX2_hasHay q (Int32.ofNat wk) S = some (hayV al h wk, S) := by
  apply Rn.eq
  unfold fX2_hasHay
  refine w_cl (within_eq _ _ _ _) ?_
  have hw : wi (Int32.ofNat wk) 0 142 = decide (wk < 143) := by
    rw [show (0 : Int32) = Int32.ofNat 0 from rfl, show (142 : Int32) = Int32.ofNat 142 from rfl, wi_ofNat (by omega) (by omega) (by omega)]
    congr 1
    exact propext ⟨fun q => by omega, fun q => by omega⟩
  by_cases c : wk < 143
  · rw [decide_eq_true c] at hw
    have e := r.2.2 wk c
    rw [wk_div wk c, wk_rem wk c]
    refine w_zt hw (w_gR hsh.k0 hsh.r6 (w_dv (by decide) (w_nn (w_aI (n := wk / 32) hsh.k2 rfl hsh.l2 (by omega) (w_dv (by decide) ?_)))))
    rw [e]
    refine w_br (fun d => w_r1 ⟨?_, rfl⟩) (fun d => w_r0 ⟨?_, rfl⟩)
    · unfold hayV; exact (decide_eq_true ⟨c, d⟩).symm
    · unfold hayV; exact (decide_eq_false (fun z => d z.2)).symm
  · rw [decide_eq_false c] at hw
    refine w_zf hw (w_r0 ⟨?_, rfl⟩)
    unfold hayV; exact (decide_eq_false (fun z => c z.1)).symm
set_option maxHeartbeats 1000000 in
set_option maxRecDepth 10000 in
theorem askFor_x {S : St} {al : Nat → Int32} {a p qp h qh wk : Nat} {sp : Int32} (ha : sK S a = 15) (hla : sL S a = 8) (ha46 : a < 46) (hT : TSh S qp) (rT : PRel al p qp S) (hH : HSh S qh) (rH : HRel al h qh S) (hwk : wk < 1000) : Rn (fX11_askFor (some a) (some qp) (some qh) (Int32.ofNat wk) sp S) (fun _ S' => FX (fun b => b = a) S S' ∧ ∀ j, j < 8 → sI S' a j = askA 9 9 (bsB al p h wk sp) j) := by
  have gp := hT.ge
  have gh := hH.ge
  unfold fX11_askFor
  have e0 : ∀ S' : St, FX (fun b => b = a) S S' → sI S' qp 0 = al (20 + 27 * p) ∧ sI S' qp 2 = al (22 + 27 * p) ∧ sI S' qh 0 = al (3440 + 160 * h) ∧ sK S' a = 15 ∧ sL S' a = 8 ∧ sK S' qp = 6 ∧ sK S' qh = 3 := fun S' hF => ⟨by rw [hF.2.2.2.2.2 _ _ (by omega)]; exact rT.1, by rw [hF.2.2.2.2.2 _ _ (by omega)]; exact rT.2.2.1, by rw [hF.2.2.2.2.2 _ _ (by omega)]; exact rH.1 0 (by omega), by rw [hF.1]; exact ha, by rw [hF.2.1]; exact hla, by rw [hF.1]; exact hT.k0, by rw [hF.1]; exact hH.k0⟩
  have f0 : FX (fun b => b = a) S S := FX.rfl
  have f1 := f0.stI (j := 0) 9 (a := a) rfl
  have f2 := f1.stI (j := 1) 9 (a := a) rfl
  have f3 := f2.stI (j := 2) (al (20 + 27 * p)) (a := a) rfl
  have f4 := f3.stI (j := 3) (mnI (al (22 + 27 * p) / 100) 9999) (a := a) rfl
  have f5 := f4.stI (j := 4) (al (3440 + 160 * h)) (a := a) rfl
  have f6 := f5.stI (j := 5) sp (a := a) rfl
  have f7 := f6.stI (j := 6) (Int32.ofNat wk) (a := a) rfl
  obtain ⟨-, -, -, k0, l0, -, -⟩ := e0 _ f0
  obtain ⟨-, -, -, k1, l1, -, -⟩ := e0 _ f1
  obtain ⟨v2, -, -, k2, l2, m2, -⟩ := e0 _ f2
  obtain ⟨-, v3, -, k3, l3, m3, -⟩ := e0 _ f3
  obtain ⟨-, -, v4, k4, l4, -, n4⟩ := e0 _ f4
  obtain ⟨-, -, -, k5, l5, -, -⟩ := e0 _ f5
  obtain ⟨-, -, -, k6, l6, -, -⟩ := e0 _ f6
  obtain ⟨-, -, -, k7, l7, -, n7⟩ := e0 _ f7
  refine w_nn (w_aL ha hla (w_bt (by decide) (w_wI (n := 0) k0 rfl l0 (by omega) (w_wI (n := 1) k1 rfl l1 (by omega) (w_nn (w_gIe m2 v2 (w_wI (n := 2) k2 rfl l2 (by omega) (w_gIe m3 v3 (w_dv (by decide) (w_wI (n := 3) k3 rfl l3 (by omega) (w_nn (w_gIe n4 v4 (w_wI (n := 4) k4 rfl l4 (by omega) (w_wI (n := 5) k5 rfl l5 (by omega) (w_wI (n := 6) k6 rfl l6 (by omega) (w_ck n7 ?_))))))))))))))))
  have rH7 := HRel_of (al' := al) rH (fun j => f7.2.2.2.2.2 qh j (by omega)) (fun j => f7.2.2.2.2.2 (qh + 1) j (by omega)) (fun j => f7.2.2.2.2.2 (qh + 2) j (by omega)) (fun _ _ => rfl)
  refine w_cl (hasHay_x (show HSh _ qh from hH) rH7 hwk) ?_
  have fin : ∀ v : Int32, v = bi (hayV al h wk) → ∀ j, j < 8 → sI (stI (stI (stI (stI (stI (stI (stI (stI S a 0 9) a 1 9) a 2 (al (20 + 27 * p))) a 3 (mnI (al (22 + 27 * p) / 100) 9999)) a 4 (al (3440 + 160 * h))) a 5 sp) a 6 (Int32.ofNat wk)) a 7 v) a j = askA 9 9 (bsB al p h wk sp) j := by
    intro v hv j hj
    rcases (show j = 0 ∨ j = 1 ∨ j = 2 ∨ j = 3 ∨ j = 4 ∨ j = 5 ∨ j = 6 ∨ j = 7 by omega) with rfl | rfl | rfl | rfl | rfl | rfl | rfl | rfl <;> simp [sI_stI, askA, bsB, hv]
  refine w_z (fun c => ?_) (fun c => ?_)
  · exact w_wI (n := 7) k7 rfl l7 (by omega) (w_rt ⟨f7.stI _ rfl, fin 1 (by rw [c]; rfl)⟩)
  · exact w_wI (n := 7) k7 rfl l7 (by omega) (w_rt ⟨f7.stI _ rfl, fin 0 (by rw [c]; rfl)⟩)
-- the reference
theorem hasHay_m {S0 S : St} {al : Nat → Int32} {h wk : Nat} (m : MD S0 al S) (hh : h < 12) (hwk : wk < 1000) : fX12_hasHay 32 (Int32.ofNat h) (Int32.ofNat wk) S = some (hayV al h wk, S) := by
  apply Rn.eq
  unfold fX12_hasHay hayV
  refine w_br (fun c => w_r0 ⟨?_, rfl⟩) (fun c => w_ck (SH_K32 m.1) ?_)
  · have := (lit_le (m := 143) (by omega) (by omega)).mp c
    exact (decide_eq_false (by omega)).symm
  · have hc : wk < 143 := by
      rcases Nat.lt_or_ge wk 143 with q | q
      · exact q
      · exact absurd ((lit_le (m := 143) (by omega) (by omega)).mpr q) c
    refine m_handOf (j := 16 + wk) m rfl (Int32.ofNat_add 16 wk).symm hh (by omega) ?_
    rw [show 3440 + 160 * h + (16 + wk) = 3456 + 160 * h + wk by omega]
    refine w_br (fun d => w_r1 ⟨?_, rfl⟩) (fun d => w_r0 ⟨?_, rfl⟩)
    · exact (decide_eq_true ⟨hc, d⟩).symm
    · exact (decide_eq_false (fun z => d z.2)).symm
theorem MD.k32 {S0 S : St} {al : Nat → Int32} (h : MD S0 al S) : sK S 32 = 13 := SH_K32 h.1
set_option maxHeartbeats 1000000 in
set_option maxRecDepth 10000 in
theorem asks_m {S0 S : St} {al : Nat → Int32} {p h wk : Nat} {sp : Int32} (m : MD S0 al S) (hp : p < 8) (hh : h < 12) (hwk : wk < 1000) : Rn (fX12_asks 32 (Int32.ofNat p) (Int32.ofNat h) (Int32.ofNat wk) sp S) (fun _ S' => MD S0 al S' ∧ (∀ j, 2 ≤ j → j < 8 → sI S' 32 (18 + j) = bsB al p h wk sp j) ∧ ∀ j, j < 20 ∨ 26 ≤ j → sI S' 32 j = sI S 32 j) := by
  have go : ∀ y : Int32, y = mnI (al (22 + 27 * p) / 100) 9999 → Rn (fX12_asks_41 32 (Int32.ofNat h) (Int32.ofNat wk) sp y 32 (stI S 32 20 (al (20 + 27 * p)))) (fun _ S' => MD S0 al S' ∧ (∀ j, 2 ≤ j → j < 8 → sI S' 32 (18 + j) = bsB al p h wk sp j) ∧ ∀ j, j < 20 ∨ 26 ≤ j → sI S' 32 j = sI S 32 j) := by
    intro y hy
    unfold fX12_asks_41
    have m1 := m.scr (a := 32) (j := 20) (al (20 + 27 * p)) (Or.inl rfl)
    have m2 := m1.scr (a := 32) (j := 21) y (Or.inl rfl)
    refine w_pI m1.k32 (w_ck m2.k32 (m_handOf (j := 0) m2 rfl rfl hh (by omega) ?_))
    have m3 := m2.scr (a := 32) (j := 22) (al (3440 + 160 * h + 0)) (Or.inl rfl)
    have m4 := m3.scr (a := 32) (j := 23) sp (Or.inl rfl)
    have m5 := m4.scr (a := 32) (j := 24) (Int32.ofNat wk) (Or.inl rfl)
    refine w_pI m2.k32 (w_pI m3.k32 (w_pI m4.k32 (w_ck m5.k32 (w_cl (hasHay_m m5 hh hwk) ?_))))
    have fin : ∀ v : Int32, v = bi (hayV al h wk) → (∀ j, 2 ≤ j → j < 8 → sI (stI (stI (stI (stI (stI (stI S 32 20 (al (20 + 27 * p))) 32 21 y) 32 22 (al (3440 + 160 * h + 0))) 32 23 sp) 32 24 (Int32.ofNat wk)) 32 25 v) 32 (18 + j) = bsB al p h wk sp j) ∧ ∀ j, j < 20 ∨ 26 ≤ j → sI (stI (stI (stI (stI (stI (stI S 32 20 (al (20 + 27 * p))) 32 21 y) 32 22 (al (3440 + 160 * h + 0))) 32 23 sp) 32 24 (Int32.ofNat wk)) 32 25 v) 32 j = sI S 32 j := by
      intro v hv
      refine ⟨fun j h2 hj => ?_, fun j hj => ?_⟩
      · rcases (show j = 2 ∨ j = 3 ∨ j = 4 ∨ j = 5 ∨ j = 6 ∨ j = 7 by omega) with rfl | rfl | rfl | rfl | rfl | rfl <;> simp [sI_stI, bsB, hv, hy]
      · rw [st_ne (Or.inr (by omega)), st_ne (Or.inr (by omega)), st_ne (Or.inr (by omega)), st_ne (Or.inr (by omega)), st_ne (Or.inr (by omega)), st_ne (Or.inr (by omega))]
    refine w_z (fun c => ?_) (fun c => ?_)
    · exact w_pI m5.k32 (w_rt ⟨m5.scr 1 (Or.inl rfl), fin 1 (by rw [c]; rfl)⟩)
    · exact w_pI m5.k32 (w_rt ⟨m5.scr 0 (Or.inl rfl), fin 0 (by rw [c]; rfl)⟩)
  unfold fX12_asks
  have m1 := m.scr (a := 32) (j := 20) (al (20 + 27 * p)) (Or.inl rfl)
  refine w_ck m.k32 (m_patternOf (j := 0) m rfl rfl hp (by omega) (w_pI m.k32 (w_ck m1.k32 (m_patternOf (j := 2) m1 rfl rfl hp (by omega) (w_dv (by decide) (w_br (fun c => ?_) (fun c => ?_)))))))
  · refine go _ ?_
    rw [show 20 + 27 * p + 2 = 22 + 27 * p by omega] at c
    unfold mnI
    by_cases d : 9999 < al (22 + 27 * p) / 100
    · rw [if_pos d]
    · rw [if_neg d]; exact Int32.le_antisymm c (Int32.not_lt.mp d)
  · refine w_ck m1.k32 (m_patternOf (j := 2) m1 rfl rfl hp (by omega) (w_dv (by decide) (go _ ?_)))
    rw [show 20 + 27 * p + 2 = 22 + 27 * p by omega] at c ⊢
    unfold mnI
    rw [if_neg (fun d => c (Int32.le_of_lt d))]
theorem asked_m {S0 S : St} {al : Nat → Int32} (m : MD S0 al S) (kd : Int32) : fX12_asked 32 kd S = some (askR (fun j => sI S 32 (18 + j)) kd, S) := by
  apply Rn.eq
  unfold fX12_asked askR
  refine w_br (fun c => w_gI m.k32 (w_rt ⟨by rw [if_pos c], rfl⟩)) (fun c0 => ?_)
  rw [if_neg c0]
  refine w_br (fun c => w_gI m.k32 (w_rt ⟨by rw [if_pos c], rfl⟩)) (fun c0 => ?_)
  rw [if_neg c0]
  refine w_br (fun c => w_gI m.k32 (w_rt ⟨by rw [if_pos c], rfl⟩)) (fun c0 => ?_)
  rw [if_neg c0]
  refine w_br (fun c => w_gI m.k32 (w_rt ⟨by rw [if_pos c], rfl⟩)) (fun c0 => ?_)
  rw [if_neg c0]
  refine w_br (fun c => w_gI m.k32 (w_rt ⟨by rw [if_pos c], rfl⟩)) (fun c0 => ?_)
  rw [if_neg c0]
  refine w_br (fun c => w_gI m.k32 (w_rt ⟨by rw [if_pos c], rfl⟩)) (fun c0 => ?_)
  rw [if_neg c0]
  refine w_br (fun c => w_gI m.k32 (w_rt ⟨by rw [if_pos c], rfl⟩)) (fun c0 => ?_)
  rw [if_neg c0]
  exact w_gI m.k32 (w_rt ⟨rfl, rfl⟩)
theorem ixr {l k : Nat} : ((240 + 320 * Int32.ofNat l) + 4) + 19 * Int32.ofNat k = Int32.ofNat (244 + 320 * l + 19 * k) := by
  exact (ix_add (n := 240 + 320 * l + 4) (m := 19 * k) (ix_add (n := 240 + 320 * l) (m := 4) (ix_add (n := 240) (m := 320 * l) rfl (ix_mul (n := 320) (m := l) rfl rfl)) rfl) (ix_mul (n := 19) (m := k) rfl rfl)).trans (by congr 1; omega)
set_option maxHeartbeats 1000000 in
set_option maxRecDepth 10000 in
theorem holds_m {S0 S : St} {al : Nat → Int32} {l k : Nat} (m : MD S0 al S) (hl : l < 10) (hk : k < 16) (h4 : 0 ≤ al (245 + 320 * l + 19 * k) ∧ al (245 + 320 * l + 19 * k) ≤ 4) : fX12_holds 32 (Int32.ofNat (244 + 320 * l + 19 * k)) S = some (allB (tH al (fun j => sI S 32 (18 + j)) l k) (nat (al (245 + 320 * l + 19 * k))), S) := by
  have hc := cnt_eq h4.1
  have hn4 := nat_le (n := 4) h4.2 (by decide)
  apply Rn.eq
  unfold fX12_holds
  refine w_for (mk := fun (b : Int32) i => (32, Int32.ofNat (244 + 320 * l + 19 * k), b, i)) (a := 1) 0 (nat (al (245 + 320 * l + 19 * k))) (fun i b S' => S' = S ∧ b = bi (allB (tH al (fun j => sI S 32 (18 + j)) l k) i)) (by omega) (by omega) ⟨rfl, rfl⟩ ?_ ?_
  · rintro kk b S' ⟨rfl, rfl⟩ hge
    dsimp only [fX12_holds_4]
    rw [← hc] at hge
    refine w_gR m.k32 m.r (w_nn (m_aI (n := 244 + 320 * l + 19 * k + 1) m (succ32 _) (by omega) ?_))
    rw [show 244 + 320 * l + 19 * k + 1 = 245 + 320 * l + 19 * k by omega, ← hc]
    exact w_bt hge (w_rb ⟨rfl, rfl⟩)
  · rintro i - hi kk b S' ⟨rfl, rfl⟩ hlt hkk
    dsimp only [fX12_holds_4, fX12_holds_125, fX12_holds_145, fX12_holds_153]
    rw [← hc] at hlt
    have ib : (Int32.ofNat (244 + 320 * l + 19 * k) + 2) + 4 * Int32.ofNat i = Int32.ofNat (246 + 320 * l + 19 * k + 4 * i) := by
      exact (ix_add (n := 244 + 320 * l + 19 * k + 2) (m := 4 * i) (ix_add (m := 2) rfl rfl) (ix_mul (n := 4) (m := i) rfl rfl)).trans (by congr 1; omega)
    rw [ib]
    have rd : ∀ (c j : Nat) (Rt : Type) (Q : Rt → St → Prop) (f : Int32 → St → Option (Rt × St)), c < 4 → j = 246 + c → Rn (f (al (j + 320 * l + 19 * k + 4 * i)) S') Q → Rn (aI 15 33 (Int32.ofNat (246 + 320 * l + 19 * k + 4 * i) + Int32.ofNat c) f S') Q := fun c j Rt Q f hc hj h => m_aI (n := j + 320 * l + 19 * k + 4 * i) m (by rw [← Int32.ofNat_add]; congr 1; omega) (by omega) h
    refine w_gR m.k32 m.r (w_nn (m_aI (n := 244 + 320 * l + 19 * k + 1) m (succ32 _) (by omega) ?_))
    rw [show 244 + 320 * l + 19 * k + 1 = 245 + 320 * l + 19 * k by omega]
    refine w_bf hlt ?_
    cases hb : allB (tH al (fun j => sI S' 32 (18 + j)) l k) i
    · refine w_bt rfl (w_r0 ⟨?_, rfl⟩)
      have : ∀ n, i ≤ n → allB (tH al (fun j => sI S' 32 (18 + j)) l k) n = false := by
        intro n hn
        induction n with
        | zero => rw [show i = 0 by omega] at hb; exact hb
        | succ n ih =>
          by_cases e : i = n + 1
          · rw [← e]; exact hb
          · rw [allB, ih (by omega)]; rfl
      exact (this _ (by omega)).symm
    · refine w_bf (by decide) ?_
      have nx : ∀ t, t = tH al (fun j => sI S' 32 (18 + j)) l k i → bi t = bi (allB (tH al (fun j => sI S' 32 (18 + j)) l k) (i + 1)) := fun t ht => by rw [allB, hb, ht]; rfl
      have e1 : (1 : Int32) = Int32.ofNat 1 := rfl
      have tail : ∀ (p : Bool) (y : Int32), y = bi p → tH al (fun j => sI S' 32 (18 + j)) l k i = (p != decide (al (246 + 320 * l + 19 * k + 4 * i) = 1)) → Rn ((gR 13 32 0 fun v2001 => nn v2001 fun a2003 => aI 15 a2003 (Int32.ofNat (246 + 320 * l + 19 * k + 4 * i)) fun v2002 => br (v2002 = 1) (br (y = 1) (kk (32, Int32.ofNat (244 + 320 * l + 19 * k), 0, Int32.ofNat i + 1)) (kk (32, Int32.ofNat (244 + 320 * l + 19 * k), 1, Int32.ofNat i + 1))) (br (y = 0) (kk (32, Int32.ofNat (244 + 320 * l + 19 * k), 0, Int32.ofNat i + 1)) (kk (32, Int32.ofNat (244 + 320 * l + 19 * k), 1, Int32.ofNat i + 1)))) S') (fun r' S'_1 => r' = allB (tH al (fun j => sI S' 32 (18 + j)) l k) (nat (al (245 + 320 * l + 19 * k))) ∧ S'_1 = S') := by
        intro p y hy ht
        subst hy
        refine w_gR m.k32 m.r (w_nn (m_aI (n := 246 + 320 * l + 19 * k + 4 * i) m rfl (by omega) (w_br (fun c => ?_) (fun c => ?_))))
        · refine w_br (fun d => hkk _ _ ⟨rfl, ?_⟩) (fun d => hkk _ _ ⟨rfl, ?_⟩)
          · refine nx false ?_
            rw [ht, decide_eq_true c, (bi_eq p true).mp d]; rfl
          · refine nx true ?_
            rw [ht, decide_eq_true c]
            cases p
            · rfl
            · exact absurd rfl d
        · refine w_br (fun d => hkk _ _ ⟨rfl, ?_⟩) (fun d => hkk _ _ ⟨rfl, ?_⟩)
          · refine nx false ?_
            rw [ht, decide_eq_false c, (bi_eq p false).mp d]; rfl
          · refine nx true ?_
            rw [ht, decide_eq_false c]
            cases p
            · exact absurd rfl d
            · rfl
      refine w_gR m.k32 m.r (w_nn (rd 1 247 _ _ _ (by omega) rfl (w_ck m.k32 (w_cl (asked_m m _) (w_gR m.k32 m.r (w_nn (rd 3 249 _ _ _ (by omega) rfl (w_gR m.k32 m.r (w_nn (rd 2 248 _ _ _ (by omega) rfl ?_))))))))))
      refine w_br (fun c => ?_) (fun c => w_gR m.k32 m.r (w_nn (rd 2 248 _ _ _ (by omega) rfl (w_br (fun c1 => ?_) (fun c1 => ?_)))))
      · refine w_br (fun d => ?_) (fun d => ?_)
        · refine tail false 0 rfl ?_
          unfold tH tC
          rw [if_pos c, decide_eq_false (Int32.not_lt.mpr d)]
        · refine tail true 1 rfl ?_
          unfold tH tC
          rw [if_pos c, decide_eq_true (Int32.not_le.mp d)]
      · refine w_br (fun d => ?_) (fun d => ?_)
        · refine tail false 0 rfl ?_
          unfold tH tC
          rw [if_neg c, if_pos c1, decide_eq_false (Int32.not_lt.mpr d)]
        · refine tail true 1 rfl ?_
          unfold tH tC
          rw [if_neg c, if_pos c1, decide_eq_true (Int32.not_le.mp d)]
      · refine w_br (fun d => ?_) (fun d => ?_)
        · refine tail true 1 rfl ?_
          unfold tH tC
          rw [if_neg c, if_neg c1, decide_eq_true d]
        · refine tail false 0 rfl ?_
          unfold tH tC
          rw [if_neg c, if_neg c1, decide_eq_false d]
theorem without_m (x : Int32) (S : St) : fX12_without x S = some (woF x, S) := by
  apply Rn.eq
  unfold fX12_without woF
  refine w_br (fun c => w_rt ⟨by rw [if_pos c], rfl⟩) (fun c0 => w_br (fun c => w_rt ⟨by rw [if_neg c0, if_pos c], rfl⟩) (fun c1 => w_br (fun c => w_rt ⟨by rw [if_neg c0, if_neg c1, if_pos c], rfl⟩) (fun c4 => w_rt ⟨by rw [if_neg c0, if_neg c1, if_neg c4], rfl⟩)))
set_option maxHeartbeats 1000000 in
set_option maxRecDepth 10000 in
theorem termOf_m2 {S0 S : St} {al : Nat → Int32} (m : MD S0 al S) (h5 : OK al) {x : Int32} (topic : Int32) (hx : x = -1 ∨ ∃ l, l < nat (al 1) ∧ l < 10 ∧ x = Int32.ofNat l) (y : Int32) : Rn (fX12_termOf_28 32 x topic y 32 S) (fun r S' => r = termF al (fun j => sI (stI S 32 19 y) 32 (18 + j)) x topic ∧ S' = stI S 32 19 y) := by
  unfold fX12_termOf_28
  have m1 := m.scr (a := 32) (j := 19) y (Or.inl rfl)
  refine w_pI m.k32 ?_
  generalize stI S 32 19 y = T at m1 ⊢
  rcases hx with rfl | ⟨l, hl, hl10, rfl⟩
  · exact w_bf (by decide) (w_cl (without_m _ _) (w_rt ⟨rfl, rfl⟩))
  · refine w_bt (ofNat_nonneg (by omega)) ?_
    obtain ⟨o1, o2, o3, o4, o5⟩ := h5.2.2.2.2.1 l hl
    have hc := cnt_eq o4.1
    have hn16 := nat_le (n := 16) o4.2 (by decide)
    have ee : termF al (fun j => sI T 32 (18 + j)) (Int32.ofNat l) topic = tmN al l topic (fstB (lnP al (fun j => sI T 32 (18 + j)) l topic) (nat (al (243 + 320 * l)))) := by
      unfold termF tmF
      rw [if_neg (nonneg_lt (by omega)), nat_ofNat (by omega)]
    rw [ee]
    have i3 : (240 + 320 * Int32.ofNat l) + 3 = Int32.ofNat (243 + 320 * l) := by
      exact (ix_add (n := 240 + 320 * l) (m := 3) (ix_add (n := 240) (m := 320 * l) rfl (ix_mul (n := 320) (m := l) rfl rfl)) rfl).trans (by congr 1; omega)
    refine w_for (mk := fun (b : Unit) i => (32, topic, 240 + 320 * Int32.ofNat l, i)) (a := ()) 0 (nat (al (243 + 320 * l))) (fun i _ S' => S' = T ∧ ∀ k, k < i → lnP al (fun j => sI T 32 (18 + j)) l topic k = false) (by omega) (by omega) ⟨rfl, fun k hk => by omega⟩ ?_ ?_
    · rintro kk b S' ⟨rfl, hb⟩ hge
      dsimp only [fX12_termOf_54]
      rw [← hc] at hge
      refine w_gR m1.k32 m1.r (w_nn (m_aI (n := 243 + 320 * l) m1 i3 (by omega) (w_bt (by rw [← hc]; exact hge) (w_cl (without_m _ _) (w_rt ⟨?_, rfl⟩)))))
      rw [fstB_none _ hb]; rfl
    · rintro i - hi kk b S' ⟨rfl, hb⟩ hlt hkk
      dsimp only [fX12_termOf_54, fX12_termOf_111]
      rw [← hc] at hlt
      rw [ixr]
      refine w_gR m1.k32 m1.r (w_nn (m_aI (n := 243 + 320 * l) m1 i3 (by omega) (w_bf hlt (w_gR m1.k32 m1.r (w_nn (m_aI (n := 244 + 320 * l + 19 * i) m1 rfl (by omega) (w_br (fun c => ?_) (fun c => hkk () _ ⟨rfl, fun k hk => ?_⟩))))))))
      · refine w_ck m1.k32 (w_cl (holds_m m1 hl10 (by omega) (o5 i hi).1) (w_z (fun d => w_gR m1.k32 m1.r (w_nn (m_aI (n := 262 + 320 * l + 19 * i) m1 ?_ (by omega) (w_rt ⟨?_, rfl⟩)))) (fun d => hkk () _ ⟨rfl, fun k hk => ?_⟩)))
        · exact (ix_add (n := 244 + 320 * l + 19 * i) (m := 18) rfl rfl).trans (by congr 1; omega)
        · rw [fstB_some hb (by unfold lnP; rw [d, decide_eq_true c]; rfl) _ hi]; rfl
        · by_cases e : k = i
          · subst e; unfold lnP; rw [d]; simp
          · exact hb k (by omega)
      · by_cases e : k = i
        · subst e; unfold lnP; rw [decide_eq_false c]; rfl
        · exact hb k (by omega)
set_option maxHeartbeats 1000000 in
set_option maxRecDepth 10000 in
theorem termOf_m {S0 S : St} {al : Nat → Int32} (m : MD S0 al S) (h5 : OK al) {x : Int32} (topic st co : Int32) (hx : x = -1 ∨ ∃ l, l < nat (al 1) ∧ l < 10 ∧ x = Int32.ofNat l) {B : Nat → Int32} (hB : ∀ j, 2 ≤ j → j < 8 → sI S 32 (18 + j) = B j) : Rn (fX12_termOf 32 x topic st co S) (fun r S' => r = termF al (askA (if 2 ≤ topic then 9 else st) (if 2 ≤ topic then 9 else co) B) x topic ∧ MD S0 al S' ∧ ∀ j, j ≠ 18 → j ≠ 19 → sI S' 32 j = sI S 32 j) := by
  unfold fX12_termOf
  have go : ∀ a b : Int32, a = (if 2 ≤ topic then 9 else st) → b = (if 2 ≤ topic then 9 else co) → Rn (fX12_termOf_28 32 x topic b 32 (stI S 32 18 a)) (fun r S' => r = termF al (askA (if 2 ≤ topic then 9 else st) (if 2 ≤ topic then 9 else co) B) x topic ∧ MD S0 al S' ∧ ∀ j, j ≠ 18 → j ≠ 19 → sI S' 32 j = sI S 32 j) := by
    intro a b ha hb
    refine (termOf_m2 (m.scr (a := 32) (j := 18) a (Or.inl rfl)) h5 topic hx b).mono ?_
    rintro r S' ⟨rfl, rfl⟩
    refine ⟨termF_c (fun j hj => ?_) _ _, (m.scr a (Or.inl rfl)).scr b (Or.inl rfl), fun j h1 h2 => by rw [st_ne (Or.inr h2), st_ne (Or.inr h1)]⟩
    rcases (show j = 0 ∨ j = 1 ∨ 2 ≤ j by omega) with rfl | rfl | h2
    · rw [st_ne (Or.inr (by omega)), show 18 + 0 = 18 from rfl, st_get, ha]; rfl
    · rw [show 18 + 1 = 19 from rfl, st_get, hb]; rfl
    · rw [st_ne (Or.inr (by omega)), st_ne (Or.inr (by omega)), hB j h2 hj]
      unfold askA
      rw [if_neg (by omega), if_neg (by omega)]
  refine w_br (fun c => ?_) (fun c => ?_)
  · unfold fX12_termOf_12
    exact w_pI m.k32 (w_bt c (go 9 9 (by rw [if_pos c]) (by rw [if_pos c])))
  · unfold fX12_termOf_12
    exact w_pI m.k32 (w_bf c (go st co (by rw [if_neg c]) (by rw [if_neg c])))
