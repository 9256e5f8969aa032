-- part: the reference
set_option maxHeartbeats 1000000 in
set_option maxRecDepth 10000 in
theorem counts_m {S0 S : St} {al : Nat → Int32} {p d days H : Nat} (m : MD S0 al S) (h5 : OK al) (hp : p < nat (al 0)) (hH : H = nat (al 2)) (hd : al 4 = Int32.ofNat d) (hd9 : d ≤ 999) (hdays : days ≤ 60) : Rn (fX12_counts 32 (Int32.ofNat p) (Int32.ofNat days) S) (fun _ S' => MD S0 al S' ∧ ∀ i, i < H → sI S' 41 i = Int32.ofNat (cdN al p d days i)) := by
  have n2 : nat (al 2) ≤ 12 := nat_le h5.1.2.2.1.2 (by decide)
  have n0 : nat (al 0) ≤ 8 := nat_le h5.1.1.2 (by decide)
  have e2 : al 2 = Int32.ofNat H := by rw [hH]; exact cnt_eq h5.1.2.2.1.1
  have hpp := (h5.2.2.1 p hp).2.2.1
  have pn := nat_le (n := 1000000) hpp.2 (by decide)
  have ep := cnt_eq hpp.1
  unfold fX12_counts
  refine w_for (mk := fun (b : Unit) i => (32, Int32.ofNat p, Int32.ofNat days, i)) (a := ()) 0 H (fun i _ S' => MD S0 al S' ∧ ∀ j, j < i → sI S' 41 j = Int32.ofNat (cdN al p d days j)) (by omega) (by omega) ⟨m, fun j hj => by omega⟩ ?_ ?_
  · rintro kk - S1 ⟨m1, hv⟩ hge
    dsimp only [fX12_counts_2]
    refine w_gR m1.k32 m1.r (w_nn (m_aI (n := 2) m1 rfl (by omega) ?_))
    rw [e2]
    exact w_bt hge (w_rt ⟨m1, hv⟩)
  · rintro i - hi kk - S1 ⟨m1, hv⟩ hlt hkk
    dsimp only [fX12_counts_2]
    obtain ⟨o1, o2, -⟩ := h5.2.1 i (by omega)
    have sn' := nat_le (n := 200) o1.2 (by decide)
    have e0 := cnt_eq (Int32.le_trans (by decide : (0 : Int32) ≤ 1) o1.1)
    have hs1 : 1 ≤ nat (al (3440 + 160 * i)) := by
      have := le_i.mp o1.1
      rw [i1] at this
      show 1 ≤ (al (3440 + 160 * i)).toInt.toNat
      omega
    have hn12 := nat_le (n := 12) o2.2 (by decide)
    have eh := cnt_eq (Int32.le_trans (by decide : (0 : Int32) ≤ 1) o2.1)
    have hrb := hrN_b (al := al) (h := i) (day := d) hn12 days
    refine w_gR m1.k32 m1.r (w_nn (m_aI (n := 2) m1 rfl (by omega) ?_))
    rw [e2]
    refine w_bf hlt (w_ck m1.k32 (m_handOf (j := 0) m1 rfl rfl (by omega) (by omega) (w_ck m1.k32 (m_patternOf (j := 2) m1 rfl rfl (by omega) (by omega) ?_))))
    rw [show 20 + 27 * p + 2 = 22 + 27 * p by omega, show 3440 + 160 * i + 0 = 3440 + 160 * i by omega]
    have hCi : cdN al p d days i = hrN al i d days / max 1 ((nat (al (22 + 27 * p)) + 10 * nat (al (3440 + 160 * i)) - 1) / (10 * nat (al (3440 + 160 * i)))) := rfl
    generalize hk : nat (al (3440 + 160 * i)) = k at *
    generalize hst : nat (al (22 + 27 * p)) = st at *
    have hdv : (st + 10 * k - 1) / (10 * k) ≤ st + 10 * k - 1 := Nat.div_le_self _ _
    rw [e0, ep, show (10 : Int32) = Int32.ofNat 10 from rfl, mul_of, add_of, show (1 : Int32) = Int32.ofNat 1 from rfl, sub_of (by omega), div_of (by omega) (by omega)]
    refine w_dv (by intro z; rw [show (0 : Int32) = Int32.ofNat 0 from rfl, eq_ofNat (by omega) (by omega)] at z; omega) ?_
    generalize hex : (st + 10 * k - 1) / (10 * k) = each at *
    refine w_for (mk := fun (x : Int32) j => (32, Int32.ofNat p, Int32.ofNat days, Int32.ofNat i, Int32.ofNat each, x, j)) (a := 0) 0 days (fun j x S2 => S2 = S1 ∧ x = Int32.ofNat (hrN al i d j)) (by omega) (by omega) ⟨rfl, rfl⟩ ?_ ?_
    · rintro k2 x S2 ⟨rfl, rfl⟩ hge
      dsimp only [fX12_counts_45, fX12_counts_118]
      have fin : ∀ y, y = max 1 each → Rn ((dv (Int32.ofNat y) <| nn (some 41) fun a4001 => wI a4001 (Int32.ofNat i) (Int32.ofNat (hrN al i d days) / Int32.ofNat y) <| kk (32, Int32.ofNat p, Int32.ofNat days, Int32.ofNat i + 1)) S2) (fun _ S' => MD S0 al S' ∧ ∀ i, i < H → sI S' 41 i = Int32.ofNat (cdN al p d days i)) := by
        intro y hy
        rw [div_of (by omega) (by omega)]
        refine w_dv (by intro z; rw [show (0 : Int32) = Int32.ofNat 0 from rfl, eq_ofNat (by omega) (by omega)] at z; omega) (w_nn (w_wI (n := i) (SH_K41 m1.1) rfl (SH_L41 m1.1) (by omega) (hkk () _ ⟨m1.scr _ (by unfold XM; omega), fun j hj => ?_⟩)))
        by_cases e : j = i
        · subst e; rw [st_get, hy, hCi]
        · rw [st_ne (Or.inr e)]; exact hv j (by omega)
      refine w_bt hge (w_gR m1.k32 (SH_R32_31 m1.1) (w_br (fun c => ?_) (fun c => ?_)))
      · have c' := (lit_le (m := 1) (by omega) (by omega)).mp c
        exact fin each (by omega)
      · have c' : ¬ 1 ≤ each := fun z => c ((lit_le (m := 1) (by omega) (by omega)).mpr z)
        exact fin 1 (by omega)
    · rintro j - hj k2 x S2 ⟨rfl, rfl⟩ hlt2 hk2
      dsimp only [fX12_counts_45, fX12_counts_90]
      refine w_bf hlt2 (w_gR m1.k32 m1.r (w_nn (m_aI (n := 4) m1 rfl (by omega) (w_dv (by decide) (w_ck m1.k32 ?_)))))
      rw [hd, add_of, day_div _ (by omega)]
      refine w_cl (hasHay_m m1 (by omega) (by omega)) (w_z (fun c => ?_) (fun c => ?_))
      · refine w_ck m1.k32 (m_handOf (j := 1) m1 rfl rfl (by omega) (by omega) (w_dv (by decide) ?_))
        rw [show 3440 + 160 * i + 1 = 3441 + 160 * i by omega, eh, show (2 : Int32) = Int32.ofNat 2 from rfl, div_of (by omega) (by omega), add_of]
        exact hk2 _ _ ⟨rfl, by rw [hrN, if_pos c]⟩
      · refine w_ck m1.k32 (m_handOf (j := 1) m1 rfl rfl (by omega) (by omega) ?_)
        rw [show 3440 + 160 * i + 1 = 3441 + 160 * i by omega, eh, add_of]
        exact hk2 _ _ ⟨rfl, by rw [hrN, if_neg (by rw [c]; decide)]⟩
set_option maxHeartbeats 1000000 in
set_option maxRecDepth 10000 in
theorem isSet_m {S0 S : St} {al : Nat → Int32} {C K : Nat → Nat} {H N b : Nat} (m : MD S0 al S) (e2 : al 2 = Int32.ofNat H) (hc : ∀ i, i < H → sI S 41 i = Int32.ofNat (C i)) (kb : PKb C K H N) : fX12_isSet 32 (Int32.ofNat b) (Int32.ofNat N) S = some (okB C N H b, S) := by
  obtain ⟨b1, b2, b3, b4, b5⟩ := kb
  have sb := smN_b (C := C) (b := b) b2 H (Nat.le_refl _)
  apply Rn.eq
  unfold fX12_isSet
  refine w_for (mk := fun (x : Int32 × Int32) i => (32, Int32.ofNat b, Int32.ofNat N, x.1, x.2, i)) (a := (0, 1)) 0 H (fun i x S' => S' = S ∧ x.1 = Int32.ofNat (smN C b i) ∧ x.2 = bi (posB C b i)) (by omega) (by omega) ⟨rfl, rfl, rfl⟩ ?_ ?_
  · rintro kk ⟨x, y⟩ S' ⟨rfl, hx, hy⟩ hge
    dsimp only [fX12_isSet_8] at hx hy ⊢
    refine w_gR m.k32 m.r (w_nn (m_aI (n := 2) m rfl (by omega) ?_))
    rw [e2, hx, hy]
    refine w_bt hge ?_
    cases hp : posB C b H
    · refine w_bt rfl (w_r0 ⟨?_, rfl⟩)
      unfold okB; rw [hp]; rfl
    · refine w_bf (by decide) (w_br (fun c => w_r0 ⟨?_, rfl⟩) (fun c => w_r1 ⟨?_, rfl⟩))
      · rw [lt_ofNat (by omega) (by omega)] at c
        unfold okB; rw [hp, decide_eq_false (by omega)]; rfl
      · rw [lt_ofNat (by omega) (by omega)] at c
        unfold okB; rw [hp, decide_eq_true (by omega)]; rfl
  · rintro i - hi kk ⟨x, y⟩ S' ⟨rfl, hx, hy⟩ hlt hkk
    dsimp only [fX12_isSet_8, fX12_isSet_50, fX12_isSet_51, fX12_isSet_63] at hx hy ⊢
    have cb := b2 i hi
    refine w_gR m.k32 m.r (w_nn (m_aI (n := 2) m rfl (by omega) ?_))
    rw [e2, and31 i (by omega), ge_bit (by omega), hx, hy]
    refine w_bf hlt ?_
    cases hb : b.testBit i
    · refine w_bt rfl (hkk (Int32.ofNat (smN C b i), bi (posB C b i)) _ ⟨rfl, ?_, ?_⟩)
      · dsimp only; rw [smN, hb]; rfl
      · dsimp only; rw [posB, hb]; simp
    · refine w_bf (by decide) ?_
      have add : ∀ y : Bool, y = posB C b (i + 1) → Rn ((gR 13 32 31 fun v3001 => nn v3001 fun a3003 => aI 15 a3003 (Int32.ofNat i) fun v3002 => kk (32, Int32.ofNat b, Int32.ofNat N, Int32.ofNat (smN C b i) + v3002, bi y, Int32.ofNat i + 1)) S') (fun r' S'_1 => r' = okB C N H b ∧ S'_1 = S') := by
        intro y hy'
        refine w_gR m.k32 (SH_R32_31 m.1) (w_nn (w_aIe (n := i) (SH_K41 m.1) rfl (SH_L41 m.1) (by omega) (hc i hi) ?_))
        rw [add_of]
        refine hkk (Int32.ofNat (smN C b i + C i), bi y) _ ⟨rfl, ?_, ?_⟩
        · dsimp only; rw [smN, hb]; rfl
        · dsimp only; rw [hy']
      cases hp : posB C b i
      · refine w_bt rfl (add false ?_)
        rw [posB, hp]; rfl
      · refine w_bf (by decide) (w_gR m.k32 (SH_R32_31 m.1) (w_nn (w_aIe (n := i) (SH_K41 m.1) rfl (SH_L41 m.1) (by omega) (hc i hi) (w_br (fun c => add false ?_) (fun c => add true ?_)))))
        · rw [show (0 : Int32) = Int32.ofNat 0 from rfl, le_ofNat (by omega) (by omega)] at c
          rw [posB, hp, hb, decide_eq_false (by omega)]; rfl
        · rw [show (0 : Int32) = Int32.ofNat 0 from rfl, le_ofNat (by omega) (by omega)] at c
          rw [posB, hp, hb, decide_eq_true (by omega)]; rfl
set_option maxHeartbeats 1000000 in
set_option maxRecDepth 10000 in
theorem spread_m {S0 S : St} {al : Nat → Int32} {H b : Nat} (m : MD S0 al S) (h5 : OK al) (hH : H = nat (al 2)) : fX12_spreadOf 32 (Int32.ofNat b) S = some (spI (skN al) H b, S) := by
  have n2 : nat (al 2) ≤ 12 := nat_le h5.1.2.2.1.2 (by decide)
  have e2 : al 2 = Int32.ofNat H := by rw [hH]; exact cnt_eq h5.1.2.2.1.1
  have hK : ∀ i, i < H → skN al i ≤ 200 := fun i hi => nat_le (n := 200) (h5.2.1 i (by omega)).1.2 (by decide)
  have eK : ∀ i, i < H → al (3440 + 160 * i + 0) = Int32.ofNat (skN al i) := fun i hi => cnt_eq (Int32.le_trans (by decide : (0 : Int32) ≤ 1) (h5.2.1 i (by omega)).1.1)
  apply Rn.eq
  unfold fX12_spreadOf
  refine w_for (mk := fun (x : Int32 × Int32) i => (32, Int32.ofNat b, x.1, x.2, i)) (a := (1000, 0)) 0 H (fun i x S' => S' = S ∧ x.1 = Int32.ofNat (spL (skN al) 1000 b i) ∧ x.2 = Int32.ofNat (spM (skN al) b i)) (by omega) (by omega) ⟨rfl, rfl, rfl⟩ ?_ ?_
  · rintro kk ⟨x, y⟩ S' ⟨rfl, hx, hy⟩ hge
    dsimp only [fX12_spreadOf_9] at hx hy ⊢
    refine w_gR m.k32 m.r (w_nn (m_aI (n := 2) m rfl (by omega) ?_))
    rw [e2, hx, hy]
    exact w_bt hge (w_rt ⟨rfl, rfl⟩)
  · rintro i - hi kk ⟨x, y⟩ S' ⟨rfl, hx, hy⟩ hlt hkk
    dsimp only [fX12_spreadOf_9, fX12_spreadOf_54, fX12_spreadOf_77, fX12_spreadOf_78] at hx hy ⊢
    have hKi := hK i hi
    have eKi := eK i hi
    have l1 := spL_b (K := skN al) (b := b) (l0 := 1000) i
    have l2 := spM_b (b := b) hK i (by omega)
    refine w_gR m.k32 m.r (w_nn (m_aI (n := 2) m rfl (by omega) ?_))
    rw [e2, and31 i (by omega), ge_bit (by omega), hx, hy]
    refine w_bf hlt ?_
    cases hb : b.testBit i
    · refine w_bt rfl (hkk (_, _) _ ⟨rfl, ?_, ?_⟩)
      · dsimp only; rw [spL, hb]; rfl
      · dsimp only; rw [spM, hb]; rfl
    · refine w_bf (by decide) ?_
      have hi2 : ∀ l, l = spL (skN al) 1000 b (i + 1) → Rn ((ck 13 32 <| cl (fX12_handOf 32 (Int32.ofNat i) 0) fun v2001 => br (v2001 ≤ Int32.ofNat (spM (skN al) b i)) (kk (32, Int32.ofNat b, Int32.ofNat l, Int32.ofNat (spM (skN al) b i), Int32.ofNat i + 1)) (ck 13 32 <| cl (fX12_handOf 32 (Int32.ofNat i) 0) fun v2002 => kk (32, Int32.ofNat b, Int32.ofNat l, v2002, Int32.ofNat i + 1))) S') (fun r' S'_1 => r' = spI (skN al) H b ∧ S'_1 = S') := by
        intro l hl
        refine w_ck m.k32 (m_handOf (j := 0) m rfl rfl (by omega) (by omega) ?_)
        rw [eKi]
        refine w_br (fun c => ?_) (fun c => ?_)
        · rw [le_ofNat (by omega) (by omega)] at c
          refine hkk (Int32.ofNat l, Int32.ofNat (spM (skN al) b i)) _ ⟨rfl, by dsimp only; rw [hl], ?_⟩
          dsimp only; rw [spM, hb, if_pos rfl]; congr 1; omega
        · rw [le_ofNat (by omega) (by omega)] at c
          refine w_ck m.k32 (m_handOf (j := 0) m rfl rfl (by omega) (by omega) ?_)
          rw [eKi]
          refine hkk (Int32.ofNat l, Int32.ofNat (skN al i)) _ ⟨rfl, by dsimp only; rw [hl], ?_⟩
          dsimp only; rw [spM, hb, if_pos rfl]; congr 1; omega
      refine w_ck m.k32 (m_handOf (j := 0) m rfl rfl (by omega) (by omega) ?_)
      rw [eKi]
      refine w_br (fun c => ?_) (fun c => ?_)
      · rw [le_ofNat (by omega) (by omega)] at c
        exact hi2 _ (by rw [spL, hb, if_pos rfl]; omega)
      · rw [le_ofNat (by omega) (by omega)] at c
        refine w_ck m.k32 (m_handOf (j := 0) m rfl rfl (by omega) (by omega) ?_)
        rw [eKi]
        exact hi2 _ (by rw [spL, hb, if_pos rfl]; omega)
set_option maxHeartbeats 1000000 in
set_option maxRecDepth 10000 in
theorem parts_m {S0 S : St} {al : Nat → Int32} {p d days N H : Nat} (m : MD S0 al S) (h5 : OK al) (hp : p < nat (al 0)) (hH : H = nat (al 2)) (hd : al 4 = Int32.ofNat d) (hd9 : d ≤ 999) (hdays : 1 ≤ days ∧ days ≤ 60) (hN : 1 ≤ N ∧ N ≤ 40) : Rn (fX12_parts 32 (Int32.ofNat p) (Int32.ofNat N) (Int32.ofNat days) S) (fun r S' => MD S0 al S' ∧ (∀ i, i < H → sI S' 41 i = Int32.ofNat (cdN al p d days i)) ∧ r = (rfB (cdN al p d days) N H (spI (skN al) H) (2 ^ H - 1)).isSome ∧ stP (skN al) H (rfB (cdN al p d days) N H (spI (skN al) H) (2 ^ H - 1)) (sI S' 32 33) (sI S' 32 34)) := by
  have n2 : nat (al 2) ≤ 12 := nat_le h5.1.2.2.1.2 (by decide)
  have n0 : nat (al 0) ≤ 8 := nat_le h5.1.1.2 (by decide)
  have e2 : al 2 = Int32.ofNat H := by rw [hH]; exact cnt_eq h5.1.2.2.1.1
  have kb := pk_b (d := d) h5 hH hp hdays.2 hN
  have hpw := pow12 (show H ≤ 12 by omega)
  have hpp : 0 < 2 ^ H := Nat.two_pow_pos H
  have w1 : wi (Int32.ofNat p) 0 (al 0 - 1) = true := (wi_cnt h5.1.1.1).mpr ⟨p, hp, rfl⟩
  have w2 : wi (Int32.ofNat N) 1 40 = true := by
    rw [show (1 : Int32) = Int32.ofNat 1 from rfl, show (40 : Int32) = Int32.ofNat 40 from rfl, wi_ofNat (by omega) (by omega) (by omega)]
    exact decide_eq_true hN
  have w3 : wi (Int32.ofNat days) 1 60 = true := by
    rw [show (1 : Int32) = Int32.ofNat 1 from rfl, show (60 : Int32) = Int32.ofNat 60 from rfl, wi_ofNat (by omega) (by omega) (by omega)]
    exact decide_eq_true hdays
  unfold fX12_parts
  refine w_ck m.k32 (m_isOf (j := 0) m rfl (by omega) (w_zt w1 (w_cl (isIn_eq _ _ _ _) (w_zt w2 (w_cl (isIn_eq _ _ _ _) (w_zt w3 (w_ck m.k32 (w_clr (counts_m m h5 hp hH hd hd9 hdays.2) ?_))))))))
  rintro - S1 ⟨m1, hc1⟩
  generalize cdN al p d days = C at kb hc1 ⊢
  refine w_pI m1.k32 (w_pI (show sK (stI S1 32 33 0) 32 = 13 from m1.k32) ?_)
  refine w_for (mk := fun (x : Unit) i => (32, Int32.ofNat N, i)) (a := ()) 1 (2 ^ H) (fun i _ S' => MD S0 al S' ∧ (∀ i, i < H → sI S' 41 i = Int32.ofNat (C i)) ∧ stP (skN al) H (rfB C N H (spI (skN al) H) (i - 1)) (sI S' 32 33) (sI S' 32 34)) (by omega) (by omega) ⟨(m1.scr _ (Or.inl rfl)).scr _ (Or.inl rfl), fun i hi => by rw [st_ne (Or.inl (by omega)), st_ne (Or.inl (by omega))]; exact hc1 i hi, by rw [st_ne (Or.inr (by omega)), st_get], st_get⟩ ?_ ?_
  · rintro kk - S' ⟨m', hc', hs⟩ hge
    dsimp only [fX12_parts_50]
    refine w_gR m'.k32 m'.r (w_nn (m_aI (n := 2) m' rfl (by omega) ?_))
    rw [e2, and31 H (by omega), shl1 H (by omega)]
    refine w_bt hge ?_
    cases hr : rfB C N H (spI (skN al) H) (2 ^ H - 1) with
    | none =>
      rw [hr] at hs
      exact w_gIe m'.k32 hs.1 (w_bt (by decide) (w_r0 ⟨m', hc', rfl, hs⟩))
    | some b =>
      rw [hr] at hs
      have hb := rf_p _ b hr
      exact w_gIe m'.k32 hs.1 (w_bf (by rw [show (0 : Int32) = Int32.ofNat 0 from rfl, le_ofNat (by omega) (by omega)]; omega) (w_r1 ⟨m', hc', rfl, hs⟩))
  · rintro i hi1 hi kk - S' ⟨m', hc', hs⟩ hlt hkk
    dsimp only [fX12_parts_50, fX12_parts_130, fX12_parts_134, fX12_parts_135, fX12_parts_157]
    have hcd := card_cd (b := i) (H := H) hi (by omega)
    have hcl := cd_le i H
    have hstep : rfB C N H (spI (skN al) H) i = rfS C N H (spI (skN al) H) i (rfB C N H (spI (skN al) H) (i - 1)) := by
      obtain ⟨n, rfl⟩ : ∃ n, i = n + 1 := ⟨i - 1, by omega⟩
      rw [Nat.add_sub_cancel]; rfl
    refine w_gR m'.k32 m'.r (w_nn (m_aI (n := 2) m' rfl (by omega) ?_))
    rw [e2, and31 H (by omega), shl1 H (by omega)]
    refine w_bf hlt (w_ck m'.k32 (w_cl (isSet_m m' e2 hc' kb) ?_))
    have skip : rfB C N H (spI (skN al) H) i = rfB C N H (spI (skN al) H) (i - 1) → Rn (kk (32, Int32.ofNat N, Int32.ofNat i + 1) S') (fun r S' => MD S0 al S' ∧ (∀ i, i < H → sI S' 41 i = Int32.ofNat (C i)) ∧ r = (rfB C N H (spI (skN al) H) (2 ^ H - 1)).isSome ∧ stP (skN al) H (rfB C N H (spI (skN al) H) (2 ^ H - 1)) (sI S' 32 33) (sI S' 32 34)) := fun e => hkk () _ ⟨m', hc', by rw [Nat.add_sub_cancel, e]; exact hs⟩
    have take : rfB C N H (spI (skN al) H) i = some i → Rn ((pI 13 32 33 (Int32.ofNat i) <| pI 13 32 34 (spI (skN al) H i) <| kk (32, Int32.ofNat N, Int32.ofNat i + 1)) S') (fun r S' => MD S0 al S' ∧ (∀ i, i < H → sI S' 41 i = Int32.ofNat (C i)) ∧ r = (rfB C N H (spI (skN al) H) (2 ^ H - 1)).isSome ∧ stP (skN al) H (rfB C N H (spI (skN al) H) (2 ^ H - 1)) (sI S' 32 33) (sI S' 32 34)) := fun e => by
      refine w_pI m'.k32 (w_pI (show sK (stI S' 32 33 _) 32 = 13 from m'.k32) (hkk () _ ⟨(m'.scr _ (Or.inl rfl)).scr _ (Or.inl rfl), fun j hj => by rw [st_ne (Or.inl (by omega)), st_ne (Or.inl (by omega))]; exact hc' j hj, ?_⟩))
      rw [Nat.add_sub_cancel, e]
      exact ⟨by rw [st_ne (Or.inr (by omega)), st_get], st_get⟩
    refine w_z (fun d => ?_) (fun d => skip ?_)
    · unfold rfS at hstep
      rw [if_pos d] at hstep
      refine w_ck m'.k32 (w_cl (spread_m m' h5 hH) ?_)
      cases hr : rfB C N H (spI (skN al) H) (i - 1) with
      | none =>
        rw [hr] at hs hstep
        exact w_gIe m'.k32 hs.1 (w_bt rfl (w_bf (by decide) (take hstep)))
      | some a =>
        have ha := rf_p _ a hr
        rw [hr] at hs hstep
        have hca := card_cd (b := a) (H := H) (by omega) (by omega)
        have hcla := cd_le a H
        have o1 := ones_eq (f := 24) (n := i) (by omega) (by omega) S'
        have o2 := ones_eq (f := 24) (n := a) (by omega) (by omega) S'
        rw [hcd] at o1
        rw [hca] at o2
        refine w_gIe m'.k32 hs.1 (w_bf (by rw [show (0 : Int32) = Int32.ofNat 0 from rfl, eq_ofNat (by omega) (by omega)]; omega) (w_cl o1 (w_gIe m'.k32 hs.1 (w_cl o2 (w_br (fun c => ?_) (fun c => ?_))))))
        · rw [lt_ofNat (by omega) (by omega)] at c
          simp only [show cd i H < cd a H ∨ (cd i H = cd a H ∧ spI (skN al) H i < spI (skN al) H a) from Or.inl c, if_true] at hstep
          exact w_bf (by decide) (take hstep)
        · rw [lt_ofNat (by omega) (by omega)] at c
          refine w_cl o1 (w_gIe m'.k32 hs.1 (w_cl o2 (w_br (fun e => w_gIe m'.k32 hs.2 (w_br (fun f => ?_) (fun f => ?_))) (fun e => ?_))))
          · rw [eq_ofNat (by omega) (by omega)] at e
            have hneg : ¬ (cd i H < cd a H ∨ (cd i H = cd a H ∧ spI (skN al) H i < spI (skN al) H a)) := fun z => z.elim c (fun z => Int32.not_lt.mpr f z.2)
            simp only [hneg, if_false] at hstep
            exact w_bt rfl (skip (by rw [hstep, hr]))
          · rw [eq_ofNat (by omega) (by omega)] at e
            simp only [show cd i H < cd a H ∨ (cd i H = cd a H ∧ spI (skN al) H i < spI (skN al) H a) from Or.inr ⟨e, Int32.not_le.mp f⟩, if_true] at hstep
            exact w_bf (by decide) (take hstep)
          · rw [eq_ofNat (by omega) (by omega)] at e
            have hneg : ¬ (cd i H < cd a H ∨ (cd i H = cd a H ∧ spI (skN al) H i < spI (skN al) H a)) := fun z => z.elim c (fun z => e z.1)
            simp only [hneg, if_false] at hstep
            exact w_bt rfl (skip (by rw [hstep, hr]))
    · unfold rfS at hstep
      rw [if_neg (by rw [d]; decide)] at hstep
      exact hstep
