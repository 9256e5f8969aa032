/-- the class's own world changes below address 10, the reference's numbers outside the rows -/
theorem CW_low {al al' : Nat → Int32} {S S' : St} (h : CW al 1 S) (hC : CS S) (hOK : OKc al) (hF : FR (fun b => b < 10) S S') (hal : ∀ k, 20 ≤ k → k < 7040 → al' k = al k) (h0 : al' 0 = al 0) (h1 : al' 1 = al 1) (h2 : al' 2 = al 2) (h3 : al' 3 = al 3)
    (hs : sI S' 1 1 = al' 5 ∧ sI S' 1 2 = al' 6 ∧ sI S' 1 3 = al' 7 ∧ sI S' 1 4 = al' 4 ∧ sI S' 1 6 = al' 0 ∧ sI S' 1 8 = al' 1 ∧ sI S' 1 10 = al' 2 ∧ sI S' 1 12 = al' 3) (ht : ∀ i, i < 400 → sI S' 2 i = (al' (7040 + i)).toInt8.toInt32) (hu : ∀ s, s < 6 → sI S' 7 s = al' (14 + s)) (hv : ∀ c, c < 3 → sI S' 8 c = al' (10 + c)) : CW al' 1 S' := by
  have eR : ∀ a j, a ≠ 21 → sR S' a j = sR S a j := fun a j q => hF.2.2.1 a j (Or.inl q)
  have eI : ∀ a, 10 ≤ a → ∀ j, sI S' a j = sI S a j := fun a ha j => hF.2.2.2.2.2 a j (by omega)
  have hw : WL S 1 := Or.inl rfl
  obtain ⟨-, -, -, -, p, l, hh, g⟩ := h
  refine ⟨hs, ht, hu, hv, fun i hi => ?_, fun i hi => ?_, fun i hi => ?_, fun i hi => ?_⟩
  · rw [h0] at hi
    obtain ⟨q, hq, r⟩ := p i hi
    have hi8 : i < 8 := Nat.lt_of_lt_of_le hi (nat_le hOK.1.2 (by decide))
    have := (hC.2.2.2.1 1 i q hw hi8 hq).2.2.2.2.1
    exact ⟨q, by rw [eR _ _ (by omega)]; exact hq, PRel_of r (eI q (by omega)) (eI _ (by omega)) (fun k hk => hal _ (by omega) (by omega))⟩
  · rw [h1] at hi
    obtain ⟨q, hq, r⟩ := l i hi
    have hi8 : i < 10 := Nat.lt_of_lt_of_le hi (nat_le hOK.2.1.2 (by decide))
    have hsh := hC.2.2.2.2.1 1 i q hw hi8 hq
    have := hsh.2.2.2.2.2.2.2.2.2.2.2.2.2.1
    exact ⟨q, by rw [eR _ _ (by omega)]; exact hq, LRel_of r (hF.2.1 _) hsh.2.2.2.2.2.2.2.2.1 (eI q (by omega)) (eI _ (by omega)) (eI _ (by omega)) (eI _ (by omega)) (eI _ (by omega)) (fun k hk => hal _ (by omega) (by omega))⟩
  · rw [h2] at hi
    obtain ⟨q, hq, r⟩ := hh i hi
    have hi8 : i < 12 := Nat.lt_of_lt_of_le hi (nat_le hOK.2.2.1.2 (by decide))
    have := (hC.2.2.2.2.2.1 1 i q hw hi8 hq).2.2.2.2.2.2.2.1
    exact ⟨q, by rw [eR _ _ (by omega)]; exact hq, HRel_of r (eI q (by omega)) (eI _ (by omega)) (eI _ (by omega)) (fun k hk => hal _ (by omega) (by omega))⟩
  · rw [h3] at hi
    obtain ⟨q, hq, r⟩ := g i hi
    have hi8 : i < 60 := Nat.lt_of_lt_of_le hi (nat_le hOK.2.2.2.1.2 (by decide))
    have := (hC.2.2.2.2.2.2.1 1 i q hw hi8 hq).2.2.2.2.2.2.2.2.2.2.1
    exact ⟨q, by rw [eR _ _ (by omega)]; exact hq, GRel_of r (eI q (by omega)) (eI _ (by omega)) (eI _ (by omega)) (eI _ (by omega)) (fun k hk => hal _ (by omega) (by omega))⟩
theorem RC_low {al al' : Nat → Int32} {im : Nat → Option (Nat → Int32)} {S S' : St} (h : RC al im S) (hC : CS S) (hOKi : ∀ k al', k < 3 → im k = some al' → OK al') (hF : FR (fun b => b < 10) S S') (hCW : CW al' 1 S') : RC al' im S' := by
  have e9 : ∀ k, sR S' 9 k = sR S 9 k := fun k => hF.2.2.1 9 k (Or.inl (by decide))
  refine ⟨hCW, fun k hk => ?_⟩
  rcases h.2 k hk with ⟨h1, h2⟩ | ⟨al', w, h1, h2, h3⟩
  · exact Or.inl ⟨h1, by rw [e9]; exact h2⟩
  · have hw : WL S w := Or.inr ⟨k, hk, h2⟩
    have h46 := (hC.1 k w hk h2).1
    exact Or.inr ⟨al', w, h1, by rw [e9]; exact h2, CW_fr h3 (hOKi k al' hk h1).1 hC hw hF (fun a ha => NF_static hC hw (by omega) (fun e => by omega))⟩
theorem OK_low {al al' : Nat → Int32} (h : OK al) (hal : ∀ k, 20 ≤ k → k < 7040 → al' k = al k) (h0 : al' 0 = al 0) (h1 : al' 1 = al 1) (h2 : al' 2 = al 2) (h3 : al' 3 = al 3) (h4 : 0 ≤ al' 4 ∧ al' 4 ≤ 999) (h5 : 0 ≤ al' 5 ∧ al' 5 ≤ 400) (ht : OKt al') (hb : OKb al') : OK al' := by
  obtain ⟨⟨c0, c1, c2, c3, -, -⟩, oh, op, og, ol, -, -⟩ := h
  have n0 : nat (al 0) ≤ 8 := nat_le c0.2 (by decide)
  have n1 : nat (al 1) ≤ 10 := nat_le c1.2 (by decide)
  have n2 : nat (al 2) ≤ 12 := nat_le c2.2 (by decide)
  have n3 : nat (al 3) ≤ 60 := nat_le c3.2 (by decide)
  refine ⟨⟨by rw [h0]; exact c0, by rw [h1]; exact c1, by rw [h2]; exact c2, by rw [h3]; exact c3, h4, h5⟩, fun h hh => ?_, fun p hp => ?_, fun p hp => ?_, fun l hl => ?_, ht, hb⟩
  · rw [h2] at hh
    obtain ⟨a, b, c, d, e⟩ := oh h hh
    refine ⟨?_, ?_, ?_, fun s hs => ?_, fun wk hw => ?_⟩
    · rw [hal _ (by omega) (by omega)]; exact a
    · rw [hal _ (by omega) (by omega)]; exact b
    · rw [hal _ (by omega) (by omega)]; exact c
    · rw [hal _ (by omega) (by omega)]; exact d s hs
    · rw [hal _ (by omega) (by omega)]; exact e wk hw
  · rw [h0] at hp
    obtain ⟨a, b, c, d⟩ := op p hp
    refine ⟨?_, ?_, ?_, fun s hs => ?_⟩
    · rw [hal _ (by omega) (by omega)]; exact a
    · rw [hal _ (by omega) (by omega)]; exact b
    · rw [hal _ (by omega) (by omega)]; exact c
    · rw [hal _ (by omega) (by omega)]; exact d s hs
  · rw [h3] at hp
    obtain ⟨a, b, c, d, e, f, g, i⟩ := og p hp
    rw [h0, h2]
    refine ⟨?_, ?_, ?_, ?_, ?_, ?_, fun s hs => ?_, fun s hs => ?_⟩
    · rw [hal _ (by omega) (by omega)]; exact a
    · rw [hal _ (by omega) (by omega)]; exact b
    · rw [hal _ (by omega) (by omega)]; exact c
    · rw [hal _ (by omega) (by omega)]; exact d
    · rw [hal _ (by omega) (by omega)]; exact e
    · rw [hal _ (by omega) (by omega), hal _ (by omega) (by omega)]; exact f
    · rw [hal _ (by omega) (by omega)]; exact g s hs
    · rw [hal _ (by omega) (by omega), hal _ (by omega) (by omega)]; exact i s hs
  · rw [h1] at hl
    obtain ⟨a, b, c, d, e⟩ := ol l hl
    have n4 : nat (al (243 + 320 * l)) ≤ 16 := nat_le d.2 (by decide)
    rw [hal (240 + 320 * l) (by omega) (by omega), hal (241 + 320 * l) (by omega) (by omega), hal (242 + 320 * l) (by omega) (by omega), hal (243 + 320 * l) (by omega) (by omega)]
    refine ⟨a, b, c, d, fun k hk => ?_⟩
    rw [hal _ (by omega) (by omega), hal _ (by omega) (by omega), hal _ (by omega) (by omega)]
    exact e k hk
-- carried
theorem x_carried {S : St} (h : SH S) (x : Int32) : fX11_carried 0 x S = some (if wi x 0 2 = true then sI S 8 (nat x) else -1, S) := by
  unfold fX11_carried
  rw [cl_within, br_b]
  by_cases hw : wi x 0 2 = true
  · obtain ⟨n, hn, rfl⟩ := wi_nat (m := 2) (by decide) hw
    rw [if_pos hw, if_pos hw, gR_at (SH_K0 h) (SH_R0_0 h), nn_S, gR_at (SH_K1 h) (SH_R1_14 h), nn_S, aI_at (n := n) (SH_K8 h) rfl (by omega) (by rw [SH_L8 h]; omega), rt_S, nat_ofNat (by omega)]
  · rw [if_neg hw, if_neg hw, rt_S]
theorem m_carried {S : St} (h : SH S) (x : Int32) : fX12_carried 32 x S = some (if wi x 0 2 = true then sI S 33 (10 + nat x) else -1, S) := by
  unfold fX12_carried
  rw [cl_isIn, br_b]
  by_cases hw : wi x 0 2 = true
  · obtain ⟨n, hn, rfl⟩ := wi_nat (m := 2) (by decide) hw
    rw [if_pos hw, if_pos hw, gR_at (SH_K32 h) (SH_R32_0 h), nn_S, aI_at (i := 10 + Int32.ofNat n) (n := 10 + n) (SH_K33 h) (Int32.ofNat_add 10 n).symm (by omega) (by rw [SH_L33 h]; omega), rt_S, nat_ofNat (by omega)]
  · rw [if_neg hw, if_neg hw, rt_S]
theorem H_carried (S : St) (x1 : Int32) (hI : INV S) : Stq INV (fX11_carried 0 x1) (fX12_carried 32 x1) S := by
  obtain ⟨al, im, h1, h2, h3, h4, h5, h6⟩ := id hI
  refine stq_read hI (x_carried h1 x1) FR.rfl ?_ FR.rfl
  rw [m_carried h1]
  by_cases hw : wi x1 0 2 = true
  · obtain ⟨n, hn, rfl⟩ := wi_nat (m := 2) (by decide) hw
    rw [if_pos hw, if_pos hw, nat_ofNat (by omega), h4.1 _ (by omega), h3.1.2.2.2.1 n (by omega)]
  · rw [if_neg hw, if_neg hw]
-- end
theorem x_end {S : St} (h : SH S) (x : Int32) : fX11_end 0 x S = some (if wi x 0 (sI S 1 1) = true then (x, stI S 1 1 x) else (-1, S)) := by
  unfold fX11_end
  rw [gR_at (SH_K0 h) (SH_R0_0 h), nn_S, gI_at (SH_K1 h), cl_within, br_b]
  by_cases hw : wi x 0 (sI S 1 1) = true
  · rw [if_pos hw, if_pos hw, gR_at (SH_K0 h) (SH_R0_0 h), nn_S, pI_at (SH_K1 h), rt_S]
  · rw [if_neg hw, if_neg hw, rt_S]
theorem m_end {S : St} (h : SH S) (x : Int32) : fX12_end 32 x S = some (if wi x 0 (sI S 33 5) = true then (x, stI S 33 5 x) else (-1, S)) := by
  unfold fX12_end wi
  have e5 : (5 : Int32).toNatClampNeg = 5 := rfl
  by_cases h0 : x < 0
  · simp [gI_S, gR_S, pI_S, pZ_S, pR_S, aI_S, aJ_S, aR_S, wI_S, wB_S, wZ_S, wJ_S, aL_S, ck_S, br_S, dv_S, dvJ_S, nn_S, on_S, on_N, rt_S, rtZ_0, rtZ_1, rtZ_b, cl_rt, h0]
  · by_cases h1 : sI S 33 5 < x
    · simp [gI_S, gR_S, pI_S, pZ_S, pR_S, aI_S, aJ_S, aR_S, wI_S, wB_S, wZ_S, wJ_S, aL_S, ck_S, br_S, dv_S, dvJ_S, nn_S, on_S, on_N, rt_S, rtZ_0, rtZ_1, rtZ_b, cl_rt, SH_K32 h, SH_R32_0 h, SH_R32_1 h, SH_R32_10 h, SH_R32_11 h, SH_R32_12 h, SH_R32_13 h, SH_R32_16 h, SH_R32_17 h, SH_R32_31 h, SH_R32_32 h, SH_R32_35 h, SH_R32_36 h, SH_R32_37 h, SH_K33 h, SH_L33 h, h0, h1, e5, Int32.not_le.mpr h1]
    · simp [gI_S, gR_S, pI_S, pZ_S, pR_S, aI_S, aJ_S, aR_S, wI_S, wB_S, wZ_S, wJ_S, aL_S, ck_S, br_S, dv_S, dvJ_S, nn_S, on_S, on_N, rt_S, rtZ_0, rtZ_1, rtZ_b, cl_rt, SH_K32 h, SH_R32_0 h, SH_R32_1 h, SH_R32_10 h, SH_R32_11 h, SH_R32_12 h, SH_R32_13 h, SH_R32_16 h, SH_R32_17 h, SH_R32_31 h, SH_R32_32 h, SH_R32_35 h, SH_R32_36 h, SH_R32_37 h, SH_K33 h, SH_L33 h, h0, h1, e5, Int32.not_lt.mp h1]
theorem H_end (S : St) (x1 : Int32) (hI : INV S) : Stq INV (fX11_end 0 x1) (fX12_end 32 x1) S := by
  obtain ⟨al, im, h1, h2, h3, h4, h5, h6⟩ := id hI
  have hx := x_end h1 x1
  have e5 : sI S 1 1 = al 5 := h3.1.1.1
  rw [e5] at hx
  by_cases hw : wi x1 0 (al 5) = true
  · rw [if_pos hw] at hx
    have hF : FR (fun b => b < 10) S (stI S 1 1 x1) := FR.rfl.stI x1 (by decide)
    have hm := m_end (S := stI S 1 1 x1) (FR_SH hF h1) x1
    have e : sI (stI S 1 1 x1) 33 5 = al 5 := by rw [sI_stI, if_neg (fun q => by cases q.1)]; exact h4.1 5 (by decide)
    rw [e, if_pos hw] at hm
    have hd := of_decide_eq_true hw
    have hr : 0 ≤ x1 ∧ x1 ≤ 400 := ⟨Int32.not_lt.mp hd.1, Int32.le_trans (Int32.not_lt.mp hd.2) h5.1.2.2.2.2.2.2⟩
    have hal : ∀ k, k ≠ 5 → va_up al 5 x1 k = al k := fun k hk => va_up_n hk
    have hCW : CW (va_up al 5 x1) 1 (stI S 1 1 x1) := by
      obtain ⟨⟨s1, s2, s3, s4, s5, s6, s7, s8⟩, t, u, v, -⟩ := h3.1
      refine CW_low h3.1 h2 h5.1 hF (fun k _ _ => hal k (by omega)) (hal _ (by omega)) (hal _ (by omega)) (hal _ (by omega)) (hal _ (by omega)) ?_ (fun i hi => ?_) (fun i hi => ?_) (fun i hi => ?_)
      · simp [sI_stI, va_up, s2, s3, s4, s5, s6, s7, s8]
      · rw [hal _ (by omega)]; simpa [sI_stI] using t i hi
      · rw [hal _ (by omega)]; simpa [sI_stI] using u i hi
      · rw [hal _ (by omega)]; simpa [sI_stI] using v i hi
    refine stq_write (im := im) (im' := im) (al := al) hx (FR_SH hF h1) (FR_CS hF h2) (RC_low h3 h2 h6 hF hCW) (by rw [sn_stI]; omega) (by rw [sm_stI]; omega) hm (FR.rfl.stI x1 (by unfold XN; omega)) (RM_up (RM_fr h4 hF (by omega) (by omega)) (by decide) x1) (OK_low h5 (fun k _ _ => hal k (by omega)) (hal _ (by omega)) (hal _ (by omega)) (hal _ (by omega)) (hal _ (by omega)) (by rw [hal _ (by omega)]; exact h5.1.2.2.2.2.1) (by rw [va_up_eq]; exact hr) (fun s hs => by rw [hal _ (by omega)]; exact h5.2.2.2.2.2.1 s hs) (fun i hi => by rw [hal _ (by omega)]; exact h5.2.2.2.2.2.2 i hi)) h6
  · rw [if_neg hw] at hx
    have hm := m_end h1 x1
    rw [h4.1 5 (by decide), if_neg hw] at hm
    exact stq_read hI hx FR.rfl hm FR.rfl
