set_option maxHeartbeats 1000000 in
set_option maxRecDepth 10000 in
theorem H_pattern (S : St) (x1 x2 : Int32) (hI : INV S) : Stq INV (fX11_pattern 0 x1 x2) (fX12_pattern 32 x1 x2) S := by
  obtain ⟨al, im, hN⟩ : ∃ al im, IN al im S := hI
  obtain ⟨h1, h2, h3, h4, h5, h6⟩ := id hN
  have l0 : nat (al 0) ≤ 8 := nat_le h5.1.1.2 (by decide)
  obtain ⟨p, hp⟩ : ∃ p, p = nat (al 0) := ⟨_, rfl⟩
  have hp2 : al 0 = Int32.ofNat p := by rw [hp]; exact cnt_eq h5.1.1.1
  have hc : sI S 1 6 = Int32.ofNat p := by rw [← hp2]; exact h3.1.1.2.2.2.2.1
  have h5' := h5.1.2.2.2.2.2
  have hn4 : nat (al 5) ≤ 400 := nat_le h5'.2 (by decide)
  have hno : (¬ p < 8 ∨ wi x1 0 3 = false ∨ wi x2 0 16777215 = false) → Stq INV (fX11_pattern 0 x1 x2) (fX12_pattern 32 x1 x2) S := by
    intro hno
    refine stq_go (tpA al 0 (-1)) (-2) hN (tpA_ok h5) ?_ ?_
    · have ic1 := tp_ic hN.ic
      have hc1 : sI (stI (stI (stI S 1 1 0) 1 2 0) 1 3 (-1)) 1 6 = Int32.ofNat p := by rw [st_ne (Or.inr (by decide)), st_ne (Or.inr (by decide)), st_ne (Or.inr (by decide))]; exact hc
      have cq : CQ S (tpA al 0 (-1)) im (stI (stI (stI S 1 1 0) 1 2 0) 1 3 (-1)) := ic1.cq rfl rfl (fun j => by rw [st_ne (Or.inl (by decide)), st_ne (Or.inl (by decide)), st_ne (Or.inl (by decide))]) (fun j => by rw [st_ne (Or.inl (by decide)), st_ne (Or.inl (by decide)), st_ne (Or.inl (by decide))])
      unfold fX11_pattern
      refine w_gR (SH_K0 h1) (SH_R0_0 h1) (w_nn (w_ck (SH_K1 h1) (w_cl (tp_x h1) ?_)))
      generalize stI (stI (stI S 1 1 0) 1 2 0) 1 3 (-1) = S1 at *
      have s1 := ic1.1
      refine w_gR (SH_K0 s1) (SH_R0_0 s1) (w_nn (w_gIe (SH_K1 s1) hc1 (w_br (fun u => w_rt ⟨rfl, cq⟩) (fun u => w_cl (within_eq _ _ _ _) (w_z (fun v => w_cl (within_eq _ _ _ _) (w_z (fun w => ?_) (fun w => w_rt ⟨rfl, cq⟩))) (fun v => w_rt ⟨rfl, cq⟩))))))
      exfalso
      rw [show (8 : Int32) = Int32.ofNat 8 from rfl, le_ofNat (by omega) (by omega)] at u
      rcases hno with q | q | q
      · omega
      · rw [q] at v; exact absurd v (by decide)
      · rw [q] at w; exact absurd w (by decide)
    · intro S1 m
      unfold fX12_pattern
      refine w_ck m.k32 (w_clr (begins_m m (cnt_eq h5'.1) hn4 h5.2.2.2.2.2.2) ?_)
      rintro _ S2 ⟨m1, _⟩
      refine w_gR m1.k32 m1.r (w_nn (m_aI (n := 0) m1 rfl (by decide) ?_))
      rw [tpA_n (by decide), hp2]
      refine w_br (fun u => w_rt ⟨rfl, m1⟩) (fun u => w_cl (isIn_eq _ _ _ _) (w_z (fun v => w_cl (isIn_eq _ _ _ _) (w_z (fun w => ?_) (fun w => w_rt ⟨rfl, m1⟩))) (fun v => w_rt ⟨rfl, m1⟩)))
      exfalso
      rw [show (8 : Int32) = Int32.ofNat 8 from rfl, eq_ofNat (by omega) (by omega)] at u
      rcases hno with q | q | q
      · omega
      · rw [q] at v; exact absurd v (by decide)
      · rw [q] at w; exact absurd w (by decide)
  by_cases hlt : p < 8
  · cases hx1 : wi x1 0 3
    · exact hno (Or.inr (Or.inl hx1))
    · cases hx2 : wi x2 0 16777215
      · exact hno (Or.inr (Or.inr hx2))
      · have a1 := of_decide_eq_true hx1
        have a2 := of_decide_eq_true hx2
        refine stq_go (aPt al p x1 x2) (if fiF (sPt al) = 0 then Int32.ofNat p else -1) hN ?_ (pat_x hN hp2 hlt hx1 hx2) (fun S1 m => pat_m m h5 hp2 hlt hx1 hx2)
        unfold aPt
        by_cases z : fiF (sPt al) = 0
        · rw [if_pos z]
          have ht : tSum ((sPt al).2.2.2.2.1 0) ≤ 1000000 := by
            unfold fiF at z
            by_cases q : (sPt al).2.2.1 = 0 ∧ 1000000 < tSum ((sPt al).2.2.2.2.1 0)
            · rw [if_pos q] at z; exact absurd z (by decide)
            · rw [if_neg q] at z; omega
          refine OK_add_p (n := p) (tpA_ok h5) (by rw [tpA_n (by decide)]; exact hp2) hlt (fun k _ q1 q2 => ptA_out q1 q2) va_up_eq ⟨?_, ?_, ?_, fun k hk => ?_⟩
          · rw [ptA_0]; exact ⟨Int32.not_lt.mp a1.1, Int32.not_lt.mp a1.2⟩
          · rw [ptA_1]; exact ⟨Int32.not_lt.mp a2.1, Int32.not_lt.mp a2.2⟩
          · rw [ptA_2]
            refine ⟨ofNat_nonneg (by omega), ?_⟩
            rw [show (1000000 : Int32) = Int32.ofNat 1000000 from rfl, le_ofNat (by omega) (by omega)]; exact ht
          · rw [ptA_3 hk, ptF]
            have := tSum_le (f := (sPt al).2.2.2.2.1 0) (t := k / 4) (k := k % 4) (by omega) (by omega)
            refine ⟨ofNat_nonneg (by omega), ?_⟩
            rw [show (1000000 : Int32) = Int32.ofNat 1000000 from rfl, le_ofNat (by omega) (by omega)]; omega
        · rw [if_neg z]; exact tpA_ok h5
  · exact hno (Or.inl hlt)
