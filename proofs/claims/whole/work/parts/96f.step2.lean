theorem sp_x {b : Nat} (h : b < 256) : (cbI b = 32 ∨ cbI b = 10) ↔ spB b = true := (cb_all b h).2.2.1
/-- the token at p0 = tP, cursor there -/
theorem tok_x {S0 S : St} {r n c : Nat} {b : Nat → Nat} (h : RD S r b n) (hF : FC (TX r) S0 S) (hc : c ≤ n) (h7 : sI S r 7 = Int32.ofNat (tP b n c)) : Rn (fX8_step_50 r S) (fun _ S' => FC (TX r) S0 S' ∧ RT S' r b n c) := by
  have h400 := h.2.2.2.2.1
  have hp := tP_b (b := b) hc
  generalize hq : tP b n c = q at *
  dsimp only [fX8_step_50]
  have hd2 := (h.st (j := 2) (Int32.ofNat q) (by decide)).st (j := 1) 0 (by decide)
  have hf2 : FC (TX r) S0 (stI (stI S r 2 (Int32.ofNat q)) r 1 0) := (hF.st _ ⟨rfl, by decide⟩).st _ ⟨rfl, by decide⟩
  refine w_gIe h.k h7 (w_pI h.k (w_pI h.k ?_))
  have a7 : sI (stI (stI S r 2 (Int32.ofNat q)) r 1 0) r 7 = Int32.ofNat q := by rw [st_ne (Or.inr (by decide)), st_ne (Or.inr (by decide))]; exact h7
  have a2 : sI (stI (stI S r 2 (Int32.ofNat q)) r 1 0) r 2 = Int32.ofNat q := by rw [st_ne (Or.inr (by decide)), st_get]
  have a1 : sI (stI (stI S r 2 (Int32.ofNat q)) r 1 0) r 1 = 0 := st_get
  generalize stI (stI S r 2 (Int32.ofNat q)) r 1 0 = S2 at *
  refine w_gIe hd2.k a7 (w_ck hd2.k (w_cl (byte_x hd2 (by omega)) (w_gIe hd2.k a7 (w_gIe hd2.k hd2.2.2.2.1 (w_br (fun u => ?_) (fun u => ?_))))))
  · rw [lt_ofNat (by omega) (by omega)] at u
    rw [if_pos u]
    have hne : ¬ n ≤ q := by omega
    refine w_cl (isLe_x _ _) ?_
    rw [le_x (hd2.2.2.2.2.2.1 q)]
    refine w_z (fun l => ?_) (fun l => w_cl (isDi_x _ _) ?_)
    · refine w_pI hd2.k (Rn.mono (letters_x (S0 := S0) (c := q) (hd2.st 1 (by decide)) (hf2.st _ ⟨rfl, by decide⟩) (by omega) (by rw [st_ne (Or.inr (by decide))]; exact a7)) ?_)
      rintro _ S3 ⟨g1, g2, g3, g4, g5⟩
      refine ⟨g1, ?_, ?_, ?_, ?_⟩
      · rw [g3, st_get, tK, hq, if_neg hne, if_pos l]; rfl
      · rw [g4, st_ne (Or.inr (by decide)), a1, tV, hq, if_neg hne, if_pos l]; rfl
      · rw [g5, st_ne (Or.inr (by decide)), a2, hq]
      · rw [g2, tN, hq, if_neg hne, if_pos l]
    · rw [di_x (hd2.2.2.2.2.2.1 q)]
      have l' : ¬ leB (b q) = true := by rw [l]; decide
      refine w_z (fun d => w_ck hd2.k (w_clr (digits_x (S0 := S0) (c := q) hd2 hf2 (by omega) a7 a2 a1) ?_)) (fun d => w_cl (isSg_x _ _) ?_)
      · rintro _ S3 ⟨g1, g2, g3, g4, g5⟩
        have eN : tN b n c = rn (fun i => diB (b i)) n q := by rw [tN, hq, if_neg hne, if_neg l', if_pos d]
        refine w_rt ⟨g1, ?_, ?_, ?_, ?_⟩
        · rw [g3, tK, eN, hq, if_neg hne, if_neg l', if_pos d]
        · rw [g4, tV, eN, hq, if_neg hne, if_neg l', if_pos d]
        · rw [g5, hq]
        · rw [g2, eN]
      · rw [sg_x (hd2.2.2.2.2.2.1 q)]
        have d' : ¬ diB (b q) = true := by rw [d]; decide
        have eN : tN b n c = q + 1 := by rw [tN, hq, if_neg hne, if_neg l', if_neg d']
        have eV : tV b n c = 0 := by rw [tV, hq, if_neg hne, if_neg l', if_neg d']
        have key : ∀ v : Nat, tK b n c = v → Rn (fX8_step_168 r (Int32.ofNat v) r S2) (fun _ S' => FC (TX r) S0 S' ∧ RT S' r b n c) := by
          intro v hv
          dsimp only [fX8_step_168]
          have hd3 := hd2.st (j := 0) (Int32.ofNat v) (by decide)
          refine w_pI hd2.k (w_gIe hd3.k (v := Int32.ofNat q) (by rw [st_ne (Or.inr (by decide))]; exact a7) (w_pI hd3.k (w_rt ⟨(hf2.st _ ⟨rfl, by decide⟩).st _ ⟨rfl, by decide⟩, ?_, ?_, ?_, ?_⟩)))
          · rw [st_ne (Or.inr (by decide)), st_get, hv]
          · rw [st_ne (Or.inr (by decide)), st_ne (Or.inr (by decide)), a1, eV]; rfl
          · rw [st_ne (Or.inr (by decide)), st_ne (Or.inr (by decide)), a2, hq]
          · rw [st_get, eN, succ32]
        refine w_z (fun s => key 3 (by rw [tK, hq, if_neg hne, if_neg l', if_neg d', if_pos s])) (fun s => key 4 (by rw [tK, hq, if_neg hne, if_neg l', if_neg d', if_neg (by rw [s]; decide)]))
  · rw [lt_ofNat (by omega) (by omega)] at u
    have hne : n ≤ q := by omega
    refine w_pI hd2.k (w_rt ⟨hf2.st _ ⟨rfl, by decide⟩, ?_, ?_, ?_, ?_⟩)
    · rw [st_get, tK, hq, if_pos hne]; rfl
    · rw [st_ne (Or.inr (by decide)), a1, tV, hq, if_pos hne]; rfl
    · rw [st_ne (Or.inr (by decide)), a2, hq]
    · rw [st_ne (Or.inr (by decide)), a7, tN, hq, if_pos hne]
theorem step_x {S : St} {r n c : Nat} {b : Nat → Nat} (h : RD S r b n) (hc : c ≤ n) (h7 : sI S r 7 = Int32.ofNat c) : Rn (fX8_step r S) (fun _ S' => FC (TX r) S S' ∧ RT S' r b n c) := by
  have h400 := h.2.2.2.2.1
  unfold fX8_step
  refine w_itr (fun m p S' => p = r ∧ ∃ i, c ≤ i ∧ i ≤ n ∧ m = n - i + 1 ∧ sI S' r 7 = Int32.ofNat i ∧ rn (fun i => spB (b i)) n c = rn (fun i => spB (b i)) n i ∧ RD S' r b n ∧ FC (TX r) S S') (fun p S' ⟨_, i, _, h2, h3, _⟩ => by omega) ?_ (n - c + 1) FU _ _ (by unfold FU; omega) ⟨rfl, c, Nat.le_refl _, hc, rfl, h7, rfl, h, FC.rfl⟩
  rintro m k p S1 ⟨rfl, i, hi1, hi2, hm, g7, hr, hd, hf⟩ hk
  have hend : rn (fun i => spB (b i)) n c = i → Rn (fX8_step_50 p S1) (fun _ S' => FC (TX p) S S' ∧ RT S' p b n c) := fun e => tok_x hd hf hc (by rw [tP, e]; exact g7)
  have hgo : i < n → spB (b i) = true → Rn (fX8_step_37 k p S1) (fun _ S' => FC (TX p) S S' ∧ RT S' p b n c) := by
    intro hin hs
    dsimp only [fX8_step_37]
    exact w_gIe hd.k g7 (w_pI hd.k (hk _ _ ⟨rfl, i + 1, by omega, by omega, by omega, by rw [st_get, succ32], by rw [hr]; exact rn_s (P := fun i => spB (b i)) hin hs, hd.st _ (by decide), hf.st _ ⟨rfl, by decide⟩⟩))
  dsimp only [fX8_step_0]
  refine w_gIe hd.k g7 (w_gIe hd.k hd.2.2.2.1 (w_br (fun q => ?_) (fun q => ?_)))
  · rw [le_ofNat (by omega) (by omega)] at q
    exact hend (by rw [hr, rn_e (fun z => by omega)])
  · rw [le_ofNat (by omega) (by omega)] at q
    refine w_gIe hd.k g7 (w_ck hd.k (w_byte hd rfl (by omega) (w_br (fun u => hgo (by omega) ((sp_x (hd.2.2.2.2.2.1 i)).mp (Or.inl u))) (fun u => w_gIe hd.k g7 (w_ck hd.k (w_byte hd rfl (by omega) (w_br (fun v => hgo (by omega) ((sp_x (hd.2.2.2.2.2.1 i)).mp (Or.inr v))) (fun v => hend ?_))))))))
    rw [hr, rn_e (P := fun i => spB (b i)) (fun z => ((sp_x (hd.2.2.2.2.2.1 i)).mpr z.2).elim u v)]
