theorem opens_m {S : St} {D : Nat} (x : Int32) (hS : SH S) (hD : D ≤ 6) (h14 : sI S 32 14 = Int32.ofNat D) : Rn (fX12_opens 32 x S) (fun _ S' => FX (fun a => a = 37 ∨ a = 38) S S' ∧ (∀ l, sI S' 37 l = if l = D then -1 else sI S 37 l) ∧ (∀ l, sI S' 38 l = if l = D then x else sI S 38 l) ∧ ∀ a j, sJ S' a j = if (a = 35 ∧ 6 * D ≤ j ∧ j < 6 * D + 6) ∨ (a = 36 ∧ 24 * D ≤ j ∧ j < 24 * D + 24) then 0 else sJ S a j) := by
  unfold fX12_opens
  refine w_for (mk := fun (_ : Unit) i => ((32 : Nat), x, i)) (a := ()) 0 6 (fun i _ S' => FJ S S' ∧ ∀ a j, sJ S' a j = if (a = 35 ∧ 6 * D ≤ j ∧ j < 6 * D + i) then 0 else sJ S a j) (by omega) (by omega) ⟨FJ.rfl, fun a j => by rw [if_neg (by omega)]⟩ ?_ ?_
  · rintro k _ S1 ⟨f1, j1⟩ _
    dsimp only [fX12_opens_2]
    refine w_bt (by decide) ?_
    refine w_for (mk := fun (_ : Unit) i => ((32 : Nat), x, i)) (a := ()) 0 24 (fun i _ S' => FJ S S' ∧ ∀ a j, sJ S' a j = if (a = 35 ∧ 6 * D ≤ j ∧ j < 6 * D + 6) ∨ (a = 36 ∧ 24 * D ≤ j ∧ j < 24 * D + i) then 0 else sJ S a j) (by omega) (by omega) ⟨f1, fun a j => ?_⟩ ?_ ?_
    · rw [j1]
      by_cases c : a = 35 ∧ 6 * D ≤ j ∧ j < 6 * D + 6
      · rw [if_pos c, if_pos (Or.inl c)]
      · rw [if_neg c, if_neg (by omega)]
    · rintro k2 _ S2 ⟨f2, j2⟩ _
      have s2 := f2.sh hS
      have g14 : sI S2 32 14 = Int32.ofNat D := by rw [f2.2.2.2.2.2]; exact h14
      have s3 : SH (stI S2 37 D (-1)) := (FC.rfl.st (X := fun _ _ => True) (S := S2) _ trivial).sh s2
      dsimp only [fX12_opens_31]
      refine w_bt (by decide) (w_gR (SH_K32 s2) (SH_R32_12 s2) (w_gIe (SH_K32 s2) g14 (w_nn (w_wI (SH_K37 s2) rfl (SH_L37 s2) (by omega) (w_gR (SH_K32 s3) (SH_R32_13 s3) (w_gIe (SH_K32 s3) (v := Int32.ofNat D) (by rw [st_ne (Or.inl (by decide))]; exact g14) (w_nn (w_wI (SH_K38 s3) rfl (SH_L38 s3) (by omega) (w_rt ⟨(f2.fx.stI _ (Or.inl rfl)).stI _ (Or.inr rfl), fun l => ?_, fun l => ?_, j2⟩)))))))))
      · rw [st_ne (Or.inl (by decide))]
        by_cases e : l = D
        · rw [if_pos e, e, st_get]
        · rw [if_neg e, st_ne (Or.inr e)]; exact f2.2.2.2.2.2 37 l
      · by_cases e : l = D
        · rw [if_pos e, e, st_get]
        · rw [if_neg e, st_ne (Or.inr e), st_ne (Or.inl (by decide))]; exact f2.2.2.2.2.2 38 l
    · rintro i _ hi k2 _ S2 ⟨f2, j2⟩ hn hk2
      have s2 := f2.sh hS
      have g14 : sI S2 32 14 = Int32.ofNat D := by rw [f2.2.2.2.2.2]; exact h14
      dsimp only [fX12_opens_31]
      have ix : 24 * Int32.ofNat D + Int32.ofNat i = Int32.ofNat (24 * D + i) := by
        rw [show (24 : Int32) = Int32.ofNat 24 from rfl, mul_of, add_of]
      refine w_bf hn (w_gR (SH_K32 s2) (SH_R32_11 s2) (w_gIe (SH_K32 s2) g14 (w_nn (w_wJ (SH_K36 s2) ix (SH_L36 s2) (by omega) (hk2 () _ ⟨f2.st _ _ _, fun a j => ?_⟩)))))
      by_cases c : a = 36 ∧ j = 24 * D + i
      · rw [c.1, c.2, jget, if_pos (by omega)]
      · rw [jne (by omega), j2]
        by_cases c2 : (a = 35 ∧ 6 * D ≤ j ∧ j < 6 * D + 6) ∨ (a = 36 ∧ 24 * D ≤ j ∧ j < 24 * D + i)
        · rw [if_pos c2, if_pos (by omega)]
        · rw [if_neg c2, if_neg (by omega)]
  · rintro i _ hi k _ S1 ⟨f1, j1⟩ hn hk
    have s1 := f1.sh hS
    have g14 : sI S1 32 14 = Int32.ofNat D := by rw [f1.2.2.2.2.2]; exact h14
    dsimp only [fX12_opens_2]
    have ix : 6 * Int32.ofNat D + Int32.ofNat i = Int32.ofNat (6 * D + i) := by
      rw [show (6 : Int32) = Int32.ofNat 6 from rfl, mul_of, add_of]
    refine w_bf hn (w_gR (SH_K32 s1) (SH_R32_10 s1) (w_gIe (SH_K32 s1) g14 (w_nn (w_wJ (SH_K35 s1) ix (SH_L35 s1) (by omega) (hk () _ ⟨f1.st _ _ _, fun a j => ?_⟩)))))
    by_cases c : a = 35 ∧ j = 6 * D + i
    · rw [c.1, c.2, jget, if_pos (by omega)]
    · rw [jne (by omega), j1]
      by_cases c2 : a = 35 ∧ 6 * D ≤ j ∧ j < 6 * D + i
      · rw [if_pos c2, if_pos (by omega)]
      · rw [if_neg c2, if_neg (by omega)]
theorem AM_clr {D : Nat} {S S1 : St} {g : CT} (hA : ∀ l t k, l < D → t < 6 → k < 5 → sJ S (cA k) (cI l t k) = Int64.ofNat (min 2000000 (g l t k))) (h : ∀ a j, sJ S1 a j = if (a = 35 ∧ 6 * D ≤ j ∧ j < 6 * D + 6) ∨ (a = 36 ∧ 24 * D ≤ j ∧ j < 24 * D + 24) then 0 else sJ S a j) : AM D S1 (clr g D) := by
  intro l t k h1 h2 h3
  unfold clr
  rw [h]
  by_cases c : l = D
  · rw [if_pos c, if_pos]
    · rfl
    · unfold cA cI
      by_cases e : k = 4
      · rw [if_pos e, if_pos e]; omega
      · rw [if_neg e, if_neg e]; omega
  · rw [if_neg c, if_neg]
    · exact hA l t k (by omega) h2 h3
    · unfold cA cI
      by_cases e : k = 4
      · rw [if_pos e, if_pos e]; omega
      · rw [if_neg e, if_neg e]; omega
