theorem sat_z {B a x X : Nat} (h1 : min B X = min B x) : min B (min B a + min B X) = min B (a + x) := by omega
theorem closes_m {S : St} {g : CT} {d h hd r : Nat} {F0 : Prop} (hS : SH S) (hd6 : d < 6) (h14 : sI S 32 14 = Int32.ofNat (d + 1)) (hh : sI S 37 d = hI h) (hh5 : h < 5) (hhd : sI S 37 (d + 1) = hI hd) (hhd5 : hd < 5) (hA : F0 → AM (d + 1) S g ∧ sI S 38 (d + 1) = Int32.ofNat r ∧ 1 ≤ r ∧ r ≤ 9999) : Rn (fX12_closes 32 S) (fun _ S' => FX (fun a => a = 37) S S' ∧ (∀ l, sI S' 37 l = if hd ≠ 4 ∧ l = d then hI hd else sI S 37 l) ∧ (F0 → AM (d + 1) S' (clG g d h (if hd = 4 then h else hd) r))) := by
  have e1 : Int32.ofNat (d + 1) - 1 = Int32.ofNat d := by rw [show (1 : Int32) = Int32.ofNat 1 from rfl, sub_of (by omega)]; rfl
  unfold fX12_closes
  refine w_gIe (SH_K32 hS) h14 (w_gR (SH_K32 hS) (SH_R32_13 hS) (w_gIe (SH_K32 hS) h14 (w_nn (w_aI (SH_K38 hS) rfl (SH_L38 hS) (by omega) (w_gR (SH_K32 hS) (SH_R32_12 hS) (w_gIe (SH_K32 hS) h14 (w_nn (w_aIe (SH_K37 hS) rfl (SH_L37 hS) (by omega) hhd ?_))))))))
  rw [e1]
  generalize hx : sI S 38 (d + 1) = xr at *
  refine w_for (mk := fun (_ : Unit) i => ((32 : Nat), Int32.ofNat d, xr, hI hd, i)) (a := ()) 0 6 (fun t _ S' => FJ S S' ∧ (F0 → AM (d + 1) S' (fun l' t' k' => if t' < t then clG g d h (if hd = 4 then h else hd) r l' t' k' else g l' t' k'))) (by omega) (by omega) ⟨FJ.rfl, fun z => (hA z).1.cg (fun l' t' k' _ _ _ => by rw [if_neg (by omega)])⟩ ?_ ?_
  · rintro k _ S1 ⟨f1, A1⟩ _
    have s1 := f1.sh hS
    dsimp only [fX12_closes_30]
    have A2 : F0 → AM (d + 1) S1 (clG g d h (if hd = 4 then h else hd) r) := fun z => (A1 z).cg (fun l' t' k' q1 q2 q3 => by rw [if_pos q2])
    refine w_bt (by decide) (w_br (fun u => ?_) (fun u => ?_))
    · have c : hd = 4 := by
        rcases Nat.lt_or_ge hd 4 with z | z
        · exact absurd u (Int32.not_lt.mpr ((hI_0 hhd5).mpr (by omega)))
        · omega
      exact w_rt ⟨f1.fx, fun l => by rw [if_neg (fun z => z.1 c)]; exact f1.2.2.2.2.2 37 l, A2⟩
    · have c : hd ≠ 4 := (hI_0 hhd5).mp (Int32.not_lt.mp u)
      refine w_gR (SH_K32 s1) (SH_R32_12 s1) (w_nn (w_wI (SH_K37 s1) rfl (SH_L37 s1) (by omega) (w_rt ⟨f1.fx.stI _ rfl, fun l => ?_, A2⟩)))
      by_cases e : l = d
      · rw [if_pos ⟨c, e⟩, e, st_get]
      · rw [if_neg (fun z => e z.2), st_ne (Or.inr e)]; exact f1.2.2.2.2.2 37 l
  · rintro t _ ht k _ S1 ⟨f1, A1⟩ hn hk
    have s1 := f1.sh hS
    have g14 : sI S1 32 14 = Int32.ofNat (d + 1) := by rw [f1.2.2.2.2.2]; exact h14
    have gh : sI S1 37 d = hI h := by rw [f1.2.2.2.2.2]; exact hh
    have ix : 6 * Int32.ofNat (d + 1) + Int32.ofNat t = Int32.ofNat (6 * (d + 1) + t) := by
      rw [show (6 : Int32) = Int32.ofNat 6 from rfl, mul_of, add_of]
    dsimp only [fX12_closes_30]
    refine w_bf hn (w_gR (SH_K32 s1) (SH_R32_10 s1) (w_gIe (SH_K32 s1) g14 (w_nn ?_)))
    rw [ix]
    refine w_aJ (SH_K35 s1) rfl (SH_L35 s1) (by omega) ?_
    have hp : F0 → sJ S1 35 (6 * (d + 1) + t) = Int64.ofNat (min 2000000 (g (d + 1) t 4)) := fun z => by
      have := A1 z (d + 1) t 4 (by omega) ht (by omega)
      dsimp only at this
      rw [if_neg (Nat.lt_irrefl t)] at this
      exact this
    have key : ∀ (y : Int64) (zz : Nat), (F0 → y = Int64.ofNat (min 2000000 zz)) → (F0 → zz = if hd = 4 then g (d + 1) t 4 * r else g (d + 1) t 4) → Rn (fX12_closes_75 k 32 (Int32.ofNat d) xr (hI hd) (Int32.ofNat t) (sJ S1 35 (6 * (d + 1) + t)) y (Int32.ofNat t) (Int32.ofNat d) 32 S1) (fun _ S' => FX (fun a => a = 37) S S' ∧ (∀ l, sI S' 37 l = if hd ≠ 4 ∧ l = d then hI hd else sI S 37 l) ∧ (F0 → AM (d + 1) S' (clG g d h (if hd = 4 then h else hd) r))) := by
      intro y zz hy hz
      dsimp only [fX12_closes_75]
      refine w_ck (SH_K32 s1) (w_cl (sews_m y s1 (by omega) ht hh5 gh) ?_)
      refine dy_m (F0 := F0) (g := ad (fun l' t' k' => if t' < t then clG g d h (if hd = 4 then h else hd) r l' t' k' else g l' t' k') d t h zz) (r := r) (p := g (d + 1) t 4) ((FJ.rfl.st _ _ _).sh s1) hd6 ht hhd5 g14 (fun z => ⟨?_, (hA z).2.1, (hA z).2.2.1, (hA z).2.2.2, hp z⟩) ?_
      · refine (A1 z).st ht hh5 ?_
        have e := A1 z d t h (by omega) ht hh5
        dsimp only at e
        rw [if_neg (Nat.lt_irrefl t)] at e
        rw [e, hy z, J_add, lst_of (by omega)]
        rw [if_neg (Nat.lt_irrefl t)]
        congr 1
        exact sat_one
      · intro S3 f3 A3
        refine hk () S3 ⟨(f1.st _ _ _).trans f3, fun z => (A3 z).cg (fun l' t' k' q1 q2 q3 => ?_)⟩
        have hz := hz z
        have hr1 := (hA z).2.2.1
        have hm : g (d + 1) t 4 * r = g (d + 1) t 4 + g (d + 1) t 4 * (r - 1) := by
          obtain ⟨r', rfl⟩ : ∃ r', r = r' + 1 := ⟨r - 1, by omega⟩
          rw [Nat.mul_add, Nat.mul_one, Nat.add_sub_cancel]; omega
        by_cases c1 : t' = t
        · subst c1
          by_cases c2 : l' = d
          · subst c2
            simp only [dyG, ad, clG, Nat.lt_irrefl, if_false, true_and, if_true, Nat.lt_succ_self]
            revert hz
            repeat' split
            all_goals (intro hz; first | omega | (subst hz; omega))
          · simp only [dyG, ad, clG, Nat.lt_irrefl, if_false, c2, false_and, if_true, Nat.lt_succ_self]
        · simp only [dyG, ad, c1, false_and, and_false, if_false]
          by_cases c3 : t' < t
          · rw [if_pos c3, if_pos (show t' < t + 1 by omega)]
          · rw [if_neg c3, if_neg (show ¬ t' < t + 1 by omega)]
    refine w_br (fun u => key _ (g (d + 1) t 4) (fun z => hp z) (fun _ => by rw [if_neg ((hI_0 hhd5).mp u)])) (fun u => w_cl (least_m _ S1) (key _ (g (d + 1) t 4 * r) (fun z => ?_) (fun _ => ?_)))
    · obtain ⟨a1, a2, a3, a4⟩ := hA z
      have b1 : min 2000000 (g (d + 1) t 4) * r ≤ 2000000 * 9999 := Nat.mul_le_mul (by omega) (by omega)
      rw [hp z, a2, J_of (by omega), J_mul, lst_of (by omega), sat_m]
    · rw [if_pos]
      rcases Nat.lt_or_ge hd 4 with z | z
      · exact absurd ((hI_0 hhd5).mpr (by omega)) u
      · omega
