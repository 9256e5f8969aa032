theorem sat_two {B a x y X Y : Nat} (h1 : min B X = min B x) (h2 : min B Y = min B y) : min B (min B a + min B (X + Y)) = min B (a + (x + y)) := by omega
theorem sat_m {B x r : Nat} : min B (min B x * r) = min B (x * r) := by
  have := sat_mul (M := B) (a := 0) (x := x) (r := r)
  rw [Nat.min_zero, Nat.zero_add, Nat.zero_add] at this
  exact this
/-- what the loop over the colours does to a stitch t of level d -/
def dyG (g : CT) (d t r H p : Nat) (m : Nat) : CT := fun l' t' k' => if l' = d ∧ t' = t ∧ k' < m ∧ k' < 4 then g l' t' k' + (g (d + 1) t k' * r + (if k' = H then p * (r - 1) else 0)) else g l' t' k'
theorem dy_m {S0 : St} {Q : Unit → St → Prop} {d t hd : Nat} {x5 : Int64} {xr : Int32} {k30 : (Nat × Int32 × Int32 × Int32 × Int32) → St → Option (Unit × St)} {F0 : Prop} {g : CT} {r p : Nat} (hS : SH S0) (hd6 : d < 6) (ht : t < 6) (hh5 : hd < 5) (h14 : sI S0 32 14 = Int32.ofNat (d + 1)) (hA : F0 → AM (d + 1) S0 g ∧ xr = Int32.ofNat r ∧ 1 ≤ r ∧ r ≤ 9999 ∧ x5 = Int64.ofNat (min 2000000 p))
    (hQ : ∀ S', FJ S0 S' → (F0 → AM (d + 1) S' (dyG g d t r hd p 4)) → Rn (k30 (32, Int32.ofNat d, xr, hI hd, Int32.ofNat t + 1) S') Q) : Rn (itr (fun k (p : Nat × Int32 × Int32 × Int32 × Int32 × Int64 × Int32) => fX12_closes_81 k30 k p.1 p.2.1 p.2.2.1 p.2.2.2.1 p.2.2.2.2.1 p.2.2.2.2.2.1 p.2.2.2.2.2.2) FU (32, Int32.ofNat d, xr, hI hd, Int32.ofNat t, x5, 0) S0) Q := by
  refine w_for (mk := fun (_ : Unit) i => ((32 : Nat), Int32.ofNat d, xr, hI hd, Int32.ofNat t, x5, i)) (a := ()) 0 4 (fun k _ S' => FJ S0 S' ∧ (F0 → AM (d + 1) S' (dyG g d t r hd p k))) (by omega) (by omega) ⟨FJ.rfl, fun z => (hA z).1.cg (fun l' t' k' _ _ _ => by rw [dyG, if_neg (by omega)])⟩ ?_ ?_
  · rintro k _ S1 ⟨f1, A1⟩ _
    dsimp only [fX12_closes_81]
    exact w_bt (by decide) (hQ S1 f1 A1)
  · rintro k _ hk kk _ S1 ⟨f1, A1⟩ hn hkk
    have s1 := f1.sh hS
    have g14 : sI S1 32 14 = Int32.ofNat (d + 1) := by rw [f1.2.2.2.2.2]; exact h14
    dsimp only [fX12_closes_81]
    have ix : ∀ l : Nat, 24 * Int32.ofNat l + 4 * Int32.ofNat t + Int32.ofNat k = Int32.ofNat (24 * l + 4 * t + k) := fun l => by
      rw [show (24 : Int32) = Int32.ofNat 24 from rfl, show (4 : Int32) = Int32.ofNat 4 from rfl, mul_of, mul_of, add_of, add_of]
    have k4 : k ≠ 4 := by omega
    have cAk : cA k = 36 := by rw [cA, if_neg k4]
    have cIk : ∀ l, cI l t k = 24 * l + 4 * t + k := fun l => by rw [cI, if_neg k4]
    have key : ∀ y0 : Int64, (F0 → y0 = Int64.ofNat (if k = hd then min 2000000 p * (r - 1) else 0)) → Rn (fX12_closes_127 k30 kk 32 (Int32.ofNat d) xr (hI hd) (Int32.ofNat t) x5 (Int32.ofNat k) y0 (sJ S1 36 (24 * (d + 1) + 4 * t + k) * xr.toInt64) S1) Q := by
      intro y0 hy
      dsimp only [fX12_closes_127]
      refine w_gR (SH_K32 s1) (SH_R32_11 s1) (w_gR (SH_K32 s1) (SH_R32_11 s1) (w_nn ?_))
      rw [ix d]
      refine w_aJ (SH_K36 s1) rfl (SH_L36 s1) (by omega) (w_cl (least_m _ S1) (w_cl (least_m _ S1) (w_nn (w_wJ (SH_K36 s1) rfl (SH_L36 s1) (by omega) (hkk () _ ⟨f1.st _ _ _, fun z => ?_⟩)))))
      obtain ⟨a1, a2, a3, a4, a5⟩ := hA z
      have e1 := A1 z (d + 1) t k (by omega) ht (by omega)
      have e2 := A1 z d t k (by omega) ht (by omega)
      rw [cAk, cIk] at e1 e2
      have v1 : dyG g d t r hd p k (d + 1) t k = g (d + 1) t k := by rw [dyG, if_neg (by omega)]
      have v2 : dyG g d t r hd p k d t k = g d t k := by rw [dyG, if_neg (by omega)]
      rw [v1] at e1
      rw [v2] at e2
      have b1 : min 2000000 (g (d + 1) t k) * r ≤ 2000000 * 9999 := Nat.mul_le_mul (by omega) (by omega)
      have b2 : (if k = hd then min 2000000 p * (r - 1) else 0) ≤ 2000000 * 9999 := ite_b (fun _ => Nat.mul_le_mul (by omega) (by omega)) (fun _ => by omega)
      have := (A1 z).st (l := d) (t := t) (k := k) (z := g (d + 1) t k * r + (if k = hd then p * (r - 1) else 0)) (v := lst (sJ S1 36 (24 * d + 4 * t + k) + lst (sJ S1 36 (24 * (d + 1) + 4 * t + k) * xr.toInt64 + y0))) ht (by omega) ?_
      · rw [cAk, cIk] at this
        refine this.cg (fun l' t' k' q1 q2 q3 => ?_)
        dsimp only [ad, dyG]
        by_cases c : l' = d ∧ t' = t ∧ k' = k
        · rw [if_pos c, if_neg (by omega), if_pos (show l' = d ∧ t' = t ∧ k' < k + 1 ∧ k' < 4 by omega), c.2.2]
        · rw [if_neg c]
          by_cases c2 : l' = d ∧ t' = t ∧ k' < k ∧ k' < 4
          · rw [if_pos c2, if_pos (show l' = d ∧ t' = t ∧ k' < k + 1 ∧ k' < 4 by omega)]
          · rw [if_neg c2, if_neg (by omega)]
      · rw [e1, e2, a2, hy z, J_of (by omega), J_mul, J_add, lst_of (by omega), J_add, lst_of (by omega), v2]
        congr 1
        refine sat_two sat_m ?_
        by_cases c : k = hd
        · rw [if_pos c, if_pos c]; exact sat_m
        · rw [if_neg c, if_neg c]
    refine w_bf hn (w_gR (SH_K32 s1) (SH_R32_11 s1) (w_gIe (SH_K32 s1) g14 (w_nn ?_)))
    rw [ix (d + 1)]
    refine w_aJ (SH_K36 s1) rfl (SH_L36 s1) (by omega) (w_br (fun u => key _ (fun z => ?_)) (fun u => key _ (fun z => ?_)))
    · have e : k = hd := by
        unfold hI at u
        by_cases c : hd = 4
        · rw [if_pos c] at u; exact absurd u (ofNat_ne_m1 (by omega))
        · rw [if_neg c, eq_ofNat (by omega) (by omega)] at u; exact u
      obtain ⟨a1, a2, a3, a4, a5⟩ := hA z
      have er : Int32.ofNat r - 1 = Int32.ofNat (r - 1) := sub_of (b := 1) a3
      rw [if_pos e, a2, er, J_of (by omega), a5, J_mul]
    · have e : ¬ k = hd := fun q => u (by
        unfold hI
        rw [if_neg (by omega), q])
      rw [if_neg e]; rfl
