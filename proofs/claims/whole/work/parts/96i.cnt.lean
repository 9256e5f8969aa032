-- counting, in the class
abbrev CT := Nat → Nat → Nat → Nat
def ad (g : CT) (l t k z : Nat) : CT := fun l' t' k' => if l' = l ∧ t' = t ∧ k' = k then g l' t' k' + z else g l' t' k'
def A12 (L : Nat) (S : St) (g : CT) : Prop := ∀ l t k, l ≤ L → t < 6 → k < 5 → sI S 12 (30 * l + 5 * t + k) = Int32.ofNat (min 1000001 (g l t k))
def X12 (a _j : Nat) : Prop := a = 12
theorem A12.cg {L : Nat} {S : St} {g g' : CT} (h : A12 L S g) (e : ∀ l t k, l ≤ L → t < 6 → k < 5 → g l t k = g' l t k) : A12 L S g' := fun l t k h1 h2 h3 => by rw [← e l t k h1 h2 h3]; exact h l t k h1 h2 h3
theorem sat_mul {M a x r : Nat} : min M (min M a + min M x * r) = min M (a + x * r) := by
  by_cases hr : r = 0
  · subst hr; rw [Nat.mul_zero, Nat.mul_zero]; omega
  · by_cases hx : x ≤ M
    · rw [Nat.min_eq_right hx]; omega
    · have h1 : M ≤ M * r := Nat.le_mul_of_pos_right M (by omega)
      have h2 : M * r ≤ x * r := Nat.mul_le_mul_right r (by omega)
      rw [Nat.min_eq_left (a := M) (b := x) (by omega)]
      omega
theorem sat_one {M a x : Nat} : min M (min M a + min M x) = min M (a + x) := by omega
theorem slot_x {l t k : Nat} (hl : l < 7) (ht : t < 6) (hk : k < 5) (S : St) : fX6_slotOf (Int32.ofNat l) (Int32.ofNat t) (Int32.ofNat k) S = some (Int32.ofNat (30 * l + 5 * t + k), S) := by
  apply Rn.eq
  unfold fX6_slotOf
  refine w_bf (nonneg_lt (by omega)) (w_bf ?_ (w_bf (nonneg_lt (by omega)) (w_bf ?_ (w_bf (nonneg_lt (by omega)) (w_bf ?_ ?_)))))
  · rw [show (7 : Int32) = Int32.ofNat 7 from rfl, le_ofNat (by omega) (by omega)]; omega
  · rw [show (6 : Int32) = Int32.ofNat 6 from rfl, le_ofNat (by omega) (by omega)]; omega
  · rw [show (5 : Int32) = Int32.ofNat 5 from rfl, le_ofNat (by omega) (by omega)]; omega
  · unfold fX6_slotOf_34
    refine w_bf (by decide) (w_rt ⟨?_, rfl⟩)
    rw [show (30 : Int32) = Int32.ofNat 30 from rfl, show (5 : Int32) = Int32.ofNat 5 from rfl, mul_of, mul_of, add_of, add_of]
    congr 1
    omega
theorem ofNat_ne_m1 {n : Nat} (h : n < 2 ^ 31) : ¬ Int32.ofNat n = -1 := fun z => absurd (ofNat_nonneg h) (by rw [z]; decide)
theorem count_x {S : St} {l t k : Nat} (h : SH S) (hl : l < 7) (ht : t < 6) (hk : k < 5) : fX6_countAt 10 (Int32.ofNat l) (Int32.ofNat t) (Int32.ofNat k) S = some (sI S 12 (30 * l + 5 * t + k), S) := by
  apply Rn.eq
  unfold fX6_countAt
  exact w_cl (slot_x hl ht hk S) (w_bf (ofNat_ne_m1 (by omega)) (w_gR (SH_K10 h) (SH_R10_2 h) (w_nn (w_aI (SH_K12 h) rfl (SH_L12 h) (by omega) (w_rt ⟨rfl, rfl⟩)))))
theorem mnJ_of {a y : Nat} (h : a + y < 2 ^ 62) : (mnJ 1000001 (Int64.ofNat a + Int64.ofNat y)).toInt32 = Int32.ofNat (min 1000001 (a + y)) := by
  rw [J_add, mnJ, show (1000001 : Int64) = Int64.ofNat 1000001 from rfl]
  by_cases c : a + y < 1000001
  · rw [if_pos ((J_lt (by omega) (by omega)).mpr c), ← J_of (by omega), Int32.toInt32_toInt64, Nat.min_eq_right (by omega)]
  · rw [if_neg (fun z => c ((J_lt (by omega) (by omega)).mp z)), Nat.min_eq_left (by omega)]; rfl
theorem A12.st {L l t k z v : Nat} {S : St} {g : CT} (h : A12 L S g) (ht : t < 6) (hk : k < 5) (e : v = min 1000001 (g l t k + z)) : A12 L (stI S 12 (30 * l + 5 * t + k) (Int32.ofNat v)) (ad g l t k z) := by
  intro l' t' k' h1 h2 h3
  unfold ad
  by_cases c : l' = l ∧ t' = t ∧ k' = k
  · rw [if_pos c, c.1, c.2.1, c.2.2, st_get, e]
  · rw [if_neg c, st_ne (Or.inr (by omega))]; exact h l' t' k' h1 h2 h3
theorem addTo_x {L l t k y z : Nat} {S : St} {g : CT} (h : SH S) (hA : A12 L S g) (hl : l ≤ L) (hL : L ≤ 6) (ht : t < 6) (hk : k < 5) (hy : y < 2 ^ 60) (e : min 1000001 (min 1000001 (g l t k) + y) = min 1000001 (g l t k + z)) : Rn (fX6_addTo 10 (Int32.ofNat l) (Int32.ofNat t) (Int32.ofNat k) (Int64.ofNat y) S) (fun _ S' => FC X12 S S' ∧ A12 L S' (ad g l t k z)) := by
  unfold fX6_addTo
  refine w_cl (slot_x (by omega) ht hk S) (w_bf (ofNat_ne_m1 (by omega)) (w_gR (SH_K10 h) (SH_R10_2 h) (w_gR (SH_K10 h) (SH_R10_2 h) (w_nn (w_aIe (SH_K12 h) rfl (SH_L12 h) (by omega) (hA l t k hl ht hk) (w_nn (w_wI (SH_K12 h) rfl (SH_L12 h) (by omega) (w_rt ⟨FC.rfl.st _ rfl, ?_⟩))))))))
  rw [J_of (by omega), mnJ_of (by omega)]
  exact hA.st ht hk e
/-- what one stitch t of level d + 1 puts into level d -/
def clG (g : CT) (d h H r : Nat) (l t k : Nat) : Nat := if l = d then g d t k + (if k < 4 then g (d + 1) t k * r else 0) + (if k = h then g (d + 1) t 4 else 0) + (if k = H then g (d + 1) t 4 * (r - 1) else 0) else g l t k
theorem closeStitch_x {S : St} {g : CT} {d h H hd r t : Nat} (hS : SH S) (hA : A12 (d + 1) S g) (hd6 : d < 6) (ht : t < 6) (hD : sI S 10 1 = Int32.ofNat (d + 1)) (hr : sI S 14 (d + 1) = Int32.ofNat r) (hr1 : 1 ≤ r) (hr2 : r ≤ 9999) (hh : sI S 13 d = Int32.ofNat h) (hh5 : h < 5) (hhd : sI S 13 (d + 1) = Int32.ofNat hd) (hhd5 : hd < 5) (hH : H = if hd = 4 then h else hd) : Rn (fX6_closeStitch 10 (Int32.ofNat t) S) (fun _ S' => FC X12 S S' ∧ A12 (d + 1) S' (fun l' t' k' => if t' = t then clG g d h H r l' t' k' else g l' t' k')) := by
  unfold fX6_closeStitch
  have e1 : Int32.ofNat (d + 1) - 1 = Int32.ofNat d := by rw [show (1 : Int32) = Int32.ofNat 1 from rfl, sub_of (by omega)]; rfl
  refine w_gIe (SH_K10 hS) hD (w_cl (within_eq _ _ _ S) ?_)
  rw [e1]
  refine w_zt (by rw [show (0 : Int32) = Int32.ofNat 0 from rfl, show (5 : Int32) = Int32.ofNat 5 from rfl, wi_ofNat (by omega) (by omega) (by omega)]; exact decide_eq_true (by omega)) (w_gR (SH_K10 hS) (SH_R10_4 hS) (w_gIe (SH_K10 hS) hD (w_nn (w_aIe (SH_K14 hS) rfl (SH_L14 hS) (by omega) hr ?_))))
  refine w_for (mk := fun (_ : Unit) i => ((10 : Nat), Int32.ofNat t, Int32.ofNat d, Int32.ofNat r, i)) (a := ()) 0 4 (fun k _ S' => SH S' ∧ FC X12 S S' ∧ A12 (d + 1) S' (fun l' t' k' => if l' = d ∧ t' = t ∧ k' < k then g l' t' k' + g (d + 1) t k' * r else g l' t' k')) (by omega) (by omega) ⟨hS, FC.rfl, hA.cg (fun l' t' k' _ _ _ => by rw [if_neg (by omega)])⟩ ?_ ?_
  · rintro k _ S1 ⟨g1, g2, g3⟩ _
    dsimp only [fX6_closeStitch_30]
    have i1 : sI S1 10 1 = Int32.ofNat (d + 1) := by rw [g2.i (by unfold X12; omega)]; exact hD
    have i3 : sI S1 13 (d + 1) = Int32.ofNat hd := by rw [g2.i (by unfold X12; omega)]; exact hhd
    have i3' : sI S1 13 d = Int32.ofNat h := by rw [g2.i (by unfold X12; omega)]; exact hh
    have ic := g3 (d + 1) t 4 (Nat.le_refl _) ht (by omega)
    dsimp only at ic
    rw [if_neg (by omega)] at ic
    refine w_bt (by decide) (w_gIe (SH_K10 g1) i1 (w_ck (SH_K10 g1) (w_cl (count_x (k := 4) g1 (by omega) ht (by omega)) (w_gR (SH_K10 g1) (SH_R10_3 g1) (w_gIe (SH_K10 g1) i1 (w_nn (w_aIe (SH_K13 g1) rfl (SH_L13 g1) (by omega) i3 ?_)))))))
    rw [ic, J_of (by omega)]
    have hlast : Rn (fX6_closeStitch_109 10 (Int32.ofNat t) (Int32.ofNat d) (Int32.ofNat r) (Int64.ofNat (min 1000001 (g (d + 1) t 4))) (Int32.ofNat H) S1) (fun _ S' => FC X12 S S' ∧ A12 (d + 1) S' (fun l' t' k' => if t' = t then clG g d h H r l' t' k' else g l' t' k')) := by
      have hH5 : H < 5 := by rw [hH]; split <;> omega
      dsimp only [fX6_closeStitch_109]
      refine w_gR (SH_K10 g1) (SH_R10_3 g1) (w_nn (w_aIe (SH_K13 g1) rfl (SH_L13 g1) (by omega) i3' (w_ck (SH_K10 g1) (w_clr (addTo_x (z := g (d + 1) t 4) g1 g3 (by omega) (by omega) ht hh5 (by omega) sat_one) ?_))))
      rintro _ S2 ⟨j1, j2⟩
      have s2 := j1.sh g1
      refine w_ck (SH_K10 s2) ?_
      have hr1' : Int32.ofNat r - 1 = Int32.ofNat (r - 1) := sub_of (b := 1) hr1
      rw [hr1', J_of (by omega), J_mul]
      have hb : min 1000001 (g (d + 1) t 4) * (r - 1) ≤ 1000001 * 9999 := Nat.mul_le_mul (by omega) (by omega)
      refine w_clr (addTo_x (z := g (d + 1) t 4 * (r - 1)) s2 j2 (by omega) (by omega) ht hH5 (by omega) sat_mul) ?_
      rintro _ S3 ⟨k1, k2⟩
      refine w_rt ⟨(g2.trans j1).trans k1, k2.cg (fun l' t' k' q1 q2 q3 => ?_)⟩
      dsimp only [ad, clG]
      by_cases c1 : t' = t
      · subst c1
        by_cases c2 : l' = d
        · subst c2
          repeat' split
          all_goals omega
        · rw [if_neg (fun z => c2 z.1), if_neg (fun z => c2 z.1), if_neg (fun z => c2 z.1), if_pos rfl, if_neg c2]
      · rw [if_neg (fun z => c1 z.2.1), if_neg (fun z => c1 z.2.1), if_neg (fun z => c1 z.2.1), if_neg c1]
    refine w_br (fun u => ?_) (fun u => ?_)
    · rw [show (4 : Int32) = Int32.ofNat 4 from rfl, eq_ofNat (by omega) (by omega)] at u
      rw [if_pos u] at hH
      refine w_gR (SH_K10 g1) (SH_R10_3 g1) (w_nn (w_aIe (SH_K13 g1) rfl (SH_L13 g1) (by omega) i3' ?_))
      rw [hH] at hlast ⊢
      exact hlast
    · rw [show (4 : Int32) = Int32.ofNat 4 from rfl, eq_ofNat (by omega) (by omega)] at u
      rw [if_neg u] at hH
      refine w_gR (SH_K10 g1) (SH_R10_3 g1) (w_gIe (SH_K10 g1) i1 (w_nn (w_aIe (SH_K13 g1) rfl (SH_L13 g1) (by omega) i3 ?_)))
      rw [hH] at hlast ⊢
      exact hlast
  · rintro i _ hi4 k _ S1 ⟨g1, g2, g3⟩ hn hk
    dsimp only [fX6_closeStitch_30]
    have i1 : sI S1 10 1 = Int32.ofNat (d + 1) := by rw [g2.i (by unfold X12; omega)]; exact hD
    have ic := g3 (d + 1) t i (Nat.le_refl _) ht (by omega)
    dsimp only at ic
    rw [if_neg (by omega)] at ic
    refine w_bf hn (w_gIe (SH_K10 g1) i1 (w_ck (SH_K10 g1) (w_cl (count_x (k := i) g1 (by omega) ht (by omega)) (w_ck (SH_K10 g1) ?_))))
    have hb : min 1000001 (g (d + 1) t i) * r ≤ 1000001 * 9999 := Nat.mul_le_mul (by omega) (by omega)
    rw [ic, J_of (by omega), J_of (by omega), J_mul]
    refine w_clr (addTo_x (z := g (d + 1) t i * r) g1 g3 (by omega) (by omega) ht (by omega) (by omega) sat_mul) ?_
    rintro _ S2 ⟨j1, j2⟩
    refine hk () S2 ⟨j1.sh g1, g2.trans j1, j2.cg (fun l' t' k' q1 q2 q3 => ?_)⟩
    dsimp only [ad]
    by_cases c : l' = d ∧ t' = t ∧ k' = i
    · rw [if_pos c, if_neg (by omega), if_pos (by omega), c.2.2]
    · rw [if_neg c]
      by_cases c2 : l' = d ∧ t' = t ∧ k' < i
      · rw [if_pos c2, if_pos (by omega)]
      · rw [if_neg c2, if_neg (by omega)]
