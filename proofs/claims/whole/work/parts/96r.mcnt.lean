-- counting, in the reference
def FJ (S S' : St) : Prop := (∀ a, sK S' a = sK S a) ∧ (∀ a, sL S' a = sL S a) ∧ (∀ a j, sR S' a j = sR S a j) ∧ sn S' = sn S ∧ sm S' = sm S ∧ ∀ a j, sI S' a j = sI S a j
theorem FJ.rfl {S : St} : FJ S S := ⟨fun _ => Eq.refl _, fun _ => Eq.refl _, fun _ _ => Eq.refl _, Eq.refl _, Eq.refl _, fun _ _ => Eq.refl _⟩
theorem FJ.trans {S S1 S2 : St} (h : FJ S S1) (g : FJ S1 S2) : FJ S S2 := ⟨fun a => (g.1 a).trans (h.1 a), fun a => (g.2.1 a).trans (h.2.1 a), fun a j => (g.2.2.1 a j).trans (h.2.2.1 a j), g.2.2.2.1.trans h.2.2.2.1, g.2.2.2.2.1.trans h.2.2.2.2.1, fun a j => (g.2.2.2.2.2 a j).trans (h.2.2.2.2.2 a j)⟩
theorem FJ.st {S S1 : St} (h : FJ S S1) (a j : Nat) (v : Int64) : FJ S (stJ S1 a j v) := ⟨h.1, h.2.1, h.2.2.1, h.2.2.2.1, h.2.2.2.2.1, h.2.2.2.2.2⟩
theorem FJ.fx {S S1 : St} {X : Nat → Prop} (h : FJ S S1) : FX X S S1 := ⟨h.1, h.2.1, h.2.2.1, h.2.2.2.1, h.2.2.2.2.1, fun a j _ => h.2.2.2.2.2 a j⟩
theorem FJ.sh {S S1 : St} (h : FJ S S1) (g : SH S) : SH S1 := FR_SH (h.fx (X := fun _ => True)).fr g
theorem MD.fj {S0 S S1 : St} {al : Nat → Int32} (h : MD S0 al S) (hF : FJ S S1) : MD S0 al S1 := by
  obtain ⟨h1, h2, h3, h4, h5⟩ := h
  have hI := hF.2.2.2.2.2
  exact ⟨hF.sh h1, h2.trans (hF.fx (X := XN)).fr, fun i hi => by rw [hI]; exact h3 i hi, fun i hi => by rw [hI]; exact h4 i hi, fun j => by rw [hI]; exact h5 j⟩
theorem jget {S : St} {a j : Nat} {v : Int64} : sJ (stJ S a j v) a j = v := by rw [sJ_stJ, if_pos ⟨rfl, rfl⟩]
theorem jne {S : St} {a j c k : Nat} {v : Int64} (h : c ≠ a ∨ k ≠ j) : sJ (stJ S a j v) c k = sJ S c k := by rw [sJ_stJ, if_neg (by omega)]
def lst (x : Int64) : Int64 := if 0 ≤ lg_cmp x 2000000 then 2000000 else x
theorem least_m (x : Int64) (S : St) : fX12_least x S = some (lst x, S) := by
  apply Rn.eq
  unfold fX12_least lst
  exact w_br (fun u => w_rt ⟨by rw [if_pos u], rfl⟩) (fun u => w_rt ⟨by rw [if_neg u], rfl⟩)
theorem lst_of {x : Nat} (h : x < 2 ^ 62) : lst (Int64.ofNat x) = Int64.ofNat (min 2000000 x) := by
  unfold lst
  rw [show (2000000 : Int64) = Int64.ofNat 2000000 from rfl]
  by_cases c : 2000000 ≤ x
  · rw [if_pos ((cmp_ge (by omega) (by omega)).mpr c), Nat.min_eq_left c]
  · rw [if_neg (fun z => c ((cmp_ge (by omega) (by omega)).mp z)), Nat.min_eq_right (by omega)]
def hI (h : Nat) : Int32 := if h = 4 then -1 else Int32.ofNat h
/-- the cell of a slot -/
def cA (h : Nat) : Nat := if h = 4 then 35 else 36
def cI (l t h : Nat) : Nat := if h = 4 then 6 * l + t else 24 * l + 4 * t + h
theorem hI_0 {h : Nat} (h5 : h < 5) : 0 ≤ hI h ↔ h ≠ 4 := by
  unfold hI
  by_cases c : h = 4
  · rw [if_pos c]; exact ⟨fun z => absurd z (by decide), fun z => absurd c z⟩
  · rw [if_neg c]; exact ⟨fun _ => c, fun _ => ofNat_nonneg (by omega)⟩
theorem sews_m {S : St} {l t h : Nat} (x : Int64) (hS : SH S) (hl : l < 7) (ht : t < 6) (h5 : h < 5) (hh : sI S 37 l = hI h) : fX12_sews 32 (Int32.ofNat l) (Int32.ofNat t) x S = some ((), stJ S (cA h) (cI l t h) (lst (sJ S (cA h) (cI l t h) + x))) := by
  apply Rn.eq
  unfold fX12_sews cA cI
  refine w_gR (SH_K32 hS) (SH_R32_12 hS) (w_nn (w_aIe (SH_K37 hS) rfl (SH_L37 hS) (by omega) hh (w_br (fun u => ?_) (fun u => ?_))))
  · have u := (hI_0 h5).mp u
    rw [if_neg u, if_neg u]
    have e : hI h = Int32.ofNat h := by rw [hI, if_neg u]
    have ix : 24 * Int32.ofNat l + 4 * Int32.ofNat t + Int32.ofNat h = Int32.ofNat (24 * l + 4 * t + h) := by
      rw [show (24 : Int32) = Int32.ofNat 24 from rfl, show (4 : Int32) = Int32.ofNat 4 from rfl, mul_of, mul_of, add_of, add_of]
    refine w_gR (SH_K32 hS) (SH_R32_11 hS) (w_gR (SH_K32 hS) (SH_R32_12 hS) (w_nn (w_aIe (SH_K37 hS) rfl (SH_L37 hS) (by omega) hh (w_gR (SH_K32 hS) (SH_R32_11 hS) (w_gR (SH_K32 hS) (SH_R32_12 hS) (w_nn (w_aIe (SH_K37 hS) rfl (SH_L37 hS) (by omega) hh (w_nn ?_))))))))
    rw [e, ix]
    exact w_aJ (SH_K36 hS) rfl (SH_L36 hS) (by omega) (w_cl (least_m _ S) (w_nn (w_wJ (SH_K36 hS) rfl (SH_L36 hS) (by omega) (w_rt ⟨rfl, rfl⟩))))
  · have u : h = 4 := by
      rcases Nat.lt_or_ge h 4 with z | z
      · exact absurd ((hI_0 h5).mpr (by omega)) u
      · omega
    rw [if_pos u, if_pos u]
    have ix : 6 * Int32.ofNat l + Int32.ofNat t = Int32.ofNat (6 * l + t) := by
      rw [show (6 : Int32) = Int32.ofNat 6 from rfl, mul_of, add_of]
    refine w_gR (SH_K32 hS) (SH_R32_10 hS) (w_gR (SH_K32 hS) (SH_R32_10 hS) (w_nn ?_))
    rw [ix]
    exact w_aJ (SH_K35 hS) rfl (SH_L35 hS) (by omega) (w_cl (least_m _ S) (w_nn (w_wJ (SH_K35 hS) rfl (SH_L35 hS) (by omega) (w_rt ⟨rfl, rfl⟩))))
/-- the reference's arrays -/
def AM (L : Nat) (S : St) (g : CT) : Prop := ∀ l t k, l ≤ L → t < 6 → k < 5 → sJ S (cA k) (cI l t k) = Int64.ofNat (min 2000000 (g l t k))
theorem AM.cg {L : Nat} {S : St} {g g' : CT} (h : AM L S g) (e : ∀ l t k, l ≤ L → t < 6 → k < 5 → g l t k = g' l t k) : AM L S g' := fun l t k h1 h2 h3 => by rw [← e l t k h1 h2 h3]; exact h l t k h1 h2 h3
theorem c_ne {l t k l' t' k' : Nat} (ht : t < 6) (hk : k < 5) (ht' : t' < 6) (hk' : k' < 5) (h : ¬ (l' = l ∧ t' = t ∧ k' = k)) : cA k' ≠ cA k ∨ cI l' t' k' ≠ cI l t k := by
  unfold cA cI
  by_cases c : k = 4
  · by_cases c' : k' = 4
    · rw [if_pos c, if_pos c', if_pos c, if_pos c']; omega
    · rw [if_pos c, if_neg c']; exact Or.inl (by decide)
  · by_cases c' : k' = 4
    · rw [if_neg c, if_pos c']; exact Or.inl (by decide)
    · rw [if_neg c, if_neg c', if_neg c, if_neg c']; omega
theorem AM.st {L l t k z : Nat} {S : St} {g : CT} {v : Int64} (h : AM L S g) (ht : t < 6) (hk : k < 5) (e : v = Int64.ofNat (min 2000000 (g l t k + z))) : AM L (stJ S (cA k) (cI l t k) v) (ad g l t k z) := by
  intro l' t' k' h1 h2 h3
  unfold ad
  by_cases c : l' = l ∧ t' = t ∧ k' = k
  · rw [if_pos c, c.1, c.2.1, c.2.2, jget, e]
  · rw [if_neg c, jne (c_ne ht hk h2 h3 c)]; exact h l' t' k' h1 h2 h3
