theorem closeall_x {S : St} {g : CT} {d h H hd r : Nat} (hS : SH S) (hA : A12 (d + 1) S g) (hd6 : d < 6) (hD : sI S 10 1 = Int32.ofNat (d + 1)) (hr : sI S 14 (d + 1) = Int32.ofNat r) (hr1 : 1 ≤ r) (hr2 : r ≤ 9999) (hh : sI S 13 d = Int32.ofNat h) (hh5 : h < 5) (hhd : sI S 13 (d + 1) = Int32.ofNat hd) (hhd5 : hd < 5) (hH : H = if hd = 4 then h else hd) : Rn (itr (fun k (p : Nat × Int32) => fX6_close_16 k p.1 p.2) FU (10, 0) S) (fun _ S' => FC (fun a j => (a = 10 ∧ j = 1) ∨ a = 12 ∨ a = 13) S S' ∧ A12 (d + 1) S' (clG g d h H r) ∧ sI S' 10 1 = Int32.ofNat d ∧ ∀ l, sI S' 13 l = if hd ≠ 4 ∧ l = d then Int32.ofNat hd else sI S 13 l) := by
  refine w_for (mk := fun (_ : Unit) i => ((10 : Nat), i)) (a := ()) 0 6 (fun t _ S' => SH S' ∧ FC X12 S S' ∧ A12 (d + 1) S' (fun l' t' k' => if t' < t then clG g d h H r l' t' k' else g l' t' k')) (by omega) (by omega) ⟨hS, FC.rfl, hA.cg (fun l' t' k' _ _ _ => by rw [if_neg (by omega)])⟩ ?_ ?_
  · rintro k _ S1 ⟨g1, g2, g3⟩ _
    dsimp only [fX6_close_16]
    have i1 : sI S1 10 1 = Int32.ofNat (d + 1) := by rw [g2.i (by unfold X12; omega)]; exact hD
    have i3 : sI S1 13 (d + 1) = Int32.ofNat hd := by rw [g2.i (by unfold X12; omega)]; exact hhd
    have e1 : Int32.ofNat (d + 1) - 1 = Int32.ofNat d := by rw [show (1 : Int32) = Int32.ofNat 1 from rfl, sub_of (by omega)]; rfl
    have f1 : FC (fun a j => (a = 10 ∧ j = 1) ∨ a = 12 ∨ a = 13) S S1 := g2.mono (fun a j (z : a = 12) => Or.inr (Or.inl z))
    have A1 : A12 (d + 1) S1 (clG g d h H r) := g3.cg (fun l' t' k' q1 q2 q3 => by rw [if_pos q2])
    refine w_bt (by decide) (w_gR (SH_K10 g1) (SH_R10_3 g1) (w_gIe (SH_K10 g1) i1 (w_nn (w_aIe (SH_K13 g1) rfl (SH_L13 g1) (by omega) i3 (w_br (fun u => ?_) (fun u => ?_))))))
    · rw [show (4 : Int32) = Int32.ofNat 4 from rfl, eq_ofNat (by omega) (by omega)] at u
      dsimp only [fX6_close_66]
      refine w_gIe (SH_K10 g1) i1 (w_pI (SH_K10 g1) (w_rt ⟨f1.st _ (Or.inl ⟨rfl, rfl⟩), ?_, ?_, fun l => ?_⟩))
      · intro l t k q1 q2 q3
        rw [st_ne (Or.inl (by decide))]; exact A1 l t k q1 q2 q3
      · rw [st_get, e1]
      · rw [st_ne (Or.inl (by decide)), if_neg (fun z => z.1 u), g2.i (by unfold X12; omega)]
    · rw [show (4 : Int32) = Int32.ofNat 4 from rfl, eq_ofNat (by omega) (by omega)] at u
      refine w_gR (SH_K10 g1) (SH_R10_3 g1) (w_gIe (SH_K10 g1) i1 (w_gR (SH_K10 g1) (SH_R10_3 g1) (w_gIe (SH_K10 g1) i1 (w_nn (w_aIe (SH_K13 g1) rfl (SH_L13 g1) (by omega) i3 (w_nn ?_))))))
      rw [e1]
      have s2 : SH (stI S1 13 d (Int32.ofNat hd)) := (FC.rfl.st (X := fun _ _ => True) (S := S1) _ trivial).sh g1
      refine w_wI (SH_K13 g1) rfl (SH_L13 g1) (by omega) ?_
      dsimp only [fX6_close_66]
      refine w_gIe (SH_K10 s2) (v := Int32.ofNat (d + 1)) (by rw [st_ne (Or.inl (by decide))]; exact i1) (w_pI (SH_K10 s2) (w_rt ⟨(f1.st _ (Or.inr (Or.inr rfl))).st _ (Or.inl ⟨rfl, rfl⟩), ?_, ?_, fun l => ?_⟩))
      · intro l t k q1 q2 q3
        rw [st_ne (Or.inl (by decide)), st_ne (Or.inl (by decide))]; exact A1 l t k q1 q2 q3
      · rw [st_get, e1]
      · rw [st_ne (Or.inl (by decide))]
        by_cases e : l = d
        · rw [if_pos ⟨u, e⟩, e, st_get]
        · rw [if_neg (fun z => e z.2), st_ne (Or.inr e), g2.i (by unfold X12; omega)]
  · rintro i _ hi k _ S1 ⟨g1, g2, g3⟩ hn hk
    dsimp only [fX6_close_16]
    refine w_bf hn (w_ck (SH_K10 g1) (w_clr (closeStitch_x (h := h) (H := H) (hd := hd) (r := r) g1 g3 hd6 hi (by rw [g2.i (by unfold X12; omega)]; exact hD) (by rw [g2.i (by unfold X12; omega)]; exact hr) hr1 hr2 (by rw [g2.i (by unfold X12; omega)]; exact hh) hh5 (by rw [g2.i (by unfold X12; omega)]; exact hhd) hhd5 hH) ?_))
    rintro _ S2 ⟨f2, A2⟩
    refine hk () S2 ⟨f2.sh g1, g2.trans f2, A2.cg (fun l' t' k' q1 q2 q3 => ?_)⟩
    by_cases c : t' = i
    · subst c
      rw [if_pos rfl, if_pos (by omega)]
      simp only [clG, Nat.lt_irrefl, if_false]
    · rw [if_neg c]
      by_cases c2 : t' < i
      · rw [if_pos c2, if_pos (by omega)]
      · rw [if_neg c2, if_neg (by omega)]
theorem close_x {S : St} {b : Nat → Nat} {n c d F : Nat} {P : Int32} {g : CT} {hu re : Nat → Nat} (h : CIp S b n c (d + 1) F P g hu re) : Rn (fX6_close 10 S) (fun _ S' => FC (fun a j => (a = 10 ∧ j = 1) ∨ a = 12 ∨ a = 13) S S' ∧ sI S' 10 1 = Int32.ofNat d ∧ (F = 0 → CA S' d (clG g d (hu d) (clH hu d) (re (d + 1))) (if hu (d + 1) = 4 then hu else up hu d (hu (d + 1))) re)) := by
  obtain ⟨hd, hc, ht, hDc, h1, h3, hF4, h4, hA⟩ := h
  have hS := hd.1
  have h400 := hd.2.2.2.2.1
  have e1 : Int32.ofNat (d + 1) - 1 = Int32.ofNat d := by rw [show (1 : Int32) = Int32.ofNat 1 from rfl, sub_of (by omega)]; rfl
  unfold fX6_close
  refine w_ck (SH_K10 hS) (w_cl (counting_x hS h1 h3 hF4 (by omega)) (w_z (fun u => ?_) (fun u => ?_)))
  · have u := of_decide_eq_true u
    obtain ⟨a1, a2, a3, a4⟩ := hA u.1
    obtain ⟨b1, b2⟩ := a3 d (by omega)
    obtain ⟨b3, b4⟩ := a3 (d + 1) (by omega)
    obtain ⟨b5, b6, b7⟩ := a4 (d + 1) (by omega) (by omega)
    refine w_gIe (SH_K10 hS) h1 (w_bf ?_ (Rn.mono (closeall_x (H := clH hu d) hS a2 (by omega) h1 b5 b6 b7 b1 b2 b3 b4 rfl) ?_))
    · rw [show (0 : Int32) = Int32.ofNat 0 from rfl, le_ofNat (by omega) (by omega)]; omega
    · rintro _ S1 ⟨f1, A1, g1, g13⟩
      refine ⟨f1, g1, fun _ => ⟨by omega, fun l t k q1 q2 q3 => A1 l t k (by omega) q2 q3, fun l hl => ?_, fun l q1 q2 => by rw [f1.i (by omega)]; exact a4 l q1 (by omega)⟩⟩
      rw [g13]
      by_cases e : hu (d + 1) = 4
      · rw [if_pos e, if_neg (fun z => z.1 e)]; exact a3 l (by omega)
      · rw [if_neg e]
        unfold up
        by_cases e2 : l = d
        · rw [if_pos ⟨e, e2⟩, if_pos e2]; exact ⟨rfl, b4⟩
        · rw [if_neg (fun z => e2 z.2), if_neg e2]; exact a3 l (by omega)
  · have u := of_decide_eq_false u
    have hF0 : F ≠ 0 := fun z => u ⟨z, (hA z).1⟩
    dsimp only [fX6_close_66]
    exact w_gIe (SH_K10 hS) h1 (w_pI (SH_K10 hS) (w_rt ⟨FC.rfl.st _ (Or.inl ⟨rfl, rfl⟩), by rw [st_get, e1], fun z => absurd z hF0⟩))
theorem item_x {S : St} {b : Nat → Nat} {n c D F : Nat} {P : Int32} {g : CT} {hu re : Nat → Nat} (h : CIp S b n c D F P g hu re) : Rn (fX6_readItem 10 S) (fun r S' => r = (item b n c D F P g hu re).1 ∧ FC XP S S' ∧ PC S' b n (item b n c D F P g hu re)) := by
  obtain ⟨hd, hc, ht, hDc, h1, h3, hF4, h4, hA⟩ := id h
  have hS := hd.1
  have h400 := hd.2.2.2.2.1
  have hk := tK_le b n c
  have hb := hd.2.2.2.2.2.1 (tP b n c)
  have hn := tN_b (b := b) hc
  have hp := tP_b (b := b) hc
  unfold fX6_readItem
  refine w_gR (SH_K10 hS) (SH_R10_0 hS) (w_nn (w_ck (SH_K11 hS) (w_cl (letter_x hd ht hc) ?_)))
  have hfail : (item b n c D F P g hu re) = (false, (c, D, 1, Int32.ofNat (tP b n c), g, hu, re)) → Rn (fX6_readItem_88 10 S) (fun r S' => r = (item b n c D F P g hu re).1 ∧ FC XP S S' ∧ PC S' b n (item b n c D F P g hu re)) := by
    intro e
    rw [e]
    dsimp only [fX6_readItem_88]
    refine w_gR (SH_K10 hS) (SH_R10_0 hS) (w_nn (w_ck (SH_K11 hS) (w_clr (fail_x hd ht) ?_)))
    rintro r S2 ⟨rfl, f2, d2, n3, n4⟩
    have f2 : FC NX S S2 := f2
    exact w_rb ⟨rfl, f2.mono (fun a j z => z.xp), PC_f d2 n3 n4⟩
  have h40 : ¬ (oneL b n c ∧ b (tP b n c) = 107) → ¬ (oneL b n c ∧ 97 ≤ b (tP b n c) ∧ b (tP b n c) ≤ 102) → Rn (fX6_readItem_40 10 S) (fun r S' => r = (item b n c D F P g hu re).1 ∧ FC XP S S' ∧ PC S' b n (item b n c D F P g hu re)) := by
    intro n1 n2
    dsimp only [fX6_readItem_40]
    refine w_gR (SH_K10 hS) (SH_R10_0 hS) (w_nn (w_gIe (SH_K11 hS) ht.1 (w_br (fun u => ?_) (fun u => ?_))))
    · rw [show (2 : Int32) = Int32.ofNat 2 from rfl, eq_ofNat (by omega) (by omega)] at u
      have e : item b n c D F P g hu re = opnI b n c D F P g hu re := by rw [item, if_neg n1, if_neg n2, if_pos u]
      rw [e]
      refine w_ck (SH_K10 hS) (w_clr (opn_x h) ?_)
      rintro r S1 hq
      exact w_rb hq
    · rw [show (2 : Int32) = Int32.ofNat 2 from rfl, eq_ofNat (by omega) (by omega)] at u
      refine w_gR (SH_K10 hS) (SH_R10_0 hS) (w_nn (w_ck (SH_K11 hS) (w_cl (isSign_x (y := 93) hd ht hc (by decide)) (w_z (fun v => ?_) (fun v => ?_)))))
      · have v := of_decide_eq_true v
        refine w_gIe (SH_K10 hS) h1 (w_br (fun w => hfail ?_) (fun w => ?_))
        · rw [show (0 : Int32) = Int32.ofNat 0 from rfl, le_ofNat (by omega) (by omega)] at w
          rw [item, if_neg n1, if_neg n2, if_neg u, if_neg (fun z => by omega)]
        · rw [show (0 : Int32) = Int32.ofNat 0 from rfl, le_ofNat (by omega) (by omega)] at w
          have hlt := tK_lt (b := b) (n := n) (c := c) (by rw [v.1]; decide)
          have e : item b n c D F P g hu re = clsI b n c (D - 1) F P g hu re := by rw [item, if_neg n1, if_neg n2, if_neg u, if_pos ⟨v, by omega⟩]
          rw [e]
          obtain ⟨d, rfl⟩ : ∃ d, D = d + 1 := ⟨D - 1, by omega⟩
          rw [show d + 1 - 1 = d by omega]
          refine w_ck (SH_K10 hS) (w_clr (close_x h) ?_)
          rintro _ S1 ⟨f1, g1, A1⟩
          have fx : FC XP S S1 := f1.mono (fun a j z => by unfold XP; omega)
          refine Rn.mono (fin_x (P := P) fx (hd.xp fx) hc (ht.fc f1 (fun j => by omega)) (by omega) g1 (by rw [f1.i (by omega)]; exact h3) hF4 (by rw [f1.i (by omega)]; exact h4) A1) ?_
          rintro r S2 ⟨q1, q2, q3⟩
          exact ⟨q1, q2, PC_t q3⟩
      · have v := of_decide_eq_false v
        exact hfail (by rw [item, if_neg n1, if_neg n2, if_neg u, if_neg (fun z => v z.1)])
  by_cases o : oneL b n c
  · rw [if_pos o]
    refine w_br (fun u => ?_) (fun u => w_br (fun v => ?_) (fun v => w_br (fun w => ?_) (fun w => ?_)))
    · rw [show (107 : Int32) = Int32.ofNat 107 from rfl, eq_ofNat (by omega) (by omega)] at u
      have e : item b n c D F P g hu re = colI b n c D F P g hu re := by rw [item, if_pos ⟨o, u⟩]
      rw [e]
      refine w_ck (SH_K10 hS) (w_clr (col_x h) ?_)
      rintro r S1 hq
      exact w_rb hq
    · rw [show (107 : Int32) = Int32.ofNat 107 from rfl, eq_ofNat (by omega) (by omega)] at u
      rw [show (97 : Int32) = Int32.ofNat 97 from rfl, lt_ofNat (by omega) (by omega)] at v
      exact h40 (fun z => u z.2) (fun z => by omega)
    · rw [show (107 : Int32) = Int32.ofNat 107 from rfl, eq_ofNat (by omega) (by omega)] at u
      rw [show (102 : Int32) = Int32.ofNat 102 from rfl, lt_ofNat (by omega) (by omega)] at w
      exact h40 (fun z => u z.2) (fun z => by omega)
    · rw [show (107 : Int32) = Int32.ofNat 107 from rfl, eq_ofNat (by omega) (by omega)] at u
      rw [show (97 : Int32) = Int32.ofNat 97 from rfl, lt_ofNat (by omega) (by omega)] at v
      rw [show (102 : Int32) = Int32.ofNat 102 from rfl, lt_ofNat (by omega) (by omega)] at w
      have e : item b n c D F P g hu re = stiI (b (tP b n c) - 97) b n c D F P g hu re := by rw [item, if_neg (fun z => u z.2), if_pos ⟨o, by omega, by omega⟩]
      rw [e, show (97 : Int32) = Int32.ofNat 97 from rfl, sub_of (by omega)]
      refine w_ck (SH_K10 hS) (w_clr (sti_x h (by omega)) ?_)
      rintro r S1 hq
      exact w_rb hq
  · rw [if_neg o]
    exact w_bf (by decide) (w_bt (by decide) (h40 (fun z => o z.1) (fun z => o z.1)))
