-- a pattern's items
abbrev PS := Nat × Nat × Nat × Int32 × CT × (Nat → Nat) × (Nat → Nat)
def ntF (F f : Nat) : Nat := if F = 0 then f else F
def ntP (F : Nat) (P q : Int32) : Int32 := if F = 0 then q else P
def up (f : Nat → Nat) (i v : Nat) : Nat → Nat := fun j => if j = i then v else f j
def clr (g : CT) (l : Nat) : CT := fun l' t k => if l' = l then 0 else g l' t k
abbrev isS (b : Nat → Nat) (n c x : Nat) : Prop := tK b n c = 3 ∧ b (tP b n c) = x
abbrev oneL (b : Nat → Nat) (n c : Nat) : Prop := tK b n c = 1 ∧ tN b n c - tP b n c = 1
def colI (b : Nat → Nat) (n c D F : Nat) (P : Int32) (g : CT) (hu re : Nat → Nat) : Bool × PS := if tK b n (tN b n c) = 2 then (true, (tN b n (tN b n c), D, (if tV b n (tN b n c) ≤ 3 then F else ntF F 2), (if tV b n (tN b n c) ≤ 3 then P else ntP F P (Int32.ofNat (tP b n (tN b n c)))), g, up hu D (tV b n (tN b n c)), re)) else (false, (c, D, 1, Int32.ofNat (tP b n (tN b n c)), g, hu, re))
def stiI (t : Nat) (b : Nat → Nat) (n c D F : Nat) (P : Int32) (g : CT) (hu re : Nat → Nat) : Bool × PS := if tK b n (tN b n c) = 2 then (true, (tN b n (tN b n c), D, F, P, ad g D t (hu D) (tV b n (tN b n c)), hu, re)) else (false, (c, D, 1, Int32.ofNat (tP b n (tN b n c)), g, hu, re))
def oF (b : Nat → Nat) (n c F : Nat) : Nat := if tV b n c = 0 then ntF F 2 else F
def oP (b : Nat → Nat) (n c F : Nat) (P : Int32) : Int32 := if tV b n c = 0 then ntP F P (Int32.ofNat (tP b n c)) else P
def opnI (b : Nat → Nat) (n c D F : Nat) (P : Int32) (g : CT) (hu re : Nat → Nat) : Bool × PS := if isS b n (tN b n c) 91 then (true, (tN b n (tN b n c), D + 1, (if D + 1 < 7 then oF b n c F else ntF (oF b n c F) 3), (if D + 1 < 7 then oP b n c F P else ntP (oF b n c F) (oP b n c F P) (Int32.ofNat (tP b n (tN b n c)))), clr g (D + 1), up hu (D + 1) 4, up re (D + 1) (tV b n c))) else (false, (c, D, 1, Int32.ofNat (tP b n (tN b n c)), g, hu, re))
def clH (hu : Nat → Nat) (d : Nat) : Nat := if hu (d + 1) = 4 then hu d else hu (d + 1)
def clsI (b : Nat → Nat) (n c d F : Nat) (P : Int32) (g : CT) (hu re : Nat → Nat) : Bool × PS := (true, (tN b n c, d, F, P, clG g d (hu d) (clH hu d) (re (d + 1)), (if hu (d + 1) = 4 then hu else up hu d (hu (d + 1))), re))
def item (b : Nat → Nat) (n c D F : Nat) (P : Int32) (g : CT) (hu re : Nat → Nat) : Bool × PS := if oneL b n c ∧ b (tP b n c) = 107 then colI b n c D F P g hu re else if oneL b n c ∧ 97 ≤ b (tP b n c) ∧ b (tP b n c) ≤ 102 then stiI (b (tP b n c) - 97) b n c D F P g hu re else if tK b n c = 2 then opnI b n c D F P g hu re else if isS b n c 93 ∧ 0 < D then clsI b n c (D - 1) F P g hu re else (false, (c, D, 1, Int32.ofNat (tP b n c), g, hu, re))
def CA (S : St) (D : Nat) (g : CT) (hu re : Nat → Nat) : Prop := D ≤ 6 ∧ A12 D S g ∧ (∀ l, l ≤ D → sI S 13 l = Int32.ofNat (hu l) ∧ hu l < 5) ∧ ∀ l, 1 ≤ l → l ≤ D → sI S 14 l = Int32.ofNat (re l) ∧ 1 ≤ re l ∧ re l ≤ 9999
def CIp (S : St) (b : Nat → Nat) (n c D F : Nat) (P : Int32) (g : CT) (hu re : Nat → Nat) : Prop := RD S 11 b n ∧ c ≤ n ∧ RT S 11 b n c ∧ D ≤ c ∧ sI S 10 1 = Int32.ofNat D ∧ sI S 11 3 = Int32.ofNat F ∧ F ≤ 4 ∧ sI S 11 4 = P ∧ (F = 0 → CA S D g hu re)
def XP (a j : Nat) : Prop := 10 ≤ a ∧ a ≤ 14 ∧ (a = 11 → j ≠ 6)
theorem XP.tx {a j : Nat} (h : TX 11 a j) : XP a j := by have := h.1; have := h.2; unfold XP; omega
theorem RD.xp {S S1 : St} {n : Nat} {b : Nat → Nat} (h : RD S 11 b n) (hF : FC XP S S1) : RD S1 11 b n := h.fc hF (fun z => z.2.2 rfl rfl) (fun i z => by have := z.1; omega)
/-- what an item leaves -/
def PC (S : St) (b : Nat → Nat) (n : Nat) (r : Bool × PS) : Prop := (r.1 = true → CIp S b n r.2.1 r.2.2.1 r.2.2.2.1 r.2.2.2.2.1 r.2.2.2.2.2.1 r.2.2.2.2.2.2.1 r.2.2.2.2.2.2.2) ∧ (r.1 = false → RD S 11 b n ∧ sI S 11 3 = 1 ∧ sI S 11 4 = r.2.2.2.2.1 ∧ r.2.2.2.1 = 1)
theorem tK_le (b : Nat → Nat) (n c : Nat) : tK b n c ≤ 4 := by
  unfold tK
  exact ite_b (fun _ => by omega) (fun _ => ite_b (fun _ => by omega) (fun _ => ite_b (fun _ => ite_b (fun _ => by omega) (fun _ => by omega)) (fun _ => ite_b (fun _ => by omega) (fun _ => by omega))))
theorem tK_lt {b : Nat → Nat} {n c : Nat} (h : tK b n c ≠ 0) : tP b n c < n := by
  rcases Nat.lt_or_ge (tP b n c) n with z | z
  · exact z
  · exact absurd (by unfold tK; rw [if_pos z]) h
theorem tK_1 {b : Nat → Nat} {n c : Nat} (h : tK b n c = 1) : leB (b (tP b n c)) = true := by
  have := tK_lt (b := b) (n := n) (c := c) (by omega)
  unfold tK at h
  rw [if_neg (by omega)] at h
  by_cases l : leB (b (tP b n c)) = true
  · exact l
  · exfalso
    rw [if_neg l] at h
    revert h
    repeat' split
    all_goals omega
theorem cb_eq {x y : Nat} (hx : x < 256) (hy : y < 128) : cbI x = Int32.ofNat y ↔ x = y := by
  have h := (cb_all x hx).2.2.2
  by_cases c : x < 128
  · rw [h.1 c, eq_ofNat (by omega) (by omega)]
  · have h2 := h.2 (by omega)
    exact ⟨fun z => absurd h2 (by rw [z]; exact nonneg_lt (by omega)), fun z => by omega⟩
theorem isSign_x {S : St} {r n c y : Nat} {b : Nat → Nat} (h : RD S r b n) (t : RT S r b n c) (hc : c ≤ n) (hy : y < 128) : fX8_isSign r (Int32.ofNat y) S = some (decide (isS b n c y), S) := by
  apply Rn.eq
  have h400 := h.2.2.2.2.1
  have hk := tK_le b n c
  have hp := tP_b (b := b) hc
  unfold fX8_isSign
  refine w_gIe h.k t.1 (w_br (fun u => ?_) (fun u => w_r0 ⟨?_, rfl⟩))
  · rw [show (3 : Int32) = Int32.ofNat 3 from rfl, eq_ofNat (by omega) (by omega)] at u
    have hl := tK_lt (b := b) (n := n) (c := c) (by omega)
    refine w_gIe h.k t.2.2.1 (w_ck h.k (w_byte h rfl hl (w_br (fun v => w_r1 ⟨?_, rfl⟩) (fun v => w_r0 ⟨?_, rfl⟩))))
    · exact (decide_eq_true ⟨u, (cb_eq (h.2.2.2.2.2.1 _) hy).mp v⟩).symm
    · exact (decide_eq_false (fun z => v ((cb_eq (h.2.2.2.2.2.1 _) hy).mpr z.2))).symm
  · rw [show (3 : Int32) = Int32.ofNat 3 from rfl, eq_ofNat (by omega) (by omega)] at u
    exact (decide_eq_false (fun z => u z.1)).symm
theorem letter_x {S : St} {r n c : Nat} {b : Nat → Nat} (h : RD S r b n) (t : RT S r b n c) (hc : c ≤ n) : fX8_onlyLetter r S = some (if oneL b n c then Int32.ofNat (b (tP b n c)) else -1, S) := by
  apply Rn.eq
  have h400 := h.2.2.2.2.1
  have hk := tK_le b n c
  have hp := tP_b (b := b) hc
  have hn := tN_b (b := b) hc
  unfold fX8_onlyLetter
  refine w_gIe h.k t.1 (w_br (fun u => ?_) (fun u => w_rt ⟨?_, rfl⟩))
  · rw [show (1 : Int32) = Int32.ofNat 1 from rfl, eq_ofNat (by omega) (by omega)] at u
    have hl := tK_lt (b := b) (n := n) (c := c) (by omega)
    refine w_gIe h.k t.2.2.2 (w_gIe h.k t.2.2.1 ?_)
    rw [sub_of hn.1]
    refine w_br (fun v => ?_) (fun v => w_rt ⟨?_, rfl⟩)
    · rw [show (1 : Int32) = Int32.ofNat 1 from rfl, eq_ofNat (by omega) (by omega)] at v
      refine w_gIe h.k t.2.2.1 (w_ck h.k (w_byte h rfl hl (w_rt ⟨?_, rfl⟩)))
      have := le_bd (tK_1 u)
      rw [if_pos ⟨u, v⟩, (cb_all _ (h.2.2.2.2.2.1 _)).2.2.2.1 (by omega)]
    · rw [show (1 : Int32) = Int32.ofNat 1 from rfl, eq_ofNat (by omega) (by omega)] at v
      rw [if_neg (fun z => v z.2)]
  · rw [show (1 : Int32) = Int32.ofNat 1 from rfl, eq_ofNat (by omega) (by omega)] at u
    rw [if_neg (fun z => u z.1)]
theorem note_x {S : St} {n F f : Nat} {b : Nat → Nat} {P q : Int32} (h : RD S 11 b n) (h3 : sI S 11 3 = Int32.ofNat F) (hF : F ≤ 4) (h4 : sI S 11 4 = P) : Rn (fX8_noteFault 11 (Int32.ofNat f) q S) (fun _ S' => FC (fun a j => a = 11 ∧ (j = 3 ∨ j = 4)) S S' ∧ sI S' 11 3 = Int32.ofNat (ntF F f) ∧ sI S' 11 4 = ntP F P q) := by
  unfold fX8_noteFault ntF ntP
  refine w_gIe h.k h3 (w_br (fun u => ?_) (fun u => ?_))
  · rw [show (0 : Int32) = Int32.ofNat 0 from rfl, eq_ofNat (by omega) (by omega)] at u
    have hd := h.st (j := 3) (Int32.ofNat f) (by decide)
    refine w_pI h.k (w_pI hd.k (w_rt ⟨(FC.rfl.st _ ⟨rfl, by decide⟩).st _ ⟨rfl, by decide⟩, ?_, ?_⟩))
    · rw [st_ne (Or.inr (by decide)), st_get, if_pos u]
    · rw [st_get, if_pos u]
  · rw [show (0 : Int32) = Int32.ofNat 0 from rfl, eq_ofNat (by omega) (by omega)] at u
    refine w_rt ⟨FC.rfl, ?_, ?_⟩
    · rw [if_neg u]; exact h3
    · rw [if_neg u]; exact h4
theorem fail_x {S : St} {n c : Nat} {b : Nat → Nat} (h : RD S 11 b n) (t : RT S 11 b n c) : Rn (fX8_failHere 11 S) (fun r S' => r = false ∧ FC (fun a j => a = 11 ∧ (j = 3 ∨ j = 4)) S S' ∧ RD S' 11 b n ∧ sI S' 11 3 = 1 ∧ sI S' 11 4 = Int32.ofNat (tP b n c)) := by
  unfold fX8_failHere
  have hd := h.st (j := 3) 1 (by decide)
  refine w_pI h.k (w_gIe hd.k (v := Int32.ofNat (tP b n c)) (by rw [st_ne (Or.inr (by decide))]; exact t.2.2.1) (w_pI hd.k (w_r0 ⟨rfl, (FC.rfl.st _ ⟨rfl, by decide⟩).st _ ⟨rfl, by decide⟩, hd.st _ (by decide), ?_, st_get⟩)))
  rw [st_ne (Or.inr (by decide)), st_get]
theorem counting_x {S : St} {D F : Nat} (h : SH S) (h1 : sI S 10 1 = Int32.ofNat D) (h3 : sI S 11 3 = Int32.ofNat F) (hF : F ≤ 4) (hD : D ≤ 1000) : fX6_isCounting 10 S = some (decide (F = 0 ∧ D ≤ 6), S) := by
  apply Rn.eq
  unfold fX6_isCounting
  refine w_gR (SH_K10 h) (SH_R10_0 h) (w_nn (w_gIe (SH_K11 h) h3 (w_br (fun u => w_gIe (SH_K10 h) h1 (w_cl (within_eq _ _ _ S) ?_)) (fun u => w_r0 ⟨?_, rfl⟩))))
  · rw [show (0 : Int32) = Int32.ofNat 0 from rfl, eq_ofNat (by omega) (by omega)] at u
    rw [show (0 : Int32) = Int32.ofNat 0 from rfl, show (6 : Int32) = Int32.ofNat 6 from rfl, wi_ofNat (by omega) (by omega) (by omega)]
    refine w_z (fun v => w_r1 ⟨?_, rfl⟩) (fun v => w_r0 ⟨?_, rfl⟩)
    · exact (decide_eq_true ⟨u, (of_decide_eq_true v).2⟩).symm
    · exact (decide_eq_false (fun z => of_decide_eq_false v ⟨Nat.zero_le _, z.2⟩)).symm
  · rw [show (0 : Int32) = Int32.ofNat 0 from rfl, eq_ofNat (by omega) (by omega)] at u
    exact (decide_eq_false (fun z => u z.1)).symm
