def MX (a j : Nat) : Prop := a = 32 ∧ 3 ≤ j ∧ j ≤ 8
def RDm (S : St) (b : Nat → Nat) (n : Nat) : Prop := SH S ∧ sI S 32 2 = Int32.ofNat n ∧ n ≤ 400 ∧ (∀ i, b i < 256) ∧ ∀ i, i < 400 → sI S 33 (7040 + i) = Int32.ofNat (b i)
theorem RDm.k {S : St} {n : Nat} {b : Nat → Nat} (h : RDm S b n) : sK S 32 = 13 := SH_K32 h.1
theorem RDm.fc {S S1 : St} {n : Nat} {b : Nat → Nat} (h : RDm S b n) {X : Nat → Nat → Prop} (hF : FC X S S1) (h6 : ¬ X 32 2) (h2 : ∀ i, ¬ X 33 i) : RDm S1 b n := by
  obtain ⟨k1, k4, k5, k6, k7⟩ := h
  exact ⟨hF.sh k1, by rw [hF.i h6]; exact k4, k5, k6, fun i hi => by rw [hF.i (h2 _)]; exact k7 i hi⟩
theorem RDm.mx {S S1 : St} {n : Nat} {b : Nat → Nat} (h : RDm S b n) (hF : FC MX S S1) : RDm S1 b n := h.fc hF (fun z => by have := z.2; omega) (fun i z => by have := z.1; omega)
theorem RDm.st {S : St} {n j : Nat} {b : Nat → Nat} (h : RDm S b n) (v : Int32) (hj : 3 ≤ j ∧ j ≤ 8) : RDm (stI S 32 j v) b n := h.mx (FC.rfl.st v ⟨rfl, hj⟩)
theorem MD.mx {S0 S S1 : St} {al : Nat → Int32} (h : MD S0 al S) (hF : FC MX S S1) : MD S0 al S1 := by
  obtain ⟨h1, h2, h3, h4, h5⟩ := h
  refine ⟨hF.sh h1, h2.trans (hF.fx (Y := XN) (fun a j z => by have := z.1; unfold XN; omega)).fr, fun i hi => by rw [hF.i (fun z => by have := z.1; omega)]; exact h3 i hi, fun i hi => by rw [hF.i (fun z => by have := z.1; omega)]; exact h4 i hi, fun j => by rw [hF.i (fun z => by have := z.1; omega)]; exact h5 j⟩
def mB (b : Nat → Nat) (n p : Nat) : Int32 := if p < n then Int32.ofNat (b p) else -1
theorem byte_m {S : St} {n p : Nat} {b : Nat → Nat} (h : RDm S b n) (hp : p ≤ 1000) : fX12_byteAt 32 (Int32.ofNat p) S = some (mB b n p, S) := by
  obtain ⟨h1, h2, h3, h4, h5⟩ := id h
  apply Rn.eq
  unfold fX12_byteAt mB
  refine w_gIe h.k h2 (w_br (fun c => w_rt ⟨?_, rfl⟩) (fun c => ?_))
  · rw [le_ofNat (by omega) (by omega)] at c
    rw [if_neg (by omega)]
  · rw [le_ofNat (by omega) (by omega)] at c
    refine w_gR h.k (SH_R32_0 h1) (w_nn (w_aIe (n := 7040 + p) (SH_K33 h1) ?_ (SH_L33 h1) (by omega) (h5 p (by omega)) (w_rt ⟨by rw [if_pos (by omega)], rfl⟩)))
    rw [show (7040 : Int32) = Int32.ofNat 7040 from rfl, add_of]
theorem mB_neg : (¬ (-1 : Int32) < 97 ∧ ¬ (122 : Int32) < -1) = False ∧ (¬ (-1 : Int32) < 48 ∧ ¬ (57 : Int32) < -1) = False := by decide
theorem le_m {b : Nat → Nat} {n p : Nat} (hb : b p < 256) : decide (¬ mB b n p < 97 ∧ ¬ 122 < mB b n p) = decide (p < n ∧ leB (b p) = true) := by
  unfold mB
  by_cases c : p < n
  · rw [if_pos c]
    exact decide_eq_decide.mpr ⟨fun z => ⟨c, (of_all _ hb).1.mp z⟩, fun z => (of_all _ hb).1.mpr z.2⟩
  · rw [if_neg c]
    exact decide_eq_decide.mpr ⟨fun z => absurd z (by decide), fun z => absurd z.1 c⟩
theorem di_m {b : Nat → Nat} {n p : Nat} (hb : b p < 256) : decide (¬ mB b n p < 48 ∧ ¬ 57 < mB b n p) = decide (p < n ∧ diB (b p) = true) := by
  unfold mB
  by_cases c : p < n
  · rw [if_pos c]
    exact decide_eq_decide.mpr ⟨fun z => ⟨c, (of_all _ hb).2.1.mp z⟩, fun z => (of_all _ hb).2.1.mpr z.2⟩
  · rw [if_neg c]
    exact decide_eq_decide.mpr ⟨fun z => absurd z (by decide), fun z => absurd z.1 c⟩
def rW (b : Nat → Nat) (q l : Nat) : Nat := if l ≤ 6 then wO (wvF b q l) else 99
theorem ite_b {P : Prop} [Decidable P] {x y m : Nat} (h1 : P → x ≤ m) (h2 : ¬ P → y ≤ m) : (if P then x else y) ≤ m := by
  by_cases c : P
  · rw [if_pos c]; exact h1 c
  · rw [if_neg c]; exact h2 c
theorem wO_b (v : Nat) : wO v ≤ 99 := by
  unfold wO
  refine ite_b (fun _ => ?_) (fun _ => by omega)
  repeat (refine ite_b (fun _ => by decide) (fun _ => ?_))
  decide
theorem rW_b (b : Nat → Nat) (q l : Nat) : rW b q l ≤ 99 := by
  unfold rW
  split
  · exact wO_b _
  · omega
theorem le_bd {x : Nat} (h : leB x = true) : 97 ≤ x ∧ x ≤ 122 := of_decide_eq_true h
theorem wv_b {b : Nat → Nat} {q : Nat} : ∀ k, (∀ i, i < k → leB (b (q + i)) = true) → wvF b q k < 32 ^ k ∧ (0 < k → 32 ^ k ≤ 32 * wvF b q k) := by
  intro k
  induction k with
  | zero => intro _; exact ⟨Nat.one_pos, fun h => absurd h (by decide)⟩
  | succ k ih =>
    intro h
    have h1 := ih (fun i hi => h i (by omega))
    have h2 := le_bd (h k (by omega))
    rw [wvF, Nat.pow_succ]
    refine ⟨by omega, fun _ => ?_⟩
    by_cases e : k = 0
    · subst e; rw [wvF, Nat.pow_zero]; omega
    · have := h1.2 (by omega); omega
theorem letters_m {S0 S : St} {n c : Nat} {b : Nat → Nat} (h : RDm S b n) (hF : FC MX S0 S) (hc : c ≤ n) (hl : c < n ∧ leB (b c) = true) (h3 : sI S 32 3 = Int32.ofNat c) (h4 : sI S 32 4 = Int32.ofNat c) : Rn (itr (fun k (p : Nat × Int64) => fX12_step_77 k p.1 p.2) FU (32, 0) S) (fun _ S' => FC MX S0 S' ∧ sI S' 32 3 = Int32.ofNat (rn (fun i => leB (b i)) n c) ∧ sI S' 32 4 = Int32.ofNat c ∧ sI S' 32 8 = Int32.ofNat (rW b c (rn (fun i => leB (b i)) n c - c)) ∧ sI S' 32 5 = Int32.ofNat (if rW b c (rn (fun i => leB (b i)) n c - c) = 99 then 4 else 3)) := by
  have h400 := h.2.2.1
  refine w_itr (fun m p S' => ∃ i, p = (32, Int64.ofNat (wvF b c (min 7 (i - c)))) ∧ c ≤ i ∧ i ≤ n ∧ m = n - i + 1 ∧ sI S' 32 3 = Int32.ofNat i ∧ sI S' 32 4 = Int32.ofNat c ∧ rn (fun i => leB (b i)) n c = rn (fun i => leB (b i)) n i ∧ RDm S' b n ∧ FC MX S0 S' ∧ ∀ j, c ≤ j → j < i → leB (b j) = true) (fun p S' ⟨i, _, _, h2, h3, _⟩ => by omega) ?_ (n - c + 1) FU _ _ (by unfold FU; omega) ⟨c, by rw [Nat.sub_self]; rfl, Nat.le_refl _, hc, rfl, h3, h4, rfl, h, hF, fun j _ _ => by omega⟩
  rintro m k p S1 ⟨i, rfl, hi1, hi2, hm, g3, g4, hr, hd, hf, hall⟩ hk
  dsimp only [fX12_step_77]
  refine w_gIe hd.k g3 (w_ck hd.k (w_cl (byte_m hd (by omega)) (w_cl (isLe_m _ _) ?_)))
  rw [le_m (hd.2.2.2.1 i)]
  refine w_z (fun l => ?_) (fun l => ?_)
  · have l := of_decide_eq_true l
    have hrs : rn (fun i => leB (b i)) n c = rn (fun i => leB (b i)) n (i + 1) := by rw [hr]; exact rn_s (P := fun i => leB (b i)) l.1 l.2
    have hgo : ∀ x, x = Int64.ofNat (wvF b c (min 7 (i + 1 - c))) → Rn (fX12_step_125 k 32 x S1) (fun _ S' => FC MX S0 S' ∧ sI S' 32 3 = Int32.ofNat (rn (fun i => leB (b i)) n c) ∧ sI S' 32 4 = Int32.ofNat c ∧ sI S' 32 8 = Int32.ofNat (rW b c (rn (fun i => leB (b i)) n c - c)) ∧ sI S' 32 5 = Int32.ofNat (if rW b c (rn (fun i => leB (b i)) n c - c) = 99 then 4 else 3)) := by
      intro x hx
      dsimp only [fX12_step_125]
      refine w_gIe hd.k g3 (w_pI hd.k (hk _ _ ⟨i + 1, by rw [hx], by omega, by omega, by omega, by rw [st_get, succ32], by rw [st_ne (Or.inr (by decide))]; exact g4, hrs, hd.st _ (by decide), hf.st _ ⟨rfl, by decide⟩, fun j hj1 hj2 => ?_⟩))
      by_cases e : j = i
      · rw [e]; exact l.2
      · exact hall j hj1 (by omega)
    refine w_gIe hd.k g3 (w_gIe hd.k g4 ?_)
    rw [sub_of hi1]
    refine w_br (fun u => hgo _ ?_) (fun u => w_gIe hd.k g3 (w_ck hd.k (w_cl (byte_m hd (by omega)) (hgo _ ?_))))
    · rw [show (7 : Int32) = Int32.ofNat 7 from rfl, le_ofNat (by omega) (by omega)] at u
      rw [show min 7 (i - c) = min 7 (i + 1 - c) by omega]
    · rw [show (7 : Int32) = Int32.ofNat 7 from rfl, le_ofNat (by omega) (by omega)] at u
      have := le_bd l.2
      rw [mB, if_pos l.1, J_of (by omega), show (32 : Int64) = Int64.ofNat 32 from rfl, show (96 : Int64) = Int64.ofNat 96 from rfl, J_mul, J_add, J_sub (by omega), show min 7 (i + 1 - c) = (i - c) + 1 by omega, show min 7 (i - c) = i - c by omega, wvF, show c + (i - c) = i by omega]
      congr 1
      omega
  · have e : rn (fun i => leB (b i)) n c = i := by rw [hr, rn_e (P := fun i => leB (b i)) (of_decide_eq_false l)]
    rw [e]
    have hci : c < i := by
      rcases Nat.lt_or_ge c i with z | z
      · exact z
      · have : i = c := by omega
        rw [this] at l
        exact absurd hl (of_decide_eq_false l)
    have hfin : ∀ x : Nat, rW b c (i - c) = x → Rn (fX12_step_162 32 (Int32.ofNat x) 32 S1) (fun _ S' => FC MX S0 S' ∧ sI S' 32 3 = Int32.ofNat i ∧ sI S' 32 4 = Int32.ofNat c ∧ sI S' 32 8 = Int32.ofNat (rW b c (i - c)) ∧ sI S' 32 5 = Int32.ofNat (if rW b c (i - c) = 99 then 4 else 3)) := by
      intro x hx
      have hx9 : x ≤ 99 := by rw [← hx]; exact rW_b _ _ _
      rw [hx]
      dsimp only [fX12_step_162]
      have hd2 := hd.st (j := 8) (Int32.ofNat x) (by decide)
      refine w_pI hd.k (w_gIe hd2.k st_get (w_br (fun u => ?_) (fun u => ?_)))
      · rw [show (99 : Int32) = Int32.ofNat 99 from rfl, eq_ofNat (by omega) (by omega)] at u
        refine w_pI hd2.k (w_rt ⟨(hf.st _ ⟨rfl, by decide⟩).st _ ⟨rfl, by decide⟩, ?_, ?_, ?_, ?_⟩)
        · rw [st_ne (Or.inr (by decide)), st_ne (Or.inr (by decide))]; exact g3
        · rw [st_ne (Or.inr (by decide)), st_ne (Or.inr (by decide))]; exact g4
        · rw [st_ne (Or.inr (by decide)), st_get]
        · rw [st_get, if_pos u]; rfl
      · rw [show (99 : Int32) = Int32.ofNat 99 from rfl, eq_ofNat (by omega) (by omega)] at u
        refine w_pI hd2.k (w_rt ⟨(hf.st _ ⟨rfl, by decide⟩).st _ ⟨rfl, by decide⟩, ?_, ?_, ?_, ?_⟩)
        · rw [st_ne (Or.inr (by decide)), st_ne (Or.inr (by decide))]; exact g3
        · rw [st_ne (Or.inr (by decide)), st_ne (Or.inr (by decide))]; exact g4
        · rw [st_ne (Or.inr (by decide)), st_get]
        · rw [st_get, if_neg u]; rfl
    refine w_gIe hd.k g3 (w_gIe hd.k g4 ?_)
    rw [sub_of hi1]
    refine w_br (fun u => ?_) (fun u => hfin 99 ?_)
    · rw [show (6 : Int32) = Int32.ofNat 6 from rfl, le_ofNat (by omega) (by omega)] at u
      have hw := wv_b (b := b) (q := c) (i - c) (fun j hj => hall _ (by omega) (by omega))
      have hp : 32 ^ (i - c) ≤ 32 ^ 6 := Nat.pow_le_pow_right (by omega) u
      have hp1 : 0 < 32 ^ (i - c) := Nat.pow_pos (by decide)
      rw [show min 7 (i - c) = i - c by omega]
      refine w_cl (word_m (by omega) (by have := hw.2 (by omega); omega) S1) (hfin _ ?_)
      rw [rW, if_pos u]
    · rw [show (6 : Int32) = Int32.ofNat 6 from rfl, le_ofNat (by omega) (by omega)] at u
      rw [rW, if_neg u]
theorem digits_m {S0 S : St} {n c : Nat} {b : Nat → Nat} (h : RDm S b n) (hF : FC MX S0 S) (hc : c ≤ n) (h3 : sI S 32 3 = Int32.ofNat c) (h4 : sI S 32 4 = Int32.ofNat c) (h6 : sI S 32 6 = 0) : Rn (itr (fun k (p : Nat) => fX12_step_198 k p) FU 32 S) (fun _ S' => FC MX S0 S' ∧ sI S' 32 3 = Int32.ofNat (rn (fun i => diB (b i)) n c) ∧ sI S' 32 4 = Int32.ofNat c ∧ sI S' 32 6 = Int32.ofNat (nvF b c (min 4 (rn (fun i => diB (b i)) n c - c))) ∧ sI S' 32 5 = Int32.ofNat (if rn (fun i => diB (b i)) n c - c ≤ 4 then 1 else 4)) := by
  have h400 := h.2.2.1
  refine w_itr (fun m p S' => p = 32 ∧ ∃ i, c ≤ i ∧ i ≤ n ∧ m = n - i + 1 ∧ sI S' 32 3 = Int32.ofNat i ∧ sI S' 32 4 = Int32.ofNat c ∧ rn (fun i => diB (b i)) n c = rn (fun i => diB (b i)) n i ∧ RDm S' b n ∧ FC MX S0 S' ∧ sI S' 32 6 = Int32.ofNat (nvF b c (min 4 (i - c)))) (fun p S' ⟨_, i, _, h2, h3, _⟩ => by omega) ?_ (n - c + 1) FU _ _ (by unfold FU; omega) ⟨rfl, c, Nat.le_refl _, hc, rfl, h3, h4, rfl, h, hF, by rw [Nat.sub_self]; exact h6⟩
  rintro m k p S1 ⟨rfl, i, hi1, hi2, hm, g3, g4, hr, hd, hf, e1⟩ hk
  dsimp only [fX12_step_198]
  refine w_gIe hd.k g3 (w_ck hd.k (w_cl (byte_m hd (by omega)) (w_cl (isDi_m _ _) ?_)))
  rw [di_m (hd.2.2.2.1 i)]
  refine w_z (fun l => ?_) (fun l => ?_)
  · have l := of_decide_eq_true l
    have hrs : rn (fun i => diB (b i)) n c = rn (fun i => diB (b i)) n (i + 1) := by rw [hr]; exact rn_s (P := fun i => diB (b i)) l.1 l.2
    refine w_gIe hd.k g3 (w_gIe hd.k g4 ?_)
    rw [sub_of hi1]
    refine w_br (fun u => ?_) (fun u => ?_)
    · rw [show (4 : Int32) = Int32.ofNat 4 from rfl, le_ofNat (by omega) (by omega)] at u
      refine w_gIe hd.k g3 (w_pI hd.k (hk _ _ ⟨rfl, i + 1, by omega, by omega, by omega, ?_, ?_, hrs, hd.st _ (by decide), hf.st _ ⟨rfl, by decide⟩, ?_⟩))
      · rw [st_get, succ32]
      · rw [st_ne (Or.inr (by decide))]; exact g4
      · rw [st_ne (Or.inr (by decide)), e1, show min 4 (i - c) = min 4 (i + 1 - c) by omega]
    · rw [show (4 : Int32) = Int32.ofNat 4 from rfl, le_ofNat (by omega) (by omega)] at u
      refine w_gIe hd.k e1 (w_gIe hd.k g3 (w_ck hd.k (w_cl (byte_m hd (by omega)) (w_pI hd.k ?_))))
      rw [mB, if_pos l.1]
      have hd2 := hd.st (j := 6) (10 * Int32.ofNat (nvF b c (min 4 (i - c))) + Int32.ofNat (b i) - 48) (by decide)
      refine w_gIe hd2.k (v := Int32.ofNat i) (by rw [st_ne (Or.inr (by decide))]; exact g3) (w_pI hd2.k (hk _ _ ⟨rfl, i + 1, by omega, by omega, by omega, ?_, ?_, hrs, hd2.st _ (by decide), (hf.st _ ⟨rfl, by decide⟩).st _ ⟨rfl, by decide⟩, ?_⟩))
      · rw [st_get, succ32]
      · rw [st_ne (Or.inr (by decide)), st_ne (Or.inr (by decide))]; exact g4
      · rw [st_ne (Or.inr (by decide)), st_get, nv_s (cb_di l.2).2.1, show min 4 (i + 1 - c) = (i - c) + 1 by omega, show min 4 (i - c) = i - c by omega, nvF, show c + (i - c) = i by omega]
  · have e : rn (fun i => diB (b i)) n c = i := by rw [hr, rn_e (P := fun i => diB (b i)) (of_decide_eq_false l)]
    rw [e]
    refine w_gIe hd.k g3 (w_gIe hd.k g4 ?_)
    rw [sub_of hi1]
    refine w_br (fun u => ?_) (fun u => ?_)
    · rw [show (4 : Int32) = Int32.ofNat 4 from rfl, le_ofNat (by omega) (by omega)] at u
      refine w_pI hd.k (w_rt ⟨hf.st _ ⟨rfl, by decide⟩, ?_, ?_, ?_, ?_⟩)
      · rw [st_ne (Or.inr (by decide))]; exact g3
      · rw [st_ne (Or.inr (by decide))]; exact g4
      · rw [st_ne (Or.inr (by decide))]; exact e1
      · rw [st_get, if_pos (by omega)]; rfl
    · rw [show (4 : Int32) = Int32.ofNat 4 from rfl, le_ofNat (by omega) (by omega)] at u
      refine w_pI hd.k (w_rt ⟨hf.st _ ⟨rfl, by decide⟩, ?_, ?_, ?_, ?_⟩)
      · rw [st_ne (Or.inr (by decide))]; exact g3
      · rw [st_ne (Or.inr (by decide))]; exact g4
      · rw [st_ne (Or.inr (by decide))]; exact e1
      · rw [st_get, if_neg (by omega)]; rfl
def mK (b : Nat → Nat) (n c : Nat) : Nat := if tK b n c = 0 then 0 else if tK b n c = 1 then (if rW b (tP b n c) (tN b n c - tP b n c) = 99 then 4 else 3) else if tK b n c = 2 then 1 else if tK b n c = 3 then 2 else 4
def RTm (S : St) (b : Nat → Nat) (n c : Nat) : Prop := sI S 32 3 = Int32.ofNat (tN b n c) ∧ sI S 32 4 = Int32.ofNat (tP b n c) ∧ sI S 32 5 = Int32.ofNat (mK b n c) ∧ (tK b n c = 2 → sI S 32 6 = Int32.ofNat (tV b n c)) ∧ (tK b n c = 3 → sI S 32 7 = Int32.ofNat (b (tP b n c))) ∧ (tK b n c = 1 → sI S 32 8 = Int32.ofNat (rW b (tP b n c) (tN b n c - tP b n c)))
theorem sg_m {x : Nat} (h : x < 256) : decide (Int32.ofNat x = 91 ∨ Int32.ofNat x = 93 ∨ Int32.ofNat x = 58 ∨ Int32.ofNat x = 59 ∨ Int32.ofNat x = 60 ∨ Int32.ofNat x = 62 ∨ Int32.ofNat x = 61) = sgB x := by
  have := (of_all x h).2.2.2
  by_cases c : sgB x = true
  · rw [c]; exact decide_eq_true (this.mpr c)
  · rw [Bool.eq_false_iff.mpr c]; exact decide_eq_false (fun z => c (this.mp z))
theorem tok_m {S0 S : St} {n c : Nat} {b : Nat → Nat} {k0 : Nat → St → Option (Unit × St)} (h : RDm S b n) (hF : FC MX S0 S) (hc : c ≤ n) (h3 : sI S 32 3 = Int32.ofNat (tP b n c)) (hns : ¬ (tP b n c < n ∧ spB (b (tP b n c)) = true)) : Rn (fX12_step_0 k0 32 S) (fun _ S' => FC MX S0 S' ∧ RTm S' b n c) := by
  have h400 := h.2.2.1
  have hp := tP_b (b := b) hc
  generalize hq : tP b n c = q at *
  have hb := h.2.2.2.1 q
  have hne10 : ¬ mB b n q = 10 := by
    unfold mB
    by_cases u : q < n
    · rw [if_pos u]; exact fun z => hns ⟨u, (of_all _ hb).2.2.1.mp (Or.inr z)⟩
    · rw [if_neg u]; decide
  have hne32 : ¬ mB b n q = 32 := by
    unfold mB
    by_cases u : q < n
    · rw [if_pos u]; exact fun z => hns ⟨u, (of_all _ hb).2.2.1.mp (Or.inl z)⟩
    · rw [if_neg u]; decide
  dsimp only [fX12_step_0]
  have hd2 := h.st (j := 4) (Int32.ofNat q) (by decide)
  have hf2 : FC MX S0 (stI S 32 4 (Int32.ofNat q)) := hF.st _ ⟨rfl, by decide⟩
  refine w_gIe h.k h3 (w_ck h.k (w_cl (byte_m h (by omega)) (w_bf hne10 (w_gIe h.k h3 (w_ck h.k (w_cl (byte_m h (by omega)) (w_bf hne32 (w_gIe h.k h3 (w_pI h.k ?_)))))))))
  have a3 : sI (stI S 32 4 (Int32.ofNat q)) 32 3 = Int32.ofNat q := by rw [st_ne (Or.inr (by decide))]; exact h3
  have a4 : sI (stI S 32 4 (Int32.ofNat q)) 32 4 = Int32.ofNat q := st_get
  generalize stI S 32 4 (Int32.ofNat q) = S2 at *
  refine w_gIe hd2.k a3 (w_ck hd2.k (w_cl (byte_m hd2 (by omega)) ?_))
  by_cases u : q < n
  · have hne : ¬ n ≤ q := by omega
    have hmb : mB b n q = Int32.ofNat (b q) := by rw [mB, if_pos u]
    refine w_bt (by rw [hmb]; exact ofNat_nonneg (by omega)) (w_cl (isLe_m _ _) ?_)
    rw [le_m hb]
    refine w_z (fun l => ?_) (fun l => w_cl (isDi_m _ _) ?_)
    · have l := of_decide_eq_true l
      have eN : tN b n c = rn (fun i => leB (b i)) n q := by rw [tN, hq, if_neg hne, if_pos l.2]
      have eK : tK b n c = 1 := by rw [tK, hq, if_neg hne, if_pos l.2]
      refine Rn.mono (letters_m (S0 := S0) (c := q) hd2 hf2 (by omega) l a3 a4) ?_
      rintro _ S3 ⟨g1, g2, g3, g4, g5⟩
      refine ⟨g1, by rw [g2, eN], by rw [g3, hq], ?_, (fun z => by rw [eK] at z; exact absurd z (by decide)), (fun z => by rw [eK] at z; exact absurd z (by decide)), fun _ => by rw [g4, hq, eN]⟩
      rw [g5, mK, eK, hq, eN]
      rfl
    · rw [di_m hb]
      have l' : ¬ leB (b q) = true := fun z => of_decide_eq_false l ⟨u, z⟩
      refine w_z (fun d => ?_) (fun d => ?_)
      · have d := of_decide_eq_true d
        have eN : tN b n c = rn (fun i => diB (b i)) n q := by rw [tN, hq, if_neg hne, if_neg l', if_pos d.2]
        have eK : tK b n c = if rn (fun i => diB (b i)) n q - q ≤ 4 then 2 else 4 := by rw [tK, eN, hq, if_neg hne, if_neg l', if_pos d.2]
        refine w_pI hd2.k (Rn.mono (digits_m (S0 := S0) (c := q) (hd2.st 0 (by decide)) (hf2.st _ ⟨rfl, by decide⟩) (by omega) (by rw [st_ne (Or.inr (by decide))]; exact a3) (by rw [st_ne (Or.inr (by decide))]; exact a4) st_get) ?_)
        rintro _ S3 ⟨g1, g2, g3, g4, g5⟩
        refine ⟨g1, by rw [g2, eN], by rw [g3, hq], ?_, fun _ => ?_, (fun z => ?_), (fun z => ?_)⟩
        · rw [g5, mK, eK]
          by_cases w : rn (fun i => diB (b i)) n q - q ≤ 4
          · rw [if_pos w, if_pos w]; rfl
          · rw [if_neg w, if_neg w]; rfl
        · rw [g4, tV, eN, hq, if_neg hne, if_neg l', if_pos d.2]
        · exfalso
          rw [eK] at z
          by_cases w : rn (fun i => diB (b i)) n q - q ≤ 4
          · rw [if_pos w] at z; exact absurd z (by decide)
          · rw [if_neg w] at z; exact absurd z (by decide)
        · exfalso
          rw [eK] at z
          by_cases w : rn (fun i => diB (b i)) n q - q ≤ 4
          · rw [if_pos w] at z; exact absurd z (by decide)
          · rw [if_neg w] at z; exact absurd z (by decide)
      · have d' : ¬ diB (b q) = true := fun z => of_decide_eq_false d ⟨u, z⟩
        have eN : tN b n c = q + 1 := by rw [tN, hq, if_neg hne, if_neg l', if_neg d']
        rw [hmb]
        have hd3 := hd2.st (j := 3) (Int32.ofNat q + 1) (by decide)
        have hd4 := hd3.st (j := 7) (Int32.ofNat (b q)) (by decide)
        have hf4 : FC MX S0 (stI (stI S2 32 3 (Int32.ofNat q + 1)) 32 7 (Int32.ofNat (b q))) := (hf2.st _ ⟨rfl, by decide⟩).st _ ⟨rfl, by decide⟩
        refine w_gIe hd2.k a3 (w_pI hd2.k (w_pI hd3.k (w_cl (isSg_m _ _) ?_)))
        rw [sg_m hb]
        have b3 : sI (stI (stI S2 32 3 (Int32.ofNat q + 1)) 32 7 (Int32.ofNat (b q))) 32 3 = Int32.ofNat (q + 1) := by rw [st_ne (Or.inr (by decide)), st_get, succ32]
        have b4 : sI (stI (stI S2 32 3 (Int32.ofNat q + 1)) 32 7 (Int32.ofNat (b q))) 32 4 = Int32.ofNat q := by rw [st_ne (Or.inr (by decide)), st_ne (Or.inr (by decide))]; exact a4
        have b7 : sI (stI (stI S2 32 3 (Int32.ofNat q + 1)) 32 7 (Int32.ofNat (b q))) 32 7 = Int32.ofNat (b q) := st_get
        generalize stI (stI S2 32 3 (Int32.ofNat q + 1)) 32 7 (Int32.ofNat (b q)) = S4 at *
        refine w_z (fun s => ?_) (fun s => ?_)
        · have eK : tK b n c = 3 := by rw [tK, hq, if_neg hne, if_neg l', if_neg d', if_pos s]
          refine w_pI hd4.k (w_rt ⟨hf4.st _ ⟨rfl, by decide⟩, ?_, ?_, ?_, (fun z => by rw [eK] at z; exact absurd z (by decide)), fun _ => ?_, (fun z => by rw [eK] at z; exact absurd z (by decide))⟩)
          · rw [st_ne (Or.inr (by decide)), b3, eN]
          · rw [st_ne (Or.inr (by decide)), b4, hq]
          · rw [st_get, mK, eK]; rfl
          · rw [st_ne (Or.inr (by decide)), b7, hq]
        · have eK : tK b n c = 4 := by rw [tK, hq, if_neg hne, if_neg l', if_neg d', if_neg (by rw [s]; decide)]
          refine w_pI hd4.k (w_rt ⟨hf4.st _ ⟨rfl, by decide⟩, ?_, ?_, ?_, (fun z => by rw [eK] at z; exact absurd z (by decide)), (fun z => by rw [eK] at z; exact absurd z (by decide)), (fun z => by rw [eK] at z; exact absurd z (by decide))⟩)
          · rw [st_ne (Or.inr (by decide)), b3, eN]
          · rw [st_ne (Or.inr (by decide)), b4, hq]
          · rw [st_get, mK, eK]; rfl
  · have hne : n ≤ q := by omega
    have hmb : mB b n q = -1 := by rw [mB, if_neg u]
    have eN : tN b n c = q := by rw [tN, hq, if_pos hne]
    have eK : tK b n c = 0 := by rw [tK, hq, if_pos hne]
    refine w_bf (by rw [hmb]; decide) (w_pI hd2.k (w_rt ⟨hf2.st _ ⟨rfl, by decide⟩, ?_, ?_, ?_, (fun z => by rw [eK] at z; exact absurd z (by decide)), (fun z => by rw [eK] at z; exact absurd z (by decide)), (fun z => by rw [eK] at z; exact absurd z (by decide))⟩))
    · rw [st_ne (Or.inr (by decide)), a3, eN]
    · rw [st_ne (Or.inr (by decide)), a4, hq]
    · rw [st_get, mK, eK]; rfl
theorem step_m {S : St} {n c : Nat} {b : Nat → Nat} (h : RDm S b n) (hc : c ≤ n) (h3 : sI S 32 3 = Int32.ofNat c) : Rn (fX12_step 32 S) (fun _ S' => FC MX S S' ∧ RTm S' b n c) := by
  have h400 := h.2.2.1
  unfold fX12_step
  refine w_itr (fun m p S' => p = 32 ∧ ∃ i, c ≤ i ∧ i ≤ n ∧ m = n - i + 1 ∧ sI S' 32 3 = Int32.ofNat i ∧ rn (fun i => spB (b i)) n c = rn (fun i => spB (b i)) n i ∧ RDm S' b n ∧ FC MX S S') (fun p S' ⟨_, i, _, h2, h3, _⟩ => by omega) ?_ (n - c + 1) FU _ _ (by unfold FU; omega) ⟨rfl, c, Nat.le_refl _, hc, rfl, h3, rfl, h, FC.rfl⟩
  rintro m k p S1 ⟨rfl, i, hi1, hi2, hm, g3, hr, hd, hf⟩ hk
  by_cases w : i < n ∧ spB (b i) = true
  · have hgo : Rn (fX12_step_26 k 32 S1) (fun _ S' => FC MX S S' ∧ RTm S' b n c) := by
      dsimp only [fX12_step_26]
      exact w_gIe hd.k g3 (w_pI hd.k (hk _ _ ⟨rfl, i + 1, by omega, by omega, by omega, by rw [st_get, succ32], by rw [hr]; exact rn_s (P := fun i => spB (b i)) w.1 w.2, hd.st _ (by decide), hf.st _ ⟨rfl, by decide⟩⟩))
    have hmb : mB b n i = Int32.ofNat (b i) := by rw [mB, if_pos w.1]
    dsimp only [fX12_step_0]
    refine w_gIe hd.k g3 (w_ck hd.k (w_cl (byte_m hd (by omega)) (w_br (fun _ => hgo) (fun v => w_gIe hd.k g3 (w_ck hd.k (w_cl (byte_m hd (by omega)) (w_bt ?_ hgo)))))))
    rw [hmb] at v ⊢
    exact ((of_all _ (hd.2.2.2.1 i)).2.2.1.mpr w.2).elim id (fun z => absurd z v)
  · have e : tP b n c = i := by rw [tP, hr, rn_e (P := fun i => spB (b i)) w]
    exact tok_m hd hf hc (by rw [e]; exact g3) (by rw [e]; exact w)
