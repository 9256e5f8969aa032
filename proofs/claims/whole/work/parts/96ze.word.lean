-- words, in the class
def wdC (i : Nat) : Nat := ([0, 1, 2, 3, 4, 5, 30, 32, 10, 11, 12, 13, 14, 15, 16, 17, 31] : List Nat).getD i 99
def sbN (i j : Nat) : Nat := nat ((SBy.getD i []).getD j 0)
def slN (i : Nat) : Nat := SLn.getD i 0
def tw (b : Nat → Nat) (n c : Nat) : Nat := rW b (tP b n c) (tN b n c - tP b n c)
abbrev isW (b : Nat → Nat) (n c w : Nat) : Prop := tK b n c = 1 ∧ tw b n c = w
theorem sb_all : ∀ i, i < 17 → (2 ≤ slN i ∧ slN i ≤ 6 ∧ wdC i < 40) ∧ ∀ j, j < 6 → (SBy.getD i []).getD j 0 = Int32.ofNat (sbN i j) ∧ sbN i j < 128 ∧ (j < slN i → leB (sbN i j) = true) := by decide +kernel
def vO (w : Nat) : Nat := if w = 0 then k4 114 97 116 101 else if w = 1 then k6 116 104 114 101 97 100 else if w = 2 then k4 102 105 110 101 else if w = 3 then k4 108 97 116 101 else if w = 4 then k4 100 97 121 115 else if w = 5 then k4 112 97 114 116 else if w = 10 then k3 104 97 121 else if w = 11 then k6 115 116 105 116 99 104 else if w = 12 then k6 99 111 108 111 117 114 else if w = 13 then k6 103 114 111 117 110 100 else if w = 14 then k4 115 105 122 101 else if w = 15 then k4 115 107 105 108 * 32 + 12 else if w = 16 then k4 115 112 111 116 * 32 + 19 else if w = 17 then k4 119 101 101 107 else if w = 30 then 294 else if w = 31 then k3 97 110 100 else k3 110 111 116
theorem vO_wO {v : Nat} (h0 : 0 < v) : wO v < 40 → vO (wO v) = v := by
  unfold wO
  refine ite_q (Q := fun w => w < 40 → vO w = v) (fun _ => ?_) (fun _ z => by omega)
  repeat (refine ite_q (Q := fun w => w < 40 → vO w = v) (fun e _ => by rw [e]; rfl) (fun _ => ?_))
  intro z
  exact absurd z (by decide)
theorem sb_val : ∀ i, i < 17 → vO (wdC i) = wvF (sbN i) 0 (slN i) ∧ wO (wvF (sbN i) 0 (slN i)) = wdC i := by decide +kernel
theorem wO_is {v i : Nat} (h0 : 0 < v) (hi : i < 17) : wO v = wdC i ↔ v = wvF (sbN i) 0 (slN i) := by
  have h := sb_val i hi
  constructor
  · intro e
    have := vO_wO h0 (by rw [e]; exact (sb_all i hi).1.2.2)
    rw [e, h.1] at this
    exact this.symm
  · intro e; rw [e]; exact h.2
theorem wv_inj {b d : Nat → Nat} {q r : Nat} : ∀ l m, (∀ j, j < l → leB (b (q + j)) = true) → (∀ j, j < m → leB (d (r + j)) = true) → wvF b q l = wvF d r m → l = m ∧ ∀ j, j < l → b (q + j) = d (r + j) := by
  intro l
  induction l with
  | zero =>
    intro m _ h2 e
    cases m with
    | zero => exact ⟨rfl, fun j hj => by omega⟩
    | succ m =>
      have := le_bd (h2 m (by omega))
      rw [wvF, wvF] at e
      omega
  | succ l ih =>
    intro m h1 h2 e
    have a := le_bd (h1 l (by omega))
    cases m with
    | zero => rw [wvF, wvF] at e; omega
    | succ m =>
      have c := le_bd (h2 m (by omega))
      rw [wvF, wvF] at e
      obtain ⟨e1, e2⟩ := ih m (fun j hj => h1 j (by omega)) (fun j hj => h2 j (by omega)) (by omega)
      subst e1
      refine ⟨rfl, fun j hj => ?_⟩
      by_cases z : j = l
      · rw [z]; omega
      · exact e2 j (by omega)
theorem wv_cg {b d : Nat → Nat} {q r : Nat} : ∀ l, (∀ j, j < l → b (q + j) = d (r + j)) → wvF b q l = wvF d r l := by
  intro l
  induction l with
  | zero => intro _; rfl
  | succ l ih => intro h; rw [wvF, wvF, ih (fun j hj => h j (by omega)), h l (by omega)]
theorem tK1_le {b : Nat → Nat} {n c : Nat} (hc : c ≤ n) (h : tK b n c = 1) : tP b n c < tN b n c ∧ ∀ j, j < tN b n c - tP b n c → leB (b (tP b n c + j)) = true := by
  have hl := tK_lt (b := b) (n := n) (c := c) (by omega)
  have hn := tN_b (b := b) hc
  have hr := rn_b (P := fun i => leB (b i)) (n := n) _ (tP b n c) rfl (by omega)
  rw [← tN_1 h] at hr
  exact ⟨hn.2.2 hl, fun j hj => hr.2.2.2 _ (by omega) (by omega)⟩
theorem tw_is {b : Nat → Nat} {n c i : Nat} (hc : c ≤ n) (h : tK b n c = 1) (hi : i < 17) : tw b n c = wdC i ↔ tN b n c - tP b n c = slN i ∧ ∀ j, j < slN i → b (tP b n c + j) = sbN i j := by
  obtain ⟨h1, h2⟩ := tK1_le hc h
  have hs := sb_all i hi
  have hw := wv_b (b := b) (q := tP b n c) (tN b n c - tP b n c) h2
  have hp1 : 0 < 32 ^ (tN b n c - tP b n c) := Nat.pow_pos (by decide)
  have h0 : 0 < wvF b (tP b n c) (tN b n c - tP b n c) := by have := hw.2 (by omega); omega
  have hz : ∀ j, j < slN i → leB (sbN i (0 + j)) = true := fun j hj => by rw [Nat.zero_add]; exact (hs.2 j (by omega)).2.2 hj
  unfold tw rW
  constructor
  · intro e
    by_cases c6 : tN b n c - tP b n c ≤ 6
    · rw [if_pos c6, wO_is h0 hi] at e
      obtain ⟨e1, e2⟩ := wv_inj _ _ h2 hz e
      refine ⟨e1, fun j hj => ?_⟩
      have := e2 j (by omega)
      rw [Nat.zero_add] at this
      exact this
    · rw [if_neg c6] at e
      have := hs.1.2.2
      omega
  · intro ⟨e1, e2⟩
    rw [e1, if_pos hs.1.2.1]
    rw [e1] at h0
    rw [wO_is h0 hi]
    exact wv_cg _ (fun j hj => by rw [Nat.zero_add]; exact e2 j hj)
theorem len_x (i : Nat) (S : St) : fStr_length i S = some (Int32.ofNat (slN i), S) := rfl
theorem char_x {i j : Nat} (hi : i < 17) (hj : j < slN i) (S : St) : fStr_charAt i (Int32.ofNat j) S = some (Int32.ofNat (sbN i j), S) := by
  have hs := sb_all i hi
  have h6 := hs.1.2.1
  unfold fStr_charAt
  have e : (Int32.ofNat j).toNatClampNeg = j := ofNat_clamp (by omega)
  rw [if_pos ⟨ofNat_nonneg (by omega), by rw [e]; exact hj⟩, e, (hs.2 j (by omega)).1]
theorem isWord_x {S : St} {r n c i : Nat} {b : Nat → Nat} (h : RD S r b n) (t : RT S r b n c) (hc : c ≤ n) (hi : i < 17) : fX8_isWord r i S = some (decide (isW b n c (wdC i)), S) := by
  apply Rn.eq
  have h400 := h.2.2.2.2.1
  have hk := tK_le b n c
  have hp := tP_b (b := b) hc
  have hn := tN_b (b := b) hc
  have hs := sb_all i hi
  have h6 := hs.1.2.1
  unfold fX8_isWord
  refine w_gIe h.k t.1 (w_br (fun u => ?_) (fun u => w_r0 ⟨?_, rfl⟩))
  · rw [show (1 : Int32) = Int32.ofNat 1 from rfl, eq_ofNat (by omega) (by omega)] at u
    have hT := tw_is hc u hi
    obtain ⟨hlt, hle⟩ := tK1_le hc u
    refine w_gIe h.k t.2.2.2 (w_gIe h.k t.2.2.1 (w_cl (len_x i S) ?_))
    rw [sub_of hn.1]
    refine w_br (fun v => ?_) (fun v => w_r0 ⟨?_, rfl⟩)
    · rw [eq_ofNat (by omega) (by omega)] at v
      refine w_itr (fun m p S' => S' = S ∧ ∃ j, p = (r, Int32.ofNat j) ∧ j ≤ slN i ∧ m = slN i - j + 1 ∧ ∀ j', j' < j → b (tP b n c + j') = sbN i j') (fun p S' ⟨_, j, _, _, h2, _⟩ => by omega) ?_ (slN i + 1) FU _ _ (by unfold FU; omega) ⟨rfl, 0, rfl, Nat.zero_le _, rfl, fun j' hj' => by omega⟩
      rintro m k p S' ⟨rfl, j, rfl, hj, hm, hall⟩ hkk
      dsimp only [fX8_isWord_28]
      refine w_cl (len_x i _) (w_br (fun w => ?_) (fun w => ?_))
      · rw [le_ofNat (by omega) (by omega)] at w
        refine w_r1 ⟨(decide_eq_true ⟨u, hT.mpr ⟨v, fun j' hj' => hall j' (by omega)⟩⟩).symm, rfl⟩
      · rw [le_ofNat (by omega) (by omega)] at w
        have hj2 : j < slN i := by omega
        have hq := (hs.2 j (by omega)).2
        refine w_gIe h.k t.2.2.1 (w_ck h.k (w_byte (p := tP b n c + j) h (by rw [add_of]) (by omega) (w_cl (char_x hi hj2 _) (w_br (fun x => ?_) (fun x => ?_)))))
        · rw [cb_eq (h.2.2.2.2.2.1 _) hq.1] at x
          refine hkk _ _ ⟨rfl, j + 1, by rw [succ32], by omega, by omega, fun j' hj' => ?_⟩
          by_cases z : j' = j
          · rw [z]; exact x
          · exact hall j' (by omega)
        · rw [cb_eq (h.2.2.2.2.2.1 _) hq.1] at x
          exact w_r0 ⟨(decide_eq_false (fun z => x ((hT.mp z.2).2 j hj2))).symm, rfl⟩
    · rw [eq_ofNat (by omega) (by omega)] at v
      exact (decide_eq_false (fun z => v (hT.mp z.2).1)).symm
  · rw [show (1 : Int32) = Int32.ofNat 1 from rfl, eq_ofNat (by omega) (by omega)] at u
    exact (decide_eq_false (fun z => u z.1)).symm
theorem takes_g {al : Nat → Int32} {S0 S : St} {b : Nat → Nat} {n c F w : Nat} {P : Int32} (h : MU al S0 S b n c F P) (hw9 : w < 99) : Rn (fX12_takes 32 (Int32.ofNat w) S) (fun r S' => FQ S S' ∧ r = decide (isW b n c w) ∧ (r = true → MU al S0 S' b n (tN b n c) F P) ∧ (r = false → S' = S)) := by
  obtain ⟨h1, h2, h3, h4, h5, h6⟩ := id h
  have hk := mK_le b n c
  have hw := rW_b b (tP b n c) (tN b n c - tP b n c)
  unfold fX12_takes
  refine w_gIe h2.k h5 (w_bt rfl (w_gIe h2.k h4.2.2.1 (w_br (fun u => ?_) (fun u => ?_))))
  · rw [show (3 : Int32) = Int32.ofNat 3 from rfl, eq_ofNat (by omega) (by omega)] at u
    obtain ⟨k1, k2⟩ := mK_3 u
    refine w_gIe h2.k (h4.2.2.2.2.2 k1) (w_br (fun v => ?_) (fun v => ?_))
    · rw [eq_ofNat (by omega) (by omega)] at v
      refine w_ck h2.k (w_clr (mstep_m h) ?_)
      rintro _ S1 ⟨f1, m1⟩
      exact w_r1 ⟨f1, (decide_eq_true ⟨k1, v⟩).symm, fun _ => m1, fun z => absurd z (by decide)⟩
    · rw [eq_ofNat (by omega) (by omega)] at v
      exact w_r0 ⟨FQ.rfl, (decide_eq_false (fun z => v z.2)).symm, fun z => absurd z (by decide), fun _ => rfl⟩
  · rw [show (3 : Int32) = Int32.ofNat 3 from rfl, eq_ofNat (by omega) (by omega)] at u
    refine w_r0 ⟨FQ.rfl, (decide_eq_false (fun z => u ?_)).symm, fun z => absurd z (by decide), fun _ => rfl⟩
    have e : rW b (tP b n c) (tN b n c - tP b n c) = w := z.2
    rw [mK, if_neg (by have := z.1; omega), if_pos z.1, if_neg (by omega)]
