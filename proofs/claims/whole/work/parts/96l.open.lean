theorem clear_x {S : St} {l : Nat} (h : SH S) (hl : l ≤ 6) : Rn (fX6_clearLevel 10 (Int32.ofNat l) S) (fun _ S' => FC X12 S S' ∧ ∀ j, sI S' 12 j = if 30 * l ≤ j ∧ j < 30 * l + 30 then 0 else sI S 12 j) := by
  unfold fX6_clearLevel
  refine w_for (mk := fun (_ : Unit) i => ((10 : Nat), Int32.ofNat l, i)) (a := ()) 0 30 (fun i _ S' => SH S' ∧ FC X12 S S' ∧ ∀ j, sI S' 12 j = if 30 * l ≤ j ∧ j < 30 * l + i then 0 else sI S 12 j) (by omega) (by omega) ⟨h, FC.rfl, fun j => by rw [if_neg (by omega)]⟩ ?_ ?_
  · rintro k _ S1 ⟨g1, g2, g3⟩ _
    dsimp only [fX6_clearLevel_2]
    exact w_bt (by decide) (w_rt ⟨g2, g3⟩)
  · rintro i _ hi k _ S1 ⟨g1, g2, g3⟩ hn hk
    dsimp only [fX6_clearLevel_2]
    refine w_bf hn (w_cl (within_eq _ _ _ S1) (w_zt (by rw [show (0 : Int32) = Int32.ofNat 0 from rfl, show (6 : Int32) = Int32.ofNat 6 from rfl, wi_ofNat (by omega) (by omega) (by omega)]; exact decide_eq_true (by omega)) (w_gR (SH_K10 g1) (SH_R10_2 g1) (w_nn (w_wI (n := 30 * l + i) (SH_K12 g1) ?_ (SH_L12 g1) (by omega) (hk () _ ⟨(FC.rfl.st (X := X12) (S := S1) _ rfl).sh g1, g2.st _ rfl, fun j => ?_⟩))))))
    · rw [show (30 : Int32) = Int32.ofNat 30 from rfl, mul_of, add_of]
      congr 1
      omega
    · by_cases c : j = 30 * l + i
      · rw [c, st_get, if_pos (by omega)]
      · rw [st_ne (Or.inr c), g3]
        by_cases d : 30 * l ≤ j ∧ j < 30 * l + i
        · rw [if_pos d, if_pos (by omega)]
        · rw [if_neg d, if_neg (by omega)]
theorem A12_clr {L l : Nat} {S S1 : St} {g : CT} (hA : ∀ l' t k, l' < l → t < 6 → k < 5 → sI S 12 (30 * l' + 5 * t + k) = Int32.ofNat (min 1000001 (g l' t k))) (h : ∀ j, sI S1 12 j = if 30 * l ≤ j ∧ j < 30 * l + 30 then 0 else sI S 12 j) (hL : L = l) : A12 L S1 (clr g l) := by
  intro l' t k h1 h2 h3
  unfold clr
  rw [h]
  by_cases c : l' = l
  · rw [if_pos (by omega), if_pos c]; rfl
  · rw [if_neg (by omega), if_neg c]; exact hA l' t k (by omega) h2 h3
theorem open_x {S : St} {b : Nat → Nat} {n D F v : Nat} {g : CT} {hu re : Nat → Nat} (hd : RD S 11 b n) (hD : D ≤ 900) (h1 : sI S 10 1 = Int32.ofNat D) (h3 : sI S 11 3 = Int32.ofNat F) (hF4 : F ≤ 4) (hv : v ≤ 9999) (hA : F = 0 → CA S D g hu re ∧ D + 1 < 7 ∧ 1 ≤ v) : Rn (fX6_open 10 (Int32.ofNat v) S) (fun _ S' => FC (fun a j => (a = 10 ∧ j = 1) ∨ a = 12 ∨ a = 13 ∨ a = 14) S S' ∧ sI S' 10 1 = Int32.ofNat (D + 1) ∧ (F = 0 → CA S' (D + 1) (clr g (D + 1)) (up hu (D + 1) 4) (up re (D + 1) v))) := by
  have hS := hd.1
  unfold fX6_open
  refine w_gIe (SH_K10 hS) h1 (w_pI (SH_K10 hS) ?_)
  rw [succ32]
  have f1 : FC (fun a j => (a = 10 ∧ j = 1) ∨ a = 12 ∨ a = 13 ∨ a = 14) S (stI S 10 1 (Int32.ofNat (D + 1))) := FC.rfl.st _ (Or.inl ⟨rfl, rfl⟩)
  have s1 := f1.sh hS
  have g1 : sI (stI S 10 1 (Int32.ofNat (D + 1))) 10 1 = Int32.ofNat (D + 1) := st_get
  have g3 : sI (stI S 10 1 (Int32.ofNat (D + 1))) 11 3 = Int32.ofNat F := by rw [st_ne (Or.inl (by decide))]; exact h3
  have hA1 : F = 0 → CA (stI S 10 1 (Int32.ofNat (D + 1))) D g hu re := fun z => (hA z).1.fc (X := fun a _ => a = 10) (FC.rfl.st _ rfl) (fun a j q1 q2 (q : a = 10) => by omega)
  generalize stI S 10 1 (Int32.ofNat (D + 1)) = S1 at *
  refine w_ck (SH_K10 s1) (w_cl (counting_x s1 g1 g3 hF4 (by omega)) (w_z (fun u => ?_) (fun u => ?_)))
  · have u := of_decide_eq_true u
    obtain ⟨a1, a2, a3, a4⟩ := hA1 u.1
    refine w_gIe (SH_K10 s1) g1 (w_ck (SH_K10 s1) (w_clr (clear_x s1 u.2) ?_))
    rintro _ S2 ⟨f2, c2⟩
    have s2 := f2.sh s1
    have i1 : sI S2 10 1 = Int32.ofNat (D + 1) := by rw [f2.i (by unfold X12; omega)]; exact g1
    have s3 : SH (stI S2 13 (D + 1) 4) := (FC.rfl.st (X := fun _ _ => True) (S := S2) _ trivial).sh s2
    refine w_gR (SH_K10 s2) (SH_R10_3 s2) (w_gIe (SH_K10 s2) i1 (w_nn (w_wI (SH_K13 s2) rfl (SH_L13 s2) (by omega) (w_gR (SH_K10 s3) (SH_R10_4 s3) (w_gIe (SH_K10 s3) (v := Int32.ofNat (D + 1)) (by rw [st_ne (Or.inl (by decide))]; exact i1) (w_nn (w_wI (SH_K14 s3) rfl (SH_L14 s3) (by omega) (w_rt ⟨?_, ?_, fun _ => ⟨u.2, ?_, fun l hl => ?_, fun l q1 q2 => ?_⟩⟩))))))))
    · exact ((f1.trans (f2.mono (fun a j (z : a = 12) => Or.inr (Or.inl z)))).st _ (Or.inr (Or.inr (Or.inl rfl)))).st _ (Or.inr (Or.inr (Or.inr rfl)))
    · rw [st_ne (Or.inl (by decide)), st_ne (Or.inl (by decide))]; exact i1
    · have := A12_clr (L := D + 1) (l := D + 1) (S := S1) (S1 := S2) (g := g) (fun l' t k q1 q2 q3 => a2 l' t k (by omega) q2 q3) c2 rfl
      intro l t k q1 q2 q3
      rw [st_ne (Or.inl (by decide)), st_ne (Or.inl (by decide))]
      exact this l t k q1 q2 q3
    · rw [st_ne (Or.inl (by decide))]
      unfold up
      by_cases e : l = D + 1
      · rw [if_pos e, e, st_get]; exact ⟨rfl, by omega⟩
      · rw [if_neg e, st_ne (Or.inr e), f2.i (by unfold X12; omega)]
        exact a3 l (by omega)
    · unfold up
      by_cases e : l = D + 1
      · rw [if_pos e, e, st_get]; exact ⟨rfl, (hA u.1).2.2, hv⟩
      · rw [if_neg e, st_ne (Or.inr e), st_ne (Or.inl (by decide)), f2.i (by unfold X12; omega)]
        exact a4 l q1 (by omega)
  · have u := of_decide_eq_false u
    exact w_rt ⟨f1, g1, fun z => absurd ⟨z, by have := (hA z).2.1; omega⟩ u⟩
theorem opn80_x {S0 S : St} {b : Nat → Nat} {n c D F v : Nat} {P : Int32} {g : CT} {hu re : Nat → Nat} (hF : FC XP S0 S) (hd : RD S 11 b n) (hc : c ≤ n) (ht : RT S 11 b n c) (hDc : D + 1 ≤ tN b n c) (h1 : sI S 10 1 = Int32.ofNat D) (h3 : sI S 11 3 = Int32.ofNat F) (hF4 : F ≤ 4) (h4 : sI S 11 4 = P) (hv : v ≤ 9999) (hA : F = 0 → CA S D g hu re ∧ D + 1 < 7 ∧ 1 ≤ v) : Rn (fX6_readOpening_80 10 (Int32.ofNat v) S) (fun r S' => r = true ∧ FC XP S0 S' ∧ CIp S' b n (tN b n c) (D + 1) F P (clr g (D + 1)) (up hu (D + 1) 4) (up re (D + 1) v)) := by
  have h400 := hd.2.2.2.2.1
  have hn := tN_b (b := b) hc
  unfold fX6_readOpening_80
  refine w_ck (SH_K10 hd.1) (w_clr (open_x hd (by omega) h1 h3 hF4 hv hA) ?_)
  rintro _ S1 ⟨f1, g1, A1⟩
  have fx : FC XP S S1 := f1.mono (fun a j z => by unfold XP; omega)
  exact fin_x (hF.trans fx) (hd.xp fx) hc (ht.fc f1 (fun j => by omega)) hDc g1 (by rw [f1.i (by omega)]; exact h3) hF4 (by rw [f1.i (by omega)]; exact h4) A1
theorem opn27_x {S0 S : St} {b : Nat → Nat} {n c D F v : Nat} {P : Int32} {g : CT} {hu re : Nat → Nat} (hF : FC XP S0 S) (hd : RD S 11 b n) (hc : c ≤ n) (ht : RT S 11 b n c) (hDc : D ≤ c) (h1 : sI S 10 1 = Int32.ofNat D) (h3 : sI S 11 3 = Int32.ofNat F) (hF4 : F ≤ 4) (h4 : sI S 11 4 = P) (hv : v ≤ 9999) (hA : F = 0 → CA S D g hu re ∧ 1 ≤ v) : Rn (fX6_readOpening_27 10 (Int32.ofNat v) S) (fun r S' => r = decide (isS b n (tN b n c) 91) ∧ FC XP S0 S' ∧ (isS b n (tN b n c) 91 → CIp S' b n (tN b n (tN b n c)) (D + 1) (if D + 1 < 7 then F else ntF F 3) (if D + 1 < 7 then P else ntP F P (Int32.ofNat (tP b n (tN b n c)))) (clr g (D + 1)) (up hu (D + 1) 4) (up re (D + 1) v)) ∧ (¬ isS b n (tN b n c) 91 → RD S' 11 b n ∧ sI S' 11 3 = 1 ∧ sI S' 11 4 = Int32.ofNat (tP b n (tN b n c)))) := by
  have hS := hd.1
  have h400 := hd.2.2.2.2.1
  have hn := tN_b (b := b) hc
  have hp := tP_b (b := b) hc
  have hn2 := tN_b (b := b) hn.2.1
  have hp2 := tP_b (b := b) hn.2.1
  unfold fX6_readOpening_27
  refine w_gR (SH_K10 hS) (SH_R10_0 hS) (w_nn (w_ck (SH_K11 hS) (w_clr (step_x hd hn.2.1 ht.2.2.2) ?_)))
  rintro _ S1 ⟨f1, t1⟩
  have d1 := hd.tx f1
  have s1 := d1.1
  have fx1 : FC XP S S1 := f1.mono (fun a j z => XP.tx z)
  have g1 : sI S1 10 1 = Int32.ofNat D := by rw [f1.i (by unfold TX; omega)]; exact h1
  have g3 : sI S1 11 3 = Int32.ofNat F := by rw [f1.i (by unfold TX; omega)]; exact h3
  have g4 : sI S1 11 4 = P := by rw [f1.i (by unfold TX; omega)]; exact h4
  refine w_gR (SH_K10 s1) (SH_R10_0 s1) (w_nn (w_ck (SH_K11 s1) (w_cl (isSign_x (y := 91) d1 t1 hn.2.1 (by decide)) (w_z (fun u => ?_) (fun u => ?_)))))
  · rw [u]
    have u := of_decide_eq_true u
    have hlt := tK_lt (b := b) (n := n) (c := tN b n c) (by rw [u.1]; decide)
    refine w_gIe (SH_K10 s1) g1 ?_
    rw [succ32]
    refine w_br (fun v1 => ?_) (fun v1 => ?_)
    · rw [show (7 : Int32) = Int32.ofNat 7 from rfl, lt_ofNat (by omega) (by omega)] at v1
      refine Rn.mono (opn80_x (hF.trans fx1) d1 hn.2.1 t1 (D := D) (by omega) g1 g3 hF4 g4 hv (fun z => ⟨(hA z).1.tx f1, v1, (hA z).2⟩)) ?_
      rintro r S2 ⟨e1, e2, e3⟩
      rw [if_pos v1, if_pos v1]
      exact ⟨e1, e2, fun _ => e3, fun z => absurd u z⟩
    · rw [show (7 : Int32) = Int32.ofNat 7 from rfl, lt_ofNat (by omega) (by omega)] at v1
      refine w_gR (SH_K10 s1) (SH_R10_0 s1) (w_gR (SH_K10 s1) (SH_R10_0 s1) (w_nn (w_gIe (SH_K11 s1) t1.2.2.1 (w_nn (w_ck (SH_K11 s1) (w_clr (note_x (f := 3) d1 g3 hF4 g4) ?_))))))
      rintro _ S2 ⟨f2, n3, n4⟩
      have f2 : FC NX S1 S2 := f2
      have fx2 : FC XP S1 S2 := f2.mono (fun a j z => z.xp)
      refine Rn.mono (opn80_x (c := tN b n c) (D := D) (g := g) (hu := hu) (re := re) ((hF.trans fx1).trans fx2) (d1.xp fx2) hn.2.1 (t1.nx f2) (by omega) (by rw [f2.i (by unfold NX; omega)]; exact g1) n3 (ntF_le hF4 (by omega)) n4 hv (fun z => absurd z (ntF_ne (by omega)))) ?_
      rintro r S3 ⟨e1, e2, e3⟩
      rw [if_neg v1, if_neg v1]
      exact ⟨e1, e2, fun _ => e3, fun z => absurd u z⟩
  · rw [u]
    have u := of_decide_eq_false u
    refine w_gR (SH_K10 s1) (SH_R10_0 s1) (w_nn (w_ck (SH_K11 s1) (w_clr (fail_x d1 t1) ?_)))
    rintro r S2 ⟨rfl, f2, d2, n3, n4⟩
    have f2 : FC NX S1 S2 := f2
    exact w_rb ⟨rfl, (hF.trans fx1).trans (f2.mono (fun a j z => z.xp)), fun z => absurd z u, fun _ => ⟨d2, n3, n4⟩⟩
theorem opn_x {S : St} {b : Nat → Nat} {n c D F : Nat} {P : Int32} {g : CT} {hu re : Nat → Nat} (h : CIp S b n c D F P g hu re) : Rn (fX6_readOpening 10 S) (fun r S' => r = (opnI b n c D F P g hu re).1 ∧ FC XP S S' ∧ PC S' b n (opnI b n c D F P g hu re)) := by
  obtain ⟨hd, hc, ht, hDc, h1, h3, hF4, h4, hA⟩ := h
  have hS := hd.1
  have hv := tV_b (b := b) hc
  unfold fX6_readOpening
  have key : ∀ S1, FC XP S S1 → RT S1 11 b n c → sI S1 10 1 = Int32.ofNat D → sI S1 11 3 = Int32.ofNat (oF b n c F) → oF b n c F ≤ 4 → sI S1 11 4 = oP b n c F P → (oF b n c F = 0 → CA S1 D g hu re ∧ 1 ≤ tV b n c) → Rn (fX6_readOpening_27 10 (Int32.ofNat (tV b n c)) S1) (fun r S' => r = (opnI b n c D F P g hu re).1 ∧ FC XP S S' ∧ PC S' b n (opnI b n c D F P g hu re)) := by
    intro S1 f1 t1 k1 k3 k34 k4 kA
    refine Rn.mono (opn27_x f1 (hd.xp f1) hc t1 hDc k1 k3 k34 k4 hv kA) ?_
    rintro r S2 ⟨e1, e2, e3, e4⟩
    by_cases u : isS b n (tN b n c) 91
    · rw [opnI, if_pos u]
      exact ⟨by rw [e1]; exact decide_eq_true u, e2, PC_t (e3 u)⟩
    · rw [opnI, if_neg u]
      obtain ⟨q1, q2, q3⟩ := e4 u
      exact ⟨by rw [e1]; exact decide_eq_false u, e2, PC_f q1 q2 q3⟩
  refine w_gR (SH_K10 hS) (SH_R10_0 hS) (w_nn (w_gIe (SH_K11 hS) ht.2.1 (w_br (fun u => ?_) (fun u => ?_))))
  · rw [show (0 : Int32) = Int32.ofNat 0 from rfl, eq_ofNat (by omega) (by omega)] at u
    refine w_gR (SH_K10 hS) (SH_R10_0 hS) (w_gR (SH_K10 hS) (SH_R10_0 hS) (w_nn (w_gIe (SH_K11 hS) ht.2.2.1 (w_nn (w_ck (SH_K11 hS) (w_clr (note_x (f := 2) hd h3 hF4 h4) ?_))))))
    rintro _ S2 ⟨f2, n3, n4⟩
    have f2 : FC NX S S2 := f2
    have fx2 : FC XP S S2 := f2.mono (fun a j z => z.xp)
    have eF : oF b n c F = ntF F 2 := by rw [oF, if_pos u]
    have eP : oP b n c F P = ntP F P (Int32.ofNat (tP b n c)) := by rw [oP, if_pos u]
    exact key S2 fx2 (ht.nx f2) (by rw [f2.i (by unfold NX; omega)]; exact h1) (by rw [eF]; exact n3) (by rw [eF]; exact ntF_le hF4 (by omega)) (by rw [eP]; exact n4) (fun z => absurd z (by rw [eF]; exact ntF_ne (by omega)))
  · rw [show (0 : Int32) = Int32.ofNat 0 from rfl, eq_ofNat (by omega) (by omega)] at u
    have eF : oF b n c F = F := by rw [oF, if_neg u]
    have eP : oP b n c F P = P := by rw [oP, if_neg u]
    exact key S FC.rfl ht h1 (by rw [eF]; exact h3) (by rw [eF]; exact hF4) (by rw [eP]; exact h4) (fun z => ⟨hA (by rw [eF] at z; exact z), by omega⟩)
