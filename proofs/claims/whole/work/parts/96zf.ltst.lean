-- lists: a test, pure and in the class
def sgC (x : Nat) : Nat := if x = 60 then 0 else if x = 62 then 1 else 2
abbrev isC (b : Nat → Nat) (n c : Nat) : Prop := tK b n c = 3 ∧ (b (tP b n c) = 60 ∨ b (tP b n c) = 62 ∨ b (tP b n c) = 61)
abbrev isA (b : Nat → Nat) (n c : Nat) : Prop := tK b n c = 1 ∧ 11 ≤ tw b n c ∧ tw b n c ≤ 17
def rowT (x0 x1 x2 x3 : Nat) : Nat → Nat := fun j => if j = 0 then x0 else if j = 1 then x1 else if j = 2 then x2 else x3
abbrev TR := Bool × Nat × (Nat → Nat)
def tst3 (nt k1 : Nat) (b : Nat → Nat) (n c : Nat) : TR := if isC b n c then (if tK b n (tN b n c) = 2 then (true, tN b n (tN b n c), rowT nt k1 (sgC (b (tP b n c))) (tV b n (tN b n c))) else (false, tP b n (tN b n c), fun _ => 0)) else (false, tP b n c, fun _ => 0)
def tst1 (nt : Nat) (b : Nat → Nat) (n c : Nat) : TR := if isW b n c 10 then (true, tN b n c, rowT nt 7 2 1) else if isA b n c then tst3 nt (tw b n c - 11) b n (tN b n c) else (false, tP b n c, fun _ => 0)
def tst (b : Nat → Nat) (n c : Nat) : TR := if isW b n c 32 then tst1 1 b n (tN b n c) else tst1 0 b n c
def X16 (a j : Nat) : Prop := a = 16 ∧ j ≠ 6
def XK (L a j : Nat) : Prop := (a = 19 ∧ j = L) ∨ (a = 20 ∧ 16 * L ≤ j ∧ j < 16 * L + 16)
def XT (L a j : Nat) : Prop := X16 a j ∨ XK L a j
theorem RT.fg {S S1 : St} {r n c : Nat} {b : Nat → Nat} {X : Nat → Nat → Prop} (t : RT S r b n c) (hF : FC X S S1) (hx : ∀ j, j ≤ 2 ∨ j = 7 → ¬ X r j) : RT S1 r b n c := by
  obtain ⟨t1, t2, t3, t4⟩ := t
  exact ⟨by rw [hF.i (hx _ (by omega))]; exact t1, by rw [hF.i (hx _ (by omega))]; exact t2, by rw [hF.i (hx _ (by omega))]; exact t3, by rw [hF.i (hx _ (by omega))]; exact t4⟩
theorem SHi {S : St} (h : SH S) (a j : Nat) (v : Int32) : SH (stI S a j v) := (FC.rfl.st (X := fun _ _ => True) (S := S) v trivial).sh h
def CLr (S : St) (b : Nat → Nat) (n c F : Nat) (P : Int32) : Prop := RD S 16 b n ∧ c ≤ n ∧ RT S 16 b n c ∧ sI S 16 3 = Int32.ofNat F ∧ F ≤ 4 ∧ sI S 16 4 = P
def CFr (S : St) (b : Nat → Nat) (n : Nat) (P : Int32) : Prop := RD S 16 b n ∧ sI S 16 3 = 1 ∧ sI S 16 4 = P
theorem CLr.fc {S S1 : St} {b : Nat → Nat} {n c F : Nat} {P : Int32} {X : Nat → Nat → Prop} (h : CLr S b n c F P) (hF : FC X S S1) (hx : ∀ j, ¬ X 16 j) (h2 : ∀ j, ¬ X 2 j) : CLr S1 b n c F P := by
  obtain ⟨h1, hc, t, h3, h4, h5⟩ := h
  exact ⟨h1.fc hF (hx _) h2, hc, t.fg hF (fun j _ => hx j), by rw [hF.i (hx _)]; exact h3, h4, by rw [hF.i (hx _)]; exact h5⟩
theorem step_l {S : St} {b : Nat → Nat} {n c F : Nat} {P : Int32} (h : CLr S b n c F P) : Rn (fX8_step 16 S) (fun _ S' => FC X16 S S' ∧ CLr S' b n (tN b n c) F P) := by
  obtain ⟨h1, hc, t, h3, h4, h5⟩ := h
  have hn := tN_b (b := b) hc
  refine Rn.mono (step_x h1 hn.2.1 t.2.2.2) ?_
  rintro _ S1 ⟨f1, t1⟩
  exact ⟨f1.mono (fun a j z => ⟨z.1, by have := z.2; omega⟩), h1.tx f1, hn.2.1, t1, by rw [f1.i (by unfold TX; omega)]; exact h3, h4, by rw [f1.i (by unfold TX; omega)]; exact h5⟩
theorem note_l {S : St} {b : Nat → Nat} {n c F f : Nat} {P q : Int32} (h : CLr S b n c F P) (hf : f ≤ 4) : Rn (fX8_noteFault 16 (Int32.ofNat f) q S) (fun _ S' => FC X16 S S' ∧ CLr S' b n c (ntF F f) (ntP F P q)) := by
  obtain ⟨h1, hc, t, h3, h4, h5⟩ := id h
  unfold fX8_noteFault ntF ntP
  refine w_gIe h1.k h3 (w_br (fun u => ?_) (fun u => ?_))
  · rw [show (0 : Int32) = Int32.ofNat 0 from rfl, eq_ofNat (by omega) (by omega)] at u
    have hd := h1.st (j := 3) (Int32.ofNat f) (by decide)
    have f1 : FC (fun a j => a = 16 ∧ (j = 3 ∨ j = 4)) S (stI (stI S 16 3 (Int32.ofNat f)) 16 4 q) := (FC.rfl.st _ ⟨rfl, by decide⟩).st _ ⟨rfl, by decide⟩
    rw [if_pos u, if_pos u]
    refine w_pI h1.k (w_pI hd.k (w_rt ⟨f1.mono (fun a j z => ⟨z.1, by have := z.2; omega⟩), h1.fc f1 (by omega) (by omega), hc, t.fg f1 (by omega), ?_, hf, st_get⟩))
    rw [st_ne (Or.inr (by decide)), st_get]
  · rw [show (0 : Int32) = Int32.ofNat 0 from rfl, eq_ofNat (by omega) (by omega)] at u
    rw [if_neg u, if_neg u]
    exact w_rt ⟨FC.rfl, h⟩
theorem fail_l {S : St} {b : Nat → Nat} {n c F : Nat} {P : Int32} (h : CLr S b n c F P) : Rn (fX8_failHere 16 S) (fun r S' => r = false ∧ FC X16 S S' ∧ CFr S' b n (Int32.ofNat (tP b n c))) := by
  obtain ⟨h1, hc, t, h3, h4, h5⟩ := id h
  unfold fX8_failHere
  have hd := h1.st (j := 3) 1 (by decide)
  refine w_pI h1.k (w_gIe hd.k (v := Int32.ofNat (tP b n c)) (by rw [st_ne (Or.inr (by decide))]; exact t.2.2.1) (w_pI hd.k (w_r0 ⟨rfl, (FC.rfl.st _ ⟨rfl, by decide⟩).st _ ⟨rfl, by decide⟩, hd.st _ (by decide), ?_, st_get⟩)))
  rw [st_ne (Or.inr (by decide)), st_get]
theorem w_fail {S : St} {b : Nat → Nat} {n c F : Nat} {P : Int32} {Q : Bool → St → Prop} (h : CLr S b n c F P) (hQ : ∀ S', FC X16 S S' → CFr S' b n (Int32.ofNat (tP b n c)) → Q false S') : Rn ((gR 4 15 0 fun v => nn v fun a => ck 9 a <| cl (fX8_failHere a) fun r => rtZ (bi r)) S) Q := by
  have hS := h.1.1
  refine w_gR (SH_K15 hS) (SH_R15_0 hS) (w_nn (w_ck (SH_K16 hS) (w_clr (fail_l h) ?_)))
  rintro r S1 ⟨rfl, f1, g1⟩
  exact w_rb (hQ S1 f1 g1)
theorem w_word {Rt : Type} {S : St} {b : Nat → Nat} {n c F i : Nat} {P : Int32} {Q : Rt → St → Prop} {k : Bool → St → Option (Rt × St)} (h : CLr S b n c F P) (hi : i < 17) (hk : Rn (k (decide (isW b n c (wdC i))) S) Q) : Rn ((gR 4 15 0 fun v => nn v fun a => ck 9 a <| cl (fX8_isWord a i) k) S) Q := by
  have hS := h.1.1
  exact w_gR (SH_K15 hS) (SH_R15_0 hS) (w_nn (w_ck (SH_K16 hS) (w_cl (isWord_x h.1 h.2.2.1 h.2.1 hi) hk)))
theorem w_sign {Rt : Type} {S : St} {b : Nat → Nat} {n c F y : Nat} {P : Int32} {Q : Rt → St → Prop} {k : Bool → St → Option (Rt × St)} (h : CLr S b n c F P) (hy : y < 128) (hk : Rn (k (decide (isS b n c y)) S) Q) : Rn ((gR 4 15 0 fun v => nn v fun a => ck 9 a <| cl (fX8_isSign a (Int32.ofNat y)) k) S) Q := by
  have hS := h.1.1
  exact w_gR (SH_K15 hS) (SH_R15_0 hS) (w_nn (w_ck (SH_K16 hS) (w_cl (isSign_x h.1 h.2.2.1 h.2.1 hy) hk)))
theorem w_step {Rt : Type} {S : St} {b : Nat → Nat} {n c F : Nat} {P : Int32} {Q : Rt → St → Prop} {k : Unit → St → Option (Rt × St)} (h : CLr S b n c F P) (hk : ∀ S', FC X16 S S' → CLr S' b n (tN b n c) F P → Rn (k () S') Q) : Rn ((gR 4 15 0 fun v => nn v fun a => ck 9 a <| cl (fX8_step a) k) S) Q := by
  have hS := h.1.1
  refine w_gR (SH_K15 hS) (SH_R15_0 hS) (w_nn (w_ck (SH_K16 hS) (w_clr (step_l h) ?_)))
  rintro _ S1 ⟨f1, g1⟩
  exact hk S1 f1 g1
theorem topic_x {S : St} {b : Nat → Nat} {n c F : Nat} {P : Int32} (h : CLr S b n c F P) : fX3_topicHere 15 S = some (if tK b n c = 1 ∧ tw b n c ≤ 5 then Int32.ofNat (tw b n c) else -1, S) := by
  apply Rn.eq
  unfold fX3_topicHere
  have yes : ∀ w, w ≤ 5 → isW b n c w → (if tK b n c = 1 ∧ tw b n c ≤ 5 then Int32.ofNat (tw b n c) else -1) = Int32.ofNat w := fun w hw z => by
    rw [if_pos ⟨z.1, by rw [z.2]; exact hw⟩, z.2]
  refine w_word h (by decide) (w_z (fun u => w_rt ⟨(yes 0 (by decide) (of_decide_eq_true u)).symm, rfl⟩) (fun u0 => ?_))
  refine w_word h (by decide) (w_z (fun u => w_rt ⟨(yes 1 (by decide) (of_decide_eq_true u)).symm, rfl⟩) (fun u1 => ?_))
  refine w_word h (by decide) (w_z (fun u => w_rt ⟨(yes 2 (by decide) (of_decide_eq_true u)).symm, rfl⟩) (fun u2 => ?_))
  refine w_word h (by decide) (w_z (fun u => w_rt ⟨(yes 3 (by decide) (of_decide_eq_true u)).symm, rfl⟩) (fun u3 => ?_))
  refine w_word h (by decide) (w_z (fun u => w_rt ⟨(yes 4 (by decide) (of_decide_eq_true u)).symm, rfl⟩) (fun u4 => ?_))
  refine w_word h (by decide) (w_z (fun u => w_rt ⟨(yes 5 (by decide) (of_decide_eq_true u)).symm, rfl⟩) (fun u5 => ?_))
  refine w_rt ⟨?_, rfl⟩
  rw [if_neg]
  intro z
  rcases (show tw b n c = 0 ∨ tw b n c = 1 ∨ tw b n c = 2 ∨ tw b n c = 3 ∨ tw b n c = 4 ∨ tw b n c = 5 by have := z.2; omega) with e | e | e | e | e | e
  · exact of_decide_eq_false u0 ⟨z.1, e⟩
  · exact of_decide_eq_false u1 ⟨z.1, e⟩
  · exact of_decide_eq_false u2 ⟨z.1, e⟩
  · exact of_decide_eq_false u3 ⟨z.1, e⟩
  · exact of_decide_eq_false u4 ⟨z.1, e⟩
  · exact of_decide_eq_false u5 ⟨z.1, e⟩
theorem asked_x {S : St} {b : Nat → Nat} {n c F : Nat} {P : Int32} (h : CLr S b n c F P) : fX3_askedHere 15 S = some (if isA b n c then Int32.ofNat (tw b n c - 11) else -1, S) := by
  apply Rn.eq
  unfold fX3_askedHere
  have yes : ∀ w, 11 ≤ w → w ≤ 17 → isW b n c w → (if isA b n c then Int32.ofNat (tw b n c - 11) else -1) = Int32.ofNat (w - 11) := fun w hw hw2 z => by
    rw [if_pos ⟨z.1, by rw [z.2]; exact hw, by rw [z.2]; exact hw2⟩, z.2]
  refine w_word h (by decide) (w_z (fun u => w_rt ⟨(yes 11 (by decide) (by decide) (of_decide_eq_true u)).symm, rfl⟩) (fun u0 => ?_))
  refine w_word h (by decide) (w_z (fun u => w_rt ⟨(yes 12 (by decide) (by decide) (of_decide_eq_true u)).symm, rfl⟩) (fun u1 => ?_))
  refine w_word h (by decide) (w_z (fun u => w_rt ⟨(yes 13 (by decide) (by decide) (of_decide_eq_true u)).symm, rfl⟩) (fun u2 => ?_))
  refine w_word h (by decide) (w_z (fun u => w_rt ⟨(yes 14 (by decide) (by decide) (of_decide_eq_true u)).symm, rfl⟩) (fun u3 => ?_))
  refine w_word h (by decide) (w_z (fun u => w_rt ⟨(yes 15 (by decide) (by decide) (of_decide_eq_true u)).symm, rfl⟩) (fun u4 => ?_))
  refine w_word h (by decide) (w_z (fun u => w_rt ⟨(yes 16 (by decide) (by decide) (of_decide_eq_true u)).symm, rfl⟩) (fun u5 => ?_))
  refine w_word h (by decide) (w_z (fun u => w_rt ⟨(yes 17 (by decide) (by decide) (of_decide_eq_true u)).symm, rfl⟩) (fun u6 => ?_))
  refine w_rt ⟨?_, rfl⟩
  rw [if_neg]
  intro z
  rcases (show tw b n c = 11 ∨ tw b n c = 12 ∨ tw b n c = 13 ∨ tw b n c = 14 ∨ tw b n c = 15 ∨ tw b n c = 16 ∨ tw b n c = 17 by have := z.2; omega) with e | e | e | e | e | e | e
  · exact of_decide_eq_false u0 ⟨z.1, e⟩
  · exact of_decide_eq_false u1 ⟨z.1, e⟩
  · exact of_decide_eq_false u2 ⟨z.1, e⟩
  · exact of_decide_eq_false u3 ⟨z.1, e⟩
  · exact of_decide_eq_false u4 ⟨z.1, e⟩
  · exact of_decide_eq_false u5 ⟨z.1, e⟩
  · exact of_decide_eq_false u6 ⟨z.1, e⟩
theorem sign_x {S : St} {b : Nat → Nat} {n c F : Nat} {P : Int32} (h : CLr S b n c F P) : fX3_signHere 15 S = some (if isC b n c then Int32.ofNat (sgC (b (tP b n c))) else -1, S) := by
  apply Rn.eq
  unfold fX3_signHere
  refine w_sign (y := 60) h (by decide) (w_z (fun u => w_rt ⟨?_, rfl⟩) (fun u0 => ?_))
  · have u := of_decide_eq_true u
    rw [if_pos ⟨u.1, Or.inl u.2⟩, u.2]; rfl
  refine w_sign (y := 62) h (by decide) (w_z (fun u => w_rt ⟨?_, rfl⟩) (fun u1 => ?_))
  · have u := of_decide_eq_true u
    rw [if_pos ⟨u.1, Or.inr (Or.inl u.2)⟩, u.2]; rfl
  refine w_sign (y := 61) h (by decide) (w_z (fun u => w_rt ⟨?_, rfl⟩) (fun u2 => w_rt ⟨?_, rfl⟩))
  · have u := of_decide_eq_true u
    rw [if_pos ⟨u.1, Or.inr (Or.inr u.2)⟩, u.2]; rfl
  · rw [if_neg]
    rintro ⟨z, e | e | e⟩
    · exact of_decide_eq_false u0 ⟨z, e⟩
    · exact of_decide_eq_false u1 ⟨z, e⟩
    · exact of_decide_eq_false u2 ⟨z, e⟩
theorem keep_x {S : St} {L k nt k1 k2 k3 : Nat} (hS : SH S) (hL : L ≤ 400) (hk : k ≤ 400) (hnt : nt ≤ 1) : Rn (fX3_keepTest 15 (Int32.ofNat L) (Int32.ofNat k) (Int32.ofNat nt) (Int32.ofNat k1) (Int32.ofNat k2) (Int32.ofNat k3) S) (fun _ S' => FC (XK L) S S' ∧ (L < 16 → k < 4 → sI S' 19 L = Int32.ofNat (k + 1) ∧ ∀ j, j < 4 → sI S' 20 (16 * L + 4 * k + j) = Int32.ofNat (rowT nt k1 k2 k3 j)) ∧ ∀ i, ¬ (16 * L + 4 * k ≤ i ∧ i < 16 * L + 4 * k + 4) → sI S' 20 i = sI S 20 i) := by
  unfold fX3_keepTest
  refine w_cl (within_eq _ _ _ S) ?_
  rw [show (0 : Int32) = Int32.ofNat 0 from rfl, show (15 : Int32) = Int32.ofNat 15 from rfl, wi_ofNat (by omega) (by omega) (by omega)]
  refine w_z (fun u => ?_) (fun u => w_rt ⟨FC.rfl, fun z => absurd (show 0 ≤ L ∧ L ≤ 15 by omega) (of_decide_eq_false u), fun _ _ => rfl⟩)
  have u := of_decide_eq_true u
  refine w_cl (within_eq _ _ _ S) ?_
  rw [show (3 : Int32) = Int32.ofNat 3 from rfl, wi_ofNat (by omega) (by omega) (by omega)]
  refine w_z (fun v => ?_) (fun v => w_rt ⟨FC.rfl, fun _ z => absurd (show 0 ≤ k ∧ k ≤ 3 by omega) (of_decide_eq_false v), fun _ _ => rfl⟩)
  have v := of_decide_eq_true v
  have ix : Int32.ofNat L * 16 + Int32.ofNat k * 4 = Int32.ofNat (16 * L + 4 * k) := by
    rw [show (16 : Int32) = Int32.ofNat 16 from rfl, show (4 : Int32) = Int32.ofNat 4 from rfl, mul_of, mul_of, add_of, Nat.mul_comm L 16, Nat.mul_comm k 4]
  have i1 : Int32.ofNat (16 * L + 4 * k) + 1 = Int32.ofNat (16 * L + 4 * k + 1) := succ32 _
  have i2 : Int32.ofNat (16 * L + 4 * k) + 2 = Int32.ofNat (16 * L + 4 * k + 2) := by rw [show (2 : Int32) = Int32.ofNat 2 from rfl, add_of]
  have i3 : Int32.ofNat (16 * L + 4 * k) + Int32.ofNat 3 = Int32.ofNat (16 * L + 4 * k + 3) := by rw [add_of]
  rw [ix]
  have key : ∀ y : Int32, y = Int32.ofNat nt → Rn (fX3_keepTest_45 15 (Int32.ofNat L) (Int32.ofNat k) (Int32.ofNat k1) (Int32.ofNat k2) (Int32.ofNat k3) (Int32.ofNat (16 * L + 4 * k)) y (Int32.ofNat (16 * L + 4 * k)) (some 20) S) (fun _ S' => FC (XK L) S S' ∧ (L < 16 → k < 4 → sI S' 19 L = Int32.ofNat (k + 1) ∧ ∀ j, j < 4 → sI S' 20 (16 * L + 4 * k + j) = Int32.ofNat (rowT nt k1 k2 k3 j)) ∧ ∀ i, ¬ (16 * L + 4 * k ≤ i ∧ i < 16 * L + 4 * k + 4) → sI S' 20 i = sI S 20 i) := by
    rintro y rfl
    unfold fX3_keepTest_45
    have s1 := SHi hS 20 (16 * L + 4 * k) (Int32.ofNat nt)
    have s2 := SHi s1 20 (16 * L + 4 * k + 1) (Int32.ofNat k1)
    have s3 := SHi s2 20 (16 * L + 4 * k + 2) (Int32.ofNat k2)
    have s4 := SHi s3 20 (16 * L + 4 * k + 3) (Int32.ofNat k3)
    refine w_nn (w_wI (SH_K20 hS) rfl (SH_L20 hS) (by omega) (w_gR (SH_K15 s1) (SH_R15_5 s1) (w_nn (w_wI (SH_K20 s1) i1 (SH_L20 s1) (by omega) (w_gR (SH_K15 s2) (SH_R15_5 s2) (w_nn (w_wI (SH_K20 s2) i2 (SH_L20 s2) (by omega) (w_gR (SH_K15 s3) (SH_R15_5 s3) (w_nn (w_wI (SH_K20 s3) i3 (SH_L20 s3) (by omega) (w_gR (SH_K15 s4) (SH_R15_4 s4) (w_nn (w_wI (SH_K19 s4) rfl (SH_L19 s4) (by omega) (w_rt ⟨?_, fun _ _ => ⟨?_, fun j hj => ?_⟩, fun i hi => ?_⟩))))))))))))))
    · exact ((((FC.rfl.st _ (Or.inr ⟨rfl, by omega, by omega⟩)).st _ (Or.inr ⟨rfl, by omega, by omega⟩)).st _ (Or.inr ⟨rfl, by omega, by omega⟩)).st _ (Or.inr ⟨rfl, by omega, by omega⟩)).st _ (Or.inl ⟨rfl, rfl⟩)
    · rw [st_get, succ32]
    · rw [st_ne (Or.inl (by decide))]
      rcases (show j = 0 ∨ j = 1 ∨ j = 2 ∨ j = 3 by omega) with rfl | rfl | rfl | rfl
      · rw [st_ne (Or.inr (by omega)), st_ne (Or.inr (by omega)), st_ne (Or.inr (by omega)), Nat.add_zero, st_get]; rfl
      · rw [st_ne (Or.inr (by omega)), st_ne (Or.inr (by omega)), st_get]; rfl
      · rw [st_ne (Or.inr (by omega)), st_get]; rfl
      · rw [st_get]; rfl
    · rw [st_ne (Or.inl (by decide)), st_ne (Or.inr (by omega)), st_ne (Or.inr (by omega)), st_ne (Or.inr (by omega)), st_ne (Or.inr (by omega))]
  refine w_gR (SH_K15 hS) (SH_R15_5 hS) (w_br (fun w => key _ ?_) (fun w => key _ ?_))
  · rw [eq_ofNat (by omega) (by omega)] at w
    rw [w]
  · rw [eq_ofNat (by omega) (by omega)] at w
    rw [show nt = 1 by omega]; rfl
