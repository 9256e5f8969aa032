-- lists: reading, in the class
theorem tsts_c {b : Nat → Nat} {n : Nat} : ∀ f s, s.1 ≤ n → (tsts b n f s).1 = true → s.1 < (tsts b n f s).2.1 ∧ (tsts b n f s).2.1 ≤ n ∧ ((tsts b n f s).2.2.2.1 = 0 → s.2.2.1 = 0) := by
  intro f
  induction f with
  | zero => intro s _ h; exact absurd (show false = true from h) (by decide)
  | succ f ih =>
    intro s hc h
    rw [tsts] at h ⊢
    by_cases u : (tst b n s.1).1 = true
    · rw [if_pos u] at h ⊢
      have hcc := tst_c hc u
      have h1 : s.1 < (tsN b n s).1 := hcc.1
      have h2 : (tsN b n s).1 ≤ n := hcc.2.1
      by_cases v : isW b n (tsN b n s).1 31
      · rw [if_pos v] at h ⊢
        have hn := tN_b (b := b) h2
        have hp := tP_b (b := b) h2
        have := ih (tN b n (tsN b n s).1, (tsN b n s).2) hn.2.1 h
        refine ⟨?_, this.2.1, fun z => (tsF_z (this.2.2 z)).2⟩
        have q : tN b n (tsN b n s).1 < _ := this.1
        omega
      · rw [if_neg v]
        exact ⟨h1, h2, fun z => (tsF_z z).2⟩
    · rw [if_neg u] at h; exact absurd (show false = true from h) (by decide)
theorem lnFf_z {L F : Nat} (h : lnFf L F = 0) : L < 16 ∧ F = 0 := by
  unfold lnFf at h
  by_cases c : L < 16
  · rw [if_pos c] at h; exact ⟨c, h⟩
  · rw [if_neg c] at h; exact absurd h (ntF_z (by decide))
theorem lts_c {b : Nat → Nat} {n c L F : Nat} {P : Int32} (hc : c ≤ n) (ht : tK b n c = 1) (h : (lts b n c L F P).1 = true) : c < (lts b n c L F P).2.1 ∧ (lts b n c L F P).2.1 ≤ n ∧ ((lts b n c L F P).2.2.2.1 = 0 → L < 16 ∧ F = 0) := by
  have hp := tP_b (b := b) hc
  have hn := tN_b (b := b) hc
  have hl := tK1_le hc ht
  have hn2 := tN_b (b := b) hn.2.1
  have hp2 := tP_b (b := b) hn.2.1
  unfold lts at h ⊢
  by_cases u : isW b n (tN b n c) 30
  · rw [if_pos u] at h ⊢
    have := tsts_c (n + 1) _ hn2.2.1 h
    refine ⟨?_, this.2.1, fun z => lnFf_z (this.2.2 z)⟩
    have q : tN b n (tN b n c) < _ := this.1
    omega
  · rw [if_neg u]
    exact ⟨by show c < tN b n c; omega, hn.2.1, fun z => lnFf_z z⟩
theorem lin_c {b : Nat → Nat} {n : Nat} {s : LSt} (hc : s.1 ≤ n) (h : (lin b n s).1 = true) : s.1 < (lin b n s).2.1 ∧ (lin b n s).2.1 ≤ n ∧ (lin b n s).2.2.1 = s.2.1 + 1 := by
  unfold lin at h ⊢
  by_cases t : isT b n s.1
  · rw [if_pos t] at h ⊢
    unfold lin2 at h ⊢
    by_cases u : (lts b n s.1 s.2.1 s.2.2.1 s.2.2.2.1).1 = true
    · rw [if_pos u] at h ⊢
      have hl := lts_c hc t.1 u
      unfold lin3 at h ⊢
      by_cases v : (nbr b n (lts b n s.1 s.2.1 s.2.2.1 s.2.2.2.1).2.1 (tw b n s.1) (lts b n s.1 s.2.1 s.2.2.1 s.2.2.2.1).2.2.2.1 (lts b n s.1 s.2.1 s.2.2.1 s.2.2.2.1).2.2.2.2.1).1 = true
      · rw [if_pos v]
        have hq := nbr_c hl.2.1 v
        exact ⟨Nat.lt_trans hl.1 hq.1, hq.2.1, rfl⟩
      · rw [if_neg v] at h; exact absurd (show false = true from h) (by decide)
    · rw [if_neg u] at h; exact absurd (show false = true from h) (by decide)
  · rw [if_neg t] at h; exact absurd (show false = true from h) (by decide)
theorem line_x {S : St} {b : Nat → Nat} {n : Nat} {s : LSt} (h : CLs S b n s) : Rn (fX3_readLine 15 (Int32.ofNat s.2.1) S) (fun r S' => r = (lin b n s).1 ∧ FC XL S S' ∧ LQ S' b n (lin b n s)) := by
  obtain ⟨c, L, F, P, d⟩ := s
  obtain ⟨h0, hLc, hD⟩ := h
  have h0 : CLr S b n c F P := h0
  have hLc : L ≤ c := hLc
  have hD : F = 0 → CD S L d := hD
  show Rn (fX3_readLine 15 (Int32.ofNat L) S) _
  have h400 := h0.1.2.2.2.2.1
  have hc := h0.2.1
  have hp := tP_b (b := b) hc
  have hn := tN_b (b := b) hc
  have hn2 := tN_b (b := b) hn.2.1
  have hS := h0.1.1
  unfold fX3_readLine
  refine w_ck (SH_K15 hS) (w_cl (topic_x h0) ?_)
  by_cases t : isT b n c
  · have el : lin b n (c, L, F, P, d) = lin2 b n c L (tw b n c) d (lts b n c L F P) := by unfold lin; exact if_pos t
    rw [el, if_pos t]
    have htw := t.2
    have hlt := tK1_le hc t.1
    have h63 : ∀ S2 F1 P1, FC (XLl L) S S2 → CLr S2 b n c F1 P1 → F1 = lnFf L F → P1 = lnPf L F P (Int32.ofNat (tP b n c)) → (L < 16 → sI S2 17 L = Int32.ofNat (tw b n c) ∧ sI S2 19 L = 0) → Rn (fX3_readLine_63 15 (Int32.ofNat L) (Int32.ofNat (tw b n c)) S2) (fun r S' => r = (lin2 b n c L (tw b n c) d (lts b n c L F P)).1 ∧ FC XL S S' ∧ LQ S' b n (lin2 b n c L (tw b n c) d (lts b n c L F P))) := by
      rintro S2 F1 P1 f2 c2 rfl rfl hw
      unfold fX3_readLine_63
      refine w_step c2 (fun S3 f3 c3 => ?_)
      have fS3 : FC (XLl L) S S3 := f2.trans (f3.mono (fun a j z => Or.inl z))
      have h17 : L < 16 → sI S3 17 L = Int32.ofNat (tw b n c) := fun q => by rw [f3.i (X16.n (by decide))]; exact (hw q).1
      have h19 : L < 16 → sI S3 19 L = 0 := fun q => by rw [f3.i (X16.n (by decide))]; exact (hw q).2
      refine w_word c3 (by decide) (w_z (fun u => ?_) (fun u => ?_))
      · have u : isW b n (tN b n c) 30 := of_decide_eq_true u
        have e2 : lts b n c L F P = tsts b n (n + 1) (tN b n (tN b n c), 0, lnFf L F, lnPf L F P (Int32.ofNat (tP b n c)), fun _ _ => 0) := by unfold lts; exact if_pos u
        refine w_ck (SH_K15 c3.1.1) (w_clr (tests_x c3 (by omega) (fun z => ⟨(lnFf_z z).1, h19 (lnFf_z z).1⟩)) ?_)
        rw [← e2]
        have hlc := lts_c (b := b) (n := n) (c := c) (L := L) (F := F) (P := P) hc t.1
        generalize lts b n c L F P = R at *
        rintro r S4 ⟨er, f4, tq⟩
        have fS4 : FC (XLl L) S S4 := fS3.trans (f4.mono (fun a j z => by
          rcases z with z | z | z
          · exact Or.inl z
          · exact Or.inr (Or.inl ⟨Or.inr (Or.inr z.1), z.2⟩)
          · exact Or.inr (Or.inr z)))
        refine w_z (fun v => ?_) (fun v => ?_)
        · rw [v] at er
          have e3 : lin2 b n c L (tw b n c) d R = lin3 c L (tw b n c) R.2.2.1 R.2.2.2.2.2 d (nbr b n R.2.1 (tw b n c) R.2.2.2.1 R.2.2.2.2.1) := by unfold lin2; exact if_pos er.symm
          rw [e3]
          obtain ⟨q1, q2⟩ := tq.1 er.symm
          obtain ⟨l1, l2, l3⟩ := hlc er.symm
          exact line92_x q1 fS4 (by omega) (by omega) htw (fun q => by rw [f4.i (fun z => by unfold XT X16 XK at z; omega)]; exact h17 q) (fun z => ⟨q2 z, hD (l3 z).2⟩)
        · rw [v] at er
          have e3 : lin2 b n c L (tw b n c) d R = (false, (c, L, 1, R.2.2.2.2.1, d)) := by unfold lin2; exact if_neg (by rw [← er]; decide)
          rw [e3]
          exact w_r0 ⟨rfl, fS4.mono (fun a j z => z.xl), LQ_f (tq.2 er.symm).1⟩
      · have u : ¬ isW b n (tN b n c) 30 := of_decide_eq_false u
        have e2 : lts b n c L F P = (true, (tN b n c, 0, lnFf L F, lnPf L F P (Int32.ofNat (tP b n c)), fun _ _ => 0)) := by unfold lts; exact if_neg u
        rw [e2]
        refine line92_x (c := c) (k := 0) (e := fun _ _ => 0) c3 fS3 (by omega) (show L < tN b n c by omega) htw h17 (fun z => ⟨⟨(lnFf_z z).1, ⟨Nat.zero_le _, fun t ht => absurd ht (Nat.not_lt_zero _)⟩, h19 (lnFf_z z).1, fun t j ht => absurd ht (Nat.not_lt_zero _)⟩, hD (lnFf_z z).2⟩)
    have h39 : ∀ S1 F1 P1, FC X16 S S1 → CLr S1 b n c F1 P1 → F1 = lnFf L F → P1 = lnPf L F P (Int32.ofNat (tP b n c)) → Rn (fX3_readLine_39 15 (Int32.ofNat L) (Int32.ofNat (tw b n c)) S1) (fun r S' => r = (lin2 b n c L (tw b n c) d (lts b n c L F P)).1 ∧ FC XL S S' ∧ LQ S' b n (lin2 b n c L (tw b n c) d (lts b n c L F P))) := by
      rintro S1 F1 P1 f1 c1 eF eP
      have hS1 := c1.1.1
      unfold fX3_readLine_39
      refine w_cl (within_eq _ _ _ S1) ?_
      rw [show (0 : Int32) = Int32.ofNat 0 from rfl, show (15 : Int32) = Int32.ofNat 15 from rfl, wi_ofNat (by omega) (by omega) (by omega)]
      refine w_z (fun w => ?_) (fun w => ?_)
      · have w := of_decide_eq_true w
        have s2 := SHi hS1 17 L (Int32.ofNat (tw b n c))
        have f2 : FC (XLl L) S1 (stI (stI S1 17 L (Int32.ofNat (tw b n c))) 19 L (Int32.ofNat 0)) := (FC.rfl.st _ (Or.inr (Or.inl ⟨Or.inl rfl, rfl⟩))).st _ (Or.inr (Or.inl ⟨Or.inr (Or.inr rfl), rfl⟩))
        have f2' : FC (fun a _ => a = 17 ∨ a = 19) S1 (stI (stI S1 17 L (Int32.ofNat (tw b n c))) 19 L (Int32.ofNat 0)) := (FC.rfl.st _ (Or.inl rfl)).st _ (Or.inr rfl)
        refine w_gR (SH_K15 hS1) (SH_R15_2 hS1) (w_nn (w_wI (SH_K17 hS1) rfl (SH_L17 hS1) (by omega) (w_gR (SH_K15 s2) (SH_R15_4 s2) (w_nn (w_wI (SH_K19 s2) rfl (SH_L19 s2) (by omega) ?_)))))
        refine h63 _ F1 P1 ((f1.mono (fun a j z => Or.inl z)).trans f2) (c1.fc f2' (by omega) (by omega)) eF eP (fun _ => ⟨?_, st_get⟩)
        rw [st_ne (Or.inl (by decide)), st_get]
      · have w := of_decide_eq_false w
        exact h63 S1 F1 P1 (f1.mono (fun a j z => Or.inl z)) c1 eF eP (fun q => absurd (show 0 ≤ L ∧ L ≤ 15 by omega) w)
    refine w_bf (ofNat_ne_m1 (by omega)) (w_br (fun w => ?_) (fun w => ?_))
    · rw [show (16 : Int32) = Int32.ofNat 16 from rfl, lt_ofNat (by omega) (by omega)] at w
      exact h39 S _ _ FC.rfl h0 (by rw [lnFf, if_pos w]) (by rw [lnPf, if_pos w])
    · rw [show (16 : Int32) = Int32.ofNat 16 from rfl, lt_ofNat (by omega) (by omega)] at w
      refine w_gR (SH_K15 hS) (SH_R15_0 hS) (w_gR (SH_K15 hS) (SH_R15_0 hS) (w_nn (w_gIe (SH_K16 hS) h0.2.2.1.2.2.1 (w_nn (w_ck (SH_K16 hS) (w_clr (note_l (f := 3) h0 (by decide)) ?_))))))
      rintro _ S1 ⟨f1, c1⟩
      exact h39 S1 _ _ f1 c1 (by rw [lnFf, if_neg w]) (by rw [lnPf, if_neg w])
  · have el : lin b n (c, L, F, P, d) = (false, (c, L, 1, Int32.ofNat (tP b n c), d)) := by unfold lin; exact if_neg t
    rw [el, if_neg t]
    exact w_bt rfl (w_fail h0 (fun S3 f3 g3 => ⟨rfl, f3.mono (fun a j z => Or.inl z), LQ_f g3⟩))
def lins (b : Nat → Nat) (n : Nat) : Nat → LSt → LSt
  | 0, s => s
  | f + 1, s => if tK b n s.1 = 0 then s else if (lin b n s).1 = true then lins b n f (lin b n s).2 else (lin b n s).2
def s0L : LSt := (0, 0, 0, -1, fun _ _ => 0)
def XR (a j : Nat) : Prop := XL a j ∨ (a = 15 ∧ j = 1)
def RXl (S0 S : St) (s : LSt) : Prop := FC XR S0 S ∧ SH S ∧ sI S 16 3 = Int32.ofNat s.2.2.1 ∧ s.2.2.1 ≤ 4 ∧ sI S 16 4 = s.2.2.2.1 ∧ (s.2.2.1 = 0 → CD S s.2.1 s.2.2.2.2 ∧ sI S 15 1 = Int32.ofNat s.2.1)
theorem lloop_x {S0 S : St} {b : Nat → Nat} {n : Nat} (hc : CLs S b n s0L) (hF : FC XR S0 S) (h1 : sI S 15 1 = 0) : Rn (itr (fun k (p : Nat × Int32) => fX3_read_16 k p.1 p.2) FU (15, 0) S) (fun _ S' => RXl S0 S' (lins b n (n + 1) s0L)) := by
  have h400 := hc.1.1.2.2.2.2.1
  generalize hR : lins b n (n + 1) s0L = R
  refine w_itr (fun m p S' => ∃ s : LSt, p = ((15 : Nat), Int32.ofNat s.2.1) ∧ CLs S' b n s ∧ sI S' 15 1 = Int32.ofNat s.2.1 ∧ FC XR S0 S' ∧ lins b n m s = R ∧ n + 1 ≤ m + s.1) ?_ ?_ (n + 1) FU _ _ (by unfold FU; omega) ⟨s0L, rfl, hc, h1, hF, hR, Nat.le_refl _⟩
  · rintro p S' ⟨s, _, g, _, _, _, q⟩
    have := g.1.2.1
    omega
  rintro m k p S1 ⟨s, rfl, g1, i1, f1, hT, hm⟩ hk
  have hS1 := g1.1.1.1
  have hcn := g1.1.2.1
  have hLc := g1.2.1
  have hkk := tK_le b n s.1
  rw [lins] at hT
  dsimp only [fX3_read_16]
  refine w_bf (by rw [show (400 : Int32) = Int32.ofNat 400 from rfl, lt_ofNat (by omega) (by omega)]; omega) (w_gR (SH_K15 hS1) (SH_R15_0 hS1) (w_nn (w_gIe (SH_K16 hS1) g1.1.2.2.1.1 (w_br (fun u => ?_) (fun u => ?_)))))
  · rw [show (0 : Int32) = Int32.ofNat 0 from rfl, eq_ofNat (by omega) (by omega)] at u
    rw [if_pos u] at hT
    rw [← hT]
    exact w_rt ⟨f1, hS1, g1.1.2.2.2.1, g1.1.2.2.2.2.1, g1.1.2.2.2.2.2, fun z => ⟨g1.2.2 z, i1⟩⟩
  · rw [show (0 : Int32) = Int32.ofNat 0 from rfl, eq_ofNat (by omega) (by omega)] at u
    rw [if_neg u] at hT
    refine w_ck (SH_K15 hS1) (w_clr (line_x g1) ?_)
    rintro r S2 ⟨er, f2, lq⟩
    have f2' : FC XR S0 S2 := f1.trans (f2.mono (fun a j z => Or.inl z))
    refine w_z (fun v => ?_) (fun v => ?_)
    · rw [v] at er
      rw [if_pos er.symm] at hT
      obtain ⟨l1, l2, l3⟩ := lin_c hcn er.symm
      have g2 := lq.1 er.symm
      have hS2 := g2.1.1.1
      refine w_pI (SH_K15 hS2) ?_
      rw [succ32]
      have f3 : FC (fun a _ => a = 15) S2 (stI S2 15 1 (Int32.ofNat (s.2.1 + 1))) := FC.rfl.st _ rfl
      refine hk _ _ ⟨(lin b n s).2, by rw [l3], ⟨g2.1.fc f3 (by omega) (by omega), g2.2.1, fun z => ?_⟩, by rw [st_get, l3], f2'.st _ (Or.inr ⟨rfl, rfl⟩), hT, by omega⟩
      obtain ⟨d1, d2⟩ := g2.2.2 z
      refine ⟨d1, fun l hl => ?_⟩
      obtain ⟨a1, a2, a3, a4, a5⟩ := d2 l hl
      exact ⟨a1, by rw [f3.i (by omega)]; exact a2, by rw [f3.i (by omega)]; exact a3, by rw [f3.i (by omega)]; exact a4, fun t j ht hj => by rw [f3.i (by omega)]; exact a5 t j ht hj⟩
    · rw [v] at er
      rw [if_neg (by rw [← er]; decide)] at hT
      obtain ⟨q1, q2⟩ := lq.2 er.symm
      rw [← hT]
      exact w_rt ⟨f2', q1.1.1, by rw [q2]; exact q1.2.1, by rw [q2]; decide, q1.2.2, fun z => by rw [q2] at z; exact absurd z (by decide)⟩
def sLs (al : Nat → Int32) : LSt := lins (byT al) (nat (al 5)) (nat (al 5) + 1) s0L
theorem lread_x {S : St} {n : Nat} {b : Nat → Nat} (h : SH S) (hn : n ≤ 400) (hb : ∀ i, b i < 256) (hB : ∀ i, i < 400 → sI S 2 i = cbI (b i)) : Rn (fX3_read 15 (some 2) (Int32.ofNat n) S) (fun _ S' => FC (fun a _ => 15 ≤ a ∧ a ≤ 20) (stR S 16 5 (some 2)) S' ∧ sI S' 16 3 = Int32.ofNat (lins b n (n + 1) s0L).2.2.1 ∧ (lins b n (n + 1) s0L).2.2.1 ≤ 4 ∧ sI S' 16 4 = (lins b n (n + 1) s0L).2.2.2.1 ∧ ((lins b n (n + 1) s0L).2.2.1 = 0 → CD S' (lins b n (n + 1) s0L).2.1 (lins b n (n + 1) s0L).2.2.2.2 ∧ sI S' 15 1 = Int32.ofNat (lins b n (n + 1) s0L).2.1)) := by
  unfold fX3_read
  refine w_gR (SH_K15 h) (SH_R15_0 h) (w_nn (w_ck (SH_K16 h) (w_clr (start_x h (Or.inr rfl) hn hb hB) ?_)))
  rintro _ S1 ⟨f1, d1, t1, g3, g4⟩
  have s1 := d1.1
  have f2 : FC (fun a _ => a = 15) S1 (stI S1 15 1 0) := FC.rfl.st _ rfl
  have c1 : CLr S1 b n 0 0 (-1) := ⟨d1, Nat.zero_le _, t1, g3, Nat.zero_le _, g4⟩
  have c2 : CLr (stI S1 15 1 0) b n 0 0 (-1) := c1.fc f2 (by omega) (by omega)
  refine w_pI (SH_K15 s1) (Rn.mono (lloop_x (S0 := S1) (b := b) (n := n) ⟨c2, Nat.le_refl _, fun _ => ⟨Nat.zero_le _, fun l hl => absurd hl (Nat.not_lt_zero _)⟩⟩ (FC.rfl.st _ (Or.inr ⟨rfl, rfl⟩)) st_get) ?_)
  rintro _ S5 ⟨f5, s5, q3, q34, q4, qc⟩
  exact ⟨(f1.mono (fun a j (z : a = 16) => by omega)).trans (f5.mono (fun a j z => by unfold XR XL X16 at z; omega)), q3, q34, q4, qc⟩
