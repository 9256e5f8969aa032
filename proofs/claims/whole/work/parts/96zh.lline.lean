-- lists: lines, in the class
abbrev NR := Bool × Nat × Nat × Int32 × Nat
def nbF (tp F v : Nat) : Nat := if tp = 5 ∧ 100 < v then ntF F 2 else F
def nbP (tp F v : Nat) (P q : Int32) : Int32 := if tp = 5 ∧ 100 < v then ntP F P q else P
def nbr (b : Nat → Nat) (n c tp F : Nat) (P : Int32) : NR := if isS b n c 58 then (if tK b n (tN b n c) = 2 then (if isS b n (tN b n (tN b n c)) 59 then (true, tN b n (tN b n (tN b n c)), nbF tp F (tV b n (tN b n c)), nbP tp F (tV b n (tN b n c)) P (Int32.ofNat (tP b n (tN b n c))), tV b n (tN b n c)) else (false, 0, 1, Int32.ofNat (tP b n (tN b n (tN b n c))), 0)) else (false, 0, 1, Int32.ofNat (tP b n (tN b n c)), 0)) else (false, 0, 1, Int32.ofNat (tP b n c), 0)
def XN8 (L a j : Nat) : Prop := X16 a j ∨ (a = 18 ∧ j = L)
def NQ (S : St) (b : Nat → Nat) (n L : Nat) (q : NR) : Prop := (q.1 = true → CLr S b n q.2.1 q.2.2.1 q.2.2.2.1 ∧ (L < 16 → sI S 18 L = Int32.ofNat q.2.2.2.2)) ∧ (q.1 = false → CFr S b n q.2.2.2.1)
theorem NQ_f {S : St} {b : Nat → Nat} {n L : Nat} {P : Int32} (h : CFr S b n P) : NQ S b n L (false, 0, 1, P, 0) := ⟨fun z => absurd (show false = true from z) (by decide), fun _ => h⟩
theorem number_x {S : St} {b : Nat → Nat} {n c F L tp : Nat} {P : Int32} (h : CLr S b n c F P) (hL : L ≤ 400) (htp : tp ≤ 5) : Rn (fX3_readNumber 15 (Int32.ofNat L) (Int32.ofNat tp) S) (fun r S' => r = (nbr b n c tp F P).1 ∧ FC (XN8 L) S S' ∧ NQ S' b n L (nbr b n c tp F P)) := by
  unfold fX3_readNumber nbr
  refine w_sign (y := 58) h (by decide) (w_z (fun u => ?_) (fun u => ?_))
  · have u := of_decide_eq_true u
    rw [if_pos u]
    refine w_step h (fun S1 f1 c1 => ?_)
    have hS1 := c1.1.1
    have hkk := tK_le b n (tN b n c)
    have hv := tV_b (b := b) c1.2.1
    refine w_gR (SH_K15 hS1) (SH_R15_0 hS1) (w_nn (w_gIe (SH_K16 hS1) c1.2.2.1.1 (w_br (fun v => ?_) (fun v => ?_))))
    · rw [show (2 : Int32) = Int32.ofNat 2 from rfl, eq_ofNat (by omega) (by omega)] at v
      rw [if_pos v]
      have h101 : ∀ S3 F3 P3, FC (XN8 L) S S3 → CLr S3 b n (tN b n c) F3 P3 → F3 = nbF tp F (tV b n (tN b n c)) → P3 = nbP tp F (tV b n (tN b n c)) P (Int32.ofNat (tP b n (tN b n c))) → (L < 16 → sI S3 18 L = Int32.ofNat (tV b n (tN b n c))) → Rn (fX3_readNumber_101 15 S3) (fun r S' => r = (if isS b n (tN b n (tN b n c)) 59 then ((true, tN b n (tN b n (tN b n c)), nbF tp F (tV b n (tN b n c)), nbP tp F (tV b n (tN b n c)) P (Int32.ofNat (tP b n (tN b n c))), tV b n (tN b n c)) : NR) else (false, 0, 1, Int32.ofNat (tP b n (tN b n (tN b n c))), 0)).1 ∧ FC (XN8 L) S S' ∧ NQ S' b n L (if isS b n (tN b n (tN b n c)) 59 then ((true, tN b n (tN b n (tN b n c)), nbF tp F (tV b n (tN b n c)), nbP tp F (tV b n (tN b n c)) P (Int32.ofNat (tP b n (tN b n c))), tV b n (tN b n c)) : NR) else (false, 0, 1, Int32.ofNat (tP b n (tN b n (tN b n c))), 0))) := by
        rintro S3 F3 P3 f3 c3 rfl rfl h18
        unfold fX3_readNumber_101
        refine w_step c3 (fun S4 f4 c4 => w_sign (y := 59) c4 (by decide) (w_z (fun w => ?_) (fun w => ?_)))
        · have w := of_decide_eq_true w
          rw [if_pos w]
          refine w_step c4 (fun S5 f5 c5 => w_r1 ⟨rfl, f3.trans ((f4.trans f5).mono (fun a j z => Or.inl z)), fun _ => ⟨c5, fun q => ?_⟩, fun z => absurd (show true = false from z) (by decide)⟩)
          rw [f5.i (X16.n (by decide)), f4.i (X16.n (by decide))]; exact h18 q
        · have w := of_decide_eq_false w
          rw [if_neg w]
          exact w_fail c4 (fun S5 f5 g5 => ⟨rfl, f3.trans ((f4.trans f5).mono (fun a j z => Or.inl z)), NQ_f g5⟩)
      have h78 : ∀ S2 F3 P3, FC X16 S S2 → CLr S2 b n (tN b n c) F3 P3 → F3 = nbF tp F (tV b n (tN b n c)) → P3 = nbP tp F (tV b n (tN b n c)) P (Int32.ofNat (tP b n (tN b n c))) → Rn (fX3_readNumber_78 15 (Int32.ofNat L) S2) (fun r S' => r = (if isS b n (tN b n (tN b n c)) 59 then ((true, tN b n (tN b n (tN b n c)), nbF tp F (tV b n (tN b n c)), nbP tp F (tV b n (tN b n c)) P (Int32.ofNat (tP b n (tN b n c))), tV b n (tN b n c)) : NR) else (false, 0, 1, Int32.ofNat (tP b n (tN b n (tN b n c))), 0)).1 ∧ FC (XN8 L) S S' ∧ NQ S' b n L (if isS b n (tN b n (tN b n c)) 59 then ((true, tN b n (tN b n (tN b n c)), nbF tp F (tV b n (tN b n c)), nbP tp F (tV b n (tN b n c)) P (Int32.ofNat (tP b n (tN b n c))), tV b n (tN b n c)) : NR) else (false, 0, 1, Int32.ofNat (tP b n (tN b n (tN b n c))), 0))) := by
        rintro S2 F3 P3 f2 c2 eF eP
        have hS2 := c2.1.1
        unfold fX3_readNumber_78
        refine w_cl (within_eq _ _ _ S2) ?_
        rw [show (0 : Int32) = Int32.ofNat 0 from rfl, show (15 : Int32) = Int32.ofNat 15 from rfl, wi_ofNat (by omega) (by omega) (by omega)]
        refine w_z (fun w => ?_) (fun w => ?_)
        · have w := of_decide_eq_true w
          have f3 : FC (XN8 L) S2 (stI S2 18 L (Int32.ofNat (tV b n (tN b n c)))) := FC.rfl.st _ (Or.inr ⟨rfl, rfl⟩)
          have f3' : FC (fun a _ => a = 18) S2 (stI S2 18 L (Int32.ofNat (tV b n (tN b n c)))) := FC.rfl.st _ rfl
          refine w_gR (SH_K15 hS2) (SH_R15_3 hS2) (w_gR (SH_K15 hS2) (SH_R15_0 hS2) (w_nn (w_gIe (SH_K16 hS2) c2.2.2.1.2.1 (w_nn (w_wI (SH_K18 hS2) rfl (SH_L18 hS2) (by omega) ?_)))))
          exact h101 _ F3 P3 ((f2.mono (fun a j z => Or.inl z)).trans f3) (c2.fc f3' (by omega) (by omega)) eF eP (fun _ => st_get)
        · have w := of_decide_eq_false w
          exact h101 S2 F3 P3 (f2.mono (fun a j z => Or.inl z)) c2 eF eP (fun q => absurd (show 0 ≤ L ∧ L ≤ 15 by omega) w)
      refine w_br (fun t5 => ?_) (fun t5 => ?_)
      · rw [show (5 : Int32) = Int32.ofNat 5 from rfl, eq_ofNat (by omega) (by omega)] at t5
        refine w_gR (SH_K15 hS1) (SH_R15_0 hS1) (w_nn (w_gIe (SH_K16 hS1) c1.2.2.1.2.1 (w_br (fun w => ?_) (fun w => ?_))))
        · rw [show (100 : Int32) = Int32.ofNat 100 from rfl, le_ofNat (by omega) (by omega)] at w
          exact h78 S1 _ _ f1 c1 (by rw [nbF, if_neg (by omega)]) (by rw [nbP, if_neg (by omega)])
        · rw [show (100 : Int32) = Int32.ofNat 100 from rfl, le_ofNat (by omega) (by omega)] at w
          refine w_gR (SH_K15 hS1) (SH_R15_0 hS1) (w_gR (SH_K15 hS1) (SH_R15_0 hS1) (w_nn (w_gIe (SH_K16 hS1) c1.2.2.1.2.2.1 (w_nn (w_ck (SH_K16 hS1) (w_clr (note_l (f := 2) c1 (by decide)) ?_))))))
          rintro _ S2 ⟨f2, c2⟩
          exact h78 S2 _ _ (f1.trans f2) c2 (by rw [nbF, if_pos ⟨t5, by omega⟩]) (by rw [nbP, if_pos ⟨t5, by omega⟩])
      · rw [show (5 : Int32) = Int32.ofNat 5 from rfl, eq_ofNat (by omega) (by omega)] at t5
        exact h78 S1 _ _ f1 c1 (by rw [nbF, if_neg (fun z => t5 z.1)]) (by rw [nbP, if_neg (fun z => t5 z.1)])
    · rw [show (2 : Int32) = Int32.ofNat 2 from rfl, eq_ofNat (by omega) (by omega)] at v
      rw [if_neg v]
      exact w_fail c1 (fun S3 f3 g3 => ⟨rfl, (f1.trans f3).mono (fun a j z => Or.inl z), NQ_f g3⟩)
  · have u := of_decide_eq_false u
    rw [if_neg u]
    exact w_fail h (fun S3 f3 g3 => ⟨rfl, f3.mono (fun a j z => Or.inl z), NQ_f g3⟩)
def rowL (tp k : Nat) (e : Nat → Nat → Nat) (v : Nat) : Nat → Nat := fun j => if j = 0 then tp else if j = 1 then k else if j = 18 then v else e ((j - 2) / 4) ((j - 2) % 4)
theorem rowL_t {tp k v t j : Nat} {e : Nat → Nat → Nat} (ht : t < 4) (hj : j < 4) : rowL tp k e v (2 + 4 * t + j) = e t j := by
  unfold rowL
  rw [if_neg (by omega), if_neg (by omega), if_neg (by omega), show (2 + 4 * t + j - 2) / 4 = t by omega, show (2 + 4 * t + j - 2) % 4 = j by omega]
abbrev LSt := Nat × Nat × Nat × Int32 × (Nat → Nat → Nat)
def lnFf (L F : Nat) : Nat := if L < 16 then F else ntF F 3
def lnPf (L F : Nat) (P q : Int32) : Int32 := if L < 16 then P else ntP F P q
def lts (b : Nat → Nat) (n c L F : Nat) (P : Int32) : Bool × TS := if isW b n (tN b n c) 30 then tsts b n (n + 1) (tN b n (tN b n c), 0, lnFf L F, lnPf L F P (Int32.ofNat (tP b n c)), fun _ _ => 0) else (true, (tN b n c, 0, lnFf L F, lnPf L F P (Int32.ofNat (tP b n c)), fun _ _ => 0))
def lin3 (c L tp k : Nat) (e d : Nat → Nat → Nat) (q : NR) : Bool × LSt := if q.1 = true then (true, (q.2.1, L + 1, q.2.2.1, q.2.2.2.1, upT d L (rowL tp k e q.2.2.2.2))) else (false, (c, L, 1, q.2.2.2.1, d))
def lin2 (b : Nat → Nat) (n c L tp : Nat) (d : Nat → Nat → Nat) (r : Bool × TS) : Bool × LSt := if r.1 = true then lin3 c L tp r.2.2.1 r.2.2.2.2.2 d (nbr b n r.2.1 tp r.2.2.2.1 r.2.2.2.2.1) else (false, (c, L, 1, r.2.2.2.2.1, d))
abbrev isT (b : Nat → Nat) (n c : Nat) : Prop := tK b n c = 1 ∧ tw b n c ≤ 5
def lin (b : Nat → Nat) (n : Nat) (s : LSt) : Bool × LSt := if isT b n s.1 then lin2 b n s.1 s.2.1 (tw b n s.1) s.2.2.2.2 (lts b n s.1 s.2.1 s.2.2.1 s.2.2.2.1) else (false, (s.1, s.2.1, 1, Int32.ofNat (tP b n s.1), s.2.2.2.2))
def gL (d : Nat → Nat) : Prop := d 0 ≤ 5 ∧ d 18 ≤ 9999 ∧ (d 0 = 5 → d 18 ≤ 100) ∧ d 1 ≤ 4 ∧ ∀ t, t < d 1 → d (2 + 4 * t + 0) ≤ 1 ∧ d (2 + 4 * t + 1) ≤ 7 ∧ d (2 + 4 * t + 2) ≤ 2 ∧ d (2 + 4 * t + 3) ≤ 9999
def CD (S : St) (L : Nat) (d : Nat → Nat → Nat) : Prop := L ≤ 16 ∧ ∀ l, l < L → gL (d l) ∧ sI S 17 l = Int32.ofNat (d l 0) ∧ sI S 18 l = Int32.ofNat (d l 18) ∧ sI S 19 l = Int32.ofNat (d l 1) ∧ ∀ t j, t < d l 1 → j < 4 → sI S 20 (16 * l + 4 * t + j) = Int32.ofNat (d l (2 + 4 * t + j))
def CLs (S : St) (b : Nat → Nat) (n : Nat) (s : LSt) : Prop := CLr S b n s.1 s.2.2.1 s.2.2.2.1 ∧ s.2.1 ≤ s.1 ∧ (s.2.2.1 = 0 → CD S s.2.1 s.2.2.2.2)
def XL (a j : Nat) : Prop := X16 a j ∨ (17 ≤ a ∧ a ≤ 20)
def XLl (L a j : Nat) : Prop := X16 a j ∨ ((a = 17 ∨ a = 18 ∨ a = 19) ∧ j = L) ∨ (a = 20 ∧ 16 * L ≤ j ∧ j < 16 * L + 16)
def LQ (S : St) (b : Nat → Nat) (n : Nat) (r : Bool × LSt) : Prop := (r.1 = true → CLs S b n r.2) ∧ (r.1 = false → CFr S b n r.2.2.2.2.1 ∧ r.2.2.2.1 = 1)
theorem LQ_f {S : St} {b : Nat → Nat} {n c L : Nat} {P : Int32} {d : Nat → Nat → Nat} (h : CFr S b n P) : LQ S b n (false, (c, L, 1, P, d)) := ⟨fun z => absurd (show false = true from z) (by decide), fun _ => ⟨h, rfl⟩⟩
theorem XLl.xl {L a j : Nat} (h : XLl L a j) : XL a j := by
  rcases h with z | z | z
  · exact Or.inl z
  · exact Or.inr (by omega)
  · exact Or.inr (by omega)
theorem nbF_z {tp F v : Nat} (h : nbF tp F v = 0) : F = 0 ∧ (tp = 5 → v ≤ 100) := by
  unfold nbF at h
  by_cases c : tp = 5 ∧ 100 < v
  · rw [if_pos c] at h; exact absurd h (ntF_z (by decide))
  · rw [if_neg c] at h; exact ⟨h, fun z => by omega⟩
theorem nbr_c {b : Nat → Nat} {n c tp F : Nat} {P : Int32} (hc : c ≤ n) (h : (nbr b n c tp F P).1 = true) : c < (nbr b n c tp F P).2.1 ∧ (nbr b n c tp F P).2.1 ≤ n ∧ (nbr b n c tp F P).2.2.2.2 ≤ 9999 ∧ ((nbr b n c tp F P).2.2.1 = 0 → F = 0 ∧ (tp = 5 → (nbr b n c tp F P).2.2.2.2 ≤ 100)) := by
  have hp := tP_b (b := b) hc
  have hn := tN_b (b := b) hc
  have hn2 := tN_b (b := b) hn.2.1
  have hp2 := tP_b (b := b) hn.2.1
  have hn3 := tN_b (b := b) hn2.2.1
  have hp3 := tP_b (b := b) hn2.2.1
  have hv := tV_b (b := b) hn.2.1
  unfold nbr at h ⊢
  by_cases u : isS b n c 58
  · rw [if_pos u] at h ⊢
    have hl := tK_lt (b := b) (n := n) (c := c) (by rw [u.1]; decide)
    by_cases v : tK b n (tN b n c) = 2
    · rw [if_pos v] at h ⊢
      by_cases w : isS b n (tN b n (tN b n c)) 59
      · rw [if_pos w]
        exact ⟨by show c < tN b n (tN b n (tN b n c)); omega, hn3.2.1, hv, fun z => nbF_z z⟩
      · rw [if_neg w] at h; exact absurd (show false = true from h) (by decide)
    · rw [if_neg v] at h; exact absurd (show false = true from h) (by decide)
  · rw [if_neg u] at h; exact absurd (show false = true from h) (by decide)
theorem line92_x {S S0 : St} {b : Nat → Nat} {n c c2 L k F tp : Nat} {P : Int32} {e d : Nat → Nat → Nat} (h : CLr S b n c2 F P) (hf : FC (XLl L) S0 S) (hL : L ≤ 400) (hLc : L < c2) (htp : tp ≤ 5) (h17 : L < 16 → sI S 17 L = Int32.ofNat tp) (hE : F = 0 → CE S L k e ∧ CD S0 L d) : Rn (fX3_readLine_92 15 (Int32.ofNat L) (Int32.ofNat tp) S) (fun r S' => r = (lin3 c L tp k e d (nbr b n c2 tp F P)).1 ∧ FC XL S0 S' ∧ LQ S' b n (lin3 c L tp k e d (nbr b n c2 tp F P))) := by
  unfold fX3_readLine_92
  refine w_ck (SH_K15 h.1.1) (w_clr (number_x h hL htp) ?_)
  rintro r S1 ⟨er, f1, q1⟩
  have fA : FC (XLl L) S0 S1 := hf.trans (f1.mono (fun a j z => by
    rcases z with z | z
    · exact Or.inl z
    · exact Or.inr (Or.inl ⟨Or.inr (Or.inl z.1), z.2⟩)))
  have fB : FC XL S0 S1 := fA.mono (fun a j z => z.xl)
  refine w_rb ?_
  unfold lin3
  by_cases u : (nbr b n c2 tp F P).1 = true
  · rw [if_pos u]
    obtain ⟨g1, g2⟩ := q1.1 u
    obtain ⟨b1, b2, b3, b4⟩ := nbr_c h.2.1 u
    refine ⟨by rw [er, u], fB, fun _ => ⟨g1, ?_, fun z => ?_⟩, fun z => absurd (show true = false from z) (by decide)⟩
    · show L + 1 ≤ (nbr b n c2 tp F P).2.1; omega
    · obtain ⟨z1, z2⟩ := b4 z
      obtain ⟨⟨e1, e2, e3, e4⟩, a1, a2⟩ := hE z1
      have k4 := e2.1
      refine ⟨by show L + 1 ≤ 16; omega, fun l hl => ?_⟩
      have hl : l < L + 1 := hl
      show gL (upT d L (rowL tp k e (nbr b n c2 tp F P).2.2.2.2) l) ∧ sI S1 17 l = Int32.ofNat (upT d L (rowL tp k e (nbr b n c2 tp F P).2.2.2.2) l 0) ∧ sI S1 18 l = Int32.ofNat (upT d L (rowL tp k e (nbr b n c2 tp F P).2.2.2.2) l 18) ∧ sI S1 19 l = Int32.ofNat (upT d L (rowL tp k e (nbr b n c2 tp F P).2.2.2.2) l 1) ∧ ∀ t j, t < upT d L (rowL tp k e (nbr b n c2 tp F P).2.2.2.2) l 1 → j < 4 → sI S1 20 (16 * l + 4 * t + j) = Int32.ofNat (upT d L (rowL tp k e (nbr b n c2 tp F P).2.2.2.2) l (2 + 4 * t + j))
      unfold upT
      by_cases c : l = L
      · rw [if_pos c, c]
        refine ⟨⟨htp, b3, z2, k4, fun t ht => ?_⟩, ?_, ?_, ?_, fun t j ht hj => ?_⟩
        · have ht : t < k := ht
          rw [rowL_t (by omega) (by decide), rowL_t (by omega) (by decide), rowL_t (by omega) (by decide), rowL_t (by omega) (by decide)]
          exact e2.2 t ht
        · rw [f1.i (fun z => by unfold XN8 X16 at z; omega)]; exact h17 e1
        · exact g2 e1
        · rw [f1.i (fun z => by unfold XN8 X16 at z; omega)]; exact e3
        · have ht : t < k := ht
          rw [rowL_t (by omega) hj, f1.i (fun z => by unfold XN8 X16 at z; omega)]; exact e4 t j ht hj
      · rw [if_neg c]
        obtain ⟨d1, d2, d3, d4, d5⟩ := a2 l (by omega)
        refine ⟨d1, ?_, ?_, ?_, fun t j ht hj => ?_⟩
        · rw [fA.i (fun z => by unfold XLl X16 at z; omega)]; exact d2
        · rw [fA.i (fun z => by unfold XLl X16 at z; omega)]; exact d3
        · rw [fA.i (fun z => by unfold XLl X16 at z; omega)]; exact d4
        · have := d1.2.2.2.1
          rw [fA.i (fun z => by unfold XLl X16 at z; omega)]; exact d5 t j ht hj
  · rw [if_neg u]
    have u : (nbr b n c2 tp F P).1 = false := Bool.eq_false_iff.mpr u
    exact ⟨by rw [er, u], fB, LQ_f (q1.2 u)⟩
