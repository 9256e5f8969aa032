-- lists: lines, in the reference
def G39 (L a j : Nat) : Prop := a = 39 ∧ 19 * L ≤ j ∧ j < 19 * L + 19
def G15 (L a j : Nat) : Prop := G39 L a j ∨ (a = 32 ∧ j = 15)
theorem ok39 {L : Nat} : okX (G39 L) := fun a j z => Or.inl z.1
theorem ok15 {L : Nat} : okX (G15 L) := fun a j z => by
  rcases z with z | z
  · exact Or.inl z.1
  · exact Or.inr (Or.inr z)
theorem puts_m {S : St} {L k : Nat} (v : Int32) (hS : SH S) (h15 : sI S 32 15 = Int32.ofNat L) (hL : L ≤ 400) (hk : k < 19) : Rn (fX12_puts 32 (Int32.ofNat k) v S) (fun _ S' => FC (G39 L) S S' ∧ (L < 16 → sI S' 39 (19 * L + k) = v) ∧ ∀ j, j ≠ 19 * L + k → sI S' 39 j = sI S 39 j) := by
  unfold fX12_puts
  refine w_gIe (SH_K32 hS) h15 (w_br (fun u => ?_) (fun u => ?_))
  · rw [show (16 : Int32) = Int32.ofNat 16 from rfl, le_ofNat (by omega) (by omega)] at u
    exact w_rt ⟨FC.rfl, fun z => by omega, fun _ _ => rfl⟩
  · rw [show (16 : Int32) = Int32.ofNat 16 from rfl, le_ofNat (by omega) (by omega)] at u
    have ix : 19 * Int32.ofNat L + Int32.ofNat k = Int32.ofNat (19 * L + k) := by
      rw [show (19 : Int32) = Int32.ofNat 19 from rfl, mul_of, add_of]
    exact w_gR (SH_K32 hS) (SH_R32_16 hS) (w_gIe (SH_K32 hS) h15 (w_nn (w_wI (SH_K39 hS) ix (SH_L39 hS) (by omega) (w_rt ⟨FC.rfl.st _ ⟨rfl, by omega, by omega⟩, fun _ => st_get, fun j hj => by rw [st_ne (Or.inr hj)]⟩))))
theorem G39.n {L a j : Nat} (h : a ≠ 39) : ¬ G39 L a j := fun z => h z.1
theorem put3_m {S : St} {L : Nat} (x1 x2 x4 : Int32) (hS : SH S) (h15 : sI S 32 15 = Int32.ofNat L) (hL : L ≤ 400) : Rn ((ck 13 32 <| cl (fX12_puts 32 0 x1) fun _ => ck 13 32 <| cl (fX12_puts 32 1 x2) fun _ => ck 13 32 <| cl (fX12_puts 32 18 x4) fun _ => gI 13 32 15 fun v => pI 13 32 15 (v + 1) <| rt ()) S) (fun _ S' => FC (G15 L) S S' ∧ sI S' 32 15 = Int32.ofNat (L + 1) ∧ (L < 16 → sI S' 39 (19 * L) = x1 ∧ sI S' 39 (19 * L + 1) = x2 ∧ sI S' 39 (19 * L + 18) = x4 ∧ ∀ j, 2 ≤ j → j < 18 → sI S' 39 (19 * L + j) = sI S 39 (19 * L + j))) := by
  refine w_ck (SH_K32 hS) (w_clr (puts_m (k := 0) x1 hS h15 hL (by decide)) ?_)
  rintro _ S1 ⟨f1, a1, b1⟩
  have s1 := f1.sh hS
  have i1 : sI S1 32 15 = Int32.ofNat L := by rw [f1.i (G39.n (by decide))]; exact h15
  refine w_ck (SH_K32 s1) (w_clr (puts_m (k := 1) x2 s1 i1 hL (by decide)) ?_)
  rintro _ S2 ⟨f2, a2, b2⟩
  have s2 := f2.sh s1
  have i2 : sI S2 32 15 = Int32.ofNat L := by rw [f2.i (G39.n (by decide))]; exact i1
  refine w_ck (SH_K32 s2) (w_clr (puts_m (k := 18) x4 s2 i2 hL (by decide)) ?_)
  rintro _ S3 ⟨f3, a3, b3⟩
  have s3 := f3.sh s2
  have i3 : sI S3 32 15 = Int32.ofNat L := by rw [f3.i (G39.n (by decide))]; exact i2
  refine w_gIe (SH_K32 s3) i3 (w_pI (SH_K32 s3) (w_rt ⟨(((f1.trans f2).trans f3).mono (fun a j z => Or.inl z)).st _ (Or.inr ⟨rfl, rfl⟩), by rw [st_get, succ32], fun q => ⟨?_, ?_, ?_, fun j h1 h2 => ?_⟩⟩))
  · rw [st_ne (Or.inl (by decide)), b3 _ (by omega), b2 _ (by omega)]; exact a1 q
  · rw [st_ne (Or.inl (by decide)), b3 _ (by omega)]; exact a2 q
  · rw [st_ne (Or.inl (by decide))]; exact a3 q
  · rw [st_ne (Or.inl (by decide)), b3 _ (by omega), b2 _ (by omega), b1 _ (by omega)]
theorem cpy_m {Q : Unit → St → Prop} {S : St} {L k : Nat} {x1 : Int32} {k72 : (Nat × Int32 × Int32 × Int32) → St → Option (Unit × St)} (hS : SH S) (h15 : sI S 32 15 = Int32.ofNat L) (hL : L ≤ 400) (hk : k ≤ 400) (hQ : ∀ S', FC (G39 L) S S' → (L < 16 → k < 4 → ∀ i, i < 4 → sI S' 39 (19 * L + (2 + 4 * k + i)) = sI S 40 i) → (∀ j, ¬ (19 * L + (2 + 4 * k) ≤ j ∧ j < 19 * L + (6 + 4 * k)) → sI S' 39 j = sI S 39 j) → Rn (fX12_aLine_133 k72 32 x1 (Int32.ofNat k) S') Q) : Rn (itr (fun k (p : Nat × Int32 × Int32 × Int32) => fX12_aLine_97 k72 k p.1 p.2.1 p.2.2.1 p.2.2.2) FU (32, x1, Int32.ofNat k, 0) S) Q := by
  by_cases k4 : k < 4
  · refine w_for (mk := fun (_ : Unit) i => ((32 : Nat), x1, Int32.ofNat k, i)) (a := ()) 0 4 (fun i _ S' => FC (G39 L) S S' ∧ (L < 16 → ∀ i', i' < i → sI S' 39 (19 * L + (2 + 4 * k + i')) = sI S 40 i') ∧ ∀ j, ¬ (19 * L + (2 + 4 * k) ≤ j ∧ j < 19 * L + (6 + 4 * k)) → sI S' 39 j = sI S 39 j) (by omega) (by omega) ⟨FC.rfl, fun _ i' hi' => by omega, fun _ _ => rfl⟩ ?_ ?_
    · rintro kk _ S1 ⟨f1, a1, b1⟩ _
      dsimp only [fX12_aLine_97]
      exact w_bt (by decide) (hQ S1 f1 (fun q _ i hi => a1 q i hi) b1)
    · rintro i _ hi kk _ S1 ⟨f1, a1, b1⟩ hn hkk
      have s1 := f1.sh hS
      have i1 : sI S1 32 15 = Int32.ofNat L := by rw [f1.i (G39.n (by decide))]; exact h15
      have ix : 2 + 4 * Int32.ofNat k + Int32.ofNat i = Int32.ofNat (2 + 4 * k + i) := by
        rw [show (2 : Int32) = Int32.ofNat 2 from rfl, show (4 : Int32) = Int32.ofNat 4 from rfl, mul_of, add_of, add_of]
      dsimp only [fX12_aLine_97]
      refine w_bf hn (w_bf (by rw [show (4 : Int32) = Int32.ofNat 4 from rfl, le_ofNat (by omega) (by omega)]; omega) (w_gR (SH_K32 s1) (SH_R32_17 s1) (w_nn (w_aI (SH_K40 s1) rfl (SH_L40 s1) (by omega) ?_))))
      rw [ix]
      refine w_ck (SH_K32 s1) (w_clr (puts_m (sI S1 40 i) s1 i1 hL (by omega)) ?_)
      rintro _ S2 ⟨f2, a2, b2⟩
      refine hkk () S2 ⟨f1.trans f2, fun q i' hi' => ?_, fun j hj => ?_⟩
      · by_cases e : i' = i
        · rw [e, a2 q, f1.i (G39.n (by decide))]
        · rw [b2 _ (by omega)]; exact a1 q i' (by omega)
      · rw [b2 _ (by omega)]; exact b1 j hj
  · refine w_itr (fun m p S' => m = 1 ∧ p = ((32 : Nat), x1, Int32.ofNat k, (0 : Int32)) ∧ S' = S) (fun p S' ⟨h, _⟩ => by omega) ?_ 1 FU _ _ (by unfold FU; omega) ⟨rfl, rfl, rfl⟩
    rintro m kk p S1 ⟨_, rfl, rfl⟩ _
    dsimp only [fX12_aLine_97]
    exact w_bf (by decide) (w_bt (by rw [show (4 : Int32) = Int32.ofNat 4 from rfl, le_ofNat (by omega) (by omega)]; omega) (hQ _ FC.rfl (fun _ q => absurd q k4) (fun _ _ => rfl)))
theorem n181_w {al : Nat → Int32} {S0 S : St} {P : Int32} {L : Nat} (x1 x2 x4 : Int32) (h : WU al S0 S P) (h15 : sI S 32 15 = Int32.ofNat L) (hL : L ≤ 400) : Rn (fX12_aLine_181 32 x1 x2 x4 S) (fun _ S' => WU al S0 S' P) := by
  unfold fX12_aLine_181
  refine w_ck (SH_K32 h.1.1) (w_cl (must_w h _) (Rn.mono (put3_m x1 x2 x4 h.1.1 h15 hL) ?_))
  rintro _ S1 ⟨f1, _⟩
  exact h.ok f1 ok15
theorem nbt_w {al : Nat → Int32} {S0 S : St} {P : Int32} {L : Nat} (x1 x2 v y : Int32) (h : WU al S0 S P) (h15 : sI S 32 15 = Int32.ofNat L) (hL : L ≤ 400) : Rn ((br (x1 = 5) (br (v ≤ 100) (fX12_aLine_181 32 x1 x2 v) (ck 13 32 <| cl (fX12_also 32 2 y) fun _ => fX12_aLine_181 32 x1 x2 v)) (fX12_aLine_181 32 x1 x2 v)) S) (fun _ S' => WU al S0 S' P) := by
  have q := n181_w x1 x2 v h h15 hL
  exact w_br (fun _ => w_br (fun _ => q) (fun _ => w_ck (SH_K32 h.1.1) (w_cl (also_w h _ _) q))) (fun _ => q)
theorem n146_w {al : Nat → Int32} {S0 S : St} {P : Int32} {L : Nat} (x1 x2 : Int32) (h : WU al S0 S P) (h15 : sI S 32 15 = Int32.ofNat L) (hL : L ≤ 400) : Rn (fX12_aLine_146 32 x1 x2 S) (fun _ S' => WU al S0 S' P) := by
  unfold fX12_aLine_146
  exact w_ck (SH_K32 h.1.1) (w_cl (must_w h _) (w_gI (SH_K32 h.1.1) (w_ck (SH_K32 h.1.1) (w_cl (numbered_w h) (nbt_w _ _ _ _ h h15 hL)))))
def ME (S : St) (L k : Nat) (e : Nat → Nat → Nat) : Prop := L < 16 ∧ k ≤ 4 ∧ ∀ t j, t < k → j < 4 → sI S 39 (19 * L + (2 + 4 * t + j)) = rM (e t) j
def MDf (f : Nat → Int32) (L : Nat) (d : Nat → Nat → Nat) : Prop := L ≤ 16 ∧ ∀ l, l < L → f (19 * l) = Int32.ofNat (d l 0) ∧ f (19 * l + 1) = Int32.ofNat (d l 1) ∧ f (19 * l + 18) = Int32.ofNat (d l 18) ∧ d l 1 ≤ 4 ∧ ∀ t j, t < d l 1 → j < 4 → f (19 * l + (2 + 4 * t + j)) = rM (fun j => d l (2 + 4 * t + j)) j
def MLs (al : Nat → Int32) (S0 S : St) (b : Nat → Nat) (n : Nat) (s : LSt) : Prop := MU al S0 S b n s.1 s.2.2.1 s.2.2.2.1 ∧ s.2.1 ≤ s.1 ∧ sI S 32 15 = Int32.ofNat s.2.1 ∧ (s.2.2.1 = 0 → MDf (sI S 39) s.2.1 s.2.2.2.2)
def LM (al : Nat → Int32) (S0 S : St) (b : Nat → Nat) (n : Nat) (r : Bool × LSt) : Prop := (r.1 = true → MLs al S0 S b n r.2) ∧ (r.1 = false → WU al S0 S r.2.2.2.2.1 ∧ r.2.2.2.1 = 1)
theorem LM_f {al : Nat → Int32} {S0 S : St} {b : Nat → Nat} {n c L : Nat} {P : Int32} {d : Nat → Nat → Nat} (h : WU al S0 S P) : LM al S0 S b n (false, (c, L, 1, P, d)) := ⟨fun z => absurd (show false = true from z) (by decide), fun _ => ⟨h, rfl⟩⟩
theorem LM_f3 {al : Nat → Int32} {S0 S : St} {b : Nat → Nat} {n c L tp k z1 z2 z3 : Nat} {P : Int32} {e d : Nat → Nat → Nat} (h : WU al S0 S P) : LM al S0 S b n (lin3 c L tp k e d (false, z1, z2, P, z3)) := LM_f h
theorem MDf.cg {f f' : Nat → Int32} {L : Nat} {d : Nat → Nat → Nat} (h : MDf f L d) (e : ∀ j, j < 19 * L → f' j = f j) : MDf f' L d := by
  refine ⟨h.1, fun l hl => ?_⟩
  obtain ⟨a1, a2, a3, a4, a5⟩ := h.2 l hl
  exact ⟨by rw [e _ (by omega)]; exact a1, by rw [e _ (by omega)]; exact a2, by rw [e _ (by omega)]; exact a3, a4, fun t j ht hj => by rw [e _ (by omega)]; exact a5 t j ht hj⟩
theorem rM_cg {r r' : Nat → Nat} {j : Nat} (h : ∀ j, j < 4 → r j = r' j) (hj : j < 4) : rM r j = rM r' j := by
  unfold rM
  rw [h 1 (by decide), h 2 (by decide), h j hj]
theorem nb_m {al : Nat → Int32} {S0 S : St} {b : Nat → Nat} {n c c2 F L k tp : Nat} {P : Int32} {e d : Nat → Nat → Nat} (h : MU al S0 S b n c2 F P) (hL : L ≤ 400) (hLc : L < c2) (h15 : sI S 32 15 = Int32.ofNat L) (htp : tp ≤ 5) (hE : F = 0 → ME S L k e ∧ MDf (sI S 39) L d) : Rn (fX12_aLine_146 32 (Int32.ofNat tp) (Int32.ofNat k) S) (fun _ S' => LM al S0 S' b n (lin3 c L tp k e d (nbr b n c2 tp F P))) := by
  unfold fX12_aLine_146
  have hc := h.2.2.1
  have hn := tN_b (b := b) hc
  have hv := tV_b (b := b) hn.2.1
  refine w_ck h.2.1.k (w_clr (must_m (y := 58) h (by decide)) ?_)
  rintro _ S1 ⟨f1, m1, w1⟩
  have i1 : sI S1 32 15 = Int32.ofNat L := by rw [f1.2.2.2.2.2.2 32 15 (by omega) (by omega)]; exact h15
  by_cases u : isS b n c2 58
  · have m1 := m1 u
    refine w_gIe m1.2.1.k m1.2.2.2.1.2.1 (w_ck m1.2.1.k (w_clr (numbered_m m1) ?_))
    rintro v S2 ⟨f2, m2, w2⟩
    have i2 : sI S2 32 15 = Int32.ofNat L := by rw [f2.2.2.2.2.2.2 32 15 (by omega) (by omega)]; exact i1
    by_cases v2 : tK b n (tN b n c2) = 2
    · obtain ⟨rfl, m3⟩ := m2 v2
      have h181 : ∀ S3 F3 P3, FQ S S3 → MU al S0 S3 b n (tN b n (tN b n c2)) F3 P3 → F3 = nbF tp F (tV b n (tN b n c2)) → P3 = nbP tp F (tV b n (tN b n c2)) P (Int32.ofNat (tP b n (tN b n c2))) → Rn (fX12_aLine_181 32 (Int32.ofNat tp) (Int32.ofNat k) (Int32.ofNat (tV b n (tN b n c2))) S3) (fun _ S' => LM al S0 S' b n (lin3 c L tp k e d (nbr b n c2 tp F P))) := by
        rintro S3 F3 P3 f3 m4 rfl rfl
        unfold fX12_aLine_181
        refine w_ck m4.2.1.k (w_clr (must_m (y := 59) m4 (by decide)) ?_)
        rintro _ S4 ⟨f4, m5, w5⟩
        have f := f3.trans f4
        have i4 : sI S4 32 15 = Int32.ofNat L := by rw [f.2.2.2.2.2.2 32 15 (by omega) (by omega)]; exact h15
        have e39 : ∀ j, sI S4 39 j = sI S 39 j := fun j => f.2.2.2.2.2.2 39 j (by omega) (by omega)
        by_cases w : isS b n (tN b n (tN b n c2)) 59
        · have m5 := m5 w
          have en : nbr b n c2 tp F P = (true, tN b n (tN b n (tN b n c2)), nbF tp F (tV b n (tN b n c2)), nbP tp F (tV b n (tN b n c2)) P (Int32.ofNat (tP b n (tN b n c2))), tV b n (tN b n c2)) := by unfold nbr; rw [if_pos u, if_pos v2, if_pos w]
          rw [en]
          refine Rn.mono (put3_m _ _ _ m5.2.1.1 i4 hL) ?_
          rintro _ S5 ⟨f5, i5, p5⟩
          have hq := tN_b (b := b) m4.2.2.1
          have hp4 := tP_b (b := b) m4.2.2.1
          have hp2 := tP_b (b := b) m1.2.2.1
          have hn2 := tN_b (b := b) m1.2.2.1
          have hp1 := tP_b (b := b) hc
          refine ⟨fun _ => ⟨m5.ok f5 ok15, ?_, i5, fun z => ?_⟩, fun z => absurd (show true = false from z) (by decide)⟩
          · show L + 1 ≤ tN b n (tN b n (tN b n c2)); omega
          · obtain ⟨z1, z2⟩ := nbF_z z
            obtain ⟨⟨a1, a2, a3⟩, d1, d2⟩ := hE z1
            obtain ⟨p1, p2, p3, p4⟩ := p5 a1
            refine ⟨by show L + 1 ≤ 16; omega, fun l hl => ?_⟩
            have hl : l < L + 1 := hl
            show sI S5 39 (19 * l) = Int32.ofNat (upT d L (rowL tp k e (tV b n (tN b n c2))) l 0) ∧ sI S5 39 (19 * l + 1) = Int32.ofNat (upT d L (rowL tp k e (tV b n (tN b n c2))) l 1) ∧ sI S5 39 (19 * l + 18) = Int32.ofNat (upT d L (rowL tp k e (tV b n (tN b n c2))) l 18) ∧ upT d L (rowL tp k e (tV b n (tN b n c2))) l 1 ≤ 4 ∧ ∀ t j, t < upT d L (rowL tp k e (tV b n (tN b n c2))) l 1 → j < 4 → sI S5 39 (19 * l + (2 + 4 * t + j)) = rM (fun j => upT d L (rowL tp k e (tV b n (tN b n c2))) l (2 + 4 * t + j)) j
            unfold upT
            by_cases c0 : l = L
            · rw [if_pos c0, c0]
              refine ⟨p1, p2, p3, a2, fun t j ht hj => ?_⟩
              have ht : t < k := ht
              rw [p4 _ (by omega) (by omega), e39, a3 t j ht hj]
              exact rM_cg (fun j hj => (rowL_t (by omega) hj).symm) hj
            · rw [if_neg c0]
              obtain ⟨q1, q2, q3, q4, q5⟩ := d2 l (by omega)
              have ef : ∀ j, j < 19 * L → sI S5 39 j = sI S 39 j := fun j hj => by
                rw [f5.i (fun z => by unfold G15 G39 at z; omega), e39]
              exact ⟨by rw [ef _ (by omega)]; exact q1, by rw [ef _ (by omega)]; exact q2, by rw [ef _ (by omega)]; exact q3, q4, fun t j ht hj => by rw [ef _ (by omega)]; exact q5 t j ht hj⟩
        · have w5 := w5 w
          have en : nbr b n c2 tp F P = (false, 0, 1, Int32.ofNat (tP b n (tN b n (tN b n c2))), 0) := by unfold nbr; rw [if_pos u, if_pos v2, if_neg w]
          rw [en]
          refine Rn.mono (put3_m _ _ _ w5.1.1 i4 hL) ?_
          rintro _ S5 ⟨f5, _⟩
          exact LM_f3 (w5.ok f5 ok15)
      refine w_br (fun t5 => ?_) (fun t5 => ?_)
      · rw [show (5 : Int32) = Int32.ofNat 5 from rfl, eq_ofNat (by omega) (by omega)] at t5
        refine w_br (fun w => ?_) (fun w => ?_)
        · rw [show (100 : Int32) = Int32.ofNat 100 from rfl, le_ofNat (by omega) (by omega)] at w
          exact h181 S2 _ _ (f1.trans f2) m3 (by rw [nbF, if_neg (by omega)]) (by rw [nbP, if_neg (by omega)])
        · rw [show (100 : Int32) = Int32.ofNat 100 from rfl, le_ofNat (by omega) (by omega)] at w
          refine w_ck m3.2.1.k (w_clr (also_m (f := 2) m3 (by decide)) ?_)
          rintro _ S3 ⟨f3, m4⟩
          exact h181 S3 _ _ ((f1.trans f2).trans f3) m4 (by rw [nbF, if_pos ⟨t5, by omega⟩]) (by rw [nbP, if_pos ⟨t5, by omega⟩])
      · rw [show (5 : Int32) = Int32.ofNat 5 from rfl, eq_ofNat (by omega) (by omega)] at t5
        exact h181 S2 _ _ (f1.trans f2) m3 (by rw [nbF, if_neg (fun z => t5 z.1)]) (by rw [nbP, if_neg (fun z => t5 z.1)])
    · have w2 := w2 v2
      have en : nbr b n c2 tp F P = (false, 0, 1, Int32.ofNat (tP b n (tN b n c2)), 0) := by unfold nbr; rw [if_pos u, if_neg v2]
      rw [en]
      refine Rn.mono (nbt_w _ _ _ _ w2 i2 hL) ?_
      rintro _ S5 w5
      exact LM_f3 w5
  · have w1 := w1 u
    have en : nbr b n c2 tp F P = (false, 0, 1, Int32.ofNat (tP b n c2), 0) := by unfold nbr; rw [if_neg u]
    rw [en]
    refine w_gI (SH_K32 w1.1.1) (w_ck (SH_K32 w1.1.1) (w_cl (numbered_w w1) (Rn.mono (nbt_w _ _ _ _ w1 i1 hL) ?_)))
    rintro _ S5 w5
    exact LM_f3 w5
