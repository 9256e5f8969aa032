-- lists: tests, in the class
def TC (S S' : St) (b : Nat → Nat) (n F : Nat) (P : Int32) (L k : Nat) (r : TR) : Prop := (r.1 = true → CLr S' b n r.2.1 F P ∧ (L < 16 → k < 4 → sI S' 19 L = Int32.ofNat (k + 1) ∧ ∀ j, j < 4 → sI S' 20 (16 * L + 4 * k + j) = Int32.ofNat (r.2.2 j)) ∧ ∀ i, ¬ (16 * L + 4 * k ≤ i ∧ i < 16 * L + 4 * k + 4) → sI S' 20 i = sI S 20 i) ∧ (r.1 = false → CFr S' b n (Int32.ofNat r.2.1))
theorem TC_f {S S' : St} {b : Nat → Nat} {n F L k p : Nat} {P : Int32} {e : Nat → Nat} (h : CFr S' b n (Int32.ofNat p)) : TC S S' b n F P L k (false, p, e) := ⟨fun z => absurd (show false = true from z) (by decide), fun _ => h⟩
theorem XT.k {L a j : Nat} (h : XK L a j) : XT L a j := Or.inr h
theorem XT.x {L a j : Nat} (h : X16 a j) : XT L a j := Or.inl h
theorem X16.n {a j : Nat} (h : a ≠ 16) : ¬ X16 a j := fun z => h z.1
theorem XK.n {L a j : Nat} (h : a < 19) : ¬ XK L a j := fun z => by unfold XK at z; omega
theorem test1_x {S : St} {b : Nat → Nat} {n c F L k nt : Nat} {P : Int32} (h : CLr S b n c F P) (hL : L ≤ 400) (hk : k ≤ 400) (hnt : nt ≤ 1) : Rn (fX3_readTest_21 15 (Int32.ofNat L) (Int32.ofNat k) (Int32.ofNat nt) S) (fun r S' => r = (tst1 nt b n c).1 ∧ FC (XT L) S S' ∧ TC S S' b n F P L k (tst1 nt b n c)) := by
  unfold fX3_readTest_21 tst1
  have h400 := h.1.2.2.2.2.1
  refine w_word h (by decide) (w_z (fun u => ?_) (fun u => ?_))
  · have u : isW b n c 10 := of_decide_eq_true u
    rw [if_pos u]
    refine w_step h (fun S1 f1 c1 => w_ck (SH_K15 c1.1.1) (w_clr (keep_x (k1 := 7) (k2 := 2) (k3 := 1) c1.1.1 hL hk hnt) ?_))
    rintro _ S2 ⟨f2, g2, e2⟩
    refine w_r1 ⟨rfl, (f1.mono (fun a j z => XT.x z)).trans (f2.mono (fun a j z => XT.k z)), fun _ => ⟨c1.fc f2 (fun j => XK.n (by decide)) (fun j => XK.n (by decide)), g2, fun i hi => ?_⟩, fun z => absurd (show true = false from z) (by decide)⟩
    rw [e2 i hi, f1.i (X16.n (by decide))]
  · have u : ¬ isW b n c 10 := of_decide_eq_false u
    rw [if_neg u]
    refine w_ck (SH_K15 h.1.1) (w_cl (asked_x h) ?_)
    by_cases a : isA b n c
    · rw [if_pos a, if_pos a]
      refine w_bf (ofNat_ne_m1 (by have := a.2; omega)) (w_step h (fun S1 f1 c1 => w_ck (SH_K15 c1.1.1) (w_cl (sign_x c1) ?_)))
      unfold tst3
      by_cases s : isC b n (tN b n c)
      · have hs3 : sgC (b (tP b n (tN b n c))) ≤ 2 := ite_b (fun _ => by omega) (fun _ => ite_b (fun _ => by omega) (fun _ => by omega))
        rw [if_pos s, if_pos s]
        refine w_bf (ofNat_ne_m1 (by omega)) (w_step c1 (fun S2 f2 c2 => ?_))
        have hS2 := c2.1.1
        have hkk := tK_le b n (tN b n (tN b n c))
        refine w_gR (SH_K15 hS2) (SH_R15_0 hS2) (w_nn (w_gIe (SH_K16 hS2) c2.2.2.1.1 (w_br (fun v => ?_) (fun v => ?_))))
        · rw [show (2 : Int32) = Int32.ofNat 2 from rfl, eq_ofNat (by omega) (by omega)] at v
          rw [if_pos v]
          refine w_gR (SH_K15 hS2) (SH_R15_0 hS2) (w_nn (w_gIe (SH_K16 hS2) c2.2.2.1.2.1 (w_ck (SH_K15 hS2) (w_clr (keep_x hS2 hL hk hnt) ?_))))
          rintro _ S3 ⟨f3, g3, e3⟩
          have c3 := c2.fc f3 (fun j => XK.n (by decide)) (fun j => XK.n (by decide))
          refine w_step c3 (fun S4 f4 c4 => w_r1 ⟨rfl, (((f1.trans f2).mono (fun a j z => XT.x z)).trans (f3.mono (fun a j z => XT.k z))).trans (f4.mono (fun a j z => XT.x z)), fun _ => ⟨c4, fun q1 q2 => ⟨?_, fun j hj => ?_⟩, fun i hi => ?_⟩, fun z => absurd (show true = false from z) (by decide)⟩)
          · rw [f4.i (X16.n (by decide))]; exact (g3 q1 q2).1
          · rw [f4.i (X16.n (by decide))]; exact (g3 q1 q2).2 j hj
          · rw [f4.i (X16.n (by decide)), e3 i hi, f2.i (X16.n (by decide)), f1.i (X16.n (by decide))]
        · rw [show (2 : Int32) = Int32.ofNat 2 from rfl, eq_ofNat (by omega) (by omega)] at v
          rw [if_neg v]
          exact w_fail c2 (fun S3 f3 g3 => ⟨rfl, ((f1.trans f2).trans f3).mono (fun a j z => XT.x z), TC_f g3⟩)
      · rw [if_neg s, if_neg s]
        exact w_bt rfl (w_fail c1 (fun S3 f3 g3 => ⟨rfl, (f1.trans f3).mono (fun a j z => XT.x z), TC_f g3⟩))
    · rw [if_neg a, if_neg a]
      exact w_bt rfl (w_fail h (fun S3 f3 g3 => ⟨rfl, f3.mono (fun a j z => XT.x z), TC_f g3⟩))
theorem TC.fr {S S1 S' : St} {b : Nat → Nat} {n F L k : Nat} {P : Int32} {r : TR} (h : TC S1 S' b n F P L k r) (f1 : FC X16 S S1) : TC S S' b n F P L k r := ⟨fun z => ⟨(h.1 z).1, (h.1 z).2.1, fun i hi => by rw [(h.1 z).2.2 i hi, f1.i (X16.n (by decide))]⟩, h.2⟩
theorem test_x {S : St} {b : Nat → Nat} {n c F L k : Nat} {P : Int32} (h : CLr S b n c F P) (hL : L ≤ 400) (hk : k ≤ 400) : Rn (fX3_readTest 15 (Int32.ofNat L) (Int32.ofNat k) S) (fun r S' => r = (tst b n c).1 ∧ FC (XT L) S S' ∧ TC S S' b n F P L k (tst b n c)) := by
  unfold fX3_readTest tst
  refine w_word h (by decide) (w_z (fun u => ?_) (fun u => ?_))
  · rw [u]
    have u : isW b n c 32 := of_decide_eq_true u
    rw [if_pos u]
    refine w_step h (fun S1 f1 c1 => ?_)
    refine Rn.mono (test1_x (nt := 1) c1 hL hk (by decide)) ?_
    rintro r S2 ⟨e1, f2, t2⟩
    exact ⟨e1, (f1.mono (fun a j z => XT.x z)).trans f2, t2.fr f1⟩
  · rw [u]
    have u : ¬ isW b n c 32 := of_decide_eq_false u
    rw [if_neg u]
    exact test1_x (nt := 0) h hL hk (by decide)
theorem tst3_c {nt k1 : Nat} {b : Nat → Nat} {n c : Nat} (hc : c ≤ n) (h : (tst3 nt k1 b n c).1 = true) : c < (tst3 nt k1 b n c).2.1 ∧ (tst3 nt k1 b n c).2.1 ≤ n ∧ (nt ≤ 1 → k1 ≤ 7 → (tst3 nt k1 b n c).2.2 0 ≤ 1 ∧ (tst3 nt k1 b n c).2.2 1 ≤ 7 ∧ (tst3 nt k1 b n c).2.2 2 ≤ 2 ∧ (tst3 nt k1 b n c).2.2 3 ≤ 9999) := by
  have hp := tP_b (b := b) hc
  have hn := tN_b (b := b) hc
  have hn2 := tN_b (b := b) hn.2.1
  have hp2 := tP_b (b := b) hn.2.1
  have hv := tV_b (b := b) hn.2.1
  unfold tst3 at h ⊢
  by_cases s : isC b n c
  · rw [if_pos s] at h ⊢
    by_cases v : tK b n (tN b n c) = 2
    · rw [if_pos v]
      have hl := tK_lt (b := b) (n := n) (c := c) (by rw [s.1]; decide)
      refine ⟨by show c < tN b n (tN b n c); omega, hn2.2.1, fun h1 h2 => ⟨h1, h2, ?_, hv⟩⟩
      exact ite_b (fun _ => by omega) (fun _ => ite_b (fun _ => by omega) (fun _ => by omega))
    · rw [if_neg v] at h; exact absurd (show false = true from h) (by decide)
  · rw [if_neg s] at h; exact absurd (show false = true from h) (by decide)
theorem tst1_c {nt : Nat} {b : Nat → Nat} {n c : Nat} (hc : c ≤ n) (hnt : nt ≤ 1) (h : (tst1 nt b n c).1 = true) : c < (tst1 nt b n c).2.1 ∧ (tst1 nt b n c).2.1 ≤ n ∧ (tst1 nt b n c).2.2 0 ≤ 1 ∧ (tst1 nt b n c).2.2 1 ≤ 7 ∧ (tst1 nt b n c).2.2 2 ≤ 2 ∧ (tst1 nt b n c).2.2 3 ≤ 9999 := by
  have hp := tP_b (b := b) hc
  have hn := tN_b (b := b) hc
  unfold tst1 at h ⊢
  by_cases u : isW b n c 10
  · rw [if_pos u]
    have hl := tK1_le hc u.1
    exact ⟨by show c < tN b n c; omega, hn.2.1, hnt, by show 7 ≤ 7; omega, by show 2 ≤ 2; omega, by show 1 ≤ 9999; omega⟩
  · rw [if_neg u] at h ⊢
    by_cases a : isA b n c
    · rw [if_pos a] at h ⊢
      have hl := tK1_le hc a.1
      have := tst3_c hn.2.1 h
      have h2 := this.2.2 hnt (by have := a.2; omega)
      exact ⟨by omega, this.2.1, h2⟩
    · rw [if_neg a] at h; exact absurd (show false = true from h) (by decide)
theorem tst_c {b : Nat → Nat} {n c : Nat} (hc : c ≤ n) (h : (tst b n c).1 = true) : c < (tst b n c).2.1 ∧ (tst b n c).2.1 ≤ n ∧ (tst b n c).2.2 0 ≤ 1 ∧ (tst b n c).2.2 1 ≤ 7 ∧ (tst b n c).2.2 2 ≤ 2 ∧ (tst b n c).2.2 3 ≤ 9999 := by
  have hp := tP_b (b := b) hc
  have hn := tN_b (b := b) hc
  unfold tst at h ⊢
  by_cases u : isW b n c 32
  · rw [if_pos u] at h ⊢
    have := tst1_c hn.2.1 (by decide) h
    exact ⟨by omega, this.2⟩
  · rw [if_neg u] at h ⊢
    exact tst1_c hc (by decide) h
abbrev TS := Nat × Nat × Nat × Int32 × (Nat → Nat → Nat)
def tsF (k F : Nat) : Nat := if k < 4 then F else ntF F 3
def tsP (k F : Nat) (P q : Int32) : Int32 := if k < 4 then P else ntP F P q
def upT (e : Nat → Nat → Nat) (k : Nat) (r : Nat → Nat) : Nat → Nat → Nat := fun t => if t = k then r else e t
def tsN (b : Nat → Nat) (n : Nat) (s : TS) : TS := ((tst b n s.1).2.1, s.2.1 + 1, tsF s.2.1 s.2.2.1, tsP s.2.1 s.2.2.1 s.2.2.2.1 (Int32.ofNat (tP b n s.1)), upT s.2.2.2.2 s.2.1 (tst b n s.1).2.2)
def tsts (b : Nat → Nat) (n : Nat) : Nat → TS → Bool × TS
  | 0, s => (false, s)
  | f + 1, s => if (tst b n s.1).1 = true then (if isW b n (tsN b n s).1 31 then tsts b n f (tN b n (tsN b n s).1, (tsN b n s).2) else (true, tsN b n s)) else (false, (s.1, s.2.1, 1, Int32.ofNat (tst b n s.1).2.1, s.2.2.2.2))
def gE (k : Nat) (e : Nat → Nat → Nat) : Prop := k ≤ 4 ∧ ∀ t, t < k → e t 0 ≤ 1 ∧ e t 1 ≤ 7 ∧ e t 2 ≤ 2 ∧ e t 3 ≤ 9999
def CE (S : St) (L k : Nat) (e : Nat → Nat → Nat) : Prop := L < 16 ∧ gE k e ∧ sI S 19 L = Int32.ofNat k ∧ ∀ t j, t < k → j < 4 → sI S 20 (16 * L + 4 * t + j) = Int32.ofNat (e t j)
theorem ntF_z {F f : Nat} (hf : f ≠ 0) : ntF F f ≠ 0 := by
  unfold ntF
  by_cases c : F = 0
  · rw [if_pos c]; exact hf
  · rw [if_neg c]; exact c
theorem tsF_z {k F : Nat} (h : tsF k F = 0) : k < 4 ∧ F = 0 := by
  unfold tsF at h
  by_cases c : k < 4
  · rw [if_pos c] at h; exact ⟨c, h⟩
  · rw [if_neg c] at h; exact absurd h (ntF_z (by decide))
theorem gE_up {k : Nat} {e : Nat → Nat → Nat} {r : Nat → Nat} (h : gE k e) (hk : k < 4) (hr : r 0 ≤ 1 ∧ r 1 ≤ 7 ∧ r 2 ≤ 2 ∧ r 3 ≤ 9999) : gE (k + 1) (upT e k r) := by
  refine ⟨by omega, fun t ht => ?_⟩
  unfold upT
  by_cases c : t = k
  · rw [if_pos c]; exact hr
  · rw [if_neg c]; exact h.2 t (by omega)
def TQ (S : St) (b : Nat → Nat) (n L : Nat) (r : Bool × TS) : Prop := (r.1 = true → CLr S b n r.2.1 r.2.2.2.1 r.2.2.2.2.1 ∧ (r.2.2.2.1 = 0 → CE S L r.2.2.1 r.2.2.2.2.2)) ∧ (r.1 = false → CFr S b n r.2.2.2.2.1 ∧ r.2.2.2.1 = 1)
theorem tests_x {S : St} {b : Nat → Nat} {n c0 F L : Nat} {P : Int32} (h : CLr S b n c0 F P) (hL : L ≤ 400) (hA : F = 0 → L < 16 ∧ sI S 19 L = 0) : Rn (fX3_readTests 15 (Int32.ofNat L) S) (fun r S' => r = (tsts b n (n + 1) (tN b n c0, 0, F, P, fun _ _ => 0)).1 ∧ FC (XT L) S S' ∧ TQ S' b n L (tsts b n (n + 1) (tN b n c0, 0, F, P, fun _ _ => 0))) := by
  have h400 := h.1.2.2.2.2.1
  unfold fX3_readTests
  generalize hR : tsts b n (n + 1) (tN b n c0, 0, F, P, fun _ _ => 0) = R
  refine w_itr (fun m p S' => ∃ c1 s, p = ((15 : Nat), Int32.ofNat L, Int32.ofNat s.2.1) ∧ tN b n c1 = s.1 ∧ CLr S' b n c1 s.2.2.1 s.2.2.2.1 ∧ s.2.1 ≤ s.1 ∧ (s.2.2.1 = 0 → CE S' L s.2.1 s.2.2.2.2) ∧ FC (XT L) S S' ∧ tsts b n m s = R ∧ n + 1 ≤ m + s.1) ?_ ?_ (n + 1) FU _ _ (by unfold FU; omega) ⟨c0, (tN b n c0, 0, F, P, fun _ _ => 0), rfl, rfl, h, Nat.zero_le _, fun z => ⟨(hA z).1, ⟨Nat.zero_le _, fun t ht => absurd ht (Nat.not_lt_zero _)⟩, (hA z).2, fun t j ht => absurd ht (Nat.not_lt_zero _)⟩, FC.rfl, hR, by omega⟩
  · rintro p S' ⟨c1, s, _, e, g, _, _, _, _, q⟩
    have := (tN_b (b := b) g.2.1).2.1
    omega
  rintro m k p S1 ⟨c1, s, rfl, e1, g1, hks, hE, f1, hT, hm⟩ hk
  have hn1 := (tN_b (b := b) g1.2.1)
  dsimp only [fX3_readTests_2]
  refine w_bf (by rw [show (400 : Int32) = Int32.ofNat 400 from rfl, lt_ofNat (by omega) (by omega)]; omega) (w_step g1 (fun S2 f2 g2 => ?_))
  rw [e1] at g2
  have hS2 := g2.1.1
  have h36 : ∀ S3 F3 P3, FC X16 S1 S3 → CLr S3 b n s.1 F3 P3 → F3 = tsF s.2.1 s.2.2.1 → P3 = tsP s.2.1 s.2.2.1 s.2.2.2.1 (Int32.ofNat (tP b n s.1)) → Rn (fX3_readTests_36 k 15 (Int32.ofNat L) (Int32.ofNat s.2.1) S3) (fun r S' => r = R.1 ∧ FC (XT L) S S' ∧ TQ S' b n L R) := by
    rintro S3 F3 P3 f3 g3 eF eP
    dsimp only [fX3_readTests_36]
    refine w_ck (SH_K15 g3.1.1) (w_clr (test_x g3 hL (by omega)) ?_)
    rintro r S4 ⟨er, f4, t4⟩
    have fA : FC (XT L) S S4 := (f1.trans (f3.mono (fun a j z => XT.x z))).trans f4
    rw [tsts] at hT
    refine w_z (fun u => ?_) (fun u => ?_)
    · rw [u] at er
      rw [if_pos er.symm] at hT
      obtain ⟨c4, a4, b4⟩ := t4.1 er.symm
      have hcc := tst_c g3.2.1 er.symm
      have hE4 : tsF s.2.1 s.2.2.1 = 0 → CE S4 L (s.2.1 + 1) (upT s.2.2.2.2 s.2.1 (tst b n s.1).2.2) := by
        intro z
        obtain ⟨z1, z2⟩ := tsF_z z
        obtain ⟨q1, q2, q3, q4⟩ := hE z2
        obtain ⟨y1, y2⟩ := a4 q1 z1
        refine ⟨q1, gE_up q2 z1 hcc.2.2, y1, fun t j ht hj => ?_⟩
        unfold upT
        by_cases e : t = s.2.1
        · rw [if_pos e, e]; exact y2 j hj
        · rw [if_neg e, b4 _ (by omega), f3.i (X16.n (by decide))]; exact q4 t j (by omega) hj
      have c4' : CLr S4 b n (tsN b n s).1 (tsN b n s).2.2.1 (tsN b n s).2.2.2.1 := by
        rw [eF, eP] at c4; exact c4
      refine w_word c4 (by decide) (w_z (fun v => ?_) (fun v => w_r1 ?_))
      · have v : isW b n (tsN b n s).1 31 := of_decide_eq_true v
        rw [if_pos v] at hT
        have hl := tK1_le c4.2.1 v.1
        have hpp := tP_b (b := b) c4.2.1
        have hcc1 : s.1 < (tsN b n s).1 := hcc.1
        have hl1 : (tsN b n s).1 < tN b n (tsN b n s).1 := by
          have h1 : tP b n (tsN b n s).1 < tN b n (tsN b n s).1 := hl.1
          have h2 : (tsN b n s).1 ≤ tP b n (tsN b n s).1 := hpp.1
          omega
        refine hk _ _ ⟨(tsN b n s).1, (tN b n (tsN b n s).1, (tsN b n s).2), by rw [succ32]; rfl, rfl, c4', ?_, hE4, fA, hT, ?_⟩
        · show s.2.1 + 1 ≤ tN b n (tsN b n s).1; omega
        · show n + 1 ≤ m + tN b n (tsN b n s).1; omega
      · have v : ¬ isW b n (tsN b n s).1 31 := of_decide_eq_false v
        rw [if_neg v] at hT
        rw [← hT]
        exact ⟨rfl, fA, fun _ => ⟨c4', hE4⟩, fun z => absurd (show true = false from z) (by decide)⟩
    · rw [u] at er
      rw [if_neg (by rw [← er]; decide)] at hT
      rw [← hT]
      exact w_r0 ⟨rfl, fA, fun z => absurd (show false = true from z) (by decide), fun _ => ⟨t4.2 er.symm, rfl⟩⟩
  refine w_br (fun u => ?_) (fun u => ?_)
  · rw [show (4 : Int32) = Int32.ofNat 4 from rfl, lt_ofNat (by omega) (by omega)] at u
    exact h36 S2 _ _ f2 g2 (by rw [tsF, if_pos u]) (by rw [tsP, if_pos u])
  · rw [show (4 : Int32) = Int32.ofNat 4 from rfl, lt_ofNat (by omega) (by omega)] at u
    refine w_gR (SH_K15 hS2) (SH_R15_0 hS2) (w_gR (SH_K15 hS2) (SH_R15_0 hS2) (w_nn (w_gIe (SH_K16 hS2) g2.2.2.1.2.2.1 (w_nn (w_ck (SH_K16 hS2) (w_clr (note_l (f := 3) g2 (by decide)) ?_))))))
    rintro _ S3 ⟨f3, g3⟩
    exact h36 S3 _ _ (f2.trans f3) g3 (by rw [tsF, if_neg u]) (by rw [tsP, if_neg u])
