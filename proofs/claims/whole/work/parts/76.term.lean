-- term
def askR (A : Nat → Int32) (kd : Int32) : Int32 := if kd = 10 then A 7 else if kd = 11 then A 0 else if kd = 12 then A 1 else if kd = 13 then A 2 else if kd = 14 then A 3 else if kd = 15 then A 4 else if kd = 16 then A 5 else A 6
theorem askR_c {A A' : Nat → Int32} (h : ∀ j, j < 8 → A j = A' j) (kd : Int32) : askR A kd = askR A' kd := by
  unfold askR
  rw [h 0 (by omega), h 1 (by omega), h 2 (by omega), h 3 (by omega), h 4 (by omega), h 5 (by omega), h 6 (by omega), h 7 (by omega)]
theorem askR_k {A : Nat → Int32} {c : Nat} (hc : c ≤ 7) : askR A (kindOf (Int32.ofNat c)) = A c := by
  rcases (show c = 0 ∨ c = 1 ∨ c = 2 ∨ c = 3 ∨ c = 4 ∨ c = 5 ∨ c = 6 ∨ c = 7 by omega) with rfl | rfl | rfl | rfl | rfl | rfl | rfl | rfl <;> rfl
def tC (A : Nat → Int32) (nt kd sg nm : Int32) : Bool := (if sg = 60 then decide (askR A kd < nm) else if sg = 62 then decide (nm < askR A kd) else decide (askR A kd = nm)) != decide (nt = 1)
def tH (al A : Nat → Int32) (l k t : Nat) : Bool := tC A (al (246 + 320 * l + 19 * k + 4 * t)) (al (247 + 320 * l + 19 * k + 4 * t)) (al (248 + 320 * l + 19 * k + 4 * t)) (al (249 + 320 * l + 19 * k + 4 * t))
def allB (P : Nat → Bool) : Nat → Bool
  | 0 => true
  | n + 1 => allB P n && P n
theorem allB_f {P : Nat → Bool} {t : Nat} (h : P t = false) : ∀ n, t < n → allB P n = false := by
  intro n
  induction n with
  | zero => intro h; omega
  | succ n ih =>
    intro hn
    rw [allB]
    by_cases e : t = n
    · subst e; rw [h]; simp
    · rw [ih (by omega)]; rfl
def fstB (P : Nat → Bool) : Nat → Option Nat
  | 0 => none
  | n + 1 => match fstB P n with
    | some k => some k
    | none => if P n = true then some n else none
theorem fstB_none {P : Nat → Bool} : ∀ n, (∀ k, k < n → P k = false) → fstB P n = none := by
  intro n
  induction n with
  | zero => intro _; rfl
  | succ n ih =>
    intro h
    rw [fstB, ih (fun k hk => h k (by omega)), h n (by omega)]; rfl
theorem fstB_some {P : Nat → Bool} {k : Nat} (h0 : ∀ j, j < k → P j = false) (h1 : P k = true) : ∀ n, k < n → fstB P n = some k := by
  intro n
  induction n with
  | zero => intro h; omega
  | succ n ih =>
    intro hn
    by_cases e : k = n
    · subst e; rw [fstB, fstB_none k h0, h1]; rfl
    · rw [fstB, ih (by omega)]
def lnP (al A : Nat → Int32) (l : Nat) (topic : Int32) (k : Nat) : Bool := decide (al (244 + 320 * l + 19 * k) = topic) && allB (tH al A l k) (nat (al (245 + 320 * l + 19 * k)))
def woF (x : Int32) : Int32 := if x = 0 then 10 else if x = 1 then 5 else if x = 4 then 7 else 0
def tmN (al : Nat → Int32) (l : Nat) (topic : Int32) : Option Nat → Int32
  | none => woF topic
  | some k => al (262 + 320 * l + 19 * k)
def tmF (al A : Nat → Int32) (l : Nat) (topic : Int32) : Int32 := tmN al l topic (fstB (lnP al A l topic) (nat (al (243 + 320 * l))))
def termF (al A : Nat → Int32) (x topic : Int32) : Int32 := if x < 0 then woF topic else tmF al A (nat x) topic
theorem tH_c {al A A' : Nat → Int32} (h : ∀ j, j < 8 → A j = A' j) (l k : Nat) : tH al A l k = tH al A' l k := by
  funext t
  unfold tH tC
  rw [askR_c h]
theorem termF_c {al A A' : Nat → Int32} (h : ∀ j, j < 8 → A j = A' j) (x topic : Int32) : termF al A x topic = termF al A' x topic := by
  have e : lnP al A (nat x) topic = lnP al A' (nat x) topic := by
    funext k
    unfold lnP
    rw [tH_c h]
  unfold termF tmF
  rw [e]
theorem w_tf {Rt : Type} {S : St} {Q : Rt → St → Prop} {p : Prop} [Decidable p] {f : Int32 → St → Option (Rt × St)} (h : Rn (f (bi (decide p)) S) Q) : Rn (br p (f 1) (f 0) S) Q := by
  refine w_br (fun c => ?_) (fun c => ?_)
  · rw [decide_eq_true c] at h; exact h
  · rw [decide_eq_false c] at h; exact h
theorem bi_eq (a b : Bool) : (bi a = bi b) ↔ a = b := by cases a <;> cases b <;> decide
theorem h114_x {S : St} {q l k t : Nat} {al : Nat → Int32} (hsh : LSh S q) (hl4 : 16 * k + 4 * t < sL S (q + 4)) (hb : 16 * k + 4 * t < 1000) (hnt : sI S (q + 4) (16 * k + 4 * t) = al (246 + 320 * l + 19 * k + 4 * t)) (p : Bool) (y : Int32) (hy : y = bi p) : fX9_holds_114 q (Int32.ofNat (16 * k + 4 * t)) y S = some (p != decide (al (246 + 320 * l + 19 * k + 4 * t) = 1), S) := by
  apply Rn.eq
  unfold fX9_holds_114
  refine w_gR hsh.k0 hsh.r7 (w_nn (w_aIe (n := 16 * k + 4 * t) hsh.k4 rfl rfl ⟨hl4, by omega⟩ hnt ?_))
  subst hy
  refine w_br (fun c => ?_) (fun c => ?_)
  · unfold fX9_holds_131
    refine w_br (fun d => w_r0 ⟨?_, rfl⟩) (fun d => w_r1 ⟨?_, rfl⟩)
    · rw [(bi_eq p true).mp d, decide_eq_true c]; rfl
    · rw [decide_eq_true c]; cases p <;> first | rfl | exact absurd rfl d
  · unfold fX9_holds_131
    refine w_br (fun d => w_r0 ⟨?_, rfl⟩) (fun d => w_r1 ⟨?_, rfl⟩)
    · rw [(bi_eq p false).mp d, decide_eq_false c]; rfl
    · rw [decide_eq_false c]; cases p <;> first | rfl | exact absurd rfl d
theorem sgn_1 {x y : Int32} (h : signOf x = y) : (x = 0 → y = 60) ∧ (¬ x = 0 → x = 1 → y = 62) ∧ (¬ x = 0 → ¬ x = 1 → y = 61) := by
  unfold signOf at h
  refine ⟨fun c => ?_, fun c d => ?_, fun c d => ?_⟩
  · rw [if_pos c] at h; exact h.symm
  · rw [if_neg c, if_pos d] at h; exact h.symm
  · rw [if_neg c, if_neg d] at h; exact h.symm
theorem tests_lt {S : St} {q l k t : Nat} {al : Nat → Int32} (r : LRel al l q S) (hk : k < sL S (q + 1)) (ht : t < nat (sI S (q + 3) k)) : t < 4 := by
  have h := (r.2.2.2.2.2.2 k hk).2.2.2.2.1
  have := nat_le (n := 4) h (by decide)
  omega
set_option maxHeartbeats 1000000 in
set_option maxRecDepth 10000 in
theorem holds_x {S : St} {q l k t a : Nat} {al : Nat → Int32} (hsh : LSh S q) (r : LRel al l q S) (hk : k < sL S (q + 1)) (ht : t < nat (sI S (q + 3) k)) (ha : sK S a = 15) (hla : sL S a = 8) : fX9_holds q (Int32.ofNat (16 * k + 4 * t)) (some a) S = some (tH al (sI S a) l k t, S) := by
  have ht4 := tests_lt r hk ht
  have hle := hsh.le
  have hl4 := hsh.l4
  obtain ⟨e0, e1, e1a, e1b, e2, e3⟩ := (r.2.2.2.2.2.2 k hk).2.2.2.2.2 t ht
  obtain ⟨c, hc, hcc⟩ : ∃ c, c ≤ 7 ∧ sI S (q + 4) (16 * k + 4 * t + 1) = Int32.ofNat c := ⟨nat (sI S (q + 4) (16 * k + 4 * t + 1)), nat_le (n := 7) e1b (by decide), cnt_eq e1a⟩
  rw [hcc] at e1
  have hA : askR (sI S a) (al (247 + 320 * l + 19 * k + 4 * t)) = sI S a c := by rw [← e1]; exact askR_k hc
  have sg := sgn_1 e2
  have go := fun (p : Bool) (y : Int32) (hy : y = bi p) => h114_x (al := al) (l := l) hsh (k := k) (t := t) (by omega) (by omega) e0 p y hy
  apply Rn.eq
  unfold fX9_holds tH tC
  rw [hA]
  refine w_bf (nonneg_lt (by omega)) (w_gR hsh.k0 hsh.r7 (w_nn (w_aL hsh.k4 hl4 (w_bt ?_ (w_gR hsh.k0 hsh.r7 (w_nn (w_aIe (n := 16 * k + 4 * t + 1) hsh.k4 (by rw [succ32]) hl4 (by omega) hcc (w_bf (nonneg_lt (by omega)) (w_nn (w_aL ha hla (w_bt ?_ (w_gR hsh.k0 hsh.r7 (w_nn (w_aI (n := 16 * k + 4 * t + 2) hsh.k4 (Int32.ofNat_add (16 * k + 4 * t) 2).symm hl4 (by omega) (w_gR hsh.k0 hsh.r7 (w_nn (w_aIe (n := 16 * k + 4 * t + 3) hsh.k4 (Int32.ofNat_add (16 * k + 4 * t) 3).symm hl4 (by omega) e3 ?_)))))))))))))))))
  · rw [show (4 : Int32) = Int32.ofNat 4 from rfl, ← Int32.ofNat_add, le_ofNat (by omega) (by omega)]; omega
  · rw [lt_ofNat (by omega) (by omega)]; omega
  refine w_br (fun c0 => ?_) (fun c0 => w_br (fun c1 => ?_) (fun c1 => ?_))
  · refine w_aI (n := c) ha rfl hla (by omega) ?_
    rw [if_pos (sg.1 c0)]
    refine w_br (fun d => ?_) (fun d => ?_)
    · exact ⟨_, _, go false 0 rfl, by rw [decide_eq_false (Int32.not_lt.mpr d)], rfl⟩
    · exact ⟨_, _, go true 1 rfl, by rw [decide_eq_true (Int32.not_le.mp d)], rfl⟩
  · refine w_aI (n := c) ha rfl hla (by omega) ?_
    rw [if_neg (by rw [sg.2.1 c0 c1]; decide), if_pos (sg.2.1 c0 c1)]
    refine w_br (fun d => ?_) (fun d => ?_)
    · exact ⟨_, _, go false 0 rfl, by rw [decide_eq_false (Int32.not_lt.mpr d)], rfl⟩
    · exact ⟨_, _, go true 1 rfl, by rw [decide_eq_true (Int32.not_le.mp d)], rfl⟩
  · refine w_aI (n := c) ha rfl hla (by omega) ?_
    rw [if_neg (by rw [sg.2.2 c0 c1]; decide), if_neg (by rw [sg.2.2 c0 c1]; decide)]
    refine w_br (fun d => ?_) (fun d => ?_)
    · exact ⟨_, _, go true 1 rfl, by rw [decide_eq_true d], rfl⟩
    · exact ⟨_, _, go false 0 rfl, by rw [decide_eq_false d], rfl⟩
set_option maxHeartbeats 1000000 in
set_option maxRecDepth 10000 in
theorem allHold_x {S : St} {q l k a : Nat} {al : Nat → Int32} (hsh : LSh S q) (r : LRel al l q S) (hk : k < sL S (q + 1)) (ha : sK S a = 15) (hla : sL S a = 8) : fX9_allHold q (Int32.ofNat k) (some a) S = some (allB (tH al (sI S a) l k) (nat (sI S (q + 3) k)), S) := by
  have hle := hsh.le
  have hl3 := hsh.l3
  obtain ⟨-, -, -, g1, g2, -⟩ := r.2.2.2.2.2.2 k hk
  have hn4 := nat_le (n := 4) g2 (by decide)
  have hc := cnt_eq g1
  apply Rn.eq
  unfold fX9_allHold
  refine w_for (mk := fun (b : Unit) i => (q, Int32.ofNat k, some a, i)) (a := ()) 0 (nat (sI S (q + 3) k)) (fun i _ S' => S' = S ∧ allB (tH al (sI S a) l k) i = true) (by omega) (by omega) ⟨rfl, rfl⟩ ?_ ?_
  · rintro kk b S' ⟨rfl, hb⟩ hge
    dsimp only [fX9_allHold_2]
    rw [← hc] at hge
    refine w_gR hsh.k0 hsh.r6 (w_nn (w_aI (n := k) hsh.k3 rfl hl3 (by omega) (w_bt ?_ (w_r1 ⟨hb.symm, rfl⟩))))
    rw [← hc]; exact hge
  · rintro i - hi kk b S' ⟨rfl, hb⟩ hlt hkk
    dsimp only [fX9_allHold_2]
    rw [← hc] at hlt
    have e : Int32.ofNat k * 16 + Int32.ofNat i * 4 = Int32.ofNat (16 * k + 4 * i) := by
      rw [show (16 : Int32) = Int32.ofNat 16 from rfl, show (4 : Int32) = Int32.ofNat 4 from rfl, ← Int32.ofNat_mul, ← Int32.ofNat_mul, ← Int32.ofNat_add, Nat.mul_comm k, Nat.mul_comm i]
    refine w_gR hsh.k0 hsh.r6 (w_nn (w_aI (n := k) hsh.k3 rfl hl3 (by omega) (w_bf hlt (w_bf ?_ (w_ck hsh.k0 ?_)))))
    · rw [show (4 : Int32) = Int32.ofNat 4 from rfl, le_ofNat (by omega) (by omega)]; omega
    rw [e]
    refine w_cl (holds_x hsh r hk hi ha hla) (w_z (fun c => hkk () _ ⟨rfl, ?_⟩) (fun c => w_r0 ⟨?_, rfl⟩))
    · rw [allB, hb, c]; rfl
    · exact (allB_f c _ hi).symm
set_option maxHeartbeats 1000000 in
set_option maxRecDepth 10000 in
theorem termOf_some {S : St} {q l a : Nat} {al : Nat → Int32} (hsh : LSh S q) (r : LRel al l q S) (ha : sK S a = 15) (hla : sL S a = 8) (topic : Int32) : fX11_termOf (some q) topic (some a) S = some (tmF al (sI S a) l topic, S) := by
  obtain ⟨-, -, -, r3, r4, r5, r6⟩ := id r
  have hle := hsh.le
  have hl2 := hsh.l2
  have hc := cnt_eq r5
  have hn : nat (al (243 + 320 * l)) ≤ 16 := by omega
  have wo : fX11_termWithoutLine topic S = some (woF topic, S) := by
    apply Rn.eq
    unfold fX11_termWithoutLine woF
    refine w_br (fun c => w_rt ⟨by rw [if_pos c], rfl⟩) (fun c0 => w_br (fun c => w_rt ⟨by rw [if_neg c0, if_pos c], rfl⟩) (fun c1 => w_br (fun c => w_rt ⟨?_, rfl⟩) (fun c2 => w_br (fun c => w_rt ⟨?_, rfl⟩) (fun c3 => w_br (fun c => w_rt ⟨by rw [if_neg c0, if_neg c1, if_pos c], rfl⟩) (fun c4 => w_rt ⟨by rw [if_neg c0, if_neg c1, if_neg c4], rfl⟩)))))
    · subst c; rfl
    · subst c; rfl
  have ln : Rn (fX9_lineFor q topic (some a) S) (fun x S' => S' = S ∧ ((x = -1 ∧ fstB (lnP al (sI S a) l topic) (nat (al (243 + 320 * l))) = none) ∨ ∃ k, k < nat (al (243 + 320 * l)) ∧ x = Int32.ofNat k ∧ fstB (lnP al (sI S a) l topic) (nat (al (243 + 320 * l))) = some k)) := by
    unfold fX9_lineFor
    refine w_for (mk := fun (b : Unit) i => (q, topic, some a, i)) (a := ()) 0 (nat (al (243 + 320 * l))) (fun i _ S' => S' = S ∧ ∀ k, k < i → lnP al (sI S a) l topic k = false) (by omega) (by omega) ⟨rfl, fun k hk => by omega⟩ ?_ ?_
    · rintro kk b S' ⟨rfl, hb⟩ hge
      dsimp only [fX9_lineFor_2]
      rw [← hc] at hge
      exact w_gIe hsh.k0 r3 (w_bt (by rw [← hc]; exact hge) (w_rt ⟨rfl, Or.inl ⟨rfl, fstB_none _ hb⟩⟩))
    · rintro i - hi kk b S' ⟨rfl, hb⟩ hlt hkk
      dsimp only [fX9_lineFor_2, fX9_lineFor_31]
      rw [← hc] at hlt
      obtain ⟨g0, g1, g2, -⟩ := r6 i (by omega)
      refine w_gIe hsh.k0 r3 (w_bf hlt (w_gR hsh.k0 hsh.r4 (w_nn (w_aIe (n := i) hsh.k1 rfl rfl (by omega) g0 (w_br (fun c => ?_) (fun c => hkk () _ ⟨rfl, fun k hk => ?_⟩))))))
      · have hall := allHold_x hsh r (k := i) (by omega) ha hla
        rw [g2] at hall
        refine w_ck hsh.k0 (w_cl hall (w_z (fun d => w_rt ⟨rfl, Or.inr ⟨i, hi, rfl, fstB_some hb ?_ _ hi⟩⟩) (fun d => hkk () _ ⟨rfl, fun k hk => ?_⟩)))
        · unfold lnP; rw [d, decide_eq_true c]; rfl
        · by_cases e : k = i
          · subst e; unfold lnP; rw [d]; simp
          · exact hb k (by omega)
      · by_cases e : k = i
        · subst e; unfold lnP; rw [decide_eq_false c]; rfl
        · exact hb k (by omega)
  apply Rn.eq
  unfold fX11_termOf
  refine w_onS (w_ck hsh.k0 (w_clr ln ?_))
  rintro x S' ⟨rfl, ⟨rfl, hx⟩ | ⟨k, hk, rfl, hx⟩⟩
  · unfold fX11_termOf_14 fX11_termOf_24
    refine w_onS (w_bt rfl (w_cl wo (w_rt ⟨?_, rfl⟩)))
    unfold tmF; rw [hx]; rfl
  · unfold fX11_termOf_14
    have e : fX9_numberOf q (Int32.ofNat k) S' = some (al (262 + 320 * l + 19 * k), S') := by
      apply Rn.eq
      unfold fX9_numberOf
      refine w_gIe hsh.k0 r3 (w_cl (within_eq _ _ _ _) (w_zt ((wi_cnt r5).mpr ⟨k, hk, rfl⟩) (w_gR hsh.k0 hsh.r5 (w_nn (w_aIe (n := k) hsh.k2 rfl hl2 (by omega) (r6 k (by omega)).2.1 (w_rt ⟨rfl, rfl⟩))))))
    refine w_onS (w_bf (of_ne_m1 (by omega)) (w_ck hsh.k0 (w_cl e (w_rt ⟨?_, rfl⟩))))
    unfold tmF; rw [hx]; rfl
def lsR (S : St) (x : Int32) : Option Nat := if x < 0 then none else sR S 4 (nat x)
theorem ls_cases {al : Nat → Int32} (h5 : OK al) (d w k : Int32) : lsF al d w k = -1 ∨ ∃ l, l < nat (al 1) ∧ l < 10 ∧ lsF al d w k = Int32.ofNat l := by
  have l1 : nat (al 1) ≤ 10 := nat_le h5.1.2.1.2 (by decide)
  rcases ls_b (al := al) (d := d) (w := w) (k := k) (nat (al 1)) (by omega) with h | ⟨j, hj, h⟩
  · exact Or.inl h
  · exact Or.inr ⟨j, hj, by omega, h⟩
theorem listAt_ls {al : Nat → Int32} {S : St} (h : CV al S) (d w k : Int32) : fX10_listAt 1 (lsF al d w k) S = some (lsR S (lsF al d w k), S) := by
  rcases ls_cases h.2.2.2 d w k with e | ⟨l, hl, hl10, e⟩
  · rw [e]
    rcases list_cv h (-1) with ⟨-, hc⟩ | ⟨n, q, e', hn, hn10, -⟩
    · rw [hc]; rfl
    · exact absurd e'.symm (of_ne_m1 (by omega))
  · rw [e]
    obtain ⟨q, a, b, -⟩ := list_at h hl
    rw [a, lsR, if_neg (nonneg_lt (by omega)), nat_ofNat (by omega), b]
theorem termOf_x {al : Nat → Int32} {S : St} (h : CV al S) {a : Nat} (ha : sK S a = 15) (hla : sL S a = 8) (d w k topic : Int32) : fX11_termOf (lsR S (lsF al d w k)) topic (some a) S = some (termF al (sI S a) (lsF al d w k) topic, S) := by
  rcases ls_cases h.2.2.2 d w k with e | ⟨l, hl, hl10, e⟩
  · rw [e]
    have wo : fX11_termWithoutLine topic S = some (woF topic, S) := by
      apply Rn.eq
      unfold fX11_termWithoutLine woF
      refine w_br (fun c => w_rt ⟨by rw [if_pos c], rfl⟩) (fun c0 => w_br (fun c => w_rt ⟨by rw [if_neg c0, if_pos c], rfl⟩) (fun c1 => w_br (fun c => w_rt ⟨?_, rfl⟩) (fun c2 => w_br (fun c => w_rt ⟨?_, rfl⟩) (fun c3 => w_br (fun c => w_rt ⟨by rw [if_neg c0, if_neg c1, if_pos c], rfl⟩) (fun c4 => w_rt ⟨by rw [if_neg c0, if_neg c1, if_neg c4], rfl⟩)))))
      · subst c; rfl
      · subst c; rfl
    apply Rn.eq
    show Rn (fX11_termOf none topic (some a) S) _
    unfold fX11_termOf fX11_termOf_14 fX11_termOf_24
    exact w_onN (w_onN (w_cl wo (w_rt ⟨rfl, rfl⟩)))
  · obtain ⟨q, -, b, hsh, r, -⟩ := list_at h hl
    rw [e, lsR, if_neg (nonneg_lt (by omega)), nat_ofNat (by omega), b, termOf_some hsh r ha hla, termF, if_neg (nonneg_lt (by omega)), nat_ofNat (by omega)]
