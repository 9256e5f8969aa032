def row_h (al : Nat → Int32) (h : Nat) : Prop := (1 ≤ al (3440 + 160 * h) ∧ al (3440 + 160 * h) ≤ 200) ∧ (1 ≤ al (3441 + 160 * h) ∧ al (3441 + 160 * h) ≤ 12) ∧ (0 ≤ al (3442 + 160 * h) ∧ al (3442 + 160 * h) ≤ 2) ∧ (∀ s, s < 6 → 0 ≤ al (3445 + 160 * h + s) ∧ al (3445 + 160 * h + s) ≤ 100) ∧ ∀ wk, wk < 143 → al (3456 + 160 * h + wk) = 0 ∨ al (3456 + 160 * h + wk) = 1
def row_p (al : Nat → Int32) (p : Nat) : Prop := (0 ≤ al (20 + 27 * p) ∧ al (20 + 27 * p) ≤ 3) ∧ (0 ≤ al (21 + 27 * p) ∧ al (21 + 27 * p) ≤ 16777215) ∧ (0 ≤ al (22 + 27 * p) ∧ al (22 + 27 * p) ≤ 1000000) ∧ (∀ k, k < 24 → 0 ≤ al (23 + 27 * p + k) ∧ al (23 + 27 * p + k) ≤ 1000000)
def row_g (al : Nat → Int32) (p : Nat) : Prop := (0 ≤ al (5360 + 28 * p) ∧ al (5360 + 28 * p) ≤ 2) ∧ (0 ≤ al (5361 + 28 * p) ∧ al (5361 + 28 * p) < al 0) ∧ (0 ≤ al (5362 + 28 * p) ∧ al (5362 + 28 * p) < al 2) ∧ (0 ≤ al (5363 + 28 * p) ∧ al (5363 + 28 * p) ≤ 999) ∧ (-1 ≤ al (5364 + 28 * p) ∧ al (5364 + 28 * p) ≤ 999) ∧ (0 ≤ al (5365 + 28 * p) ∧ al (5365 + 28 * p) ≤ 99 ∧ (al (5364 + 28 * p) = -1 → al (5365 + 28 * p) = 0)) ∧ (∀ j, j < 6 → 0 ≤ al (5370 + 28 * p + j) ∧ al (5370 + 28 * p + j) ≤ 10000) ∧ ∀ s, s < 6 → (0 ≤ al (5376 + 28 * p + 2 * s) ∧ al (5376 + 28 * p + 2 * s) ≤ 999) ∧ 0 ≤ al (5377 + 28 * p + 2 * s) ∧ al (5377 + 28 * p + 2 * s) ≤ 999
def row_l (al : Nat → Int32) (l : Nat) : Prop := (0 ≤ al (240 + 320 * l) ∧ al (240 + 320 * l) ≤ 2) ∧ (0 ≤ al (241 + 320 * l) ∧ al (241 + 320 * l) ≤ 142) ∧ (0 ≤ al (242 + 320 * l) ∧ al (242 + 320 * l) ≤ 999) ∧ (0 ≤ al (243 + 320 * l) ∧ al (243 + 320 * l) ≤ 16) ∧ ∀ k, k < nat (al (243 + 320 * l)) → (0 ≤ al (245 + 320 * l + 19 * k) ∧ al (245 + 320 * l + 19 * k) ≤ 4) ∧ (0 ≤ al (262 + 320 * l + 19 * k) ∧ al (262 + 320 * l + 19 * k) ≤ 9999) ∧ (al (244 + 320 * l + 19 * k) = 5 → al (262 + 320 * l + 19 * k) ≤ 100)
theorem ofNat_succ_lt {n : Nat} (h : n < 1000) : Int32.ofNat n < Int32.ofNat n + 1 := by
  rw [succ32, lt_ofNat (by omega) (by omega)]; omega
theorem cnt_succ {n m : Nat} (h : n < m) (hm : m < 1000) : 0 ≤ Int32.ofNat n + 1 ∧ Int32.ofNat n + 1 ≤ Int32.ofNat m := by
  rw [succ32]
  exact ⟨ofNat_nonneg (by omega), by rw [le_ofNat (by omega) (by omega)]; omega⟩
theorem OK_add_h {al al' : Nat → Int32} {n : Nat} (hOK : OK al) (hn : al 2 = Int32.ofNat n) (hlt : n < 12) (hal : ∀ k, k < 7440 → k ≠ 2 → ¬ (3440 + 160 * n ≤ k ∧ k < 3600 + 160 * n) → al' k = al k) (hc : al' 2 = Int32.ofNat n + 1) (hr : row_h al' n) : OK al' := by
  obtain ⟨oc, oh, op, og, ol, ot, ob⟩ := hOK
  have n2 : nat (al 2) ≤ 12 := nat_le oc.2.2.1.2 (by decide)
  have n3 : nat (al 3) ≤ 60 := nat_le oc.2.2.2.1.2 (by decide)
  have n0 : nat (al 0) ≤ 8 := nat_le oc.1.2 (by decide)
  have n1 : nat (al 1) ≤ 10 := nat_le oc.2.1.2 (by decide)
  have hnn : nat (al 2) = n := by rw [hn]; exact nat_ofNat (by omega)
  have hnn' : nat (al' 2) = n + 1 := by rw [hc, succ32]; exact nat_ofNat (by omega)
  have cs := cnt_succ hlt (by omega)
  refine ⟨?_, fun i hi => ?_, fun p hp => ?_, fun p hp => ?_, fun l hl => ?_, fun s hs => ?_, fun i hi => ?_⟩
  · exact ⟨by rw [hal 0 (by omega) (by omega) (by omega)]; exact oc.1, by rw [hal 1 (by omega) (by omega) (by omega)]; exact oc.2.1, by rw [hc]; exact cs, by rw [hal 3 (by omega) (by omega) (by omega)]; exact oc.2.2.2.1, by rw [hal 4 (by omega) (by omega) (by omega)]; exact oc.2.2.2.2.1, by rw [hal 5 (by omega) (by omega) (by omega)]; exact oc.2.2.2.2.2⟩
  · rw [hnn'] at hi
    by_cases e : i = n
    · subst e; exact hr
    · have hi : i < nat (al 2) := by omega
      obtain ⟨a, b, c, d, f⟩ := oh i hi
      rw [hal _ (by omega) (by omega) (by omega), hal _ (by omega) (by omega) (by omega), hal _ (by omega) (by omega) (by omega)]
      exact ⟨a, b, c, fun s hs => by rw [hal _ (by omega) (by omega) (by omega)]; exact d s hs, fun wk hw => by rw [hal _ (by omega) (by omega) (by omega)]; exact f wk hw⟩
  · rw [hal 0 (by omega) (by omega) (by omega)] at hp
    obtain ⟨a, b, c, d⟩ := op p hp
    rw [hal _ (by omega) (by omega) (by omega), hal _ (by omega) (by omega) (by omega), hal _ (by omega) (by omega) (by omega)]
    exact ⟨a, b, c, fun k hk => by rw [hal _ (by omega) (by omega) (by omega)]; exact d k hk⟩
  · rw [hal 3 (by omega) (by omega) (by omega)] at hp
    obtain ⟨a, b, c, d, e, f, g, i⟩ := og p hp
    rw [hal 0 (by omega) (by omega) (by omega), hal (5360 + 28 * p) (by omega) (by omega) (by omega), hal (5361 + 28 * p) (by omega) (by omega) (by omega), hal (5362 + 28 * p) (by omega) (by omega) (by omega), hal (5363 + 28 * p) (by omega) (by omega) (by omega), hal (5364 + 28 * p) (by omega) (by omega) (by omega), hal (5365 + 28 * p) (by omega) (by omega) (by omega)]
    exact ⟨a, b, ⟨c.1, by rw [hc]; exact Int32.lt_trans (by have := c.2; rw [hn] at this; exact this) (ofNat_succ_lt (by omega))⟩, d, e, f, fun j hj => by rw [hal _ (by omega) (by omega) (by omega)]; exact g j hj, fun s hs => by rw [hal _ (by omega) (by omega) (by omega), hal _ (by omega) (by omega) (by omega)]; exact i s hs⟩
  · rw [hal 1 (by omega) (by omega) (by omega)] at hl
    obtain ⟨a, b, c, d, e⟩ := ol l hl
    have n4 : nat (al (243 + 320 * l)) ≤ 16 := nat_le d.2 (by decide)
    rw [hal (240 + 320 * l) (by omega) (by omega) (by omega), hal (241 + 320 * l) (by omega) (by omega) (by omega), hal (242 + 320 * l) (by omega) (by omega) (by omega), hal (243 + 320 * l) (by omega) (by omega) (by omega)]
    refine ⟨a, b, c, d, fun k hk => ?_⟩
    rw [hal _ (by omega) (by omega) (by omega), hal _ (by omega) (by omega) (by omega), hal _ (by omega) (by omega) (by omega)]
    exact e k hk
  · rw [hal _ (by omega) (by omega) (by omega)]; exact ot s hs
  · rw [hal _ (by omega) (by omega) (by omega)]; exact ob i hi
theorem OK_add_g {al al' : Nat → Int32} {n : Nat} (hOK : OK al) (hn : al 3 = Int32.ofNat n) (hlt : n < 60) (hal : ∀ k, k < 7440 → k ≠ 3 → ¬ (5360 + 28 * n ≤ k ∧ k < 5388 + 28 * n) → al' k = al k) (hc : al' 3 = Int32.ofNat n + 1) (hr : row_g al' n) : OK al' := by
  obtain ⟨oc, oh, op, og, ol, ot, ob⟩ := hOK
  have n2 : nat (al 2) ≤ 12 := nat_le oc.2.2.1.2 (by decide)
  have n3 : nat (al 3) ≤ 60 := nat_le oc.2.2.2.1.2 (by decide)
  have n0 : nat (al 0) ≤ 8 := nat_le oc.1.2 (by decide)
  have n1 : nat (al 1) ≤ 10 := nat_le oc.2.1.2 (by decide)
  have hnn : nat (al 3) = n := by rw [hn]; exact nat_ofNat (by omega)
  have hnn' : nat (al' 3) = n + 1 := by rw [hc, succ32]; exact nat_ofNat (by omega)
  have cs := cnt_succ hlt (by omega)
  refine ⟨?_, fun i hi => ?_, fun p hp => ?_, fun p hp => ?_, fun l hl => ?_, fun s hs => ?_, fun i hi => ?_⟩
  · exact ⟨by rw [hal 0 (by omega) (by omega) (by omega)]; exact oc.1, by rw [hal 1 (by omega) (by omega) (by omega)]; exact oc.2.1, by rw [hal 2 (by omega) (by omega) (by omega)]; exact oc.2.2.1, by rw [hc]; exact cs, by rw [hal 4 (by omega) (by omega) (by omega)]; exact oc.2.2.2.2.1, by rw [hal 5 (by omega) (by omega) (by omega)]; exact oc.2.2.2.2.2⟩
  · rw [hal 2 (by omega) (by omega) (by omega)] at hi
    obtain ⟨a, b, c, d, f⟩ := oh i hi
    rw [hal _ (by omega) (by omega) (by omega), hal _ (by omega) (by omega) (by omega), hal _ (by omega) (by omega) (by omega)]
    exact ⟨a, b, c, fun s hs => by rw [hal _ (by omega) (by omega) (by omega)]; exact d s hs, fun wk hw => by rw [hal _ (by omega) (by omega) (by omega)]; exact f wk hw⟩
  · rw [hal 0 (by omega) (by omega) (by omega)] at hp
    obtain ⟨a, b, c, d⟩ := op p hp
    rw [hal _ (by omega) (by omega) (by omega), hal _ (by omega) (by omega) (by omega), hal _ (by omega) (by omega) (by omega)]
    exact ⟨a, b, c, fun k hk => by rw [hal _ (by omega) (by omega) (by omega)]; exact d k hk⟩
  · rw [hnn'] at hp
    by_cases e : p = n
    · subst e; exact hr
    · have hp : p < nat (al 3) := by omega
      obtain ⟨a, b, c, d, e, f, g, i⟩ := og p hp
      rw [hal 0 (by omega) (by omega) (by omega), hal 2 (by omega) (by omega) (by omega), hal (5360 + 28 * p) (by omega) (by omega) (by omega), hal (5361 + 28 * p) (by omega) (by omega) (by omega), hal (5362 + 28 * p) (by omega) (by omega) (by omega), hal (5363 + 28 * p) (by omega) (by omega) (by omega), hal (5364 + 28 * p) (by omega) (by omega) (by omega), hal (5365 + 28 * p) (by omega) (by omega) (by omega)]
      exact ⟨a, b, c, d, e, f, fun j hj => by rw [hal _ (by omega) (by omega) (by omega)]; exact g j hj, fun s hs => by rw [hal _ (by omega) (by omega) (by omega), hal _ (by omega) (by omega) (by omega)]; exact i s hs⟩
  · rw [hal 1 (by omega) (by omega) (by omega)] at hl
    obtain ⟨a, b, c, d, e⟩ := ol l hl
    have n4 : nat (al (243 + 320 * l)) ≤ 16 := nat_le d.2 (by decide)
    rw [hal (240 + 320 * l) (by omega) (by omega) (by omega), hal (241 + 320 * l) (by omega) (by omega) (by omega), hal (242 + 320 * l) (by omega) (by omega) (by omega), hal (243 + 320 * l) (by omega) (by omega) (by omega)]
    refine ⟨a, b, c, d, fun k hk => ?_⟩
    rw [hal _ (by omega) (by omega) (by omega), hal _ (by omega) (by omega) (by omega), hal _ (by omega) (by omega) (by omega)]
    exact e k hk
  · rw [hal _ (by omega) (by omega) (by omega)]; exact ot s hs
  · rw [hal _ (by omega) (by omega) (by omega)]; exact ob i hi
theorem OK_add_p {al al' : Nat → Int32} {n : Nat} (hOK : OK al) (hn : al 0 = Int32.ofNat n) (hlt : n < 8) (hal : ∀ k, k < 7440 → k ≠ 0 → ¬ (20 + 27 * n ≤ k ∧ k < 47 + 27 * n) → al' k = al k) (hc : al' 0 = Int32.ofNat n + 1) (hr : row_p al' n) : OK al' := by
  obtain ⟨oc, oh, op, og, ol, ot, ob⟩ := hOK
  have n2 : nat (al 2) ≤ 12 := nat_le oc.2.2.1.2 (by decide)
  have n3 : nat (al 3) ≤ 60 := nat_le oc.2.2.2.1.2 (by decide)
  have n0 : nat (al 0) ≤ 8 := nat_le oc.1.2 (by decide)
  have n1 : nat (al 1) ≤ 10 := nat_le oc.2.1.2 (by decide)
  have hnn : nat (al 0) = n := by rw [hn]; exact nat_ofNat (by omega)
  have hnn' : nat (al' 0) = n + 1 := by rw [hc, succ32]; exact nat_ofNat (by omega)
  have cs := cnt_succ hlt (by omega)
  refine ⟨?_, fun i hi => ?_, fun p hp => ?_, fun p hp => ?_, fun l hl => ?_, fun s hs => ?_, fun i hi => ?_⟩
  · exact ⟨by rw [hc]; exact cs, by rw [hal 1 (by omega) (by omega) (by omega)]; exact oc.2.1, by rw [hal 2 (by omega) (by omega) (by omega)]; exact oc.2.2.1, by rw [hal 3 (by omega) (by omega) (by omega)]; exact oc.2.2.2.1, by rw [hal 4 (by omega) (by omega) (by omega)]; exact oc.2.2.2.2.1, by rw [hal 5 (by omega) (by omega) (by omega)]; exact oc.2.2.2.2.2⟩
  · rw [hal 2 (by omega) (by omega) (by omega)] at hi
    obtain ⟨a, b, c, d, f⟩ := oh i hi
    rw [hal _ (by omega) (by omega) (by omega), hal _ (by omega) (by omega) (by omega), hal _ (by omega) (by omega) (by omega)]
    exact ⟨a, b, c, fun s hs => by rw [hal _ (by omega) (by omega) (by omega)]; exact d s hs, fun wk hw => by rw [hal _ (by omega) (by omega) (by omega)]; exact f wk hw⟩
  · rw [hnn'] at hp
    by_cases e : p = n
    · subst e; exact hr
    · have hp : p < nat (al 0) := by omega
      obtain ⟨a, b, c, d⟩ := op p hp
      rw [hal _ (by omega) (by omega) (by omega), hal _ (by omega) (by omega) (by omega), hal _ (by omega) (by omega) (by omega)]
      exact ⟨a, b, c, fun k hk => by rw [hal _ (by omega) (by omega) (by omega)]; exact d k hk⟩
  · rw [hal 3 (by omega) (by omega) (by omega)] at hp
    obtain ⟨a, b, c, d, e, f, g, i⟩ := og p hp
    rw [hal 2 (by omega) (by omega) (by omega), hal (5360 + 28 * p) (by omega) (by omega) (by omega), hal (5361 + 28 * p) (by omega) (by omega) (by omega), hal (5362 + 28 * p) (by omega) (by omega) (by omega), hal (5363 + 28 * p) (by omega) (by omega) (by omega), hal (5364 + 28 * p) (by omega) (by omega) (by omega), hal (5365 + 28 * p) (by omega) (by omega) (by omega)]
    exact ⟨a, ⟨b.1, by rw [hc]; exact Int32.lt_trans (by have := b.2; rw [hn] at this; exact this) (ofNat_succ_lt (by omega))⟩, c, d, e, f, fun j hj => by rw [hal _ (by omega) (by omega) (by omega)]; exact g j hj, fun s hs => by rw [hal _ (by omega) (by omega) (by omega), hal _ (by omega) (by omega) (by omega)]; exact i s hs⟩
  · rw [hal 1 (by omega) (by omega) (by omega)] at hl
    obtain ⟨a, b, c, d, e⟩ := ol l hl
    have n4 : nat (al (243 + 320 * l)) ≤ 16 := nat_le d.2 (by decide)
    rw [hal (240 + 320 * l) (by omega) (by omega) (by omega), hal (241 + 320 * l) (by omega) (by omega) (by omega), hal (242 + 320 * l) (by omega) (by omega) (by omega), hal (243 + 320 * l) (by omega) (by omega) (by omega)]
    refine ⟨a, b, c, d, fun k hk => ?_⟩
    rw [hal _ (by omega) (by omega) (by omega), hal _ (by omega) (by omega) (by omega), hal _ (by omega) (by omega) (by omega)]
    exact e k hk
  · rw [hal _ (by omega) (by omega) (by omega)]; exact ot s hs
  · rw [hal _ (by omega) (by omega) (by omega)]; exact ob i hi
theorem OK_add_l {al al' : Nat → Int32} {n : Nat} (hOK : OK al) (hn : al 1 = Int32.ofNat n) (hlt : n < 10) (hal : ∀ k, k < 7440 → k ≠ 1 → ¬ (240 + 320 * n ≤ k ∧ k < 560 + 320 * n) → al' k = al k) (hc : al' 1 = Int32.ofNat n + 1) (hr : row_l al' n) : OK al' := by
  obtain ⟨oc, oh, op, og, ol, ot, ob⟩ := hOK
  have n2 : nat (al 2) ≤ 12 := nat_le oc.2.2.1.2 (by decide)
  have n3 : nat (al 3) ≤ 60 := nat_le oc.2.2.2.1.2 (by decide)
  have n0 : nat (al 0) ≤ 8 := nat_le oc.1.2 (by decide)
  have n1 : nat (al 1) ≤ 10 := nat_le oc.2.1.2 (by decide)
  have hnn : nat (al 1) = n := by rw [hn]; exact nat_ofNat (by omega)
  have hnn' : nat (al' 1) = n + 1 := by rw [hc, succ32]; exact nat_ofNat (by omega)
  have cs := cnt_succ hlt (by omega)
  refine ⟨?_, fun i hi => ?_, fun p hp => ?_, fun p hp => ?_, fun l hl => ?_, fun s hs => ?_, fun i hi => ?_⟩
  · exact ⟨by rw [hal 0 (by omega) (by omega) (by omega)]; exact oc.1, by rw [hc]; exact cs, by rw [hal 2 (by omega) (by omega) (by omega)]; exact oc.2.2.1, by rw [hal 3 (by omega) (by omega) (by omega)]; exact oc.2.2.2.1, by rw [hal 4 (by omega) (by omega) (by omega)]; exact oc.2.2.2.2.1, by rw [hal 5 (by omega) (by omega) (by omega)]; exact oc.2.2.2.2.2⟩
  · rw [hal 2 (by omega) (by omega) (by omega)] at hi
    obtain ⟨a, b, c, d, f⟩ := oh i hi
    rw [hal _ (by omega) (by omega) (by omega), hal _ (by omega) (by omega) (by omega), hal _ (by omega) (by omega) (by omega)]
    exact ⟨a, b, c, fun s hs => by rw [hal _ (by omega) (by omega) (by omega)]; exact d s hs, fun wk hw => by rw [hal _ (by omega) (by omega) (by omega)]; exact f wk hw⟩
  · rw [hal 0 (by omega) (by omega) (by omega)] at hp
    obtain ⟨a, b, c, d⟩ := op p hp
    rw [hal _ (by omega) (by omega) (by omega), hal _ (by omega) (by omega) (by omega), hal _ (by omega) (by omega) (by omega)]
    exact ⟨a, b, c, fun k hk => by rw [hal _ (by omega) (by omega) (by omega)]; exact d k hk⟩
  · rw [hal 3 (by omega) (by omega) (by omega)] at hp
    obtain ⟨a, b, c, d, e, f, g, i⟩ := og p hp
    rw [hal 0 (by omega) (by omega) (by omega), hal 2 (by omega) (by omega) (by omega), hal (5360 + 28 * p) (by omega) (by omega) (by omega), hal (5361 + 28 * p) (by omega) (by omega) (by omega), hal (5362 + 28 * p) (by omega) (by omega) (by omega), hal (5363 + 28 * p) (by omega) (by omega) (by omega), hal (5364 + 28 * p) (by omega) (by omega) (by omega), hal (5365 + 28 * p) (by omega) (by omega) (by omega)]
    exact ⟨a, b, c, d, e, f, fun j hj => by rw [hal _ (by omega) (by omega) (by omega)]; exact g j hj, fun s hs => by rw [hal _ (by omega) (by omega) (by omega), hal _ (by omega) (by omega) (by omega)]; exact i s hs⟩
  · rw [hnn'] at hl
    by_cases e : l = n
    · subst e; exact hr
    · have hl : l < nat (al 1) := by omega
      obtain ⟨a, b, c, d, e⟩ := ol l hl
      have n4 : nat (al (243 + 320 * l)) ≤ 16 := nat_le d.2 (by decide)
      rw [hal (240 + 320 * l) (by omega) (by omega) (by omega), hal (241 + 320 * l) (by omega) (by omega) (by omega), hal (242 + 320 * l) (by omega) (by omega) (by omega), hal (243 + 320 * l) (by omega) (by omega) (by omega)]
      refine ⟨a, b, c, d, fun k hk => ?_⟩
      rw [hal _ (by omega) (by omega) (by omega), hal _ (by omega) (by omega) (by omega), hal _ (by omega) (by omega) (by omega)]
      exact e k hk
  · rw [hal _ (by omega) (by omega) (by omega)]; exact ot s hs
  · rw [hal _ (by omega) (by omega) (by omega)]; exact ob i hi
