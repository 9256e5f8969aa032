/-- class and reference at one call: one answer, and the invariant behind it -/
def Stq {Ru : Type} (INV : St → Prop) (f g : St → Option (Ru × St)) (S : St) : Prop := ∃ (r : Ru) (S1 S2 : St), f S = some (r, S1) ∧ sK S1 32 = 13 ∧ g S1 = some (r, S2) ∧ INV S2 ∧ sn S2 ≤ sn S + 300 ∧ sm S2 ≤ sm S + 3000
theorem stp_go {Ru : Type} {INV : St → Prop} {f g : St → Option (Ru × St)} {S : St} (h : Stq INV f g S) (hK : sK S 0 = 12) (ph : Ru → Int32) (k : St → Option (Bool × St)) : ∃ S2, (ck 12 0 (cl f fun r => ck 13 32 (cl g fun r' => br (ph r = ph r') k (rtZ 0)))) S = k S2 ∧ INV S2 ∧ sn S2 ≤ sn S + 300 ∧ sm S2 ≤ sm S + 3000 := by
  obtain ⟨r, S1, S2, e1, e2, e3, e4, e5, e6⟩ := h
  refine ⟨S2, ?_, e4, e5, e6⟩
  simp only [ck, cl, br, hK, e1, e2, e3, if_true]
theorem lit_add (i : Nat) (j : Nat) : Int32.ofNat i + Int32.ofNat j = Int32.ofNat (i + j) := (Int32.ofNat_add i j).symm
theorem ofNat_clamp {i : Nat} (h : i < 2 ^ 31) : (Int32.ofNat i).toNatClampNeg = i := by
  show (Int32.ofNat i).toInt.toNat = i
  rw [Int32.toInt_ofNat_of_lt (by omega)]
  omega
theorem ofNat_nonneg {i : Nat} (h : i < 2 ^ 31) : 0 ≤ Int32.ofNat i := by
  rw [Int32.le_iff_toInt_le, Int32.toInt_ofNat_of_lt (by omega)]
  simp
theorem sx_at {L i : Nat} {xs : Nat → Int32} (hL : L ≤ 3584) (hi : i < L) (k : Int32 → St → Option (Bool × St)) : sx L xs (Int32.ofNat i) k = k (xs i) := by
  funext S
  unfold sx
  rw [ofNat_clamp (by omega), if_pos ⟨ofNat_nonneg (by omega), hi⟩]
set_option maxHeartbeats 4000000 in
set_option maxRecDepth 100000 in
theorem law_loop {INV : St → Prop} (hK : ∀ S, INV S → sK S 0 = 12)
    (H_feed : ∀ (S : St) (x1 x2 x3 x4 x5 : Int32), INV S → Stq INV (fX11_feed 0 x1 x2 x3 x4 x5) (fX12_feed 32 x1 x2 x3 x4 x5) S)
    (H_end : ∀ (S : St) (x1 : Int32), INV S → Stq INV (fX11_end 0 x1) (fX12_end 32 x1) S)
    (H_pattern : ∀ (S : St) (x1 x2 : Int32), INV S → Stq INV (fX11_pattern 0 x1 x2) (fX12_pattern 32 x1 x2) S)
    (H_list : ∀ (S : St) (x1 x2 : Int32), INV S → Stq INV (fX11_list 0 x1 x2) (fX12_list 32 x1 x2) S)
    (H_fault : ∀ (S : St) (x1 : Int32), INV S → Stq INV (fX11_fault 0 x1) (fX12_fault 32 x1) S)
    (H_stitches : ∀ (S : St) (x1 x2 x3 : Int32), INV S → Stq INV (fX11_stitches 0 x1 x2 x3) (fX12_stitches 32 x1 x2 x3) S)
    (H_about : ∀ (S : St) (x1 x2 : Int32), INV S → Stq INV (fX11_about 0 x1 x2) (fX12_about 32 x1 x2) S)
    (H_day : ∀ (S : St) (x1 : Int32), INV S → Stq INV (fX11_day 0 x1) (fX12_day 32 x1) S)
    (H_lists : ∀ (S : St) (x1 x2 x3 : Int32), INV S → Stq INV (fX11_lists 0 x1 x2 x3) (fX12_lists 32 x1 x2 x3) S)
    (H_hand : ∀ (S : St) (x1 x2 x3 : Int32), INV S → Stq INV (fX11_hand 0 x1 x2 x3) (fX12_hand 32 x1 x2 x3) S)
    (H_habit : ∀ (S : St) (x1 x2 x3 : Int32), INV S → Stq INV (fX11_habit 0 x1 x2 x3) (fX12_habit 32 x1 x2 x3) S)
    (H_hay : ∀ (S : St) (x1 x2 x3 : Int32), (x3 = 0 ∨ x3 = 1) → INV S → Stq INV (fX11_hay 0 x1 x2 x3) (fX12_hay 32 x1 x2 x3) S)
    (H_advance : ∀ (S : St) (x1 x2 : Int32), INV S → Stq INV (fX11_advance 0 x1 x2) (fX12_advance 32 x1 x2) S)
    (H_tell : ∀ (S : St) (x1 x2 : Int32), INV S → Stq INV (fX11_tell 0 x1 x2) (fX12_tell 32 x1 x2) S)
    (H_term : ∀ (S : St) (x1 x2 x3 x4 x5 x6 : Int32), INV S → Stq INV (fX11_term 0 x1 x2 x3 x4 x5 x6) (fX12_term 32 x1 x2 x3 x4 x5 x6) S)
    (H_out : ∀ (S : St) (x1 x2 x3 : Int32), INV S → Stq INV (fX11_out 0 x1 x2 x3) (fX12_out 32 x1 x2 x3) S)
    (H_in : ∀ (S : St) (x1 x2 x3 : Int32), INV S → Stq INV (fX11_in 0 x1 x2 x3) (fX12_in 32 x1 x2 x3) S)
    (H_piece : ∀ (S : St) (x1 x2 : Int32), INV S → Stq INV (fX11_piece 0 x1 x2) (fX12_piece 32 x1 x2) S)
    (H_bill : ∀ (S : St) (x1 x2 x3 : Int32), INV S → Stq INV (fX11_bill 0 x1 x2 x3) (fX12_bill 32 x1 x2 x3) S)
    (H_wronged : ∀ (S : St) (x1 x2 : Int32), INV S → Stq INV (fX11_wronged 0 x1 x2) (fX12_wronged 32 x1 x2) S)
    (H_carried : ∀ (S : St) (x1 : Int32), INV S → Stq INV (fX11_carried 0 x1) (fX12_carried 32 x1) S)
    (H_write : ∀ (S : St) (x1 x2 x3 x4 : Int32), INV S → Stq INV (fX11_write 0 x1 x2 x3 x4) (fX12_write 32 x1 x2 x3 x4) S)
    (H_differ : ∀ (S : St) (x1 : Int32), INV S → Stq INV (fX11_differ 0 x1) (fX12_differ 32 x1) S)
    (H_part : ∀ (S : St) (x1 x2 x3 x4 : Int32), INV S → Stq INV (fX11_part 0 x1 x2 x3 x4) (fX12_part 32 x1 x2 x3 x4) S)
    (H_parted : ∀ (S : St) (x1 x2 x3 x4 : Int32), INV S → Stq INV (fX11_parted 0 x1 x2 x3 x4) (fX12_parted 32 x1 x2 x3 x4) S)
    (H_look : ∀ (S : St) (x1 x2 x3 x4 : Int32), INV S → Stq INV (fX11_look 0 x1 x2 x3 x4) (fX12_look 32 x1 x2 x3 x4) S)
    (H_unlike : ∀ (S : St) (x1 x2 : Int32), INV S → Stq INV (fX11_unlike 0 x1 x2) (fX12_unlike 32 x1 x2) S)
    (H_who : ∀ (S : St) (x1 x2 : Int32), INV S → Stq INV (fX11_who 0 x1 x2) (fX12_who 32 x1 x2) S)
    (H_stolen : ∀ (S : St) (x1 x2 x3 : Int32), INV S → Stq INV (fX11_stolen 0 x1 x2 x3) (fX12_stolen 32 x1 x2 x3) S)
    (H_time : ∀ (S : St) (x1 x2 : Int32), INV S → Stq INV (fX11_time 0 x1 x2) (fX12_time 32 x1 x2) S)
    (H_even : ∀ (S : St) (x1 x2 x3 : Int32), INV S → Stq INV (fX11_even 0 x1 x2 x3) (fX12_even 32 x1 x2 x3) S)
    (H_count : ∀ (S : St) (x1 : Int32), INV S → Stq INV (fX11_count 0 x1) (fX12_count 32 x1) S)
    (H_image : ∀ (S : St) (x1 : Int32), INV S → Stq INV (fX11_image 0 x1) (fX12_image 32 x1) S)
    (H_again : ∀ (S : St) (x1 : Int32), INV S → Stq INV (fX11_again 0 x1) (fX12_again 32 x1) S)
    {L : Nat} {xs : Nat → Int32} (hL : L ≤ 3584) : ∀ (n i : Nat) (S : St), L < i + 7 * n → i ≤ L → INV S → ∃ S', itr (fun k (p : Option Nat × Option Nat × Int32) => fL_law_18 L xs k p.1 p.2.1 p.2.2) n (some 0, some 32, Int32.ofNat i) S = some (true, S') ∧ 7 * sn S' ≤ 7 * sn S + 300 * (L - i) ∧ 7 * sm S' ≤ 7 * sm S + 3000 * (L - i) := by
  intro n
  induction n with
  | zero => intro i S h1 h2; omega
  | succ n ih =>
    intro i S h1 h2 hI
    show ∃ S', fL_law_18 L xs (itr (fun k (p : Option Nat × Option Nat × Int32) => fL_law_18 L xs k p.1 p.2.1 p.2.2) n) (some 0) (some 32) (Int32.ofNat i) S = some (true, S') ∧ _
    generalize hk : itr (fun k (p : Option Nat × Option Nat × Int32) => fL_law_18 L xs k p.1 p.2.1 p.2.2) n = kk at ih
    have hL7 : (Int32.ofNat L - 7).toInt = (L : Int) - 7 := by
      have e1 : (Int32.ofNat L).toInt = (L : Int) := Int32.toInt_ofNat_of_lt (by omega)
      rw [Int32.toInt_sub, e1]
      show ((L : Int) - 7).bmod (2 ^ 32) = _
      rw [Int.bmod_eq_of_le (by omega) (by omega)]
    have hiI : (Int32.ofNat i).toInt = (i : Int) := Int32.toInt_ofNat_of_lt (by omega)
    by_cases hend : L < i + 7
    · refine ⟨S, ?_, by omega, by omega⟩
      have hc : Int32.ofNat L - 7 < Int32.ofNat i := by
        rw [Int32.lt_iff_toInt_lt, hL7, hiI]; omega
      simp only [fL_law_18, br, if_pos hc, rtZ]
      rfl
    · have hc : ¬ Int32.ofNat L - 7 < Int32.ofNat i := by
        rw [Int32.lt_iff_toInt_lt, hL7, hiI]; omega
      have e0 := sx_at (xs := xs) hL (show i < L by omega)
      have e1 : ∀ k : Int32 → St → Option (Bool × St), sx L xs (Int32.ofNat i + 1) k = k (xs (i + 1)) := fun k => by rw [show (1 : Int32) = Int32.ofNat 1 from rfl, lit_add]; exact sx_at hL (by omega) k
      have e2 : ∀ k : Int32 → St → Option (Bool × St), sx L xs (Int32.ofNat i + 2) k = k (xs (i + 2)) := fun k => by rw [show (2 : Int32) = Int32.ofNat 2 from rfl, lit_add]; exact sx_at hL (by omega) k
      have e3 : ∀ k : Int32 → St → Option (Bool × St), sx L xs (Int32.ofNat i + 3) k = k (xs (i + 3)) := fun k => by rw [show (3 : Int32) = Int32.ofNat 3 from rfl, lit_add]; exact sx_at hL (by omega) k
      have e4 : ∀ k : Int32 → St → Option (Bool × St), sx L xs (Int32.ofNat i + 4) k = k (xs (i + 4)) := fun k => by rw [show (4 : Int32) = Int32.ofNat 4 from rfl, lit_add]; exact sx_at hL (by omega) k
      have e5 : ∀ k : Int32 → St → Option (Bool × St), sx L xs (Int32.ofNat i + 5) k = k (xs (i + 5)) := fun k => by rw [show (5 : Int32) = Int32.ofNat 5 from rfl, lit_add]; exact sx_at hL (by omega) k
      have e6 : ∀ k : Int32 → St → Option (Bool × St), sx L xs (Int32.ofNat i + 6) k = k (xs (i + 6)) := fun k => by rw [show (6 : Int32) = Int32.ofNat 6 from rfl, lit_add]; exact sx_at hL (by omega) k
      have e7 : ∀ S2 : St, INV S2 → sn S2 ≤ sn S + 300 → sm S2 ≤ sm S + 3000 → ∃ S', kk (some 0, some 32, Int32.ofNat i + 7) S2 = some (true, S') ∧ 7 * sn S' ≤ 7 * sn S + 300 * (L - i) ∧ 7 * sm S' ≤ 7 * sm S + 3000 * (L - i) := by
        intro S2 g1 g2 g3
        obtain ⟨S', a1, a2, a3⟩ := ih (i + 7) S2 (by omega) (by omega) g1
        refine ⟨S', ?_, by omega, by omega⟩
        rw [show (7 : Int32) = Int32.ofNat 7 from rfl, lit_add]
        exact a1
      have go : ∀ {Ru : Type} {f g : St → Option (Ru × St)} (ph : Ru → Int32), Stq INV f g S → ∃ S', (ck 12 0 (cl f fun r => ck 13 32 (cl g fun r' => br (ph r = ph r') (kk (some 0, some 32, Int32.ofNat i + 7)) (rtZ 0)))) S = some (true, S') ∧ 7 * sn S' ≤ 7 * sn S + 300 * (L - i) ∧ 7 * sm S' ≤ 7 * sm S + 3000 * (L - i) := by
        intro Ru f g ph h
        obtain ⟨S2, a1, a2, a3, a4⟩ := stp_go h (hK S hI) ph (kk (some 0, some 32, Int32.ofNat i + 7))
        rw [a1]
        exact e7 S2 a2 a3 a4
      simp only [fL_law_18, fL_law_611, fL_law_638, fL_law_1494, e0, e1, e2, e3, e4, e5, e6, nn]
      rw [show ∀ (a b : St → Option (Bool × St)), br (Int32.ofNat L - 7 < Int32.ofNat i) a b S = b S from fun a b => by simp only [br, if_neg hc]]
      generalize xs i &&& 63 = sw
      by_cases h0 : sw = 0
      · rw [show ∀ (a b : St → Option (Bool × St)), br (sw = 0) a b S = a S from fun a b => by simp only [br, if_pos h0]]
        exact go (fun v => v) (H_feed S (xs (i + 1)) (xs (i + 2)) (xs (i + 3)) (xs (i + 4)) (xs (i + 5)) hI)
      rw [show ∀ (a b : St → Option (Bool × St)), br (sw = 0) a b S = b S from fun a b => by simp only [br, if_neg h0]]
      by_cases h1 : sw = 1
      · rw [show ∀ (a b : St → Option (Bool × St)), br (sw = 1) a b S = a S from fun a b => by simp only [br, if_pos h1]]
        exact go (fun v => v) (H_end S (xs (i + 1)) hI)
      rw [show ∀ (a b : St → Option (Bool × St)), br (sw = 1) a b S = b S from fun a b => by simp only [br, if_neg h1]]
      by_cases h2 : sw = 2
      · rw [show ∀ (a b : St → Option (Bool × St)), br (sw = 2) a b S = a S from fun a b => by simp only [br, if_pos h2]]
        exact go (fun v => v) (H_pattern S (xs (i + 1)) (xs (i + 2)) hI)
      rw [show ∀ (a b : St → Option (Bool × St)), br (sw = 2) a b S = b S from fun a b => by simp only [br, if_neg h2]]
      by_cases h3 : sw = 3
      · rw [show ∀ (a b : St → Option (Bool × St)), br (sw = 3) a b S = a S from fun a b => by simp only [br, if_pos h3]]
        exact go (fun v => v) (H_list S (xs (i + 1)) (xs (i + 2)) hI)
      rw [show ∀ (a b : St → Option (Bool × St)), br (sw = 3) a b S = b S from fun a b => by simp only [br, if_neg h3]]
      by_cases h4 : sw = 4
      · rw [show ∀ (a b : St → Option (Bool × St)), br (sw = 4) a b S = a S from fun a b => by simp only [br, if_pos h4]]
        exact go (fun v => v) (H_fault S (xs (i + 1)) hI)
      rw [show ∀ (a b : St → Option (Bool × St)), br (sw = 4) a b S = b S from fun a b => by simp only [br, if_neg h4]]
      by_cases h5 : sw = 5
      · rw [show ∀ (a b : St → Option (Bool × St)), br (sw = 5) a b S = a S from fun a b => by simp only [br, if_pos h5]]
        exact go (fun v => v) (H_stitches S (xs (i + 1)) (xs (i + 2)) (xs (i + 3)) hI)
      rw [show ∀ (a b : St → Option (Bool × St)), br (sw = 5) a b S = b S from fun a b => by simp only [br, if_neg h5]]
      by_cases h6 : sw = 6
      · rw [show ∀ (a b : St → Option (Bool × St)), br (sw = 6) a b S = a S from fun a b => by simp only [br, if_pos h6]]
        exact go (fun v => v) (H_about S (xs (i + 1)) (xs (i + 2)) hI)
      rw [show ∀ (a b : St → Option (Bool × St)), br (sw = 6) a b S = b S from fun a b => by simp only [br, if_neg h6]]
      by_cases h7 : sw = 7
      · rw [show ∀ (a b : St → Option (Bool × St)), br (sw = 7) a b S = a S from fun a b => by simp only [br, if_pos h7]]
        exact go bi (H_day S (xs (i + 1)) hI)
      rw [show ∀ (a b : St → Option (Bool × St)), br (sw = 7) a b S = b S from fun a b => by simp only [br, if_neg h7]]
      by_cases h8 : sw = 8
      · rw [show ∀ (a b : St → Option (Bool × St)), br (sw = 8) a b S = a S from fun a b => by simp only [br, if_pos h8]]
        exact go (fun v => v) (H_lists S (xs (i + 1)) (xs (i + 2)) (xs (i + 3)) hI)
      rw [show ∀ (a b : St → Option (Bool × St)), br (sw = 8) a b S = b S from fun a b => by simp only [br, if_neg h8]]
      by_cases h9 : sw = 9
      · rw [show ∀ (a b : St → Option (Bool × St)), br (sw = 9) a b S = a S from fun a b => by simp only [br, if_pos h9]]
        exact go (fun v => v) (H_hand S (xs (i + 1)) (xs (i + 2)) (xs (i + 3)) hI)
      rw [show ∀ (a b : St → Option (Bool × St)), br (sw = 9) a b S = b S from fun a b => by simp only [br, if_neg h9]]
      by_cases h10 : sw = 10
      · rw [show ∀ (a b : St → Option (Bool × St)), br (sw = 10) a b S = a S from fun a b => by simp only [br, if_pos h10]]
        exact go bi (H_habit S (xs (i + 1)) (xs (i + 2)) (xs (i + 3)) hI)
      rw [show ∀ (a b : St → Option (Bool × St)), br (sw = 10) a b S = b S from fun a b => by simp only [br, if_neg h10]]
      by_cases h11 : sw = 11
      · rw [show ∀ (a b : St → Option (Bool × St)), br (sw = 11) a b S = a S from fun a b => by simp only [br, if_pos h11]]
        by_cases hz : xs (i + 3) = 0
        · have hb : ∀ a b : St → Option (Bool × St), br (xs (i + 3) = 0) a b = a := fun a b => funext fun S => by simp only [br, if_pos hz]
          simp only [hb]
          exact go bi (H_hay S (xs (i + 1)) (xs (i + 2)) 0 (Or.inl rfl) hI)
        · have hb : ∀ a b : St → Option (Bool × St), br (xs (i + 3) = 0) a b = b := fun a b => funext fun S => by simp only [br, if_neg hz]
          simp only [hb]
          exact go bi (H_hay S (xs (i + 1)) (xs (i + 2)) 1 (Or.inr rfl) hI)
      rw [show ∀ (a b : St → Option (Bool × St)), br (sw = 11) a b S = b S from fun a b => by simp only [br, if_neg h11]]
      by_cases h12 : sw = 12
      · rw [show ∀ (a b : St → Option (Bool × St)), br (sw = 12) a b S = a S from fun a b => by simp only [br, if_pos h12]]
        exact go (fun v => v) (H_advance S (xs (i + 1)) (xs (i + 2)) hI)
      rw [show ∀ (a b : St → Option (Bool × St)), br (sw = 12) a b S = b S from fun a b => by simp only [br, if_neg h12]]
      by_cases h13 : sw = 13
      · rw [show ∀ (a b : St → Option (Bool × St)), br (sw = 13) a b S = a S from fun a b => by simp only [br, if_pos h13]]
        exact go (fun v => v) (H_tell S (xs (i + 1)) (xs (i + 2)) hI)
      rw [show ∀ (a b : St → Option (Bool × St)), br (sw = 13) a b S = b S from fun a b => by simp only [br, if_neg h13]]
      by_cases h14 : sw = 14
      · rw [show ∀ (a b : St → Option (Bool × St)), br (sw = 14) a b S = a S from fun a b => by simp only [br, if_pos h14]]
        exact go (fun v => v) (H_term S (xs (i + 1)) (xs (i + 2)) (xs (i + 3)) (xs (i + 4)) (xs (i + 5)) (xs (i + 6)) hI)
      rw [show ∀ (a b : St → Option (Bool × St)), br (sw = 14) a b S = b S from fun a b => by simp only [br, if_neg h14]]
      by_cases h15 : sw = 15
      · rw [show ∀ (a b : St → Option (Bool × St)), br (sw = 15) a b S = a S from fun a b => by simp only [br, if_pos h15]]
        exact go (fun v => v) (H_out S (xs (i + 1)) (xs (i + 2)) (xs (i + 3)) hI)
      rw [show ∀ (a b : St → Option (Bool × St)), br (sw = 15) a b S = b S from fun a b => by simp only [br, if_neg h15]]
      by_cases h16 : sw = 16
      · rw [show ∀ (a b : St → Option (Bool × St)), br (sw = 16) a b S = a S from fun a b => by simp only [br, if_pos h16]]
        exact go (fun v => v) (H_in S (xs (i + 1)) (xs (i + 2)) (xs (i + 3)) hI)
      rw [show ∀ (a b : St → Option (Bool × St)), br (sw = 16) a b S = b S from fun a b => by simp only [br, if_neg h16]]
      by_cases h17 : sw = 17
      · rw [show ∀ (a b : St → Option (Bool × St)), br (sw = 17) a b S = a S from fun a b => by simp only [br, if_pos h17]]
        exact go (fun v => v) (H_piece S (xs (i + 1)) (xs (i + 2)) hI)
      rw [show ∀ (a b : St → Option (Bool × St)), br (sw = 17) a b S = b S from fun a b => by simp only [br, if_neg h17]]
      by_cases h18 : sw = 18
      · rw [show ∀ (a b : St → Option (Bool × St)), br (sw = 18) a b S = a S from fun a b => by simp only [br, if_pos h18]]
        exact go (fun v => v) (H_bill S (xs (i + 1)) (xs (i + 2)) (xs (i + 3)) hI)
      rw [show ∀ (a b : St → Option (Bool × St)), br (sw = 18) a b S = b S from fun a b => by simp only [br, if_neg h18]]
      by_cases h19 : sw = 19
      · rw [show ∀ (a b : St → Option (Bool × St)), br (sw = 19) a b S = a S from fun a b => by simp only [br, if_pos h19]]
        exact go (fun v => v) (H_wronged S (xs (i + 1)) (xs (i + 2)) hI)
      rw [show ∀ (a b : St → Option (Bool × St)), br (sw = 19) a b S = b S from fun a b => by simp only [br, if_neg h19]]
      by_cases h20 : sw = 20
      · rw [show ∀ (a b : St → Option (Bool × St)), br (sw = 20) a b S = a S from fun a b => by simp only [br, if_pos h20]]
        exact go (fun v => v) (H_carried S (xs (i + 1)) hI)
      rw [show ∀ (a b : St → Option (Bool × St)), br (sw = 20) a b S = b S from fun a b => by simp only [br, if_neg h20]]
      by_cases h21 : sw = 21
      · rw [show ∀ (a b : St → Option (Bool × St)), br (sw = 21) a b S = a S from fun a b => by simp only [br, if_pos h21]]
        exact go bi (H_write S (xs (i + 1)) (xs (i + 2)) (xs (i + 3)) (xs (i + 4)) hI)
      rw [show ∀ (a b : St → Option (Bool × St)), br (sw = 21) a b S = b S from fun a b => by simp only [br, if_neg h21]]
      by_cases h22 : sw = 22
      · rw [show ∀ (a b : St → Option (Bool × St)), br (sw = 22) a b S = a S from fun a b => by simp only [br, if_pos h22]]
        exact go (fun v => v) (H_differ S (xs (i + 1)) hI)
      rw [show ∀ (a b : St → Option (Bool × St)), br (sw = 22) a b S = b S from fun a b => by simp only [br, if_neg h22]]
      by_cases h23 : sw = 23
      · rw [show ∀ (a b : St → Option (Bool × St)), br (sw = 23) a b S = a S from fun a b => by simp only [br, if_pos h23]]
        exact go (fun v => v) (H_part S (xs (i + 1)) (xs (i + 2)) (xs (i + 3)) (xs (i + 4)) hI)
      rw [show ∀ (a b : St → Option (Bool × St)), br (sw = 23) a b S = b S from fun a b => by simp only [br, if_neg h23]]
      by_cases h24 : sw = 24
      · rw [show ∀ (a b : St → Option (Bool × St)), br (sw = 24) a b S = a S from fun a b => by simp only [br, if_pos h24]]
        exact go (fun v => v) (H_parted S (xs (i + 1)) (xs (i + 2)) (xs (i + 3)) (xs (i + 4)) hI)
      rw [show ∀ (a b : St → Option (Bool × St)), br (sw = 24) a b S = b S from fun a b => by simp only [br, if_neg h24]]
      by_cases h25 : sw = 25
      · rw [show ∀ (a b : St → Option (Bool × St)), br (sw = 25) a b S = a S from fun a b => by simp only [br, if_pos h25]]
        exact go bi (H_look S (xs (i + 1)) (xs (i + 2)) (xs (i + 3)) (xs (i + 4)) hI)
      rw [show ∀ (a b : St → Option (Bool × St)), br (sw = 25) a b S = b S from fun a b => by simp only [br, if_neg h25]]
      by_cases h26 : sw = 26
      · rw [show ∀ (a b : St → Option (Bool × St)), br (sw = 26) a b S = a S from fun a b => by simp only [br, if_pos h26]]
        exact go (fun v => v) (H_unlike S (xs (i + 1)) (xs (i + 2)) hI)
      rw [show ∀ (a b : St → Option (Bool × St)), br (sw = 26) a b S = b S from fun a b => by simp only [br, if_neg h26]]
      by_cases h27 : sw = 27
      · rw [show ∀ (a b : St → Option (Bool × St)), br (sw = 27) a b S = a S from fun a b => by simp only [br, if_pos h27]]
        exact go (fun v => v) (H_who S (xs (i + 1)) (xs (i + 2)) hI)
      rw [show ∀ (a b : St → Option (Bool × St)), br (sw = 27) a b S = b S from fun a b => by simp only [br, if_neg h27]]
      by_cases h28 : sw = 28
      · rw [show ∀ (a b : St → Option (Bool × St)), br (sw = 28) a b S = a S from fun a b => by simp only [br, if_pos h28]]
        exact go (fun v => v) (H_stolen S (xs (i + 1)) (xs (i + 2)) (xs (i + 3)) hI)
      rw [show ∀ (a b : St → Option (Bool × St)), br (sw = 28) a b S = b S from fun a b => by simp only [br, if_neg h28]]
      by_cases h29 : sw = 29
      · rw [show ∀ (a b : St → Option (Bool × St)), br (sw = 29) a b S = a S from fun a b => by simp only [br, if_pos h29]]
        exact go bi (H_time S (xs (i + 1)) (xs (i + 2)) hI)
      rw [show ∀ (a b : St → Option (Bool × St)), br (sw = 29) a b S = b S from fun a b => by simp only [br, if_neg h29]]
      by_cases h30 : sw = 30
      · rw [show ∀ (a b : St → Option (Bool × St)), br (sw = 30) a b S = a S from fun a b => by simp only [br, if_pos h30]]
        exact go (fun v => v) (H_even S (xs (i + 1)) (xs (i + 2)) (xs (i + 3)) hI)
      rw [show ∀ (a b : St → Option (Bool × St)), br (sw = 30) a b S = b S from fun a b => by simp only [br, if_neg h30]]
      by_cases h31 : sw = 31
      · rw [show ∀ (a b : St → Option (Bool × St)), br (sw = 31) a b S = a S from fun a b => by simp only [br, if_pos h31]]
        exact go (fun v => v) (H_count S (xs (i + 1)) hI)
      rw [show ∀ (a b : St → Option (Bool × St)), br (sw = 31) a b S = b S from fun a b => by simp only [br, if_neg h31]]
      by_cases h32 : sw = 32
      · rw [show ∀ (a b : St → Option (Bool × St)), br (sw = 32) a b S = a S from fun a b => by simp only [br, if_pos h32]]
        exact go bi (H_image S (xs (i + 1)) hI)
      rw [show ∀ (a b : St → Option (Bool × St)), br (sw = 32) a b S = b S from fun a b => by simp only [br, if_neg h32]]
      by_cases h33 : sw = 33
      · rw [show ∀ (a b : St → Option (Bool × St)), br (sw = 33) a b S = a S from fun a b => by simp only [br, if_pos h33]]
        exact go bi (H_again S (xs (i + 1)) hI)
      rw [show ∀ (a b : St → Option (Bool × St)), br (sw = 33) a b S = b S from fun a b => by simp only [br, if_neg h33]]
      exact e7 S hI (by omega) (by omega)
