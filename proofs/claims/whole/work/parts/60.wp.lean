/-- a function answers, and what is so then -/
def Rn {Rt : Type} (o : Option (Rt × St)) (Q : Rt → St → Prop) : Prop := ∃ r S', o = some (r, S') ∧ Q r S'
section WP
variable {Rt Ru : Type} {S : St} {Q : Rt → St → Prop}
theorem w_ck {kd a : Nat} {k : St → Option (Rt × St)} (hk : sK S a = kd) (h : Rn (k S) Q) : Rn (ck kd a k S) Q := by rw [ck_at hk]; exact h
theorem w_gI {kd a j : Nat} {k : Int32 → St → Option (Rt × St)} (hk : sK S a = kd) (h : Rn (k (sI S a j) S) Q) : Rn (gI kd a j k S) Q := by rw [gI_at hk]; exact h
theorem w_gIe {kd a j : Nat} {v : Int32} {k : Int32 → St → Option (Rt × St)} (hk : sK S a = kd) (hv : sI S a j = v) (h : Rn (k v S) Q) : Rn (gI kd a j k S) Q := by rw [gI_at hk, hv]; exact h
theorem w_gR {kd a j : Nat} {v : Option Nat} {k : Option Nat → St → Option (Rt × St)} (hk : sK S a = kd) (hv : sR S a j = v) (h : Rn (k v S) Q) : Rn (gR kd a j k S) Q := by rw [gR_S, if_pos hk, hv]; exact h
theorem w_pI {kd a j : Nat} {v : Int32} {k : St → Option (Rt × St)} (hk : sK S a = kd) (h : Rn (k (stI S a j v)) Q) : Rn (pI kd a j v k S) Q := by rw [pI_at hk]; exact h
theorem w_pZ {kd a j : Nat} {v : Int32} {k : St → Option (Rt × St)} (hk : sK S a = kd) (hv : v = 0 ∨ v = 1) (h : Rn (k (stI S a j v)) Q) : Rn (pZ kd a j v k S) Q := by rw [pZ_S, if_pos ⟨hk, hv⟩]; exact h
theorem w_pR {kd a j : Nat} {v : Option Nat} {k : St → Option (Rt × St)} (hk : sK S a = kd) (h : Rn (k (stR S a j v)) Q) : Rn (pR kd a j v k S) Q := by rw [pR_S, if_pos hk]; exact h
theorem w_nn {t : Nat} {k : Nat → St → Option (Rt × St)} (h : Rn (k t S) Q) : Rn (nn (some t) k S) Q := h
theorem w_onS {t : Nat} {k1 : St → Option (Rt × St)} {k : Nat → St → Option (Rt × St)} (h : Rn (k t S) Q) : Rn (on (some t) k1 k S) Q := h
theorem w_onN {k1 : St → Option (Rt × St)} {k : Nat → St → Option (Rt × St)} (h : Rn (k1 S) Q) : Rn (on none k1 k S) Q := h
theorem w_aI {kd a n m : Nat} {i : Int32} {k : Int32 → St → Option (Rt × St)} (hk : sK S a = kd) (hi : i = Int32.ofNat n) (hl : sL S a = m) (hn : n < m ∧ n < 2147483648) (h : Rn (k (sI S a n) S) Q) : Rn (aI kd a i k S) Q := by rw [aI_at hk hi hn.2 (by rw [hl]; exact hn.1)]; exact h
theorem w_aIe {kd a n m : Nat} {i v : Int32} {k : Int32 → St → Option (Rt × St)} (hk : sK S a = kd) (hi : i = Int32.ofNat n) (hl : sL S a = m) (hn : n < m ∧ n < 2147483648) (hv : sI S a n = v) (h : Rn (k v S) Q) : Rn (aI kd a i k S) Q := by rw [aI_at hk hi hn.2 (by rw [hl]; exact hn.1), hv]; exact h
theorem w_aJ {a n m : Nat} {i : Int32} {k : Int64 → St → Option (Rt × St)} (hk : sK S a = 16) (hi : i = Int32.ofNat n) (hl : sL S a = m) (hn : n < m ∧ n < 2147483648) (h : Rn (k (sJ S a n) S) Q) : Rn (aJ a i k S) Q := by rw [aJ_at hk hi hn.2 (by rw [hl]; exact hn.1)]; exact h
theorem w_aR {kd a n m : Nat} {i : Int32} {v : Option Nat} {k : Option Nat → St → Option (Rt × St)} (hk : sK S a = kd) (hi : i = Int32.ofNat n) (hl : sL S a = m) (hn : n < m ∧ n < 2147483648) (hv : sR S a n = v) (h : Rn (k v S) Q) : Rn (aR kd a i k S) Q := by rw [aR_at hk hi hn.2 (by rw [hl]; exact hn.1), hv]; exact h
theorem w_wI {a n m : Nat} {i v : Int32} {k : St → Option (Rt × St)} (hk : sK S a = 15) (hi : i = Int32.ofNat n) (hl : sL S a = m) (hn : n < m ∧ n < 2147483648) (h : Rn (k (stI S a n v)) Q) : Rn (wI a i v k S) Q := by rw [wI_at hk hi hn.2 (by rw [hl]; exact hn.1)]; exact h
theorem w_wB {a n m : Nat} {i v : Int32} {k : St → Option (Rt × St)} (hk : sK S a = 14) (hi : i = Int32.ofNat n) (hl : sL S a = m) (hn : n < m ∧ n < 2147483648) (h : Rn (k (stI S a n v.toInt8.toInt32)) Q) : Rn (wB a i v k S) Q := by rw [wB_at hk hi hn.2 (by rw [hl]; exact hn.1)]; exact h
theorem w_wJ {a n m : Nat} {i : Int32} {v : Int64} {k : St → Option (Rt × St)} (hk : sK S a = 16) (hi : i = Int32.ofNat n) (hl : sL S a = m) (hn : n < m ∧ n < 2147483648) (h : Rn (k (stJ S a n v)) Q) : Rn (wJ a i v k S) Q := by rw [wJ_at hk hi hn.2 (by rw [hl]; exact hn.1)]; exact h
theorem w_aL {kd a m : Nat} {k : Int32 → St → Option (Rt × St)} (hk : sK S a = kd) (hl : sL S a = m) (h : Rn (k (Int32.ofNat m) S) Q) : Rn (aL kd a k S) Q := by rw [aL_S, if_pos hk, hl]; exact h
theorem w_dv {y : Int32} {k : St → Option (Rt × St)} (hy : y ≠ 0) (h : Rn (k S) Q) : Rn (dv y k S) Q := by rw [dv_S, if_neg hy]; exact h
theorem w_dvJ {y : Int64} {k : St → Option (Rt × St)} (hy : y ≠ 0) (h : Rn (k S) Q) : Rn (dvJ y k S) Q := by rw [dvJ_S, if_neg hy]; exact h
theorem w_rt {r : Rt} (h : Q r S) : Rn (rt r S) Q := ⟨r, S, rfl, h⟩
theorem w_br {c : Prop} [Decidable c] {k1 k2 : St → Option (Rt × St)} (h1 : c → Rn (k1 S) Q) (h2 : ¬ c → Rn (k2 S) Q) : Rn (br c k1 k2 S) Q := by
  rw [br_S]
  by_cases h : c
  · rw [if_pos h]; exact h1 h
  · rw [if_neg h]; exact h2 h
theorem w_bt {c : Prop} [Decidable c] {k1 k2 : St → Option (Rt × St)} (hc : c) (h : Rn (k1 S) Q) : Rn (br c k1 k2 S) Q := by rw [br_S, if_pos hc]; exact h
theorem w_bf {c : Prop} [Decidable c] {k1 k2 : St → Option (Rt × St)} (hc : ¬ c) (h : Rn (k2 S) Q) : Rn (br c k1 k2 S) Q := by rw [br_S, if_neg hc]; exact h
theorem w_zt {b : Bool} {k1 k2 : St → Option (Rt × St)} (hb : b = true) (h : Rn (k2 S) Q) : Rn (br (bi b = 0) k1 k2 S) Q := by rw [br_b, if_pos hb]; exact h
theorem w_zf {b : Bool} {k1 k2 : St → Option (Rt × St)} (hb : b = false) (h : Rn (k1 S) Q) : Rn (br (bi b = 0) k1 k2 S) Q := by rw [br_b, hb]; exact h
theorem w_z {b : Bool} {k1 k2 : St → Option (Rt × St)} (h1 : b = true → Rn (k2 S) Q) (h2 : b = false → Rn (k1 S) Q) : Rn (br (bi b = 0) k1 k2 S) Q := by
  cases hb : b
  · exact w_zf rfl (h2 hb)
  · exact w_zt rfl (h1 hb)
theorem w_cl {f : St → Option (Ru × St)} {k : Ru → St → Option (Rt × St)} {r : Ru} {S1 : St} (hf : f S = some (r, S1)) (h : Rn (k r S1) Q) : Rn (cl f k S) Q := by rw [cl_S hf]; exact h
theorem w_clr {f : St → Option (Ru × St)} {k : Ru → St → Option (Rt × St)} {P : Ru → St → Prop} (hf : Rn (f S) P) (h : ∀ r S1, P r S1 → Rn (k r S1) Q) : Rn (cl f k S) Q := by
  obtain ⟨r, S1, e, hp⟩ := hf
  exact w_cl e (h r S1 hp)
theorem Rn.mono {o : Option (Rt × St)} {P : Rt → St → Prop} (h : Rn o P) (hPQ : ∀ r S, P r S → Q r S) : Rn o Q := by
  obtain ⟨r, S1, e, hp⟩ := h
  exact ⟨r, S1, e, hPQ r S1 hp⟩
theorem Rn.eq {f : St → Option (Rt × St)} {r : Rt} {S1 : St} (h : Rn (f S) (fun r' S' => r' = r ∧ S' = S1)) : f S = some (r, S1) := by
  obtain ⟨r', S', e, rfl, rfl⟩ := h
  exact e
/-- a loop, by what is so at its head with so many rounds left -/
theorem w_itr {Pt : Type} {B : (Pt → St → Option (Rt × St)) → Pt → St → Option (Rt × St)} (I : Nat → Pt → St → Prop) (h0 : ∀ p S, ¬ I 0 p S) (hs : ∀ n k p S, I (n + 1) p S → (∀ p' S', I n p' S' → Rn (k p' S') Q) → Rn (B k p S) Q) : ∀ n fu p S, n ≤ fu → I n p S → Rn (itr B fu p S) Q := by
  intro n
  induction n with
  | zero => intro fu p S _ h; exact absurd h (h0 p S)
  | succ n ih =>
    intro fu p S hfu h
    obtain ⟨fu', rfl⟩ : ∃ m, fu = m + 1 := ⟨fu - 1, by omega⟩
    exact hs n (itr B fu') p S h (fun p' S' h' => ih fu' p' S' (by omega) h')
end WP
theorem w_r0 {S : St} {Q : Bool → St → Prop} (h : Q false S) : Rn (rtZ 0 S) Q := ⟨false, S, rfl, h⟩
theorem w_r1 {S : St} {Q : Bool → St → Prop} (h : Q true S) : Rn (rtZ 1 S) Q := ⟨true, S, rfl, h⟩
theorem w_rb {S : St} {Q : Bool → St → Prop} {b : Bool} (h : Q b S) : Rn (rtZ (bi b) S) Q := ⟨b, S, rtZ_b b, h⟩
theorem ix_v (n : Nat) : Int32.ofNat n = Int32.ofNat n := rfl
theorem ix_l (n : Nat) : (@OfNat.ofNat Int32 n Int32.instOfNat) = Int32.ofNat (@OfNat.ofNat Nat n (instOfNatNat n)) := rfl
theorem ix_add {x y : Int32} {n m : Nat} (hx : x = Int32.ofNat n) (hy : y = Int32.ofNat m) : x + y = Int32.ofNat (n + m) := by rw [hx, hy, ← Int32.ofNat_add]
theorem ix_mul {x y : Int32} {n m : Nat} (hx : x = Int32.ofNat n) (hy : y = Int32.ofNat m) : x * y = Int32.ofNat (n * m) := by rw [hx, hy, ← Int32.ofNat_mul]
/-- the reference's memory, from the pool S0 on -/
def MD (S0 : St) (al : Nat → Int32) (S : St) : Prop := SH S ∧ FR XN S0 S ∧ (∀ i, i < 7440 → sI S 33 i = al i) ∧ (∀ i, 7440 ≤ i → sI S 33 i = sI S0 33 i) ∧ ∀ j, sI S 34 j = sI S0 34 j
theorem MD.w33 {S0 S : St} {al : Nat → Int32} (h : MD S0 al S) {n : Nat} (hn : n < 7440) (v : Int32) : MD S0 (va_up al n v) (stI S 33 n v) := by
  obtain ⟨a, b, c, d, e⟩ := h
  refine ⟨a, b.stI v (by unfold XN; omega), fun i hi => ?_, fun i hi => ?_, fun j => ?_⟩
  · by_cases q : i = n
    · subst q; rw [st_get, va_up_eq]
    · rw [st_ne (Or.inr q), va_up_n q]; exact c i hi
  · rw [st_ne (Or.inr (by omega))]; exact d i hi
  · rw [st_ne (Or.inl (by omega))]; exact e j
theorem MD.scr {S0 S : St} {al : Nat → Int32} (h : MD S0 al S) {a j : Nat} (v : Int32) (ha : XM a) : MD S0 al (stI S a j v) := by
  obtain ⟨c1, b, c, d, e⟩ := h
  unfold XM at ha
  exact ⟨c1, b.stI v (by unfold XN; omega), fun i hi => by rw [st_ne (Or.inl (by omega))]; exact c i hi, fun i hi => by rw [st_ne (Or.inl (by omega))]; exact d i hi, fun j => by rw [st_ne (Or.inl (by omega))]; exact e j⟩
theorem MD.scrJ {S0 S : St} {al : Nat → Int32} (h : MD S0 al S) {a j : Nat} (v : Int64) : MD S0 al (stJ S a j v) := by
  obtain ⟨c1, b, c, d, e⟩ := h
  exact ⟨c1, b.stJ v, c, d, e⟩
theorem MD.k {S0 S : St} {al : Nat → Int32} (h : MD S0 al S) {a : Nat} (ha : a < 46) : sK S a = kS a := h.1.1 a ha
theorem MD.r {S0 S : St} {al : Nat → Int32} (h : MD S0 al S) : sR S 32 0 = some 33 := SH_R32_0 h.1
section MP
variable {Rt : Type} {S0 S : St} {al : Nat → Int32} {Q : Rt → St → Prop}
theorem m_aI {n : Nat} {i : Int32} {k : Int32 → St → Option (Rt × St)} (m : MD S0 al S) (hi : i = Int32.ofNat n) (hn : n < 7440) (h : Rn (k (al n) S) Q) : Rn (aI 15 33 i k S) Q := by
  refine w_aI (SH_K33 m.1) hi (SH_L33 m.1) ⟨by omega, by omega⟩ ?_
  rw [m.2.2.1 n hn]; exact h
theorem m_wI {n : Nat} {i v : Int32} {k : St → Option (Rt × St)} (m : MD S0 al S) (hi : i = Int32.ofNat n) (hn : n < 7440) (h : ∀ S', MD S0 (va_up al n v) S' → Rn (k S') Q) : Rn (wI 33 i v k S) Q :=
  w_wI (SH_K33 m.1) hi (SH_L33 m.1) ⟨by omega, by omega⟩ (h _ (m.w33 hn v))
theorem m_isOf {x y : Int32} {j : Nat} {k : Bool → St → Option (Rt × St)} (m : MD S0 al S) (hy : y = Int32.ofNat j) (hj : j < 8) (h : Rn (k (wi x 0 (al j - 1)) S) Q) : Rn (cl (fX12_isOf 32 x y) k S) Q := by
  refine w_cl (isOf_eq m.1 x y hy hj) ?_
  rw [m.2.2.1 j (by omega)]; exact h
theorem m_patternOf {x y : Int32} {n j : Nat} {k : Int32 → St → Option (Rt × St)} (m : MD S0 al S) (hx : x = Int32.ofNat n) (hy : y = Int32.ofNat j) (hn : n < 8) (hj : j < 27) (h : Rn (k (al (20 + 27 * n + j)) S) Q) : Rn (cl (fX12_patternOf 32 x y) k S) Q := by
  refine w_cl (patternOf_eq m.1 hx hy hn hj) ?_
  rw [m.2.2.1 _ (by omega)]; exact h
theorem m_handOf {x y : Int32} {n j : Nat} {k : Int32 → St → Option (Rt × St)} (m : MD S0 al S) (hx : x = Int32.ofNat n) (hy : y = Int32.ofNat j) (hn : n < 12) (hj : j < 160) (h : Rn (k (al (3440 + 160 * n + j)) S) Q) : Rn (cl (fX12_handOf 32 x y) k S) Q := by
  refine w_cl (handOf_eq m.1 hx hy hn hj) ?_
  rw [m.2.2.1 _ (by omega)]; exact h
theorem m_pieceOf {x y : Int32} {n j : Nat} {k : Int32 → St → Option (Rt × St)} (m : MD S0 al S) (hx : x = Int32.ofNat n) (hy : y = Int32.ofNat j) (hn : n < 60) (hj : j < 28) (h : Rn (k (al (5360 + 28 * n + j)) S) Q) : Rn (cl (fX12_pieceOf 32 x y) k S) Q := by
  refine w_cl (pieceOf_eq m.1 hx hy hn hj) ?_
  rw [m.2.2.1 _ (by omega)]; exact h
theorem m_week {k : Int32 → St → Option (Rt × St)} (m : MD S0 al S) (h : Rn (k (al 4 / 7) S) Q) : Rn (cl (fX12_week 32) k S) Q := by
  refine w_cl (r := al 4 / 7) (S1 := S) (Rn.eq ?_) h
  unfold fX12_week
  refine w_gR (SH_K32 m.1) m.r (w_nn (m_aI (n := 4) m rfl (by omega) (w_dv (by decide) (w_rt ⟨rfl, rfl⟩))))
end MP
/-- what the invariant gives -/
def IN (al : Nat → Int32) (im : Nat → Option (Nat → Int32)) (S : St) : Prop := SH S ∧ CS S ∧ RC al im S ∧ RM al im S ∧ OK al ∧ ∀ k al', k < 3 → im k = some al' → OK al'
theorem IN.w {al : Nat → Int32} {im : Nat → Option (Nat → Int32)} {S : St} (h : IN al im S) : WSh S 1 := WSh_1 h.1
/-- what the class leaves -/
def CQ (S : St) (al' : Nat → Int32) (im : Nat → Option (Nat → Int32)) (S1 : St) : Prop := SH S1 ∧ CS S1 ∧ RC al' im S1 ∧ sn S1 ≤ sn S + 300 ∧ sm S1 ≤ sm S + 3000 ∧ (∀ j, sI S1 33 j = sI S 33 j) ∧ ∀ j, sI S1 34 j = sI S 34 j
theorem CQ_rd {al : Nat → Int32} {im : Nat → Option (Nat → Int32)} {S S1 : St} (h : IN al im S) (hF : FR XC S S1) : CQ S al im S1 := by
  obtain ⟨h1, h2, h3, h4, h5, h6⟩ := h
  refine ⟨FR_SH hF h1, FR_CS hF h2, RC_fr h3 h2 h5 h6 hF (fun a ha => ⟨ha.1, by have := ha.2; omega⟩), by rw [hF.2.2.2.1]; omega, by rw [hF.2.2.2.2.1]; omega, fun j => hF.2.2.2.2.2 33 j (by unfold XC; omega), fun j => hF.2.2.2.2.2 34 j (by unfold XC; omega)⟩
theorem CQ_fr {al' : Nat → Int32} {im : Nat → Option (Nat → Int32)} {S S1 : St} {X : Nat → Prop} (h1 : SH S) (h2 : CS S) (hF : FR X S S1) (hX : ∀ a, X a → a ≠ 33 ∧ a ≠ 34) (hR : RC al' im S1) : CQ S al' im S1 :=
  ⟨FR_SH hF h1, FR_CS hF h2, hR, by rw [hF.2.2.2.1]; omega, by rw [hF.2.2.2.2.1]; omega, fun j => hF.2.2.2.2.2 33 j (fun q => (hX _ q).1 rfl), fun j => hF.2.2.2.2.2 34 j (fun q => (hX _ q).2 rfl)⟩
theorem CQ_H {al al' : Nat → Int32} {im : Nat → Option (Nat → Int32)} {S S' : St} {h q : Nat} (hI : IN al im S) (hh : h < nat (al 2)) (hq : sR S 5 h = some q) (hF : FR (fun b => q ≤ b ∧ b < q + 3) S S') (hal : ∀ k, ¬ (3440 + 160 * h ≤ k ∧ k < 3600 + 160 * h) → al' k = al k) (hrel : HRel al' h q S') : CQ S al' im S' := by
  obtain ⟨h1, h2, h3, h4, h5, h6⟩ := hI
  have h46 := (shH h2 (Or.inl rfl) (Nat.lt_of_lt_of_le hh (nat_le (n := 12) h5.1.2.2.1.2 (by decide))) hq).2.2.2.2.2.2.2.1
  exact CQ_fr h1 h2 hF (fun a ha => by omega) (RC_H h3 h2 h5 h6 hh hq hF hal hrel)
theorem CQ_G {al al' : Nat → Int32} {im : Nat → Option (Nat → Int32)} {S S' : St} {h q : Nat} (hI : IN al im S) (hh : h < nat (al 3)) (hq : sR S 6 h = some q) (hF : FR (fun b => q ≤ b ∧ b < q + 4) S S') (hal : ∀ k, ¬ (5360 + 28 * h ≤ k ∧ k < 5388 + 28 * h) → al' k = al k) (hrel : GRel al' h q S') : CQ S al' im S' := by
  obtain ⟨h1, h2, h3, h4, h5, h6⟩ := hI
  have h46 := (shG h2 (Or.inl rfl) (Nat.lt_of_lt_of_le hh (nat_le (n := 60) h5.1.2.2.2.1.2 (by decide))) hq).2.2.2.2.2.2.2.2.2.2.1
  exact CQ_fr h1 h2 hF (fun a ha => by omega) (RC_G h3 h2 h5 h6 hh hq hF hal hrel)
theorem CQ_low {al al' : Nat → Int32} {im : Nat → Option (Nat → Int32)} {S S' : St} (hI : IN al im S) (hF : FR (fun b => b < 10) S S') (hCW : CW al' 1 S') : CQ S al' im S' := by
  obtain ⟨h1, h2, h3, h4, h5, h6⟩ := hI
  exact CQ_fr h1 h2 hF (fun a ha => by omega) (RC_low h3 h2 h6 hF hCW)
/-- class, then reference -/
theorem stq_go {Ru : Type} {f g : St → Option (Ru × St)} {S : St} {al : Nat → Int32} {im : Nat → Option (Nat → Int32)} (al' : Nat → Int32) (r0 : Ru) (h : IN al im S) (hOK : OK al') (hf : Rn (f S) (fun r S1 => r = r0 ∧ CQ S al' im S1)) (hg : ∀ S1, MD S1 al S1 → Rn (g S1) (fun r S2 => r = r0 ∧ MD S1 al' S2)) : Stq INV f g S := by
  obtain ⟨h1, h2, h3, h4, h5, h6⟩ := h
  obtain ⟨r, S1, ef, rfl, c1, c2, c3, c4, c5, c6, c7⟩ := hf
  have hM : MD S1 al S1 := ⟨c1, FR.rfl, fun i hi => by rw [c6]; exact h4.1 i hi, fun _ _ => rfl, fun _ => rfl⟩
  obtain ⟨r', S2, eg, rfl, m1, m2, m3, m4, m5⟩ := hg S1 hM
  refine stq_write (al := al) (im := im) ef c1 c2 c3 c4 c5 eg m2 ⟨m3, fun k hk => ?_⟩ hOK h6
  rcases h4.2 k hk with ⟨a, b⟩ | ⟨al0, a, b, c⟩
  · exact Or.inl ⟨a, by rw [m5, c7]; exact b⟩
  · exact Or.inr ⟨al0, a, by rw [m5, c7]; exact b, fun i hi => by rw [m4 _ (by omega), c6]; exact c i hi⟩
theorem stq_rd {Ru : Type} {f g : St → Option (Ru × St)} {S : St} {al : Nat → Int32} {im : Nat → Option (Nat → Int32)} (r0 : Ru) (h : IN al im S) (hf : Rn (f S) (fun r S1 => r = r0 ∧ FR XC S S1)) (hg : ∀ S1, MD S1 al S1 → Rn (g S1) (fun r S2 => r = r0 ∧ MD S1 al S2)) : Stq INV f g S :=
  stq_go al r0 h h.2.2.2.2.1 (hf.mono (fun r S1 q => ⟨q.1, CQ_rd h q.2⟩)) hg

/-- what the class's own world gives -/
def CV (al : Nat → Int32) (S : St) : Prop := SH S ∧ CS S ∧ CW al 1 S ∧ OK al
theorem IN.cv {al : Nat → Int32} {im : Nat → Option (Nat → Int32)} {S : St} (h : IN al im S) : CV al S := ⟨h.1, h.2.1, h.2.2.1.1, h.2.2.2.2.1⟩
theorem CV_fr {al : Nat → Int32} {S S' : St} (h : CV al S) (hF : FR XC S S') : CV al S' := ⟨FR_SH hF h.1, FR_CS hF h.2.1, CW_fr h.2.2.1 h.2.2.2.1 h.2.1 (Or.inl rfl) hF (fun a ha => NF_static h.2.1 (Or.inl rfl) (by have := ha.2; omega) (fun _ => by have := ha.1; omega)), h.2.2.2⟩
theorem pattern_at {al : Nat → Int32} {S : St} (h : CV al S) {n : Nat} (hn : n < nat (al 0)) : ∃ q, fX10_patternAt 1 (Int32.ofNat n) S = some (some q, S) ∧ sR S 3 n = some q ∧ TSh S q ∧ PRel al n q S ∧ n < 8 := by
  obtain ⟨h1, h2, h3, h4⟩ := id h
  have hs : sI S 1 6 = al 0 := h3.1.2.2.2.2.1
  have hl : n < 8 := Nat.lt_of_lt_of_le hn (nat_le (n := 8) h4.1.1.2 (by decide))
  obtain ⟨⟨s1, s2, s3, s4, s5, s6, s7, s8⟩, t, u, v, p, l, hh, g⟩ := h3
  obtain ⟨q, hq, r⟩ := p n hn
  exact ⟨q, by rw [patternAt_ok (WSh_1 h1) hs h4.1.1 hn, hq], hq, shT h2 (Or.inl rfl) hl hq, r, hl⟩
theorem pattern_cv {al : Nat → Int32} {S : St} (h : CV al S) (x : Int32) : (wi x 0 (al 0 - 1) = false ∧ fX10_patternAt 1 x S = some (none, S)) ∨ ∃ n q, x = Int32.ofNat n ∧ n < nat (al 0) ∧ n < 8 ∧ wi (Int32.ofNat n) 0 (al 0 - 1) = true ∧ fX10_patternAt 1 (Int32.ofNat n) S = some (some q, S) ∧ sR S 3 n = some q ∧ TSh S q ∧ PRel al n q S := by
  obtain ⟨h1, h2, h3, h4⟩ := id h
  have hs : sI S 1 6 = al 0 := h3.1.2.2.2.2.1
  by_cases hx : wi x 0 (al 0 - 1) = true
  · right
    obtain ⟨n, hn, rfl⟩ := (wi_cnt h4.1.1.1).mp hx
    obtain ⟨q, a, b, c, d, e⟩ := pattern_at h hn
    exact ⟨n, q, rfl, hn, e, hx, a, b, c, d⟩
  · left
    exact ⟨by simpa using hx, patternAt_no (WSh_1 h1) hs (by simpa using hx)⟩
theorem pattern_of {al : Nat → Int32} {im : Nat → Option (Nat → Int32)} {S : St} (h : IN al im S) (x : Int32) : (wi x 0 (al 0 - 1) = false ∧ fX10_patternAt 1 x S = some (none, S)) ∨ ∃ n q, x = Int32.ofNat n ∧ n < nat (al 0) ∧ n < 8 ∧ wi (Int32.ofNat n) 0 (al 0 - 1) = true ∧ fX10_patternAt 1 (Int32.ofNat n) S = some (some q, S) ∧ sR S 3 n = some q ∧ TSh S q ∧ PRel al n q S := pattern_cv h.cv x
theorem list_at {al : Nat → Int32} {S : St} (h : CV al S) {n : Nat} (hn : n < nat (al 1)) : ∃ q, fX10_listAt 1 (Int32.ofNat n) S = some (some q, S) ∧ sR S 4 n = some q ∧ LSh S q ∧ LRel al n q S ∧ n < 10 := by
  obtain ⟨h1, h2, h3, h4⟩ := id h
  have hs : sI S 1 8 = al 1 := h3.1.2.2.2.2.2.1
  have hl : n < 10 := Nat.lt_of_lt_of_le hn (nat_le (n := 10) h4.1.2.1.2 (by decide))
  obtain ⟨⟨s1, s2, s3, s4, s5, s6, s7, s8⟩, t, u, v, p, l, hh, g⟩ := h3
  obtain ⟨q, hq, r⟩ := l n hn
  exact ⟨q, by rw [listAt_ok (WSh_1 h1) hs h4.1.2.1 hn, hq], hq, shL h2 (Or.inl rfl) hl hq, r, hl⟩
theorem list_cv {al : Nat → Int32} {S : St} (h : CV al S) (x : Int32) : (wi x 0 (al 1 - 1) = false ∧ fX10_listAt 1 x S = some (none, S)) ∨ ∃ n q, x = Int32.ofNat n ∧ n < nat (al 1) ∧ n < 10 ∧ wi (Int32.ofNat n) 0 (al 1 - 1) = true ∧ fX10_listAt 1 (Int32.ofNat n) S = some (some q, S) ∧ sR S 4 n = some q ∧ LSh S q ∧ LRel al n q S := by
  obtain ⟨h1, h2, h3, h4⟩ := id h
  have hs : sI S 1 8 = al 1 := h3.1.2.2.2.2.2.1
  by_cases hx : wi x 0 (al 1 - 1) = true
  · right
    obtain ⟨n, hn, rfl⟩ := (wi_cnt h4.1.2.1.1).mp hx
    obtain ⟨q, a, b, c, d, e⟩ := list_at h hn
    exact ⟨n, q, rfl, hn, e, hx, a, b, c, d⟩
  · left
    exact ⟨by simpa using hx, listAt_no (WSh_1 h1) hs (by simpa using hx)⟩
theorem list_of {al : Nat → Int32} {im : Nat → Option (Nat → Int32)} {S : St} (h : IN al im S) (x : Int32) : (wi x 0 (al 1 - 1) = false ∧ fX10_listAt 1 x S = some (none, S)) ∨ ∃ n q, x = Int32.ofNat n ∧ n < nat (al 1) ∧ n < 10 ∧ wi (Int32.ofNat n) 0 (al 1 - 1) = true ∧ fX10_listAt 1 (Int32.ofNat n) S = some (some q, S) ∧ sR S 4 n = some q ∧ LSh S q ∧ LRel al n q S := list_cv h.cv x
theorem hand_at {al : Nat → Int32} {S : St} (h : CV al S) {n : Nat} (hn : n < nat (al 2)) : ∃ q, fX10_handAt 1 (Int32.ofNat n) S = some (some q, S) ∧ sR S 5 n = some q ∧ HSh S q ∧ HRel al n q S ∧ n < 12 := by
  obtain ⟨h1, h2, h3, h4⟩ := id h
  have hs : sI S 1 10 = al 2 := h3.1.2.2.2.2.2.2.1
  have hl : n < 12 := Nat.lt_of_lt_of_le hn (nat_le (n := 12) h4.1.2.2.1.2 (by decide))
  obtain ⟨⟨s1, s2, s3, s4, s5, s6, s7, s8⟩, t, u, v, p, l, hh, g⟩ := h3
  obtain ⟨q, hq, r⟩ := hh n hn
  exact ⟨q, by rw [handAt_ok (WSh_1 h1) hs h4.1.2.2.1 hn, hq], hq, shH h2 (Or.inl rfl) hl hq, r, hl⟩
theorem hand_cv {al : Nat → Int32} {S : St} (h : CV al S) (x : Int32) : (wi x 0 (al 2 - 1) = false ∧ fX10_handAt 1 x S = some (none, S)) ∨ ∃ n q, x = Int32.ofNat n ∧ n < nat (al 2) ∧ n < 12 ∧ wi (Int32.ofNat n) 0 (al 2 - 1) = true ∧ fX10_handAt 1 (Int32.ofNat n) S = some (some q, S) ∧ sR S 5 n = some q ∧ HSh S q ∧ HRel al n q S := by
  obtain ⟨h1, h2, h3, h4⟩ := id h
  have hs : sI S 1 10 = al 2 := h3.1.2.2.2.2.2.2.1
  by_cases hx : wi x 0 (al 2 - 1) = true
  · right
    obtain ⟨n, hn, rfl⟩ := (wi_cnt h4.1.2.2.1.1).mp hx
    obtain ⟨q, a, b, c, d, e⟩ := hand_at h hn
    exact ⟨n, q, rfl, hn, e, hx, a, b, c, d⟩
  · left
    exact ⟨by simpa using hx, handAt_no (WSh_1 h1) hs (by simpa using hx)⟩
theorem hand_of {al : Nat → Int32} {im : Nat → Option (Nat → Int32)} {S : St} (h : IN al im S) (x : Int32) : (wi x 0 (al 2 - 1) = false ∧ fX10_handAt 1 x S = some (none, S)) ∨ ∃ n q, x = Int32.ofNat n ∧ n < nat (al 2) ∧ n < 12 ∧ wi (Int32.ofNat n) 0 (al 2 - 1) = true ∧ fX10_handAt 1 (Int32.ofNat n) S = some (some q, S) ∧ sR S 5 n = some q ∧ HSh S q ∧ HRel al n q S := hand_cv h.cv x
theorem piece_at {al : Nat → Int32} {S : St} (h : CV al S) {n : Nat} (hn : n < nat (al 3)) : ∃ q, fX10_pieceAt 1 (Int32.ofNat n) S = some (some q, S) ∧ sR S 6 n = some q ∧ GSh S q ∧ GRel al n q S ∧ n < 60 := by
  obtain ⟨h1, h2, h3, h4⟩ := id h
  have hs : sI S 1 12 = al 3 := h3.1.2.2.2.2.2.2.2
  have hl : n < 60 := Nat.lt_of_lt_of_le hn (nat_le (n := 60) h4.1.2.2.2.1.2 (by decide))
  obtain ⟨⟨s1, s2, s3, s4, s5, s6, s7, s8⟩, t, u, v, p, l, hh, g⟩ := h3
  obtain ⟨q, hq, r⟩ := g n hn
  exact ⟨q, by rw [pieceAt_ok (WSh_1 h1) hs h4.1.2.2.2.1 hn, hq], hq, shG h2 (Or.inl rfl) hl hq, r, hl⟩
theorem piece_cv {al : Nat → Int32} {S : St} (h : CV al S) (x : Int32) : (wi x 0 (al 3 - 1) = false ∧ fX10_pieceAt 1 x S = some (none, S)) ∨ ∃ n q, x = Int32.ofNat n ∧ n < nat (al 3) ∧ n < 60 ∧ wi (Int32.ofNat n) 0 (al 3 - 1) = true ∧ fX10_pieceAt 1 (Int32.ofNat n) S = some (some q, S) ∧ sR S 6 n = some q ∧ GSh S q ∧ GRel al n q S := by
  obtain ⟨h1, h2, h3, h4⟩ := id h
  have hs : sI S 1 12 = al 3 := h3.1.2.2.2.2.2.2.2
  by_cases hx : wi x 0 (al 3 - 1) = true
  · right
    obtain ⟨n, hn, rfl⟩ := (wi_cnt h4.1.2.2.2.1.1).mp hx
    obtain ⟨q, a, b, c, d, e⟩ := piece_at h hn
    exact ⟨n, q, rfl, hn, e, hx, a, b, c, d⟩
  · left
    exact ⟨by simpa using hx, pieceAt_no (WSh_1 h1) hs (by simpa using hx)⟩
theorem piece_of {al : Nat → Int32} {im : Nat → Option (Nat → Int32)} {S : St} (h : IN al im S) (x : Int32) : (wi x 0 (al 3 - 1) = false ∧ fX10_pieceAt 1 x S = some (none, S)) ∨ ∃ n q, x = Int32.ofNat n ∧ n < nat (al 3) ∧ n < 60 ∧ wi (Int32.ofNat n) 0 (al 3 - 1) = true ∧ fX10_pieceAt 1 (Int32.ofNat n) S = some (some q, S) ∧ sR S 6 n = some q ∧ GSh S q ∧ GRel al n q S := piece_cv h.cv x
