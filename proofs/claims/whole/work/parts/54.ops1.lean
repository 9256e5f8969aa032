-- numbers
def wi (x lo hi : Int32) : Bool := decide (¬ x < lo ∧ ¬ hi < x)
theorem within_eq (x lo hi : Int32) (S : St) : fX11_within x lo hi S = some (wi x lo hi, S) := by
  unfold fX11_within wi
  simp only [br_S, rtZ_0, rtZ_1]
  by_cases h1 : x < lo <;> by_cases h2 : hi < x <;> simp [h1, h2]
theorem isIn_eq (x lo hi : Int32) (S : St) : fX12_isIn x lo hi S = some (wi x lo hi, S) := within_eq x lo hi S
section CLW
variable {Rt : Type} {S : St}
theorem br_b {b : Bool} {k1 k2 : St → Option (Rt × St)} : br (bi b = 0) k1 k2 S = if b = true then k2 S else k1 S := by cases b <;> rfl
theorem cl_within {x lo hi : Int32} {k : Bool → St → Option (Rt × St)} : cl (fX11_within x lo hi) k S = k (wi x lo hi) S := cl_S (within_eq x lo hi S)
theorem cl_isIn {x lo hi : Int32} {k : Bool → St → Option (Rt × St)} : cl (fX12_isIn x lo hi) k S = k (wi x lo hi) S := cl_S (isIn_eq x lo hi S)
theorem cl_isStitch {x : Int32} {k : Bool → St → Option (Rt × St)} : cl (fX11_isStitch x) k S = k (wi x 0 5) S := cl_S (by unfold fX11_isStitch; rw [cl_within, rtZ_b])
theorem cl_isColour {x : Int32} {k : Bool → St → Option (Rt × St)} : cl (fX11_isColour x) k S = k (wi x 0 3) S := cl_S (by unfold fX11_isColour; rw [cl_within, rtZ_b])
theorem cl_isDealer {x : Int32} {k : Bool → St → Option (Rt × St)} : cl (fX11_isDealer x) k S = k (wi x 0 2) S := cl_S (by unfold fX11_isDealer; rw [cl_within, rtZ_b])
theorem cl_weekOf {x : Int32} {k : Int32 → St → Option (Rt × St)} : cl (fX11_weekOf x) k S = k (x / 7) S := cl_S (by unfold fX11_weekOf; rw [dv_S, if_neg (by decide), rt_S])
theorem aI_at {kd a n : Nat} {i : Int32} {k : Int32 → St → Option (Rt × St)} (hk : sK S a = kd) (hi : i = Int32.ofNat n) (hn : n < 2 ^ 31) (hl : n < sL S a) : aI kd a i k S = k (sI S a n) S := by
  subst hi
  rw [aI_S, ofNat_clamp hn, if_pos ⟨hk, ofNat_nonneg hn, hl⟩]
theorem aJ_at {a n : Nat} {i : Int32} {k : Int64 → St → Option (Rt × St)} (hk : sK S a = 16) (hi : i = Int32.ofNat n) (hn : n < 2 ^ 31) (hl : n < sL S a) : aJ a i k S = k (sJ S a n) S := by
  subst hi
  rw [aJ_S, ofNat_clamp hn, if_pos ⟨hk, ofNat_nonneg hn, hl⟩]
theorem aR_at {kd a n : Nat} {i : Int32} {k : Option Nat → St → Option (Rt × St)} (hk : sK S a = kd) (hi : i = Int32.ofNat n) (hn : n < 2 ^ 31) (hl : n < sL S a) : aR kd a i k S = k (sR S a n) S := by
  subst hi
  rw [aR_S, ofNat_clamp hn, if_pos ⟨hk, ofNat_nonneg hn, hl⟩]
theorem wI_at {a n : Nat} {i v : Int32} {k : St → Option (Rt × St)} (hk : sK S a = 15) (hi : i = Int32.ofNat n) (hn : n < 2 ^ 31) (hl : n < sL S a) : wI a i v k S = k (stI S a n v) := by
  subst hi
  rw [wI_S, ofNat_clamp hn, if_pos ⟨hk, ofNat_nonneg hn, hl⟩]
theorem wB_at {a n : Nat} {i v : Int32} {k : St → Option (Rt × St)} (hk : sK S a = 14) (hi : i = Int32.ofNat n) (hn : n < 2 ^ 31) (hl : n < sL S a) : wB a i v k S = k (stI S a n v.toInt8.toInt32) := by
  subst hi
  rw [wB_S, ofNat_clamp hn, if_pos ⟨hk, ofNat_nonneg hn, hl⟩]
theorem wJ_at {a n : Nat} {i : Int32} {v : Int64} {k : St → Option (Rt × St)} (hk : sK S a = 16) (hi : i = Int32.ofNat n) (hn : n < 2 ^ 31) (hl : n < sL S a) : wJ a i v k S = k (stJ S a n v) := by
  subst hi
  rw [wJ_S, ofNat_clamp hn, if_pos ⟨hk, ofNat_nonneg hn, hl⟩]
theorem gI_at {kd a j : Nat} {k : Int32 → St → Option (Rt × St)} (hk : sK S a = kd) : gI kd a j k S = k (sI S a j) S := by rw [gI_S, if_pos hk]
theorem gR_at {kd a j t : Nat} {k : Option Nat → St → Option (Rt × St)} (hk : sK S a = kd) (hr : sR S a j = some t) : gR kd a j k S = k (some t) S := by rw [gR_S, if_pos hk, hr]
theorem pI_at {kd a j : Nat} {v : Int32} {k : St → Option (Rt × St)} (hk : sK S a = kd) : pI kd a j v k S = k (stI S a j v) := by rw [pI_S, if_pos hk]
theorem ck_at {kd a : Nat} {k : St → Option (Rt × St)} (hk : sK S a = kd) : ck kd a k S = k S := by rw [ck_S, if_pos hk]
end CLW
theorem bi_true : bi true = 1 := rfl
theorem bi_false : bi false = 0 := rfl
theorem toInt_ofNat {n : Nat} (h : n < 2 ^ 31) : (Int32.ofNat n).toInt = (n : Int) := Int32.toInt_ofNat_of_lt h
theorem nat_ofNat {n : Nat} (h : n < 2 ^ 31) : nat (Int32.ofNat n) = n := ofNat_clamp h
theorem ofNat_nat {x : Int32} (h : 0 ≤ x) : Int32.ofNat (nat x) = x := by
  apply Int32.toInt_inj.mp
  have h0 := clamp_nonneg h
  have h1 : x.toInt < 2 ^ 31 := Int32.toInt_lt x
  have h2 : nat x = x.toNatClampNeg := rfl
  rw [toInt_ofNat (by omega), h0, h2]
theorem wi_nat {x : Int32} {m : Nat} (hm : m < 2 ^ 31) (h : wi x 0 (Int32.ofNat m) = true) : ∃ n, n ≤ m ∧ x = Int32.ofNat n := by
  have h' := of_decide_eq_true h
  have h0 : 0 ≤ x := Int32.not_lt.mp h'.1
  refine ⟨nat x, nat_le (Int32.not_lt.mp h'.2) hm, (ofNat_nat h0).symm⟩
theorem wi_ofNat {n lo hi : Nat} (h1 : n < 2 ^ 31) (h2 : lo < 2 ^ 31) (h3 : hi < 2 ^ 31) : wi (Int32.ofNat n) (Int32.ofNat lo) (Int32.ofNat hi) = decide (lo ≤ n ∧ n ≤ hi) := by
  unfold wi
  congr 1
  rw [Int32.lt_iff_toInt_lt, Int32.lt_iff_toInt_lt, toInt_ofNat h1, toInt_ofNat h2, toInt_ofNat h3]
  apply propext
  omega
-- the class's scratch, the reference's
def XC (a : Nat) : Prop := 10 ≤ a ∧ a < 32
def XM (a : Nat) : Prop := a = 32 ∨ (35 ≤ a ∧ a < 46)
def XN (a : Nat) : Prop := 32 ≤ a ∧ a < 46
theorem INV_K0 {S : St} (h : INV S) : sK S 0 = 12 := by obtain ⟨_, _, h, -⟩ := h; exact SH_K0 h
/-- a call that changes nothing but what is scratch -/
theorem stq_read {Ru : Type} {f g : St → Option (Ru × St)} {S S1 S2 : St} {r : Ru} (hI : INV S) (hf : f S = some (r, S1)) (hF : FR XC S S1) (hg : g S1 = some (r, S2)) (hG : FR XM S1 S2) : Stq INV f g S := by
  obtain ⟨al, im, h1, h2, h3, h4, h5, h6⟩ := hI
  have hSH1 := FR_SH hF h1
  have hCS1 := FR_CS hF h2
  have hRC1 := RC_fr h3 h2 h5 h6 hF (fun a ha => ⟨ha.1, by have := ha.2; omega⟩)
  have hRM1 := RM_fr h4 hF (by unfold XC; omega) (by unfold XC; omega)
  refine ⟨r, S1, S2, hf, SH_K32 hSH1, hg, ⟨al, im, FR_SH hG hSH1, FR_CS hG hCS1, RC_fr hRC1 hCS1 h5 h6 hG (fun a ha => by unfold XM at ha; omega), RM_fr hRM1 hG (by unfold XM; omega) (by unfold XM; omega), h5, h6⟩, ?_, ?_⟩
  · rw [hG.2.2.2.1, hF.2.2.2.1]; omega
  · rw [hG.2.2.2.2.1, hF.2.2.2.2.1]; omega
/-- a call that changes what is told: the class first, then the reference -/
theorem stq_write {Ru : Type} {f g : St → Option (Ru × St)} {S S1 S2 : St} {r : Ru} {al al' : Nat → Int32} {im im' : Nat → Option (Nat → Int32)} (hf : f S = some (r, S1)) (hSH : SH S1) (hCS : CS S1) (hRC : RC al' im' S1) (hn : sn S1 ≤ sn S + 300) (hm : sm S1 ≤ sm S + 3000) (hg : g S1 = some (r, S2)) (hG : FR XN S1 S2) (hRM : RM al' im' S2) (hOK : OK al') (hOKi : ∀ k al0, k < 3 → im' k = some al0 → OK al0) : Stq INV f g S := by
  refine ⟨r, S1, S2, hf, SH_K32 hSH, hg, ⟨al', im', FR_SH hG hSH, FR_CS hG hCS, RC_fr hRC hCS hOK hOKi hG (fun a ha => by unfold XN at ha; omega), hRM, hOK, hOKi⟩, ?_, ?_⟩
  · rw [hG.2.2.2.1]; exact hn
  · rw [hG.2.2.2.2.1]; exact hm
theorem va_up_eq {f : Nat → Int32} {i : Nat} {v : Int32} : va_up f i v i = v := by simp [va_up]
theorem va_up_n {f : Nat → Int32} {i k : Nat} {v : Int32} (h : k ≠ i) : va_up f i v k = f k := by simp [va_up, h]
/-- one number of the reference's changes -/
theorem RM_up {al : Nat → Int32} {im : Nat → Option (Nat → Int32)} {S : St} (h : RM al im S) {i : Nat} (hi : i < 7440) (v : Int32) : RM (va_up al i v) im (stI S 33 i v) := by
  refine ⟨fun j hj => ?_, fun k hk => ?_⟩
  · rw [sI_stI]
    by_cases e : j = i
    · subst e; rw [if_pos ⟨rfl, rfl⟩, va_up_eq]
    · rw [if_neg (fun q => e q.2), va_up_n e]; exact h.1 j hj
  · rcases h.2 k hk with ⟨a, b⟩ | ⟨al', a, b, c⟩
    · exact Or.inl ⟨a, by rw [sI_stI, if_neg (fun q => by cases q.1)]; exact b⟩
    · refine Or.inr ⟨al', a, by rw [sI_stI, if_neg (fun q => by cases q.1)]; exact b, fun j hj => ?_⟩
      rw [sI_stI, if_neg (by rintro ⟨-, q⟩; omega)]
      exact c j hj
-- fault
theorem x_fault {S : St} (h : SH S) (x : Int32) : fX11_fault 0 x S = some (if x = 0 then sI S 1 2 else if x = 1 then sI S 1 3 else -1, S) := by
  unfold fX11_fault
  by_cases h0 : x = 0
  · simp [gI_S, gR_S, pI_S, pZ_S, pR_S, aI_S, aJ_S, aR_S, wI_S, wB_S, wZ_S, wJ_S, aL_S, ck_S, br_S, dv_S, dvJ_S, nn_S, on_S, on_N, rt_S, rtZ_0, rtZ_1, rtZ_b, cl_rt, SH_K0 h, SH_R0_0 h, SH_R0_1 h, SH_R0_2 h, SH_R0_3 h, SH_R0_4 h, SH_R0_5 h, SH_R0_6 h, SH_R0_7 h, SH_K1 h, SH_R1_0 h, SH_R1_5 h, SH_R1_7 h, SH_R1_9 h, SH_R1_11 h, SH_R1_13 h, SH_R1_14 h, h0]
  · by_cases h1 : x = 1
    · simp [gI_S, gR_S, pI_S, pZ_S, pR_S, aI_S, aJ_S, aR_S, wI_S, wB_S, wZ_S, wJ_S, aL_S, ck_S, br_S, dv_S, dvJ_S, nn_S, on_S, on_N, rt_S, rtZ_0, rtZ_1, rtZ_b, cl_rt, SH_K0 h, SH_R0_0 h, SH_R0_1 h, SH_R0_2 h, SH_R0_3 h, SH_R0_4 h, SH_R0_5 h, SH_R0_6 h, SH_R0_7 h, SH_K1 h, SH_R1_0 h, SH_R1_5 h, SH_R1_7 h, SH_R1_9 h, SH_R1_11 h, SH_R1_13 h, SH_R1_14 h, h1]
    · simp [gI_S, gR_S, pI_S, pZ_S, pR_S, aI_S, aJ_S, aR_S, wI_S, wB_S, wZ_S, wJ_S, aL_S, ck_S, br_S, dv_S, dvJ_S, nn_S, on_S, on_N, rt_S, rtZ_0, rtZ_1, rtZ_b, cl_rt, SH_K0 h, SH_R0_0 h, SH_R0_1 h, SH_R0_2 h, SH_R0_3 h, SH_R0_4 h, SH_R0_5 h, SH_R0_6 h, SH_R0_7 h, SH_K1 h, SH_R1_0 h, SH_R1_5 h, SH_R1_7 h, SH_R1_9 h, SH_R1_11 h, SH_R1_13 h, SH_R1_14 h, h0, h1]
theorem m_fault {S : St} (h : SH S) (x : Int32) : fX12_fault 32 x S = some (if x = 0 then sI S 33 6 else if x = 1 then sI S 33 7 else -1, S) := by
  unfold fX12_fault
  have e6 : (6 : Int32).toNatClampNeg = 6 := rfl
  have e7 : (7 : Int32).toNatClampNeg = 7 := rfl
  by_cases h0 : x = 0
  · simp [gI_S, gR_S, pI_S, pZ_S, pR_S, aI_S, aJ_S, aR_S, wI_S, wB_S, wZ_S, wJ_S, aL_S, ck_S, br_S, dv_S, dvJ_S, nn_S, on_S, on_N, rt_S, rtZ_0, rtZ_1, rtZ_b, cl_rt, SH_K32 h, SH_R32_0 h, SH_R32_1 h, SH_R32_10 h, SH_R32_11 h, SH_R32_12 h, SH_R32_13 h, SH_R32_16 h, SH_R32_17 h, SH_R32_31 h, SH_R32_32 h, SH_R32_35 h, SH_R32_36 h, SH_R32_37 h, SH_K33 h, SH_L33 h, h0, e6]
  · by_cases h1 : x = 1
    · simp [gI_S, gR_S, pI_S, pZ_S, pR_S, aI_S, aJ_S, aR_S, wI_S, wB_S, wZ_S, wJ_S, aL_S, ck_S, br_S, dv_S, dvJ_S, nn_S, on_S, on_N, rt_S, rtZ_0, rtZ_1, rtZ_b, cl_rt, SH_K32 h, SH_R32_0 h, SH_R32_1 h, SH_R32_10 h, SH_R32_11 h, SH_R32_12 h, SH_R32_13 h, SH_R32_16 h, SH_R32_17 h, SH_R32_31 h, SH_R32_32 h, SH_R32_35 h, SH_R32_36 h, SH_R32_37 h, SH_K33 h, SH_L33 h, h1, e7]
    · simp [gI_S, gR_S, pI_S, pZ_S, pR_S, aI_S, aJ_S, aR_S, wI_S, wB_S, wZ_S, wJ_S, aL_S, ck_S, br_S, dv_S, dvJ_S, nn_S, on_S, on_N, rt_S, rtZ_0, rtZ_1, rtZ_b, cl_rt, SH_K32 h, SH_R32_0 h, SH_R32_1 h, SH_R32_10 h, SH_R32_11 h, SH_R32_12 h, SH_R32_13 h, SH_R32_16 h, SH_R32_17 h, SH_R32_31 h, SH_R32_32 h, SH_R32_35 h, SH_R32_36 h, SH_R32_37 h, SH_K33 h, SH_L33 h, h0, h1]
theorem H_fault (S : St) (x1 : Int32) (hI : INV S) : Stq INV (fX11_fault 0 x1) (fX12_fault 32 x1) S := by
  obtain ⟨al, im, h1, h2, h3, h4, h5, h6⟩ := id hI
  refine stq_read hI (x_fault h1 x1) FR.rfl ?_ FR.rfl
  rw [m_fault h1, h3.1.1.2.1, h3.1.1.2.2.1, h4.1 6 (by decide), h4.1 7 (by decide)]
