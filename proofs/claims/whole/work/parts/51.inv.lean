-- one step of a function at a pool
section EV
variable {Rt Ru : Type} {S : St}
theorem gI_S {kd a j : Nat} {k : Int32 → St → Option (Rt × St)} : gI kd a j k S = if sK S a = kd then k (sI S a j) S else none := rfl
theorem gR_S {kd a j : Nat} {k : Option Nat → St → Option (Rt × St)} : gR kd a j k S = if sK S a = kd then k (sR S a j) S else none := rfl
theorem pI_S {kd a j : Nat} {v : Int32} {k : St → Option (Rt × St)} : pI kd a j v k S = if sK S a = kd then k (stI S a j v) else none := rfl
theorem pZ_S {kd a j : Nat} {v : Int32} {k : St → Option (Rt × St)} : pZ kd a j v k S = if sK S a = kd ∧ (v = 0 ∨ v = 1) then k (stI S a j v) else none := rfl
theorem pR_S {kd a j : Nat} {v : Option Nat} {k : St → Option (Rt × St)} : pR kd a j v k S = if sK S a = kd then k (stR S a j v) else none := rfl
theorem aI_S {kd a : Nat} {i : Int32} {k : Int32 → St → Option (Rt × St)} : aI kd a i k S = if sK S a = kd ∧ 0 ≤ i ∧ i.toNatClampNeg < sL S a then k (sI S a i.toNatClampNeg) S else none := rfl
theorem aJ_S {a : Nat} {i : Int32} {k : Int64 → St → Option (Rt × St)} : aJ a i k S = if sK S a = 16 ∧ 0 ≤ i ∧ i.toNatClampNeg < sL S a then k (sJ S a i.toNatClampNeg) S else none := rfl
theorem aR_S {kd a : Nat} {i : Int32} {k : Option Nat → St → Option (Rt × St)} : aR kd a i k S = if sK S a = kd ∧ 0 ≤ i ∧ i.toNatClampNeg < sL S a then k (sR S a i.toNatClampNeg) S else none := rfl
theorem wI_S {a : Nat} {i v : Int32} {k : St → Option (Rt × St)} : wI a i v k S = if sK S a = 15 ∧ 0 ≤ i ∧ i.toNatClampNeg < sL S a then k (stI S a i.toNatClampNeg v) else none := rfl
theorem wB_S {a : Nat} {i v : Int32} {k : St → Option (Rt × St)} : wB a i v k S = if sK S a = 14 ∧ 0 ≤ i ∧ i.toNatClampNeg < sL S a then k (stI S a i.toNatClampNeg v.toInt8.toInt32) else none := rfl
theorem wZ_S {a : Nat} {i v : Int32} {k : St → Option (Rt × St)} : wZ a i v k S = if sK S a = 17 ∧ 0 ≤ i ∧ i.toNatClampNeg < sL S a then k (stI S a i.toNatClampNeg (v &&& 1)) else none := rfl
theorem wJ_S {a : Nat} {i : Int32} {v : Int64} {k : St → Option (Rt × St)} : wJ a i v k S = if sK S a = 16 ∧ 0 ≤ i ∧ i.toNatClampNeg < sL S a then k (stJ S a i.toNatClampNeg v) else none := rfl
theorem aL_S {kd a : Nat} {k : Int32 → St → Option (Rt × St)} : aL kd a k S = if sK S a = kd then k (Int32.ofNat (sL S a)) S else none := rfl
theorem nO_S {kd w : Nat} {k : Nat → St → Option (Rt × St)} : nO kd w k S = k (sn S) (stN S kd 0 w) := rfl
theorem nA_S {kd : Nat} {n : Int32} {k : Nat → St → Option (Rt × St)} : nA kd n k S = if 0 ≤ n ∧ n.toNatClampNeg ≤ 65536 then k (sn S) (stN S kd n.toNatClampNeg n.toNatClampNeg) else none := rfl
theorem ck_S {kd a : Nat} {k : St → Option (Rt × St)} : ck kd a k S = if sK S a = kd then k S else none := rfl
theorem br_S {c : Prop} [Decidable c] {k1 k2 : St → Option (Rt × St)} : br c k1 k2 S = if c then k1 S else k2 S := rfl
theorem dv_S {y : Int32} {k : St → Option (Rt × St)} : dv y k S = if y = 0 then none else k S := rfl
theorem dvJ_S {y : Int64} {k : St → Option (Rt × St)} : dvJ y k S = if y = 0 then none else k S := rfl
theorem nn_S {a : Nat} {k : Nat → St → Option (Rt × St)} : nn (some a) k S = k a S := rfl
theorem on_S {a : Nat} {k1 : St → Option (Rt × St)} {k : Nat → St → Option (Rt × St)} : on (some a) k1 k S = k a S := rfl
theorem on_N {k1 : St → Option (Rt × St)} {k : Nat → St → Option (Rt × St)} : on none k1 k S = k1 S := rfl
theorem rt_S {r : Rt} : rt r S = some (r, S) := rfl
theorem rtZ_0 : rtZ 0 S = some (false, S) := rfl
theorem rtZ_1 : rtZ 1 S = some (true, S) := rfl
theorem rtZ_b (b : Bool) : rtZ (bi b) S = some (b, S) := by cases b <;> rfl
theorem cl_S {f : St → Option (Ru × St)} {k : Ru → St → Option (Rt × St)} {r : Ru} {S1 : St} (h : f S = some (r, S1)) : cl f k S = k r S1 := by simp only [cl, h]
theorem cl_rt {r : Ru} {k : Ru → St → Option (Rt × St)} : cl (rt r) k S = k r S := rfl
end EV
theorem bi_0 (b : Bool) : (bi b = 0) = (b = false) := by cases b <;> decide
theorem itr_0 {Pt Rt : Type} (B : (Pt → St → Option (Rt × St)) → Pt → St → Option (Rt × St)) (p : Pt) (S : St) : itr B 0 p S = none := rfl
theorem itr_s {Pt Rt : Type} (B : (Pt → St → Option (Rt × St)) → Pt → St → Option (Rt × St)) (n : Nat) (p : Pt) (S : St) : itr B (n + 1) p S = B (itr B n) p S := rfl
def kS : Nat → Nat
  | 0 => 12
  | 1 => 11
  | 2 => 14
  | 3 => 19
  | 4 => 21
  | 5 => 18
  | 6 => 20
  | 7 => 15
  | 8 => 15
  | 9 => 22
  | 10 => 7
  | 11 => 9
  | 12 => 15
  | 13 => 15
  | 14 => 15
  | 15 => 4
  | 16 => 9
  | 17 => 15
  | 18 => 15
  | 19 => 15
  | 20 => 15
  | 21 => 1
  | 22 => 15
  | 23 => 5
  | 24 => 15
  | 25 => 15
  | 26 => 15
  | 27 => 2
  | 28 => 15
  | 29 => 15
  | 30 => 15
  | 31 => 15
  | 32 => 13
  | 33 => 15
  | 34 => 17
  | 35 => 16
  | 36 => 16
  | 37 => 15
  | 38 => 15
  | 39 => 15
  | 40 => 15
  | 41 => 15
  | 42 => 15
  | 43 => 15
  | 44 => 15
  | 45 => 15
  | _ => 0
def lS : Nat → Nat
  | 2 => 400
  | 3 => 8
  | 4 => 10
  | 5 => 12
  | 6 => 60
  | 7 => 6
  | 8 => 3
  | 9 => 3
  | 12 => 210
  | 13 => 7
  | 14 => 7
  | 17 => 16
  | 18 => 16
  | 19 => 16
  | 20 => 256
  | 22 => 8
  | 24 => 12
  | 25 => 12
  | 26 => 12
  | 28 => 6
  | 29 => 6
  | 30 => 8
  | 31 => 8
  | 33 => 29760
  | 34 => 3
  | 35 => 42
  | 36 => 168
  | 37 => 7
  | 38 => 7
  | 39 => 304
  | 40 => 4
  | 41 => 12
  | 42 => 12
  | 43 => 6
  | 44 => 6
  | 45 => 6
  | _ => 0
def rL : List (Nat × Nat × Nat) := [(0, 0, 1), (0, 1, 9), (0, 2, 10), (0, 3, 15), (0, 4, 21), (0, 5, 23), (0, 6, 27), (0, 7, 31), (1, 0, 2), (1, 5, 3), (1, 7, 4), (1, 9, 5), (1, 11, 6), (1, 13, 7), (1, 14, 8), (10, 0, 11), (10, 2, 12), (10, 3, 13), (10, 4, 14), (15, 0, 16), (15, 2, 17), (15, 3, 18), (15, 4, 19), (15, 5, 20), (21, 6, 22), (23, 4, 24), (23, 5, 25), (23, 6, 26), (27, 3, 28), (27, 4, 29), (27, 5, 30), (32, 0, 33), (32, 1, 34), (32, 10, 35), (32, 11, 36), (32, 12, 37), (32, 13, 38), (32, 16, 39), (32, 17, 40), (32, 31, 41), (32, 32, 42), (32, 35, 43), (32, 36, 44), (32, 37, 45)]
/-- the shape of what the constructors make -/
def SH (S : St) : Prop := (∀ a, a < 46 → sK S a = kS a) ∧ (∀ a, a < 46 → sL S a = lS a) ∧ (∀ q ∈ rL, sR S q.1 q.2.1 = some q.2.2) ∧ 46 ≤ sn S
theorem SH_K {S : St} (h : SH S) {a : Nat} (ha : a < 46) : sK S a = kS a := h.1 a ha
theorem SH_L {S : St} (h : SH S) {a : Nat} (ha : a < 46) : sL S a = lS a := h.2.1 a ha
theorem SH_K0 {S : St} (h : SH S) : sK S 0 = 12 := h.1 0 (by decide)
theorem SH_K1 {S : St} (h : SH S) : sK S 1 = 11 := h.1 1 (by decide)
theorem SH_K2 {S : St} (h : SH S) : sK S 2 = 14 := h.1 2 (by decide)
theorem SH_K3 {S : St} (h : SH S) : sK S 3 = 19 := h.1 3 (by decide)
theorem SH_K4 {S : St} (h : SH S) : sK S 4 = 21 := h.1 4 (by decide)
theorem SH_K5 {S : St} (h : SH S) : sK S 5 = 18 := h.1 5 (by decide)
theorem SH_K6 {S : St} (h : SH S) : sK S 6 = 20 := h.1 6 (by decide)
theorem SH_K7 {S : St} (h : SH S) : sK S 7 = 15 := h.1 7 (by decide)
theorem SH_K8 {S : St} (h : SH S) : sK S 8 = 15 := h.1 8 (by decide)
theorem SH_K9 {S : St} (h : SH S) : sK S 9 = 22 := h.1 9 (by decide)
theorem SH_K10 {S : St} (h : SH S) : sK S 10 = 7 := h.1 10 (by decide)
theorem SH_K11 {S : St} (h : SH S) : sK S 11 = 9 := h.1 11 (by decide)
theorem SH_K12 {S : St} (h : SH S) : sK S 12 = 15 := h.1 12 (by decide)
theorem SH_K13 {S : St} (h : SH S) : sK S 13 = 15 := h.1 13 (by decide)
theorem SH_K14 {S : St} (h : SH S) : sK S 14 = 15 := h.1 14 (by decide)
theorem SH_K15 {S : St} (h : SH S) : sK S 15 = 4 := h.1 15 (by decide)
theorem SH_K16 {S : St} (h : SH S) : sK S 16 = 9 := h.1 16 (by decide)
theorem SH_K17 {S : St} (h : SH S) : sK S 17 = 15 := h.1 17 (by decide)
theorem SH_K18 {S : St} (h : SH S) : sK S 18 = 15 := h.1 18 (by decide)
theorem SH_K19 {S : St} (h : SH S) : sK S 19 = 15 := h.1 19 (by decide)
theorem SH_K20 {S : St} (h : SH S) : sK S 20 = 15 := h.1 20 (by decide)
theorem SH_K21 {S : St} (h : SH S) : sK S 21 = 1 := h.1 21 (by decide)
theorem SH_K22 {S : St} (h : SH S) : sK S 22 = 15 := h.1 22 (by decide)
theorem SH_K23 {S : St} (h : SH S) : sK S 23 = 5 := h.1 23 (by decide)
theorem SH_K24 {S : St} (h : SH S) : sK S 24 = 15 := h.1 24 (by decide)
theorem SH_K25 {S : St} (h : SH S) : sK S 25 = 15 := h.1 25 (by decide)
theorem SH_K26 {S : St} (h : SH S) : sK S 26 = 15 := h.1 26 (by decide)
theorem SH_K27 {S : St} (h : SH S) : sK S 27 = 2 := h.1 27 (by decide)
theorem SH_K28 {S : St} (h : SH S) : sK S 28 = 15 := h.1 28 (by decide)
theorem SH_K29 {S : St} (h : SH S) : sK S 29 = 15 := h.1 29 (by decide)
theorem SH_K30 {S : St} (h : SH S) : sK S 30 = 15 := h.1 30 (by decide)
theorem SH_K31 {S : St} (h : SH S) : sK S 31 = 15 := h.1 31 (by decide)
theorem SH_K32 {S : St} (h : SH S) : sK S 32 = 13 := h.1 32 (by decide)
theorem SH_K33 {S : St} (h : SH S) : sK S 33 = 15 := h.1 33 (by decide)
theorem SH_K34 {S : St} (h : SH S) : sK S 34 = 17 := h.1 34 (by decide)
theorem SH_K35 {S : St} (h : SH S) : sK S 35 = 16 := h.1 35 (by decide)
theorem SH_K36 {S : St} (h : SH S) : sK S 36 = 16 := h.1 36 (by decide)
theorem SH_K37 {S : St} (h : SH S) : sK S 37 = 15 := h.1 37 (by decide)
theorem SH_K38 {S : St} (h : SH S) : sK S 38 = 15 := h.1 38 (by decide)
theorem SH_K39 {S : St} (h : SH S) : sK S 39 = 15 := h.1 39 (by decide)
theorem SH_K40 {S : St} (h : SH S) : sK S 40 = 15 := h.1 40 (by decide)
theorem SH_K41 {S : St} (h : SH S) : sK S 41 = 15 := h.1 41 (by decide)
theorem SH_K42 {S : St} (h : SH S) : sK S 42 = 15 := h.1 42 (by decide)
theorem SH_K43 {S : St} (h : SH S) : sK S 43 = 15 := h.1 43 (by decide)
theorem SH_K44 {S : St} (h : SH S) : sK S 44 = 15 := h.1 44 (by decide)
theorem SH_K45 {S : St} (h : SH S) : sK S 45 = 15 := h.1 45 (by decide)
theorem SH_L2 {S : St} (h : SH S) : sL S 2 = 400 := h.2.1 2 (by decide)
theorem SH_L3 {S : St} (h : SH S) : sL S 3 = 8 := h.2.1 3 (by decide)
theorem SH_L4 {S : St} (h : SH S) : sL S 4 = 10 := h.2.1 4 (by decide)
theorem SH_L5 {S : St} (h : SH S) : sL S 5 = 12 := h.2.1 5 (by decide)
theorem SH_L6 {S : St} (h : SH S) : sL S 6 = 60 := h.2.1 6 (by decide)
theorem SH_L7 {S : St} (h : SH S) : sL S 7 = 6 := h.2.1 7 (by decide)
theorem SH_L8 {S : St} (h : SH S) : sL S 8 = 3 := h.2.1 8 (by decide)
theorem SH_L9 {S : St} (h : SH S) : sL S 9 = 3 := h.2.1 9 (by decide)
theorem SH_L12 {S : St} (h : SH S) : sL S 12 = 210 := h.2.1 12 (by decide)
theorem SH_L13 {S : St} (h : SH S) : sL S 13 = 7 := h.2.1 13 (by decide)
theorem SH_L14 {S : St} (h : SH S) : sL S 14 = 7 := h.2.1 14 (by decide)
theorem SH_L17 {S : St} (h : SH S) : sL S 17 = 16 := h.2.1 17 (by decide)
theorem SH_L18 {S : St} (h : SH S) : sL S 18 = 16 := h.2.1 18 (by decide)
theorem SH_L19 {S : St} (h : SH S) : sL S 19 = 16 := h.2.1 19 (by decide)
theorem SH_L20 {S : St} (h : SH S) : sL S 20 = 256 := h.2.1 20 (by decide)
theorem SH_L22 {S : St} (h : SH S) : sL S 22 = 8 := h.2.1 22 (by decide)
theorem SH_L24 {S : St} (h : SH S) : sL S 24 = 12 := h.2.1 24 (by decide)
theorem SH_L25 {S : St} (h : SH S) : sL S 25 = 12 := h.2.1 25 (by decide)
theorem SH_L26 {S : St} (h : SH S) : sL S 26 = 12 := h.2.1 26 (by decide)
theorem SH_L28 {S : St} (h : SH S) : sL S 28 = 6 := h.2.1 28 (by decide)
theorem SH_L29 {S : St} (h : SH S) : sL S 29 = 6 := h.2.1 29 (by decide)
theorem SH_L30 {S : St} (h : SH S) : sL S 30 = 8 := h.2.1 30 (by decide)
theorem SH_L31 {S : St} (h : SH S) : sL S 31 = 8 := h.2.1 31 (by decide)
theorem SH_L33 {S : St} (h : SH S) : sL S 33 = 29760 := h.2.1 33 (by decide)
theorem SH_L34 {S : St} (h : SH S) : sL S 34 = 3 := h.2.1 34 (by decide)
theorem SH_L35 {S : St} (h : SH S) : sL S 35 = 42 := h.2.1 35 (by decide)
theorem SH_L36 {S : St} (h : SH S) : sL S 36 = 168 := h.2.1 36 (by decide)
theorem SH_L37 {S : St} (h : SH S) : sL S 37 = 7 := h.2.1 37 (by decide)
theorem SH_L38 {S : St} (h : SH S) : sL S 38 = 7 := h.2.1 38 (by decide)
theorem SH_L39 {S : St} (h : SH S) : sL S 39 = 304 := h.2.1 39 (by decide)
theorem SH_L40 {S : St} (h : SH S) : sL S 40 = 4 := h.2.1 40 (by decide)
theorem SH_L41 {S : St} (h : SH S) : sL S 41 = 12 := h.2.1 41 (by decide)
theorem SH_L42 {S : St} (h : SH S) : sL S 42 = 12 := h.2.1 42 (by decide)
theorem SH_L43 {S : St} (h : SH S) : sL S 43 = 6 := h.2.1 43 (by decide)
theorem SH_L44 {S : St} (h : SH S) : sL S 44 = 6 := h.2.1 44 (by decide)
theorem SH_L45 {S : St} (h : SH S) : sL S 45 = 6 := h.2.1 45 (by decide)
theorem SH_R0_0 {S : St} (h : SH S) : sR S 0 0 = some 1 := h.2.2.1 (0, 0, 1) (by decide)
theorem SH_R0_1 {S : St} (h : SH S) : sR S 0 1 = some 9 := h.2.2.1 (0, 1, 9) (by decide)
theorem SH_R0_2 {S : St} (h : SH S) : sR S 0 2 = some 10 := h.2.2.1 (0, 2, 10) (by decide)
theorem SH_R0_3 {S : St} (h : SH S) : sR S 0 3 = some 15 := h.2.2.1 (0, 3, 15) (by decide)
theorem SH_R0_4 {S : St} (h : SH S) : sR S 0 4 = some 21 := h.2.2.1 (0, 4, 21) (by decide)
theorem SH_R0_5 {S : St} (h : SH S) : sR S 0 5 = some 23 := h.2.2.1 (0, 5, 23) (by decide)
theorem SH_R0_6 {S : St} (h : SH S) : sR S 0 6 = some 27 := h.2.2.1 (0, 6, 27) (by decide)
theorem SH_R0_7 {S : St} (h : SH S) : sR S 0 7 = some 31 := h.2.2.1 (0, 7, 31) (by decide)
theorem SH_R1_0 {S : St} (h : SH S) : sR S 1 0 = some 2 := h.2.2.1 (1, 0, 2) (by decide)
theorem SH_R1_5 {S : St} (h : SH S) : sR S 1 5 = some 3 := h.2.2.1 (1, 5, 3) (by decide)
theorem SH_R1_7 {S : St} (h : SH S) : sR S 1 7 = some 4 := h.2.2.1 (1, 7, 4) (by decide)
theorem SH_R1_9 {S : St} (h : SH S) : sR S 1 9 = some 5 := h.2.2.1 (1, 9, 5) (by decide)
theorem SH_R1_11 {S : St} (h : SH S) : sR S 1 11 = some 6 := h.2.2.1 (1, 11, 6) (by decide)
theorem SH_R1_13 {S : St} (h : SH S) : sR S 1 13 = some 7 := h.2.2.1 (1, 13, 7) (by decide)
theorem SH_R1_14 {S : St} (h : SH S) : sR S 1 14 = some 8 := h.2.2.1 (1, 14, 8) (by decide)
theorem SH_R10_0 {S : St} (h : SH S) : sR S 10 0 = some 11 := h.2.2.1 (10, 0, 11) (by decide)
theorem SH_R10_2 {S : St} (h : SH S) : sR S 10 2 = some 12 := h.2.2.1 (10, 2, 12) (by decide)
theorem SH_R10_3 {S : St} (h : SH S) : sR S 10 3 = some 13 := h.2.2.1 (10, 3, 13) (by decide)
theorem SH_R10_4 {S : St} (h : SH S) : sR S 10 4 = some 14 := h.2.2.1 (10, 4, 14) (by decide)
theorem SH_R15_0 {S : St} (h : SH S) : sR S 15 0 = some 16 := h.2.2.1 (15, 0, 16) (by decide)
theorem SH_R15_2 {S : St} (h : SH S) : sR S 15 2 = some 17 := h.2.2.1 (15, 2, 17) (by decide)
theorem SH_R15_3 {S : St} (h : SH S) : sR S 15 3 = some 18 := h.2.2.1 (15, 3, 18) (by decide)
theorem SH_R15_4 {S : St} (h : SH S) : sR S 15 4 = some 19 := h.2.2.1 (15, 4, 19) (by decide)
theorem SH_R15_5 {S : St} (h : SH S) : sR S 15 5 = some 20 := h.2.2.1 (15, 5, 20) (by decide)
theorem SH_R21_6 {S : St} (h : SH S) : sR S 21 6 = some 22 := h.2.2.1 (21, 6, 22) (by decide)
theorem SH_R23_4 {S : St} (h : SH S) : sR S 23 4 = some 24 := h.2.2.1 (23, 4, 24) (by decide)
theorem SH_R23_5 {S : St} (h : SH S) : sR S 23 5 = some 25 := h.2.2.1 (23, 5, 25) (by decide)
theorem SH_R23_6 {S : St} (h : SH S) : sR S 23 6 = some 26 := h.2.2.1 (23, 6, 26) (by decide)
theorem SH_R27_3 {S : St} (h : SH S) : sR S 27 3 = some 28 := h.2.2.1 (27, 3, 28) (by decide)
theorem SH_R27_4 {S : St} (h : SH S) : sR S 27 4 = some 29 := h.2.2.1 (27, 4, 29) (by decide)
theorem SH_R27_5 {S : St} (h : SH S) : sR S 27 5 = some 30 := h.2.2.1 (27, 5, 30) (by decide)
theorem SH_R32_0 {S : St} (h : SH S) : sR S 32 0 = some 33 := h.2.2.1 (32, 0, 33) (by decide)
theorem SH_R32_1 {S : St} (h : SH S) : sR S 32 1 = some 34 := h.2.2.1 (32, 1, 34) (by decide)
theorem SH_R32_10 {S : St} (h : SH S) : sR S 32 10 = some 35 := h.2.2.1 (32, 10, 35) (by decide)
theorem SH_R32_11 {S : St} (h : SH S) : sR S 32 11 = some 36 := h.2.2.1 (32, 11, 36) (by decide)
theorem SH_R32_12 {S : St} (h : SH S) : sR S 32 12 = some 37 := h.2.2.1 (32, 12, 37) (by decide)
theorem SH_R32_13 {S : St} (h : SH S) : sR S 32 13 = some 38 := h.2.2.1 (32, 13, 38) (by decide)
theorem SH_R32_16 {S : St} (h : SH S) : sR S 32 16 = some 39 := h.2.2.1 (32, 16, 39) (by decide)
theorem SH_R32_17 {S : St} (h : SH S) : sR S 32 17 = some 40 := h.2.2.1 (32, 17, 40) (by decide)
theorem SH_R32_31 {S : St} (h : SH S) : sR S 32 31 = some 41 := h.2.2.1 (32, 31, 41) (by decide)
theorem SH_R32_32 {S : St} (h : SH S) : sR S 32 32 = some 42 := h.2.2.1 (32, 32, 42) (by decide)
theorem SH_R32_35 {S : St} (h : SH S) : sR S 32 35 = some 43 := h.2.2.1 (32, 35, 43) (by decide)
theorem SH_R32_36 {S : St} (h : SH S) : sR S 32 36 = some 44 := h.2.2.1 (32, 36, 44) (by decide)
theorem SH_R32_37 {S : St} (h : SH S) : sR S 32 37 = some 45 := h.2.2.1 (32, 37, 45) (by decide)
def SA : St := ((fX11_init 0 (stN S00 12 0 8)).getD ((), S00)).2
def SB : St := ((fX12_init 32 (stN SA 13 0 38)).getD ((), S00)).2
theorem getD_some {f : Option (Unit × St)} (h : f.isSome = true) : f = some ((), (f.getD ((), S00)).2) := by
  cases f with
  | none => cases h
  | some q => rfl
set_option maxRecDepth 100000 in
theorem hSA : fX11_init 0 (stN S00 12 0 8) = some ((), SA) := getD_some (by decide +kernel)
set_option maxRecDepth 100000 in
theorem hSA_n : sn SA = 32 := by decide +kernel
set_option maxRecDepth 100000 in
theorem hSB : fX12_init 32 (stN SA 13 0 38) = some ((), SB) := getD_some (by decide +kernel)
set_option maxRecDepth 100000 in
theorem hSB_n : sn SB = 46 ∧ sm SB ≤ 40000 := by decide +kernel
theorem law_ini (L : Nat) (xs : Nat → Int32) : fL_law L xs S00 = itr (fun k (p : Option Nat × Option Nat × Int32) => fL_law_18 L xs k p.1 p.2.1 p.2.2) FU (some 0, some 32, 0) SB := by
  unfold fL_law
  rw [nO_S]
  show cl (fX11_init 0) _ (stN S00 12 0 8) = _
  rw [cl_S hSA, nO_S, hSA_n, cl_S hSB]
  rfl
set_option maxRecDepth 100000 in
theorem SB_K : ∀ a, a < 46 → sK SB a = kS a := by decide +kernel
set_option maxRecDepth 100000 in
theorem SB_L : ∀ a, a < 46 → sL SB a = lS a := by decide +kernel
set_option maxRecDepth 100000 in
theorem SB_R : ∀ q ∈ rL, sR SB q.1 q.2.1 = some q.2.2 := by decide +kernel
theorem SH_SB : SH SB := ⟨SB_K, SB_L, SB_R, by rw [hSB_n.1]; exact Nat.le_refl _⟩
