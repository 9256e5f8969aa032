theorem fv_new (b : Nat) (S : St) (kd len w : Nat) (ts : List Bool) : fv b (stN S kd len w) (sn S) ts = ts.map (fun t => if t = true then Value.int 0 else .null) := by
  apply List.ext_getElem?
  intro j
  cases ht : ts[j]? with
  | none => simp [fv, ht]
  | some t => cases t
              · rw [fv_ref ht]; simp [ht, sR_stN, rf]
              · rw [fv_int ht]; simp [ht, sI_stN]
theorem sn_new {Rt : Type} {E : Ev} {l : Launch} {X : Mx} {rv : Rt → Option Value} {pc : Nat} {lv : List (Nat × Value)} {st : List Value} {ci ix N : Nat} {CC : String} {T : u_T} {ty : Nat → FieldType} {k : Nat → St → Option (Rt × St)} (hd : decode X.2.2.1 pc = .ok (.new ix, 3)) (I : CI ci CC T N ty) (L : Cond.classLink X.2.1 ix CC ∈ TB) (h : ∀ a, Snd E l X rv (pc + 3) lv (.ref (E.1 + a) :: st) (k a)) : Snd E l X rv (pc) lv (st) (nO (ci + 1) N k) :=
  ⟨fun S r S' hk => ⟨Nat.le_trans (Nat.le_succ _) ((h _).1 _ _ _ hk).1, Nat.le_trans (Nat.le_add_right _ _) ((h _).1 _ _ _ hk).2⟩, fun p e R s m args below meth c C n0 m0 S H locs ls r S' hP hS hl h1 h2 hk hc hs => by
    obtain ⟨L1, L2, L3, L4, L5, L6, L7, L8, L9⟩ := I
    have hm := (h (sn S)).1 _ _ _ hk
    rw [sn_stN, sm_stN] at hm
    have hKn := C.2.2.2.2.2.1.1.1 ci _ L1
    refine W.newcK C.1 C.2.1 C.2.2.2.1 (C.2.2.2.2.1 _ L) (C.2.2.2.2.1 _ L7) (C.2.2.2.2.1 _ L8) rfl hd (by omega) (by omega) hKn.2.1 hP.2.1 fun H1 kC hkC e1 z1 o1 => ?_
    have hP1 : PH E (stN S (ci + 1) 0 N) H1 := by
      refine hP.new rfl (fun q hq => by rw [sK_stN, if_neg hq]) (fun q hq => ⟨by rw [sL_stN, if_neg hq], fun j => by rw [sI_stN, if_neg hq], fun j => by rw [sR_stN, if_neg hq], fun j => by rw [sJ_stN, if_neg hq]⟩) (fun j q => ?_) (by rw [z1, hP.2.1]) (fun q hq => o1 q (by rw [← hP.2.1]; exact hq)) ?_
      · rw [sK_stN, if_pos rfl] at q; omega
      · rw [PF_obj (c := ci) (by rw [sK_stN, if_pos rfl]) L2, fv_new]
        exact ⟨_, L1, (u_born ty C.2.2.2.2.1 L4 hKn hkC e1 L5).to (fun j hj => L9 j hj)⟩
    have := (h (sn S)).2 p e R s m args below meth c C n0 m0 (stN S (ci + 1) 0 N) H1 locs ls r S' hP1 (hS.new (by rw [z1, hP.2.1]) (fun q hq => o1 q (by rw [← hP.2.1]; exact hq))) hl (by rw [sn_stN]; omega) (by rw [sm_stN]; omega) hk hc hs
    rw [sn_stN, sm_stN] at this
    exact W.cs (by omega) (by omega) this⟩
theorem nat_of_nonneg {n : Int32} (h : 0 ≤ n) : ¬ n < 0 := Int32.not_lt.mpr h
theorem sn_newB {Rt : Type} {E : Ev} {l : Launch} {X : Mx} {rv : Rt → Option Value} {pc : Nat} {lv : List (Nat × Value)} {st : List Value} {n : Int32} {k : Nat → St → Option (Rt × St)} (hd : decode X.2.2.1 pc = .ok (.newarray .byte, 2)) (L : Cond.arrayClass .byte ∈ TB) (h : ∀ a, Snd E l X rv (pc + 2) lv (.ref (E.1 + a) :: st) (k a)) : Snd E l X rv (pc) lv (.int n :: st) (nA 14 n k) :=
  ⟨mono_get (fun v => (h v).1) (fun S => 0 ≤ n ∧ n.toNatClampNeg ≤ 65536) (fun S => sn S) (fun S => stN S 14 n.toNatClampNeg n.toNatClampNeg) (fun _ _ => Nat.le_succ _) (fun _ _ => Nat.le_add_right _ _), fun p e R s m args below meth c C n0 m0 S H locs ls r S' hP hS hl h1 h2 hk hc hs => by
    unfold nA at hk
    split at hk
    · rename_i hn
      have hm := (h (sn S)).1 _ _ _ hk
      rw [sn_stN, sm_stN] at hm
      refine va_newaK C.1 C.2.1 (atype := .byte) (C.2.2.2.2.1 _ L) rfl hd rfl (nat_of_nonneg hn.1) rfl (Nat.le_trans (Nat.mul_le_mul_right _ hn.2) (by decide)) (by omega) (by omega) hP.2.1 fun H1 cA e1 z1 o1 hAr hNm => ?_
      have hcA : cA = E.2.2.1 0 := by
        have hh := (C.2.2.2.2.2.1.1.2 0 _ rfl).2
        exact Option.some.inj (hNm.symm.trans hh)
      subst hcA
      have hP1 : PH E (stN S 14 n.toNatClampNeg n.toNatClampNeg) H1 := by
        refine hP.new rfl (fun q hq => by rw [sK_stN, if_neg hq]) (fun q hq => ⟨by rw [sL_stN, if_neg hq], fun j => by rw [sI_stN, if_neg hq], fun j => by rw [sR_stN, if_neg hq], fun j => by rw [sJ_stN, if_neg hq]⟩) (fun j q => ?_) (by rw [z1, hP.2.1]) (fun q hq => o1 q (by rw [← hP.2.1]; exact hq)) ?_
        · rw [sI_stN, if_pos rfl]; rfl
        · rw [PF_int (t := 0) (by rw [sK_stN, if_pos rfl]) (by decide)]
          show H1[E.1 + sn S]? = some (vp_cell _ _)
          rw [vp_cell_i, e1, sL_stN, if_pos rfl]
          refine congrArg (fun f => some (arrV (E.2.2.1 0) n.toNatClampNeg f)) (funext fun j => ?_)
          simp [sI_stN, sJ_stN]
          rfl
      have := (h (sn S)).2 p e R s m args below meth c C n0 m0 (stN S 14 n.toNatClampNeg n.toNatClampNeg) H1 locs ls r S' hP1 (hS.new (by rw [z1, hP.2.1]) (fun q hq => o1 q (by rw [← hP.2.1]; exact hq))) hl (by rw [sn_stN]; omega) (by rw [sm_stN]; omega) hk hc hs
      rw [sn_stN, sm_stN] at this
      exact W.cs (by omega) (by omega) this
    · cases hk⟩
theorem sn_newI {Rt : Type} {E : Ev} {l : Launch} {X : Mx} {rv : Rt → Option Value} {pc : Nat} {lv : List (Nat × Value)} {st : List Value} {n : Int32} {k : Nat → St → Option (Rt × St)} (hd : decode X.2.2.1 pc = .ok (.newarray .int, 2)) (L : Cond.arrayClass .int ∈ TB) (h : ∀ a, Snd E l X rv (pc + 2) lv (.ref (E.1 + a) :: st) (k a)) : Snd E l X rv (pc) lv (.int n :: st) (nA 15 n k) :=
  ⟨mono_get (fun v => (h v).1) (fun S => 0 ≤ n ∧ n.toNatClampNeg ≤ 65536) (fun S => sn S) (fun S => stN S 15 n.toNatClampNeg n.toNatClampNeg) (fun _ _ => Nat.le_succ _) (fun _ _ => Nat.le_add_right _ _), fun p e R s m args below meth c C n0 m0 S H locs ls r S' hP hS hl h1 h2 hk hc hs => by
    unfold nA at hk
    split at hk
    · rename_i hn
      have hm := (h (sn S)).1 _ _ _ hk
      rw [sn_stN, sm_stN] at hm
      refine va_newaK C.1 C.2.1 (atype := .int) (C.2.2.2.2.1 _ L) rfl hd rfl (nat_of_nonneg hn.1) rfl (Nat.le_trans (Nat.mul_le_mul_right _ hn.2) (by decide)) (by omega) (by omega) hP.2.1 fun H1 cA e1 z1 o1 hAr hNm => ?_
      have hcA : cA = E.2.2.1 1 := by
        have hh := (C.2.2.2.2.2.1.1.2 1 _ rfl).2
        exact Option.some.inj (hNm.symm.trans hh)
      subst hcA
      have hP1 : PH E (stN S 15 n.toNatClampNeg n.toNatClampNeg) H1 := by
        refine hP.new rfl (fun q hq => by rw [sK_stN, if_neg hq]) (fun q hq => ⟨by rw [sL_stN, if_neg hq], fun j => by rw [sI_stN, if_neg hq], fun j => by rw [sR_stN, if_neg hq], fun j => by rw [sJ_stN, if_neg hq]⟩) (fun j q => ?_) (by rw [z1, hP.2.1]) (fun q hq => o1 q (by rw [← hP.2.1]; exact hq)) ?_
        · rw [sI_stN, if_pos rfl]; rfl
        · rw [PF_int (t := 1) (by rw [sK_stN, if_pos rfl]) (by decide)]
          show H1[E.1 + sn S]? = some (vp_cell _ _)
          rw [vp_cell_i, e1, sL_stN, if_pos rfl]
          refine congrArg (fun f => some (arrV (E.2.2.1 1) n.toNatClampNeg f)) (funext fun j => ?_)
          simp [sI_stN, sJ_stN]
          rfl
      have := (h (sn S)).2 p e R s m args below meth c C n0 m0 (stN S 15 n.toNatClampNeg n.toNatClampNeg) H1 locs ls r S' hP1 (hS.new (by rw [z1, hP.2.1]) (fun q hq => o1 q (by rw [← hP.2.1]; exact hq))) hl (by rw [sn_stN]; omega) (by rw [sm_stN]; omega) hk hc hs
      rw [sn_stN, sm_stN] at this
      exact W.cs (by omega) (by omega) this
    · cases hk⟩
theorem sn_newJ {Rt : Type} {E : Ev} {l : Launch} {X : Mx} {rv : Rt → Option Value} {pc : Nat} {lv : List (Nat × Value)} {st : List Value} {n : Int32} {k : Nat → St → Option (Rt × St)} (hd : decode X.2.2.1 pc = .ok (.newarray .long, 2)) (L : Cond.arrayClass .long ∈ TB) (h : ∀ a, Snd E l X rv (pc + 2) lv (.ref (E.1 + a) :: st) (k a)) : Snd E l X rv (pc) lv (.int n :: st) (nA 16 n k) :=
  ⟨mono_get (fun v => (h v).1) (fun S => 0 ≤ n ∧ n.toNatClampNeg ≤ 65536) (fun S => sn S) (fun S => stN S 16 n.toNatClampNeg n.toNatClampNeg) (fun _ _ => Nat.le_succ _) (fun _ _ => Nat.le_add_right _ _), fun p e R s m args below meth c C n0 m0 S H locs ls r S' hP hS hl h1 h2 hk hc hs => by
    unfold nA at hk
    split at hk
    · rename_i hn
      have hm := (h (sn S)).1 _ _ _ hk
      rw [sn_stN, sm_stN] at hm
      refine va_newaK C.1 C.2.1 (atype := .long) (C.2.2.2.2.1 _ L) rfl hd rfl (nat_of_nonneg hn.1) rfl (Nat.le_trans (Nat.mul_le_mul_right _ hn.2) (by decide)) (by omega) (by omega) hP.2.1 fun H1 cA e1 z1 o1 hAr hNm => ?_
      have hcA : cA = E.2.2.1 2 := by
        have hh := (C.2.2.2.2.2.1.1.2 2 _ rfl).2
        exact Option.some.inj (hNm.symm.trans hh)
      subst hcA
      have hP1 : PH E (stN S 16 n.toNatClampNeg n.toNatClampNeg) H1 := by
        refine hP.new rfl (fun q hq => by rw [sK_stN, if_neg hq]) (fun q hq => ⟨by rw [sL_stN, if_neg hq], fun j => by rw [sI_stN, if_neg hq], fun j => by rw [sR_stN, if_neg hq], fun j => by rw [sJ_stN, if_neg hq]⟩) (fun j q => ?_) (by rw [z1, hP.2.1]) (fun q hq => o1 q (by rw [← hP.2.1]; exact hq)) ?_
        · rw [sI_stN, if_pos rfl]; rfl
        · rw [PF_long (by rw [sK_stN, if_pos rfl])]
          show H1[E.1 + sn S]? = some (vp_cell _ _)
          rw [vp_cell_l, e1, sL_stN, if_pos rfl]
          refine congrArg (fun f => some (arrV (E.2.2.1 2) n.toNatClampNeg f)) (funext fun j => ?_)
          simp [sI_stN, sJ_stN]
          rfl
      have := (h (sn S)).2 p e R s m args below meth c C n0 m0 (stN S 16 n.toNatClampNeg n.toNatClampNeg) H1 locs ls r S' hP1 (hS.new (by rw [z1, hP.2.1]) (fun q hq => o1 q (by rw [← hP.2.1]; exact hq))) hl (by rw [sn_stN]; omega) (by rw [sm_stN]; omega) hk hc hs
      rw [sn_stN, sm_stN] at this
      exact W.cs (by omega) (by omega) this
    · cases hk⟩
theorem sn_newZ {Rt : Type} {E : Ev} {l : Launch} {X : Mx} {rv : Rt → Option Value} {pc : Nat} {lv : List (Nat × Value)} {st : List Value} {n : Int32} {k : Nat → St → Option (Rt × St)} (hd : decode X.2.2.1 pc = .ok (.newarray .boolean, 2)) (L : Cond.arrayClass .boolean ∈ TB) (h : ∀ a, Snd E l X rv (pc + 2) lv (.ref (E.1 + a) :: st) (k a)) : Snd E l X rv (pc) lv (.int n :: st) (nA 17 n k) :=
  ⟨mono_get (fun v => (h v).1) (fun S => 0 ≤ n ∧ n.toNatClampNeg ≤ 65536) (fun S => sn S) (fun S => stN S 17 n.toNatClampNeg n.toNatClampNeg) (fun _ _ => Nat.le_succ _) (fun _ _ => Nat.le_add_right _ _), fun p e R s m args below meth c C n0 m0 S H locs ls r S' hP hS hl h1 h2 hk hc hs => by
    unfold nA at hk
    split at hk
    · rename_i hn
      have hm := (h (sn S)).1 _ _ _ hk
      rw [sn_stN, sm_stN] at hm
      refine va_newaK C.1 C.2.1 (atype := .boolean) (C.2.2.2.2.1 _ L) rfl hd rfl (nat_of_nonneg hn.1) rfl (Nat.le_trans (Nat.mul_le_mul_right _ hn.2) (by decide)) (by omega) (by omega) hP.2.1 fun H1 cA e1 z1 o1 hAr hNm => ?_
      have hcA : cA = E.2.2.1 3 := by
        have hh := (C.2.2.2.2.2.1.1.2 3 _ rfl).2
        exact Option.some.inj (hNm.symm.trans hh)
      subst hcA
      have hP1 : PH E (stN S 17 n.toNatClampNeg n.toNatClampNeg) H1 := by
        refine hP.new rfl (fun q hq => by rw [sK_stN, if_neg hq]) (fun q hq => ⟨by rw [sL_stN, if_neg hq], fun j => by rw [sI_stN, if_neg hq], fun j => by rw [sR_stN, if_neg hq], fun j => by rw [sJ_stN, if_neg hq]⟩) (fun j q => ?_) (by rw [z1, hP.2.1]) (fun q hq => o1 q (by rw [← hP.2.1]; exact hq)) ?_
        · rw [sI_stN, if_pos rfl]; rfl
        · rw [PF_int (t := 3) (by rw [sK_stN, if_pos rfl]) (by decide)]
          show H1[E.1 + sn S]? = some (vp_cell _ _)
          rw [vp_cell_i, e1, sL_stN, if_pos rfl]
          refine congrArg (fun f => some (arrV (E.2.2.1 3) n.toNatClampNeg f)) (funext fun j => ?_)
          simp [sI_stN, sJ_stN]
          rfl
      have := (h (sn S)).2 p e R s m args below meth c C n0 m0 (stN S 17 n.toNatClampNeg n.toNatClampNeg) H1 locs ls r S' hP1 (hS.new (by rw [z1, hP.2.1]) (fun q hq => o1 q (by rw [← hP.2.1]; exact hq))) hl (by rw [sn_stN]; omega) (by rw [sm_stN]; omega) hk hc hs
      rw [sn_stN, sm_stN] at this
      exact W.cs (by omega) (by omega) this
    · cases hk⟩
theorem sn_newq {Rt : Type} {E : Ev} {l : Launch} {X : Mx} {rv : Rt → Option Value} {pc : Nat} {lv : List (Nat × Value)} {st : List Value} {t ix : Nat} {CC : String} {n : Int32} {k : Nat → St → Option (Rt × St)} (hd : decode X.2.2.1 pc = .ok (.anewarray ix, 3)) (L : Cond.classLink X.2.1 ix CC ∈ TB) (ho : CC ∈ OW) (ht : 4 ≤ t) (hty : (tyE E)[t]? = some (E.2.2.1 t, .object CC)) (h : ∀ a, Snd E l X rv (pc + 3) lv (.ref (E.1 + a) :: st) (k a)) : Snd E l X rv (pc) lv (.int n :: st) (nA (t + 14) n k) :=
  ⟨mono_get (fun v => (h v).1) (fun S => 0 ≤ n ∧ n.toNatClampNeg ≤ 65536) (fun S => sn S) (fun S => stN S (t + 14) n.toNatClampNeg n.toNatClampNeg) (fun _ _ => Nat.le_succ _) (fun _ _ => Nat.le_add_right _ _), fun p e R s m args below meth c C n0 m0 S H locs ls r S' hP hS hl h1 h2 hk hc hs => by
    unfold nA at hk
    split at hk
    · rename_i hn
      have hm := (h (sn S)).1 _ _ _ hk
      rw [sn_stN, sm_stN] at hm
      refine W.anew C.1 C.2.1 C.2.2.2.1 (C.2.2.2.2.1 _ L) (va_AO.use (C.2.2.2.2.2.1.2.2.1 CC ho)) rfl hd rfl (nat_of_nonneg hn.1) (Nat.le_trans (Nat.mul_le_mul_right _ hn.2) (by decide)) (by omega) (by omega) fun cA kA comp f1 f2 f3 f4 => ?_
      generalize hH1 : H.push ({ cls := cA, slots := Array.replicate n.toNatClampNeg .null, vm := .none } : Cell) = H1
      have z1 : H1.size = H.size + 1 := by rw [← hH1, Array.size_push]
      have e1 : H1[H.size]? = some (arrV cA n.toNatClampNeg (fun _ => .null)) := by rw [← hH1, Array.getElem?_push_size, ← arrV_new]
      have o1 : ∀ q : Nat, q < H.size → H1[q]? = H[q]? := fun q hq => by rw [← hH1, Array.getElem?_push, if_neg (Nat.ne_of_lt hq)]
      have hcA : cA = E.2.2.1 t := by
        obtain ⟨_, _, _, _, _, hh⟩ := (C.2.2.2.2.2.1.1.2 t _ hty).2
        exact Option.some.inj (f1.symm.trans hh)
      subst hcA
      have hP1 : PH E (stN S (t + 14) n.toNatClampNeg n.toNatClampNeg) H1 := by
        refine hP.new rfl (fun q hq => by rw [sK_stN, if_neg hq]) (fun q hq => ⟨by rw [sL_stN, if_neg hq], fun j => by rw [sI_stN, if_neg hq], fun j => by rw [sR_stN, if_neg hq], fun j => by rw [sJ_stN, if_neg hq]⟩) (fun j q => ?_) z1 o1 ?_
        · rw [sI_stN, if_pos rfl]; rfl
        · rw [PF_ref (t := t) (by rw [sK_stN, if_pos rfl]) ht]
          show H1[E.1 + sn S]? = some (vp_cell _ _)
          rw [vp_cell_q, ← hP.2.1, e1, sL_stN, if_pos rfl]
          refine congrArg (fun f => some (arrV (E.2.2.1 t) n.toNatClampNeg f)) (funext fun j => ?_)
          simp [sR_stN, va_rf]
      have := (h (sn S)).2 p e R s m args below meth c C n0 m0 (stN S (t + 14) n.toNatClampNeg n.toNatClampNeg) H1 locs ls r S' hP1 (hS.new z1 o1) hl (by rw [sn_stN]; omega) (by rw [sm_stN]; omega) hk hc hs
      rw [sn_stN, sm_stN] at this
      rw [hP.2.1]
      exact W.cs (by omega) (by omega) this
    · cases hk⟩
theorem sn_aast {Rt : Type} {E : Ev} {l : Launch} {X : Mx} {rv : Rt → Option Value} {pc : Nat} {lv : List (Nat × Value)} {st : List Value} {t ci a ix N : Nat} {i : Int32} {v : Option Nat} {CC : String} {T : u_T} {ty : Nat → FieldType} {k : St → Option (Rt × St)} (hd : decode X.2.2.1 pc = .ok (.aastore, 1)) (I : CI ci CC T N ty) (ht : 4 ≤ t) (hty : (tyE E)[t]? = some (E.2.2.1 t, .object CC)) (h : Snd E l X rv (pc + 1) lv (st) (k)) : Snd E l X rv (pc) lv (rf E.1 v :: .int i :: .ref (E.1 + a) :: st) (wR (t + 14) (ci + 1) a i v k) := by
  have fin : ∀ (S : St) (H H1 : Heap), PH E S H → sK S a = t + 14 → 0 ≤ i → i.toNatClampNeg < sL S a → H1[E.1 + a]? = some ((arrV (E.2.2.1 t) (sL S a) (fun j => va_rf ((sR S a j).map (fun x => E.1 + x)))).setSlot i.toNatClampNeg (rf E.1 v)) → H1.size = H.size → (∀ q : Nat, q ≠ E.1 + a → H1[q]? = H[q]?) → PH E (stR S a i.toNatClampNeg v) H1 := by
    intro S H H1 hP hK hi0 hi1 e1 z oq
    refine hP.upd (a := a) rfl (fun _ => rfl) (fun q hq => ⟨rfl, fun j => rfl, fun j => by simp [sR_stR, hq], fun j => rfl⟩) (fun j q => by rw [hK] at q; omega) z oq ?_
    rw [PF_ref (S := stR S a i.toNatClampNeg v) (t := t) (show sK S a = _ from hK) ht]
    show H1[E.1 + a]? = some (vp_cell _ _)
    rw [vp_cell_q, e1, arrV_store]
    refine congrArg (fun f => some (arrV (E.2.2.1 t) (sL S a) f)) (funext fun j => ?_)
    by_cases hj : j = i.toNatClampNeg
    · subst hj
      simp [updV, sR_stR, rf_eq]
    · simp [updV, sR_stR, hj]
  cases v with
  | none =>
    refine ⟨mono_at h.1 (fun S => sK S a = t + 14 ∧ 0 ≤ i ∧ i.toNatClampNeg < sL S a) (fun S => stR S a i.toNatClampNeg none) (fun _ _ => Nat.le_refl _) (fun _ _ => Nat.le_refl _), ?_⟩
    intro p e R s m args below meth c C n0 m0 S H locs ls r S' hP hS hl h1 h2 hk hc hs
    unfold wR at hk
    simp only at hk
    split at hk
    · rename_i hK
      have hat := hP.1 a _ (PW_get (hP.lt hK.1))
      rw [PF_ref hK.1 ht] at hat
      refine va_WaastN (C := CC) C.1 C.2.1 hat ((C.2.2.2.2.2.1.1.2 t _ hty).1 _ _) (fun q => by cases q) (by show ¬ (i < 0 ∨ (arrV _ _ _).slots.size ≤ _); rw [arrV_size]; exact inb_vp hK.2.1 hK.2.2) rfl rfl hd fun H1 e1 z oq => ?_
      exact h.2 p e R s m args below meth c C n0 m0 (stR S a i.toNatClampNeg none) H1 _ ls r S' (fin S H H1 hP hK.1 hK.2.1 hK.2.2 e1 z oq) (hS.put z oq (Nat.le_add_right _ _)) hl h1 h2 hk hc hs
    · cases hk
  | some b =>
    refine ⟨mono_at h.1 (fun S => sK S a = t + 14 ∧ sK S b = ci + 1 ∧ 0 ≤ i ∧ i.toNatClampNeg < sL S a) (fun S => stR S a i.toNatClampNeg (some b)) (fun _ _ => Nat.le_refl _) (fun _ _ => Nat.le_refl _), ?_⟩
    intro p e R s m args below meth c C n0 m0 S H locs ls r S' hP hS hl h1 h2 hk hc hs
    unfold wR at hk
    simp only at hk
    split at hk
    · rename_i hK
      obtain ⟨hK, hKb, hi0, hi1⟩ := hK
      have hat := hP.1 a _ (PW_get (hP.lt hK))
      rw [PF_ref hK ht] at hat
      have hbt := hP.1 b _ (PW_get (hP.lt hKb))
      rw [PF_obj hKb I.2.1] at hbt
      obtain ⟨r', hr', cellV, g1, g2, g3, -⟩ := hbt
      have hcls := (C.2.2.2.2.2.1.1.1 ci _ I.1).2
      obtain ⟨kA, comp, k1, k2, k3, -⟩ := (C.2.2.2.2.2.1.1.2 t _ hty).2
      have hcomp : comp = E.2.1.1 ci := Option.some.inj (k3.symm.trans hcls.1)
      subst hcomp
      obtain ⟨kC, hkC, -⟩ := hcls.2
      refine W.aast C.1 C.2.1 hat (fun q h => by cases h) (fun h => by cases h) k1 k2 rfl hkC ⟨nat_of_nonneg hi0, by show _ < (arrV _ _ _).slots.size; rw [arrV_size]; exact hi1⟩ g1 (fun q h => by rw [g3] at h; cases h) (by rw [g2]; exact hkC) (by rw [g2]; exact va_assign hcls) rfl rfl hd fun H1 e1 z oq => ?_
      exact h.2 p e R s m args below meth c C n0 m0 (stR S a i.toNatClampNeg (some b)) H1 _ ls r S' (fin S H H1 hP hK hi0 hi1 e1 z oq) (hS.put z oq (Nat.le_add_right _ _)) hl h1 h2 hk hc hs
    · cases hk
theorem sn_iret {E : Ev} {l : Launch} {X : Mx} {pc : Nat} {lv : List (Nat × Value)} {v : Int32} (hd : decode X.2.2.1 pc = .ok (.ireturn, 1)) (hret : X.2.2.2.2.1 = some .int) : Snd E l X (rvI) pc lv [.int v] (rt v) :=
  ⟨mono_rt v, fun p e R s m args below meth c C n0 m0 S H locs ls r S' hP hS hl h1 h2 hk hc hs => by
    cases hk
    have hlocks : meth.locks = false := C.2.2.2.2.2.2.2.1
    rw [← hc, ← hs]
    exact W.iret C.1 C.2.1 (by rw [C.2.2.2.2.2.2.1, hret]) (fun t ht hW => ⟨rfl, by rw [ht]; exact hP, hS.F ht⟩) hS.2.2 hd⟩
theorem sn_lret {E : Ev} {l : Launch} {X : Mx} {pc : Nat} {lv : List (Nat × Value)} {v : Int64} (hd : decode X.2.2.1 pc = .ok (.lreturn, 1)) (hret : X.2.2.2.2.1 = some .long) : Snd E l X (rvJ) pc lv [.long v] (rt v) :=
  ⟨mono_rt v, fun p e R s m args below meth c C n0 m0 S H locs ls r S' hP hS hl h1 h2 hk hc hs => by
    cases hk
    have hlocks : meth.locks = false := C.2.2.2.2.2.2.2.1
    rw [← hc, ← hs]
    exact W.lret C.1 C.2.1 (by rw [C.2.2.2.2.2.2.1, hret]) (fun t ht hW => ⟨rfl, by rw [ht]; exact hP, hS.F ht⟩) hS.2.2 hd⟩
theorem sn_vret {E : Ev} {l : Launch} {X : Mx} {pc : Nat} {lv : List (Nat × Value)}  (hd : decode X.2.2.1 pc = .ok (.return_, 1)) (hret : X.2.2.2.2.1 = none) : Snd E l X (rvV) pc lv [] (rt ()) :=
  ⟨mono_rt (), fun p e R s m args below meth c C n0 m0 S H locs ls r S' hP hS hl h1 h2 hk hc hs => by
    cases hk
    have hlocks : meth.locks = false := C.2.2.2.2.2.2.2.1
    rw [← hc, ← hs]
    exact W.vret C.1 C.2.1 (by rw [C.2.2.2.2.2.2.1, hret]) (fun t ht hW => ⟨rfl, by rw [ht]; exact hP, hS.F ht⟩) hS.2.2 hd⟩
theorem sn_aret {E : Ev} {l : Launch} {X : Mx} {pc : Nat} {lv : List (Nat × Value)} {v : Option Nat} {rt0 : FieldType} (hd : decode X.2.2.1 pc = .ok (.areturn, 1)) (hret : X.2.2.2.2.1 = some rt0) (hrt : (∃ n, rt0 = .object n) ∨ ∃ t, rt0 = .array t) : Snd E l X (rvR E.1) pc lv [rf E.1 v] (rt v) :=
  ⟨mono_rt v, fun p e R s m args below meth c C n0 m0 S H locs ls r S' hP hS hl h1 h2 hk hc hs => by
    cases hk
    have hlocks : meth.locks = false := C.2.2.2.2.2.2.2.1
    rw [← hc, ← hs]
    exact W.aret C.1 C.2.1 (by rw [C.2.2.2.2.2.2.1, hret]) hrt (by cases v with
      | none => exact Or.inl rfl
      | some a => exact Or.inr ⟨_, rfl⟩) (fun t ht hW => ⟨rfl, by rw [ht]; exact hP, hS.F ht⟩) hS.2.2 hd⟩
theorem sn_zret {E : Ev} {l : Launch} {X : Mx} {pc : Nat} {lv : List (Nat × Value)} {v : Int32} (hd : decode X.2.2.1 pc = .ok (.ireturn, 1)) (hret : X.2.2.2.2.1 = some .boolean) : Snd E l X (rvZ) pc lv [.int v] (rtZ v) :=
  ⟨mono_rtZ v, fun p e R s m args below meth c C n0 m0 S H locs ls r S' hP hS hl h1 h2 hk hc hs => by
    have hlocks : meth.locks = false := C.2.2.2.2.2.2.2.1
    unfold rtZ at hk
    split at hk
    · rename_i hv
      subst hv
      cases hk
      rw [← hc, ← hs]
      exact W.zret (ty := .boolean) C.1 C.2.1 (by rw [C.2.2.2.2.2.2.1, hret]) rfl (fun t ht hW => ⟨rfl, by rw [ht]; exact hP, hS.F ht⟩) hS.2.2 hd
    · split at hk
      · rename_i hv
        subst hv
        cases hk
        rw [← hc, ← hs]
        exact W.zret (ty := .boolean) C.1 C.2.1 (by rw [C.2.2.2.2.2.2.1, hret]) rfl (fun t ht hW => ⟨rfl, by rw [ht]; exact hP, hS.F ht⟩) hS.2.2 hd
      · cases hk⟩
theorem call_core {Ru : Type} {p : Program} {l : Launch} {e : Env} {R : Room} {s : State} {m : MethodId} {args : Array Value} {below : List Frame} {meth : Method} {c : Code} {H : Heap} {locs : List Loc} {cells slots mc ms : Nat} {Q : State → Prop} {E : Ev} {S1 : St} {pc : Nat} {ls : Array Slot} {st st0 : List Value} {rv' : Ru → Option Value} {r1 : Ru} {aa : Array Value}
    (hS : va_S (fun q => E.1 ≤ q) s.heap H locs) (hr : va_Run p l e R s m args below meth c H locs cells slots mc ms (F0 m pc ls st0) st (QR E rv' r1 S1 aa) (fun q => E.1 ≤ q))
    (kk : ∀ (H1 : Heap) (locs1 : List Loc), PH E S1 H1 → va_S (fun q => E.1 ≤ q) s.heap H1 locs1 → W p l e R s m args below meth c H1 locs1 (cells + mc) (slots + ms) Q (F0 m (pc + 3) ls ((rv' r1).toList ++ st))) : W p l e R s m args below meth c H locs cells slots Q (F0 m pc ls st0) := by
  intro T hT Y
  obtain ⟨v, st₀, t, T', L, h0, Y', hL, e1, e2, ⟨hv, hp, hz, hk⟩, stp⟩ := hr T hT Y
  cases hv
  rw [h0] at hz hk
  obtain ⟨t2, a1, b1⟩ := kk T'.heap (locs ++ L) (by rw [e1]; exact hp)
    ⟨Nat.le_trans hS.1 (by rw [e1]; exact hz), fun q h1 h2 => by rw [e1, hk q (Nat.lt_of_lt_of_le h1 hS.1) h2]; exact hS.2.1 q h1 h2, fun q hq => by
      rcases List.mem_append.mp hq with h | h
      · exact hS.2.2 q h
      · exact hL q h⟩ T' rfl Y'
  exact ⟨t2, stp t2 a1, b1⟩
/-- a method as the tables have it -/
def MI (y : MethodName) (cc : ByteArray) (nL : Nat) (ret : Option FieldType) (n : Nat) : Prop := Cond.initialized y.cls ∈ TB ∧ Cond.code y cc nL ret ∈ TB ∧ (y.cls ≠ "java/lang/invoke/MethodHandle" ∧ y.cls ≠ "java/lang/invoke/VarHandle" ∧ (parseMethodDescriptor y.desc).map (fun d => d.parameters.length) = some n) ∧ nL ≤ 12
theorem MI.good {y : MethodName} {cc : ByteArray} {nL : Nat} {ret : Option FieldType} {n : Nat} (I : MI y cc nL ret n) : GoodIn TB (Cond.code y cc nL ret :: TB) := goodIn_TB (fun w hw => (List.mem_cons.mp hw).elim (fun e => e ▸ I.2.1) id)
theorem pre_blind {E : Ev} {S : St} {av : List Value} : FrameBlind (va_Pc av (fun U => PH E S U.heap ∧ KK E U)) := fun _ _ _ _ h => ⟨h.1, h.2.1, h.2.2.calling⟩
theorem sn_callV {Rt : Type} {E : Ev} {l : Launch} {X : Mx} {rv : Rt → Option Value} {pc : Nat} {lv : List (Nat × Value)} {st : List Value} {Ru : Type} {rv' : Ru → Option Value} {y : MethodName} {cc' : ByteArray} {nL' n d' ix : Nat} {ret' : Option FieldType} {As st0 : List Value} {f : St → Option (Ru × St)} {k : Ru → St → Option (Rt × St)} {ci a : Nat} (hd : decode X.2.2.1 pc = .ok (.invokevirtual ix, 3)) (I : MI y cc' nL' ret' n) (i1 : Cond.instanceMethod y ∈ TB) (i2 : Cond.selects y.cls y y ∈ TB) (i3 : Cond.methodLink X.2.1 ix y ∈ TB) (hci : ∃ q : vw_C, vwCl[ci]? = some q ∧ q.1 = y.cls) (hlt : ci < 13) (hF : MF E l d' y cc' nL' ret' rv' (.ref (E.1 + a) :: As) f) (hd' : d' + 1 ≤ X.1) (hn : As.length = n) (hst : st0 = As.reverse ++ .ref (E.1 + a) :: st) (hr : (st.map fun v => v.category).sum ≤ 8) (h : ∀ r, Snd E l X rv (pc + 3) lv ((rv' r).toList ++ st) (k r)) : Snd E l X rv (pc) lv (st0) (ck (ci + 1) a (cl f k)) :=
  ⟨mono_ck (mono_cl hF.1 (fun u => (h u).1)), fun p e R s m args below meth c C n0 m0 S H locs ls r S' hP hS hl h1 h2 hk hc hs => by
    unfold ck at hk
    by_cases hK : sK S a = ci + 1
    rotate_left
    · rw [if_neg hK] at hk; cases hk
    rw [if_pos hK] at hk
    obtain ⟨q0, hq1, hq2⟩ := hci
    have hroom : d' + 1 ≤ R.frames ∧ 8 + (nL' + 11) + 31 * d' ≤ R.locals := ⟨Nat.le_trans hd' C.2.2.2.2.2.2.2.2.2.1, by have := C.2.2.2.2.2.2.2.2.2.2; have := I.2.2.2; omega⟩
    unfold cl at hk
    cases hfS : f S with
    | none => rw [hfS] at hk; cases hk
    | some q =>
      rw [hfS] at hk
      obtain ⟨u, S1⟩ := q
      have hm1 := hF.1 _ _ _ hfS
      have hm2 := (h u).1 _ _ _ hk
      refine call_core (S1 := S1) (r1 := u) hS (va_runV (C := y.cls) ⟨C.1, C.2.1, C.2.2.1, C.2.2.2.1, C.2.2.2.2.1⟩ (hF.2 _ _ _ hfS) (cwV n C.2.2.2.2.1 (goodIn_TB (fun w hw => by
        simp only [wsV, List.mem_append, List.mem_cons, List.not_mem_nil, or_false] at hw
        rcases hw with (rfl | rfl | rfl | rfl) | rfl | hw
        · exact i3
        · exact i1
        · exact i2
        · exact I.1
        · exact I.2.1
        · exact hw)) rfl rfl rfl ⟨rfl, I.2.2.1⟩ hroom) ⟨pre_blind, by rw [← hq2]; exact va_recv C.2.2.2.2.2.1.1 hP.1 hq1 (by rw [PW_get (hP.lt hK), PF_obj hK hlt]), fun U hU hW => ⟨rfl, by rw [hU]; exact hP, C.2.2.2.2.2.1.warm hS hU hW⟩⟩ rfl hn hl.1 hst (lv_room hr) hd ⟨by omega, by omega⟩) (fun H1 locs1 hP1 hS1 => ?_)
      have := (h u).2 p e R s m args below meth c C n0 m0 S1 H1 locs1 ls r S' hP1 hS1 hl (by omega) (by omega) hk hc hs
      exact W.cs (by omega) (by omega) this⟩
theorem sn_callS {Rt : Type} {E : Ev} {l : Launch} {X : Mx} {rv : Rt → Option Value} {pc : Nat} {lv : List (Nat × Value)} {st : List Value} {Ru : Type} {rv' : Ru → Option Value} {y : MethodName} {cc' : ByteArray} {nL' n d' ix : Nat} {ret' : Option FieldType} {As st0 : List Value} {f : St → Option (Ru × St)} {k : Ru → St → Option (Rt × St)}  (hd : decode X.2.2.1 pc = .ok (.invokestatic ix, 3)) (I : MI y cc' nL' ret' n) (i1 : Cond.static y ∈ TB) (i3 : Cond.methodLink X.2.1 ix y ∈ TB) (hF : MF E l d' y cc' nL' ret' rv' (As) f) (hd' : d' + 1 ≤ X.1) (hn : As.length = n) (hst : st0 = As.reverse ++ st) (hr : (st.map fun v => v.category).sum ≤ 8) (h : ∀ r, Snd E l X rv (pc + 3) lv ((rv' r).toList ++ st) (k r)) : Snd E l X rv (pc) lv (st0) (cl f k) :=
  ⟨mono_cl hF.1 (fun u => (h u).1), fun p e R s m args below meth c C n0 m0 S H locs ls r S' hP hS hl h1 h2 hk hc hs => by
    have hroom : d' + 1 ≤ R.frames ∧ 8 + (nL' + 11) + 31 * d' ≤ R.locals := ⟨Nat.le_trans hd' C.2.2.2.2.2.2.2.2.2.1, by have := C.2.2.2.2.2.2.2.2.2.2; have := I.2.2.2; omega⟩
    unfold cl at hk
    cases hfS : f S with
    | none => rw [hfS] at hk; cases hk
    | some q =>
      rw [hfS] at hk
      obtain ⟨u, S1⟩ := q
      have hm1 := hF.1 _ _ _ hfS
      have hm2 := (h u).1 _ _ _ hk
      refine call_core (S1 := S1) (r1 := u) hS (va_runS ⟨C.1, C.2.1, C.2.2.1, C.2.2.2.1, C.2.2.2.2.1⟩ (hF.2 _ _ _ hfS) (va_cwS n C.2.2.2.2.1 (goodIn_TB (fun w hw => by
        simp only [va_wsS, List.mem_append, List.mem_cons, List.not_mem_nil, or_false] at hw
        rcases hw with (rfl | rfl | rfl) | rfl | hw
        · exact i3
        · exact i1
        · exact I.1
        · exact I.2.1
        · exact hw)) rfl rfl rfl I.2.2.1 hroom) ⟨pre_blind, fun U hU hW => ⟨rfl, by rw [hU]; exact hP, C.2.2.2.2.2.1.warm hS hU hW⟩⟩ rfl hn hl.1 hst (lv_room hr) hd ⟨by omega, by omega⟩) (fun H1 locs1 hP1 hS1 => ?_)
      have := (h u).2 p e R s m args below meth c C n0 m0 S1 H1 locs1 ls r S' hP1 hS1 hl (by omega) (by omega) hk hc hs
      exact W.cs (by omega) (by omega) this⟩
theorem sn_callSN {Rt : Type} {E : Ev} {l : Launch} {X : Mx} {rv : Rt → Option Value} {pc : Nat} {lv : List (Nat × Value)} {st : List Value} {Ru : Type} {rv' : Ru → Option Value} {y : MethodName} {cc' : ByteArray} {nL' n d' ix : Nat} {ret' : Option FieldType} {As st0 : List Value} {f : St → Option (Ru × St)} {k : Ru → St → Option (Rt × St)} {host : String} (hd : decode X.2.2.1 pc = .ok (.invokestatic ix, 3)) (I : MI y cc' nL' ret' n) (i1 : Cond.static y ∈ TB) (i3 : (X.2.1, ix, y, host) ∈ NW) (hF : MF E l d' y cc' nL' ret' rv' (As) f) (hd' : d' + 1 ≤ X.1) (hn : As.length = n) (hst : st0 = As.reverse ++ st) (hr : (st.map fun v => v.category).sum ≤ 8) (h : ∀ r, Snd E l X rv (pc + 3) lv ((rv' r).toList ++ st) (k r)) : Snd E l X rv (pc) lv (st0) (cl f k) :=
  ⟨mono_cl hF.1 (fun u => (h u).1), fun p e R s m args below meth c C n0 m0 S H locs ls r S' hP hS hl h1 h2 hk hc hs => by
    have hroom : d' + 1 ≤ R.frames ∧ 8 + (nL' + 11) + 31 * d' ≤ R.locals := ⟨Nat.le_trans hd' C.2.2.2.2.2.2.2.2.2.1, by have := C.2.2.2.2.2.2.2.2.2.2; have := I.2.2.2; omega⟩
    unfold cl at hk
    cases hfS : f S with
    | none => rw [hfS] at hk; cases hk
    | some q =>
      rw [hfS] at hk
      obtain ⟨u, S1⟩ := q
      have hm1 := hF.1 _ _ _ hfS
      have hm2 := (h u).1 _ _ _ hk
      refine call_core (S1 := S1) (r1 := u) hS (va_runSN (host := host) ⟨C.1, C.2.1, C.2.2.1, C.2.2.2.1, C.2.2.2.2.1⟩ (hF.2 _ _ _ hfS) ⟨va_cnB n C.2.2.2.2.1 I.good rfl rfl rfl (C.2.2.2.2.2.1.2.1 _ i3) (C.2.2.2.2.1 _ I.1) I.2.2.1 hroom, C.2.2.2.2.1 _ i1, trivial⟩ ⟨pre_blind, fun U hU hW => ⟨rfl, by rw [hU]; exact hP, C.2.2.2.2.2.1.warm hS hU hW⟩⟩ rfl hn hl.1 hst (lv_room hr) hd ⟨by omega, by omega⟩) (fun H1 locs1 hP1 hS1 => ?_)
      have := (h u).2 p e R s m args below meth c C n0 m0 S1 H1 locs1 ls r S' hP1 hS1 hl (by omega) (by omega) hk hc hs
      exact W.cs (by omega) (by omega) this⟩
theorem sn_callI {Rt : Type} {E : Ev} {l : Launch} {X : Mx} {rv : Rt → Option Value} {pc : Nat} {lv : List (Nat × Value)} {st : List Value} {Ru : Type} {rv' : Ru → Option Value} {y : MethodName} {cc' : ByteArray} {nL' n d' ix : Nat} {ret' : Option FieldType} {As st0 : List Value} {f : St → Option (Ru × St)} {k : Ru → St → Option (Rt × St)} {b : Nat} (hd : decode X.2.2.1 pc = .ok (.invokespecial ix, 3)) (I : MI y cc' nL' ret' n) (hni : y.name = "<init>") (hre : ret' = none) (i1 : Cond.instanceMethod y ∈ TB) (i3 : Cond.methodLink X.2.1 ix y ∈ TB) (hF : MF E l d' y cc' nL' ret' rv' (.ref (E.1 + b) :: As) f) (hd' : d' + 1 ≤ X.1) (hn : As.length = n) (hst : st0 = As.reverse ++ .ref (E.1 + b) :: st) (hr : (st.map fun v => v.category).sum ≤ 8) (h : ∀ r, Snd E l X rv (pc + 3) lv ((rv' r).toList ++ st) (k r)) : Snd E l X rv (pc) lv (st0) (cl f k) :=
  ⟨mono_cl hF.1 (fun u => (h u).1), fun p e R s m args below meth c C n0 m0 S H locs ls r S' hP hS hl h1 h2 hk hc hs => by
    subst hre
    have hroom : d' + 1 ≤ R.frames ∧ 8 + (nL' + 11) + 31 * d' ≤ R.locals := ⟨Nat.le_trans hd' C.2.2.2.2.2.2.2.2.2.1, by have := C.2.2.2.2.2.2.2.2.2.2; have := I.2.2.2; omega⟩
    unfold cl at hk
    cases hfS : f S with
    | none => rw [hfS] at hk; cases hk
    | some q =>
      rw [hfS] at hk
      obtain ⟨u, S1⟩ := q
      have hm1 := hF.1 _ _ _ hfS
      have hm2 := (h u).1 _ _ _ hk
      refine call_core (S1 := S1) (r1 := u) hS (va_runI ⟨C.1, C.2.1, C.2.2.1, C.2.2.2.1, C.2.2.2.2.1⟩ (hF.2 _ _ _ hfS) (cwI n C.2.2.2.2.1 I.good rfl rfl rfl (C.2.2.2.2.1 _ I.1) (C.2.2.2.2.1 _ i3) (C.2.2.2.2.1 _ i1) hni I.2.2.1 hroom) ⟨pre_blind, fun U hU hW => ⟨rfl, by rw [hU]; exact hP, C.2.2.2.2.2.1.warm hS hU hW⟩⟩ rfl hn hl.1 hst (lv_room hr) hd ⟨by omega, by omega⟩) (fun H1 locs1 hP1 hS1 => ?_)
      have := (h u).2 p e R s m args below meth c C n0 m0 S1 H1 locs1 ls r S' hP1 hS1 hl (by omega) (by omega) hk hc hs
      exact W.cs (by omega) (by omega) this⟩
theorem sn_callIN {Rt : Type} {E : Ev} {l : Launch} {X : Mx} {rv : Rt → Option Value} {pc : Nat} {lv : List (Nat × Value)} {st : List Value} {Ru : Type} {rv' : Ru → Option Value} {y : MethodName} {cc' : ByteArray} {nL' n d' ix : Nat} {ret' : Option FieldType} {As st0 : List Value} {f : St → Option (Ru × St)} {k : Ru → St → Option (Rt × St)} {b : Nat} {host : String} (hd : decode X.2.2.1 pc = .ok (.invokespecial ix, 3)) (I : MI y cc' nL' ret' n) (hni : y.name = "<init>") (hre : ret' = none) (i1 : Cond.instanceMethod y ∈ TB) (i3 : (X.2.1, ix, y, host) ∈ NW) (hF : MF E l d' y cc' nL' ret' rv' (.ref (E.1 + b) :: As) f) (hd' : d' + 1 ≤ X.1) (hn : As.length = n) (hst : st0 = As.reverse ++ .ref (E.1 + b) :: st) (hr : (st.map fun v => v.category).sum ≤ 8) (h : ∀ r, Snd E l X rv (pc + 3) lv ((rv' r).toList ++ st) (k r)) : Snd E l X rv (pc) lv (st0) (cl f k) :=
  ⟨mono_cl hF.1 (fun u => (h u).1), fun p e R s m args below meth c C n0 m0 S H locs ls r S' hP hS hl h1 h2 hk hc hs => by
    subst hre
    have hroom : d' + 1 ≤ R.frames ∧ 8 + (nL' + 11) + 31 * d' ≤ R.locals := ⟨Nat.le_trans hd' C.2.2.2.2.2.2.2.2.2.1, by have := C.2.2.2.2.2.2.2.2.2.2; have := I.2.2.2; omega⟩
    unfold cl at hk
    cases hfS : f S with
    | none => rw [hfS] at hk; cases hk
    | some q =>
      rw [hfS] at hk
      obtain ⟨u, S1⟩ := q
      have hm1 := hF.1 _ _ _ hfS
      have hm2 := (h u).1 _ _ _ hk
      refine call_core (S1 := S1) (r1 := u) hS (va_runIN (host := host) ⟨C.1, C.2.1, C.2.2.1, C.2.2.2.1, C.2.2.2.2.1⟩ (hF.2 _ _ _ hfS) ⟨va_cnB n C.2.2.2.2.1 I.good rfl rfl rfl (C.2.2.2.2.2.1.2.1 _ i3) (C.2.2.2.2.1 _ I.1) I.2.2.1 hroom, hni, C.2.2.2.2.1 _ i1⟩ ⟨pre_blind, fun U hU hW => ⟨rfl, by rw [hU]; exact hP, C.2.2.2.2.2.1.warm hS hU hW⟩⟩ rfl hn hl.1 hst (lv_room hr) hd ⟨by omega, by omega⟩) (fun H1 locs1 hP1 hS1 => ?_)
      have := (h u).2 p e R s m args below meth c C n0 m0 S1 H1 locs1 ls r S' hP1 hS1 hl (by omega) (by omega) hk hc hs
      exact W.cs (by omega) (by omega) this⟩
theorem sn_objInit {Rt : Type} {E : Ev} {l : Launch} {X : Mx} {rv : Rt → Option Value} {pc : Nat} {lv : List (Nat × Value)} {st : List Value} {ix x : Nat} {k : St → Option (Rt × St)} (hd : decode X.2.2.1 pc = .ok (.invokespecial ix, 3)) (L : Cond.methodLink X.2.1 ix Lib.objectInit ∈ TB) (i1 : Cond.instanceMethod Lib.objectInit ∈ TB) (i2 : Cond.code Lib.objectInit ⟨#[0xb1]⟩ 1 none ∈ TB) (hd1 : 1 ≤ X.1) (hr : (st.map fun v => v.category).sum ≤ 8) (h : Snd E l X rv (pc + 3) lv (st) (k)) : Snd E l X rv (pc) lv (.ref x :: st) (k) :=
  h.go (fun p e R s m args below meth c C H locs ls _ _ _ hl kk => W.objInit C.1 C.2.1 C.2.2.2.1 (C.2.2.2.2.1 _ L) (C.2.2.2.2.1 _ i1) (C.2.2.2.2.1 _ i2) rfl (by rw [C.2.2.1]; exact hl.1) rfl hd (Nat.le_trans hd1 C.2.2.2.2.2.2.2.2.2.1) (by have := C.2.2.2.2.2.2.2.2.2.2; have := lv_room (m := m) (pc := pc) (ls := ls) (rest := st) hr; show 2 * (F0 m pc ls st).monitorRoom + _ + 12 ≤ _; omega) (kk ls hl))
theorem sn_ldcS {Rt : Type} {E : Ev} {l : Launch} {X : Mx} {rv : Rt → Option Value} {pc : Nat} {lv : List (Nat × Value)} {st : List Value} {ix i : Nat} {k : St → Option (Rt × St)} (hd : decode X.2.2.1 pc = .ok (.ldc ix, 2)) (ho : X.2.1 = "NeedleHomes$ListReader") (hi : i < 17) (hx : SX.getD i 0 = ix) (h : Snd E l X rv (pc + 2) lv (.ref (E.2.2.2.1 i) :: st) (k)) : Snd E l X rv (pc) lv (st) (k) :=
  h.go (fun p e R s m args below meth c C H locs ls _ _ _ hl kk => va_ldcS C.1 C.2.1 C.2.2.2.1 (by rw [ho, ← hx]; exact C.2.2.2.2.2.1.2.2.2.2.1 i hi) hd (kk ls hl))
