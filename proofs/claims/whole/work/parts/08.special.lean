theorem clamp_nonneg {z : Int32} (hz : 0 ≤ z) : z.toInt = (z.toNatClampNeg : Int) := by
  have hz0 : (0 : Int) ≤ z.toInt := by simpa using Int32.le_iff_toInt_le.mp hz
  show z.toInt = ((z.toInt.toNat : Nat) : Int)
  omega
theorem sn_copy {Rt : Type} {E : Ev} {l : Launch} {X : Mx} {rv : Rt → Option Value} {pc : Nat} {lv : List (Nat × Value)} {st : List Value} {t a b ix : Nat} {ty : FieldType} {i j n : Int32} {k : St → Option (Rt × St)} (hd : decode X.2.2.1 pc = .ok (.invokestatic ix, 3)) (L : Cond.methodLink X.2.1 ix arraycopyName ∈ TB) (i1 : Cond.native arraycopyName ∈ TB) (i2 : Cond.static arraycopyName ∈ TB) (i3 : Cond.initialized "java/lang/System" ∈ TB) (hty : (tyE E)[t]? = some (E.2.2.1 t, ty)) (hcase : (t = 0 ∧ ty = .byte) ∨ (t = 1 ∧ ty = .int)) (hd1 : 1 ≤ X.1) (hr : (st.map fun v => v.category).sum ≤ 8) (h : Snd E l X rv (pc + 3) lv (st) (k)) : Snd E l X rv (pc) lv (.int n :: .int j :: .ref (E.1 + b) :: .int i :: .ref (E.1 + a) :: st) (cp (t + 14) a i b j n k) :=
  ⟨mono_at h.1 (fun S => sK S a = t + 14 ∧ sK S b = t + 14 ∧ 0 ≤ i ∧ 0 ≤ j ∧ 0 ≤ n ∧ i.toNatClampNeg + n.toNatClampNeg ≤ sL S a ∧ j.toNatClampNeg + n.toNatClampNeg ≤ sL S b) (fun S => stA S b (va_cpy (sI S a) (sI S b) i.toNatClampNeg j.toNatClampNeg n.toNatClampNeg)) (fun _ _ => Nat.le_refl _) (fun _ _ => Nat.le_refl _), fun p e R s m args below meth c C n0 m0 S H locs ls r S' hP hS hl h1 h2 hk hc hs => by
    unfold cp at hk
    split at hk
    · rename_i hK
      obtain ⟨ka, kb, ki, kj, kn, l1, l2⟩ := hK
      have ht3 : t = 0 ∨ t = 1 ∨ t = 3 := by rcases hcase with ⟨rfl, -⟩ | ⟨rfl, -⟩ <;> simp
      have hc0 := hP.1 a _ (PW_get (hP.lt ka))
      have hc1 := hP.1 b _ (PW_get (hP.lt kb))
      rw [PF_int ka ht3] at hc0
      rw [PF_int kb ht3] at hc1
      have hfit : ∀ z : Nat, fits ty (.int (sI S a z)) = true := by
        intro z
        rcases hcase with ⟨rfl, rfl⟩ | ⟨rfl, rfl⟩
        · exact hP.2.2.2 a z ka
        · rfl
      have hprim : refKind ty = false := by rcases hcase with ⟨-, rfl⟩ | ⟨-, rfl⟩ <;> rfl
      have hArr := (C.2.2.2.2.2.1.1.2 t _ hty).1
      intro T hT Y
      obtain ⟨-, k0, hk0, cm0, hkk0⟩ := hArr (sL S a) (fun q => .int (sI S a q))
      have hlb : E.1 + b < H.size := (Array.getElem?_eq_some_iff.mp hc1).1
      obtain ⟨vm', Y', step⟩ := Y.arraycopy C.1 C.2.2.2.1 (C.2.2.2.2.1 _ L) (C.2.2.2.2.1 _ i1) (C.2.2.2.2.1 _ i2) (C.2.2.2.2.1 _ i3) (src := E.1 + a) (dst := E.1 + b) (cs := vp_cell (E.2.2.1 t) (sL S a, .inl (sI S a))) (cd := vp_cell (E.2.2.1 t) (sL S b, .inl (sI S b))) (srcPos := i) (destPos := j) (n := n) (by rw [hT]; exact hc0) (by rw [hT]; exact hc1)
        (fun _ q => by cases q) (fun _ q => by cases q) (fun q => by cases q) (fun q => by cases q) hk0 hk0 hkk0 hkk0 (by simp [hprim]) (nat_of_nonneg ki) (nat_of_nonneg kj) (nat_of_nonneg kn)
        (by rw [clamp_nonneg ki, clamp_nonneg kn]; show ¬ _ > ((arrV (E.2.2.1 t) (sL S a) (fun q => .int (sI S a q))).slots.size : Int); rw [arrV_size]; omega)
        (by rw [clamp_nonneg kj, clamp_nonneg kn]; show ¬ _ > ((arrV (E.2.2.1 t) (sL S b) (fun q => .int (sI S b q))).slots.size : Int); rw [arrV_size]; omega)
        (fun vm₁ _ z hz => by
          have ee : (vp_cell (E.2.2.1 t) (sL S a, .inl (sI S a))).slots.getD (i.toNatClampNeg + z) .null = .int (sI S a (i.toNatClampNeg + z)) := by
            show (arrV (E.2.2.1 t) (sL S a) (fun q => .int (sI S a q))).slots.getD _ _ = _
            rw [Array.getD_eq_getD_getElem?, arrV_read _ _ (by omega)]
            rfl
          rw [ee]
          exact ⟨hfit _, trivial⟩)
        (g := F0 m pc ls (.int n :: .int j :: .ref (E.1 + b) :: .int i :: .ref (E.1 + a) :: st)) rfl (by rw [C.2.2.1]; exact hl.1) rfl (by rw [C.2.1]; exact hd) (Nat.le_trans hd1 C.2.2.2.2.2.2.2.2.2.1) (by have := C.2.2.2.2.2.2.2.2.2.2; show 2 * 0 + _ + (7 + 11) ≤ _; omega)
      have e1 : copied (vp_cell (E.2.2.1 t) (sL S a, .inl (sI S a))) (vp_cell (E.2.2.1 t) (sL S b, .inl (sI S b))) i j n = vp_cell (E.2.2.1 t) (sL S b, .inl (va_cpy (sI S a) (sI S b) i.toNatClampNeg j.toNatClampNeg n.toNatClampNeg)) := by
        exact va_copied (fun z => Value.int z) (E.2.2.1 t) (E.2.2.1 t) (sI S a) (sI S b) l1
      rw [e1] at Y' step
      have hheap : ((T.setVm vm').setCell (E.1 + b) (vp_cell (E.2.2.1 t) (sL S b, .inl (va_cpy (sI S a) (sI S b) i.toNatClampNeg j.toNatClampNeg n.toNatClampNeg)))).heap = H.setIfInBounds (E.1 + b) (vp_cell (E.2.2.1 t) (sL S b, .inl (va_cpy (sI S a) (sI S b) i.toNatClampNeg j.toNatClampNeg n.toNatClampNeg))) := by rw [← hT]; rfl
      have oq : ∀ q : Nat, q ≠ E.1 + b → (H.setIfInBounds (E.1 + b) (vp_cell (E.2.2.1 t) (sL S b, .inl (va_cpy (sI S a) (sI S b) i.toNatClampNeg j.toNatClampNeg n.toNatClampNeg))))[q]? = H[q]? := fun q hq => by simp [Array.getElem?_setIfInBounds, Ne.symm hq]
      have hz : (H.setIfInBounds (E.1 + b) (vp_cell (E.2.2.1 t) (sL S b, .inl (va_cpy (sI S a) (sI S b) i.toNatClampNeg j.toNatClampNeg n.toNatClampNeg)))).size = H.size := by simp
      have hP1 : PH E (stA S b (va_cpy (sI S a) (sI S b) i.toNatClampNeg j.toNatClampNeg n.toNatClampNeg)) (H.setIfInBounds (E.1 + b) (vp_cell (E.2.2.1 t) (sL S b, .inl (va_cpy (sI S a) (sI S b) i.toNatClampNeg j.toNatClampNeg n.toNatClampNeg)))) := by
        refine hP.upd (a := b) rfl (fun _ => rfl) (fun q hq => ⟨rfl, fun z => by simp [sI_stA, hq], fun z => rfl, fun z => rfl⟩) (fun z q => ?_) hz oq ?_
        · rw [sI_stA, if_pos rfl]
          unfold va_cpy
          have ht0 : t = 0 := by rw [kb] at q; omega
          split
          · exact hP.2.2.2 a _ (by rw [ka, ht0])
          · exact hP.2.2.2 b _ (by rw [kb, ht0])
        · rw [PF_int (S := stA S b (va_cpy (sI S a) (sI S b) i.toNatClampNeg j.toNatClampNeg n.toNatClampNeg)) (show sK S b = _ from kb) ht3]
          show (H.setIfInBounds (E.1 + b) _)[E.1 + b]? = some (vp_cell _ (sL S b, .inl (sI (stA S b _) b)))
          rw [show sI (stA S b (va_cpy (sI S a) (sI S b) i.toNatClampNeg j.toNatClampNeg n.toNatClampNeg)) b = va_cpy (sI S a) (sI S b) i.toNatClampNeg j.toNatClampNeg n.toNatClampNeg from funext fun z => by rw [sI_stA, if_pos rfl]]
          simp [Array.getElem?_setIfInBounds, hlb]
      obtain ⟨t2, a1, b1⟩ := h.2 p e R s m args below meth c C n0 m0 (stA S b (va_cpy (sI S a) (sI S b) i.toNatClampNeg j.toNatClampNeg n.toNatClampNeg)) _ _ ls r S' hP1 ⟨by rw [hz]; exact hS.1, fun q g1 g2 => by
          rw [oq q (fun ee => g2 (by rw [ee]; exact Nat.le_add_right _ _))]
          exact hS.2.1 q g1 g2, fun q hq => by
          rcases List.mem_append.mp hq with g | g
          · exact hS.2.2 q g
          · obtain ⟨z, -, hz⟩ := List.mem_map.mp g
            rw [← hz]
            exact Nat.le_add_right _ _⟩ hl h1 h2 hk hc hs _ hheap Y'
      exact ⟨t2, step t2 a1, b1⟩
    · cases hk⟩
theorem sn_clone {Rt : Type} {E : Ev} {l : Launch} {X : Mx} {rv : Rt → Option Value} {pc : Nat} {lv : List (Nat × Value)} {st : List Value} {a ix : Nat} {k : Nat → St → Option (Rt × St)} (hd : decode X.2.2.1 pc = .ok (.invokevirtual ix, 3)) (L : Cond.methodLink X.2.1 ix ⟨"[I", "clone", "()Ljava/lang/Object;"⟩ ∈ TB) (i0 : Cond.sameMethod "[I" "java/lang/Object" "clone" "()Ljava/lang/Object;" ∈ TB) (i1 : Cond.native ⟨"java/lang/Object", "clone", "()Ljava/lang/Object;"⟩ ∈ TB) (i2 : Cond.instanceMethod ⟨"java/lang/Object", "clone", "()Ljava/lang/Object;"⟩ ∈ TB) (i3 : Cond.selects "[I" ⟨"[I", "clone", "()Ljava/lang/Object;"⟩ ⟨"java/lang/Object", "clone", "()Ljava/lang/Object;"⟩ ∈ TB) (hd1 : 1 ≤ X.1) (hr : (st.map fun v => v.category).sum ≤ 8) (h : ∀ q, Snd E l X rv (pc + 3) lv (.ref (E.1 + q) :: st) (k q)) : Snd E l X rv (pc) lv (.ref (E.1 + a) :: st) (cn a k) :=
  ⟨mono_get (fun v => (h v).1) (fun S => sK S a = 15) (fun S => sn S) (fun S => stA (stN S 15 (sL S a) (sL S a)) (sn S) (sI S a)) (fun _ _ => Nat.le_succ _) (fun _ _ => Nat.le_add_right _ _), fun p e R s m args below meth c C n0 m0 S H locs ls r S' hP hS hl h1 h2 hk hc hs => by
    unfold cn at hk
    split at hk
    · rename_i hK
      have hm := (h (sn S)).1 _ _ _ hk
      rw [sn_stA, sm_stA, sn_stN, sm_stN] at hm
      have hc0 := hP.1 a _ (PW_get (hP.lt hK))
      rw [PF_int (t := 1) hK (by decide)] at hc0
      have hArr := (C.2.2.2.2.2.1.1.2 1 _ rfl).1
      have hnm : s.vm.findClass "[I" = some (E.2.2.1 1) := (C.2.2.2.2.2.1.1.2 1 _ rfl).2
      obtain ⟨c0, t0', f1, f2, f3⟩ := Cond.castable_spec (va_Nw.use (A := args) rfl C.2.2.2.2.2.1.2.2.2.1)
      cases hnm.symm.trans f1
      intro T hT Y
      have hcellT : T.heap[E.1 + a]? = some (arrV (E.2.2.1 1) (sL S a) (fun q => .int (sI S a q))) := by rw [hT]; exact hc0
      obtain ⟨-, kA, hkA, comp, hkind⟩ := State.isArrayOf_alike Y.warmed.alike (hArr 0 (fun _ => .null))
      obtain ⟨-, kS, hkS, compS, hkindS⟩ := hArr 0 (fun _ => .null)
      obtain ⟨vm', Y', stp⟩ := Y.cloneArray C.1 C.2.2.2.1 (C.2.2.2.2.1 _ L) (C.2.2.2.2.1 _ i0) (C.2.2.2.2.1 _ i1) (C.2.2.2.2.1 _ i2) (C.2.2.2.2.1 _ i3) (a := E.1 + a) (cell := arrV (E.2.2.1 1) (sL S a) (fun q => .int (sI S a q))) hcellT (fun k h => by cases h) (fun h => by cases h) hnm f2 f3
        (fun i v hv => by
          have hk' : T.vm.classes[E.2.2.1 1]? = some kA := hkA
          have hv' : ∃ z : Int32, v = .int z := by
            have hlt := (Array.getElem?_eq_some_iff.mp hv).1
            rw [arrV_size] at hlt
            rw [arrV_read _ _ hlt] at hv
            exact ⟨_, (Option.some.inj hv).symm⟩
          obtain ⟨z, rfl⟩ := hv'
          simp [State.fitsSlot, State.slotType?, arrV, hk', hkind, fits])
        (g := F0 m pc ls (.ref (E.1 + a) :: st)) rfl (by rw [C.2.2.1]; exact hl.1) rfl (by rw [C.2.1]; exact hd) (Nat.le_trans hd1 C.2.2.2.2.2.2.2.2.2.1) (by have := C.2.2.2.2.2.2.2.2.2.2; show 2 * 0 + _ + 14 ≤ _; omega) (by omega) (by rw [arrV_size]; omega) (hloader := Vm.clonesLoader_of_array hkS hkindS)
      rw [arrV_size] at Y'
      have hcellE : ({ cls := (arrV (E.2.2.1 1) (sL S a) (fun q => .int (sI S a q))).cls, slots := (arrV (E.2.2.1 1) (sL S a) (fun q => .int (sI S a q))).slots } : Cell) = arrV (E.2.2.1 1) (sL S a) (fun q => .int (sI S a q)) := rfl
      rw [hcellE] at Y'
      generalize hH1 : H.push (arrV (E.2.2.1 1) (sL S a) (fun q => .int (sI S a q))) = H1
      have z1 : H1.size = H.size + 1 := by rw [← hH1, Array.size_push]
      have e1 : H1[H.size]? = some (arrV (E.2.2.1 1) (sL S a) (fun q => .int (sI S a q))) := by rw [← hH1, Array.getElem?_push_size]
      have o1 : ∀ q : Nat, q < H.size → H1[q]? = H[q]? := fun q hq => by rw [← hH1, Array.getElem?_push, if_neg (Nat.ne_of_lt hq)]
      have hP1 : PH E (stA (stN S 15 (sL S a) (sL S a)) (sn S) (sI S a)) H1 := by
        refine hP.new rfl (fun q hq => by rw [sK_stA, sK_stN, if_neg hq]) (fun q hq => ⟨by rw [sL_stA, sL_stN, if_neg hq], fun j => by rw [sI_stA, if_neg hq, sI_stN, if_neg hq], fun j => by rw [sR_stA, sR_stN, if_neg hq], fun j => by rw [sJ_stA, sJ_stN, if_neg hq]⟩) (fun j q => ?_) z1 o1 ?_
        · rw [sK_stA, sK_stN, if_pos rfl] at q; cases q
        · rw [PF_int (t := 1) (by rw [sK_stA, sK_stN, if_pos rfl]) (by decide)]
          show H1[E.1 + sn S]? = some (vp_cell _ _)
          rw [vp_cell_i, ← hP.2.1, e1, sL_stA, sL_stN, if_pos rfl]
          refine congrArg (fun f => some (arrV (E.2.2.1 1) (sL S a) f)) (funext fun j => ?_)
          rw [sI_stA, if_pos rfl]
      have hw := (h (sn S)).2 p e R s m args below meth c C n0 m0 (stA (stN S 15 (sL S a) (sL S a)) (sn S) (sI S a)) H1 locs ls r S' hP1 (hS.new z1 o1) hl (by rw [sn_stA, sn_stN]; omega) (by rw [sm_stA, sm_stN]; omega) hk hc hs
      rw [sn_stA, sm_stA, sn_stN, sm_stN] at hw
      have hw2 := W.cs (cells := sn S - n0 + 1) (slots := sm S - m0 + sL S a) (by omega) (by omega) hw
      obtain ⟨t2, b1, b2⟩ := hw2 ((T.setVm vm').pushCell (arrV (E.2.2.1 1) (sL S a) (fun q => .int (sI S a q)))) (by rw [← hH1, ← hT]; rfl) Y'
      refine ⟨t2, stp t2 ?_, b2⟩
      rw [hcellE, hT, hP.2.1]
      exact b1
    · cases hk⟩
theorem sn_castI {Rt : Type} {E : Ev} {l : Launch} {X : Mx} {rv : Rt → Option Value} {pc : Nat} {lv : List (Nat × Value)} {st : List Value} {a ix : Nat} {k : St → Option (Rt × St)} (hd : decode X.2.2.1 pc = .ok (.checkcast ix, 3)) (L : Cond.classLink X.2.1 ix "[I" ∈ TB) (h : Snd E l X rv (pc + 3) lv (.ref (E.1 + a) :: st) (k)) : Snd E l X rv (pc) lv (.ref (E.1 + a) :: st) (ck 15 a k) :=
  ⟨mono_ck h.1, fun p e R s m args below meth c C n0 m0 S H locs ls r S' hP hS hl h1 h2 hk hc hs => by
    unfold ck at hk
    split at hk
    · rename_i hK
      exact va_castA C.1 C.2.1 C.2.2.2.1 (C.2.2.2.2.1 _ L) hP.1 a (by rw [PW_get (hP.lt hK), PF_int (t := 1) hK (by decide)]) (C.2.2.2.2.2.1.1.2 1 _ rfl).2 hd (h.2 p e R s m args below meth c C n0 m0 S H locs ls r S' hP hS hl h1 h2 hk hc hs)
    · cases hk⟩
