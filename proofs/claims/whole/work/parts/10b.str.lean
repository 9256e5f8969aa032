theorem dJ0_length_8abf5_0 : decode cJ0_length_8abf5 0 = .ok (.aload_n 0, 1) := by decide +kernel
theorem dJ0_length_8abf5_1 : decode cJ0_length_8abf5 1 = .ok (.getfield 9, 3) := by decide +kernel
theorem dJ0_length_8abf5_4 : decode cJ0_length_8abf5 4 = .ok (.arraylength, 1) := by decide +kernel
theorem dJ0_length_8abf5_5 : decode cJ0_length_8abf5 5 = .ok (.aload_n 0, 1) := by decide +kernel
theorem dJ0_length_8abf5_6 : decode cJ0_length_8abf5 6 = .ok (.invokevirtual 335, 3) := by decide +kernel
theorem dJ0_length_8abf5_9 : decode cJ0_length_8abf5 9 = .ok (.ishr, 1) := by decide +kernel
theorem dJ0_length_8abf5_10 : decode cJ0_length_8abf5 10 = .ok (.ireturn, 1) := by decide +kernel
theorem iJ0_length_8abf5 : MI yJ0_length_8abf5 cJ0_length_8abf5 1 (some .int) 0 := ⟨wt1_13, wt3_40, by decide +kernel, by decide⟩
theorem dJ0_charAt_5068e_0 : decode cJ0_charAt_5068e 0 = .ok (.aload_n 0, 1) := by decide +kernel
theorem dJ0_charAt_5068e_1 : decode cJ0_charAt_5068e 1 = .ok (.invokevirtual 492, 3) := by decide +kernel
theorem dJ0_charAt_5068e_4 : decode cJ0_charAt_5068e 4 = .ok (.ifCond .eq 12, 3) := by decide +kernel
theorem dJ0_charAt_5068e_7 : decode cJ0_charAt_5068e 7 = .ok (.aload_n 0, 1) := by decide +kernel
theorem dJ0_charAt_5068e_8 : decode cJ0_charAt_5068e 8 = .ok (.getfield 9, 3) := by decide +kernel
theorem dJ0_charAt_5068e_11 : decode cJ0_charAt_5068e 11 = .ok (.iload_n 1, 1) := by decide +kernel
theorem dJ0_charAt_5068e_12 : decode cJ0_charAt_5068e 12 = .ok (.invokestatic 495, 3) := by decide +kernel
theorem dJ0_charAt_5068e_15 : decode cJ0_charAt_5068e 15 = .ok (.ireturn, 1) := by decide +kernel
theorem dJ0_charAt_5068e_16 : decode cJ0_charAt_5068e 16 = .ok (.aload_n 0, 1) := by decide +kernel
theorem dJ0_charAt_5068e_17 : decode cJ0_charAt_5068e 17 = .ok (.getfield 9, 3) := by decide +kernel
theorem dJ0_charAt_5068e_20 : decode cJ0_charAt_5068e 20 = .ok (.iload_n 1, 1) := by decide +kernel
theorem dJ0_charAt_5068e_21 : decode cJ0_charAt_5068e 21 = .ok (.invokestatic 498, 3) := by decide +kernel
theorem dJ0_charAt_5068e_24 : decode cJ0_charAt_5068e 24 = .ok (.ireturn, 1) := by decide +kernel
theorem iJ0_charAt_5068e : MI yJ0_charAt_5068e cJ0_charAt_5068e 2 (some .char) 1 := ⟨wt1_13, wt3_50, by decide +kernel, by decide⟩
theorem dJ0_coder_7d493_0 : decode cJ0_coder_7d493 0 = .ok (.getstatic 38, 3) := by decide +kernel
theorem dJ0_coder_7d493_3 : decode cJ0_coder_7d493 3 = .ok (.ifCond .eq 10, 3) := by decide +kernel
theorem dJ0_coder_7d493_6 : decode cJ0_coder_7d493 6 = .ok (.aload_n 0, 1) := by decide +kernel
theorem dJ0_coder_7d493_7 : decode cJ0_coder_7d493 7 = .ok (.getfield 15, 3) := by decide +kernel
theorem dJ0_coder_7d493_10 : decode cJ0_coder_7d493 10 = .ok (.goto 4, 3) := by decide +kernel
theorem dJ0_coder_7d493_13 : decode cJ0_coder_7d493 13 = .ok (.iconst 1, 1) := by decide +kernel
theorem dJ0_coder_7d493_14 : decode cJ0_coder_7d493 14 = .ok (.ireturn, 1) := by decide +kernel
theorem iJ0_coder_7d493 : MI yJ0_coder_7d493 cJ0_coder_7d493 1 (some .byte) 0 := ⟨wt1_13, wt3_44, by decide +kernel, by decide⟩
theorem dJ0_isLatin1_aae02_0 : decode cJ0_isLatin1_aae02 0 = .ok (.getstatic 38, 3) := by decide +kernel
theorem dJ0_isLatin1_aae02_3 : decode cJ0_isLatin1_aae02 3 = .ok (.ifCond .eq 14, 3) := by decide +kernel
theorem dJ0_isLatin1_aae02_6 : decode cJ0_isLatin1_aae02 6 = .ok (.aload_n 0, 1) := by decide +kernel
theorem dJ0_isLatin1_aae02_7 : decode cJ0_isLatin1_aae02 7 = .ok (.getfield 15, 3) := by decide +kernel
theorem dJ0_isLatin1_aae02_10 : decode cJ0_isLatin1_aae02 10 = .ok (.ifCond .ne 7, 3) := by decide +kernel
theorem dJ0_isLatin1_aae02_13 : decode cJ0_isLatin1_aae02 13 = .ok (.iconst 1, 1) := by decide +kernel
theorem dJ0_isLatin1_aae02_14 : decode cJ0_isLatin1_aae02 14 = .ok (.goto 4, 3) := by decide +kernel
theorem dJ0_isLatin1_aae02_17 : decode cJ0_isLatin1_aae02 17 = .ok (.iconst 0, 1) := by decide +kernel
theorem dJ0_isLatin1_aae02_18 : decode cJ0_isLatin1_aae02 18 = .ok (.ireturn, 1) := by decide +kernel
theorem iJ0_isLatin1_aae02 : MI yJ0_isLatin1_aae02 cJ0_isLatin1_aae02 1 (some .boolean) 0 := ⟨wt1_13, wt3_54, by decide +kernel, by decide⟩
theorem dJ1_charAt_3b067_0 : decode cJ1_charAt_3b067 0 = .ok (.iload_n 1, 1) := by decide +kernel
theorem dJ1_charAt_3b067_1 : decode cJ1_charAt_3b067 1 = .ok (.aload_n 0, 1) := by decide +kernel
theorem dJ1_charAt_3b067_2 : decode cJ1_charAt_3b067 2 = .ok (.arraylength, 1) := by decide +kernel
theorem dJ1_charAt_3b067_3 : decode cJ1_charAt_3b067 3 = .ok (.invokestatic 9, 3) := by decide +kernel
theorem dJ1_charAt_3b067_6 : decode cJ1_charAt_3b067 6 = .ok (.aload_n 0, 1) := by decide +kernel
theorem dJ1_charAt_3b067_7 : decode cJ1_charAt_3b067 7 = .ok (.iload_n 1, 1) := by decide +kernel
theorem dJ1_charAt_3b067_8 : decode cJ1_charAt_3b067 8 = .ok (.baload, 1) := by decide +kernel
theorem dJ1_charAt_3b067_9 : decode cJ1_charAt_3b067 9 = .ok (.sipush 255, 3) := by decide +kernel
theorem dJ1_charAt_3b067_12 : decode cJ1_charAt_3b067 12 = .ok (.iand, 1) := by decide +kernel
theorem dJ1_charAt_3b067_13 : decode cJ1_charAt_3b067 13 = .ok (.i2c, 1) := by decide +kernel
theorem dJ1_charAt_3b067_14 : decode cJ1_charAt_3b067 14 = .ok (.ireturn, 1) := by decide +kernel
theorem iJ1_charAt_3b067 : MI yJ1_charAt_3b067 cJ1_charAt_3b067 2 (some .char) 2 := ⟨wt1_14, wt3_57, by decide +kernel, by decide⟩
theorem dJ0_checkIndex_df160_0 : decode cJ0_checkIndex_df160 0 = .ok (.iload_n 0, 1) := by decide +kernel
theorem dJ0_checkIndex_df160_1 : decode cJ0_checkIndex_df160 1 = .ok (.iload_n 1, 1) := by decide +kernel
theorem dJ0_checkIndex_df160_2 : decode cJ0_checkIndex_df160 2 = .ok (.getstatic 1053, 3) := by decide +kernel
theorem dJ0_checkIndex_df160_5 : decode cJ0_checkIndex_df160 5 = .ok (.invokestatic 1059, 3) := by decide +kernel
theorem dJ0_checkIndex_df160_8 : decode cJ0_checkIndex_df160 8 = .ok (.pop, 1) := by decide +kernel
theorem dJ0_checkIndex_df160_9 : decode cJ0_checkIndex_df160 9 = .ok (.return_, 1) := by decide +kernel
theorem iJ0_checkIndex_df160 : MI yJ0_checkIndex_df160 cJ0_checkIndex_df160 2 none 2 := ⟨wt1_13, wt3_60, by decide +kernel, by decide⟩
theorem dJ3_checkIndex_8e157_0 : decode cJ3_checkIndex_8e157 0 = .ok (.iload_n 0, 1) := by decide +kernel
theorem dJ3_checkIndex_8e157_1 : decode cJ3_checkIndex_8e157 1 = .ok (.ifCond .lt 8, 3) := by decide +kernel
theorem dJ3_checkIndex_8e157_4 : decode cJ3_checkIndex_8e157 4 = .ok (.iload_n 0, 1) := by decide +kernel
theorem dJ3_checkIndex_8e157_5 : decode cJ3_checkIndex_8e157 5 = .ok (.iload_n 1, 1) := by decide +kernel
theorem dJ3_checkIndex_8e157_6 : decode cJ3_checkIndex_8e157 6 = .ok (.if_icmp .lt 10, 3) := by decide +kernel
theorem dJ3_checkIndex_8e157_9 : decode cJ3_checkIndex_8e157 9 = .ok (.aload_n 2, 1) := by decide +kernel
theorem dJ3_checkIndex_8e157_10 : decode cJ3_checkIndex_8e157 10 = .ok (.iload_n 0, 1) := by decide +kernel
theorem dJ3_checkIndex_8e157_11 : decode cJ3_checkIndex_8e157 11 = .ok (.iload_n 1, 1) := by decide +kernel
theorem dJ3_checkIndex_8e157_12 : decode cJ3_checkIndex_8e157 12 = .ok (.invokestatic 95, 3) := by decide +kernel
theorem dJ3_checkIndex_8e157_15 : decode cJ3_checkIndex_8e157 15 = .ok (.athrow, 1) := by decide +kernel
theorem dJ3_checkIndex_8e157_16 : decode cJ3_checkIndex_8e157 16 = .ok (.iload_n 0, 1) := by decide +kernel
theorem dJ3_checkIndex_8e157_17 : decode cJ3_checkIndex_8e157 17 = .ok (.ireturn, 1) := by decide +kernel
theorem iJ3_checkIndex_8e157 : MI yJ3_checkIndex_8e157 cJ3_checkIndex_8e157 3 (some .int) 3 := ⟨wt1_15, wt3_65, by decide +kernel, by decide⟩
theorem Snd.go2 {Rt : Type} {E : Ev} {l : Launch} {X : Mx} {rv : Rt → Option Value} {pc : Nat} {lv : List (Nat × Value)} {st : List Value} {pc' : Nat} {lv' : List (Nat × Value)} {st' : List Value} {k : St → Option (Rt × St)} (h : Snd E l X rv pc' lv' st' k)
    (hw : ∀ (p : Program) (e : Env) (R : Room) (s : State) (m : MethodId) (args : Array Value) (below : List Frame) (meth : Method) (c : Code), MC E X p R s m args meth c → ∀ (H : Heap) (locs : List Loc) (ls : Array Slot) (cells slots : Nat) (Q : State → Prop), va_S (fun q => E.1 ≤ q) s.heap H locs → lv_has ls X.2.2.2.1 lv → (∀ ls' : Array Slot, lv_has ls' X.2.2.2.1 lv' → W p l e R s m args below meth c H locs cells slots Q (F0 m pc' ls' st')) → W p l e R s m args below meth c H locs cells slots Q (F0 m pc ls st)) : Snd E l X rv pc lv st k :=
  ⟨h.1, fun p e R s m args below meth c C n0 m0 S H locs ls r S' hP hS hl h1 h2 hk hc hs => hw p e R s m args below meth c C H locs ls _ _ _ hS hl (fun ls' hl' => h.2 p e R s m args below meth c C n0 m0 S H locs ls' r S' hP hS hl' h1 h2 hk hc hs)⟩
theorem sn_gcs {Rt : Type} {E : Ev} {l : Launch} {X : Mx} {rv : Rt → Option Value} {pc : Nat} {lv : List (Nat × Value)} {st : List Value} {k : St → Option (Rt × St)} {ix : Nat} (hd : decode X.2.2.1 pc = .ok (.getstatic ix, 3)) (L : Cond.fieldLink X.2.1 ix "java/lang/String" "COMPACT_STRINGS" "Z" ∈ TB) (h : Snd E l X rv (pc + 3) lv (.int 1 :: st) (k)) : Snd E l X rv (pc) lv (st) (k) := h.go2 (fun p e R s m args below meth c C H locs ls _ _ _ hS hl kk => va_gets C.1 C.2.1 C.2.2.2.2.2.1.2.2.2.2.2.2.1 hS C.2.2.2.1 (C.2.2.2.2.1 _ L) (fun _ q => q) hd (kk ls hl))
theorem sn_scod {Rt : Type} {E : Ev} {l : Launch} {X : Mx} {rv : Rt → Option Value} {pc : Nat} {lv : List (Nat × Value)} {st : List Value} {k : St → Option (Rt × St)} {ix i : Nat} (hd : decode X.2.2.1 pc = .ok (.getfield ix, 3)) (hi : i < 17) (L : Cond.fieldLink X.2.1 ix "java/lang/String" "coder" "B" ∈ TB) (h : Snd E l X rv (pc + 3) lv (.int 0 :: st) (k)) : Snd E l X rv (pc) lv (.ref (E.2.2.2.1 i) :: st) (k) := h.go2 (fun p e R s m args below meth c C H locs ls _ _ _ hS hl kk => vk_getf C.1 C.2.1 (C.2.2.2.2.2.1.2.2.2.2.2.1.1 i hi).2.1 hS C.2.2.2.1 (C.2.2.2.2.1 _ L) (fun _ q => q) hd (kk ls hl))
theorem sn_sval {Rt : Type} {E : Ev} {l : Launch} {X : Mx} {rv : Rt → Option Value} {pc : Nat} {lv : List (Nat × Value)} {st : List Value} {k : St → Option (Rt × St)} {ix i : Nat} (hd : decode X.2.2.1 pc = .ok (.getfield ix, 3)) (hi : i < 17) (L : Cond.fieldLink X.2.1 ix "java/lang/String" "value" "[B" ∈ TB) (h : Snd E l X rv (pc + 3) lv (.ref (E.2.2.2.2.1 i) :: st) (k)) : Snd E l X rv (pc) lv (.ref (E.2.2.2.1 i) :: st) (k) := h.go2 (fun p e R s m args below meth c C H locs ls _ _ _ hS hl kk => vk_getf C.1 C.2.1 (C.2.2.2.2.2.1.2.2.2.2.2.1.1 i hi).2.2.1 hS C.2.2.2.1 (C.2.2.2.2.1 _ L) (fun _ q => q) hd (kk ls hl))
theorem sn_slen {Rt : Type} {E : Ev} {l : Launch} {X : Mx} {rv : Rt → Option Value} {pc : Nat} {lv : List (Nat × Value)} {st : List Value} {k : St → Option (Rt × St)} {i : Nat} (hd : decode X.2.2.1 pc = .ok (.arraylength, 1)) (hi : i < 17) (h : Snd E l X rv (pc + 1) lv (.int (Int32.ofNat (SLn.getD i 0)) :: st) (k)) : Snd E l X rv (pc) lv (.ref (E.2.2.2.2.1 i) :: st) (k) := h.go2 (fun p e R s m args below meth c C H locs ls _ _ _ hS hl kk => va_tlen C.1 C.2.1 (C.2.2.2.2.2.1.2.2.2.2.2.1.1 i hi).2.2.2 hS rfl hd (kk ls hl))
def fStr_length (i : Nat) : St → Option (Int32 × St) := rt (Int32.ofNat (SLn.getD i 0))
def okS (i : Nat) (j : Int32) : Prop := 0 ≤ j ∧ j.toNatClampNeg < SLn.getD i 0
def fStr_charAt (i : Nat) (j : Int32) : St → Option (Int32 × St) := fun S => if 0 ≤ j ∧ j.toNatClampNeg < SLn.getD i 0 then some ((SBy.getD i []).getD j.toNatClampNeg 0, S) else none
theorem sn_gfm {Rt : Type} {E : Ev} {l : Launch} {X : Mx} {rv : Rt → Option Value} {pc : Nat} {lv : List (Nat × Value)} {st : List Value} {ix : Nat} {k : St → Option (Rt × St)} (hd : decode X.2.2.1 pc = .ok (.getstatic ix, 3)) (L : Cond.fieldLink X.2.1 ix "jdk/internal/util/Preconditions" "SIOOBE_FORMATTER" "Ljava/util/function/BiFunction;" ∈ TB) (h : ∀ v : Value, v.category = 1 → Snd E l X rv (pc + 3) lv (v :: st) (k)) : Snd E l X rv (pc) lv (st) (k) :=
  ⟨(h .null rfl).1, fun p e R s m args below meth c C n0 m0 S H locs ls r S' hP hS hl h1 h2 hk hc hs => by
    rcases C.2.2.2.2.2.1.2.2.2.2.2.2.2.1 with q | ⟨t, q⟩
    · exact va_gets C.1 C.2.1 q hS C.2.2.2.1 (C.2.2.2.2.1 _ L) (fun _ q => q) hd ((h .null rfl).2 p e R s m args below meth c C n0 m0 S H locs ls r S' hP hS hl h1 h2 hk hc hs)
    · exact va_gets C.1 C.2.1 q hS C.2.2.2.1 (C.2.2.2.2.1 _ L) (fun _ q => q) hd ((h (.ref t) rfl).2 p e R s m args below meth c C n0 m0 S H locs ls r S' hP hS hl h1 h2 hk hc hs)⟩
/-- the byte of a string, with the check of the index -/
theorem sn_sbld {Rt : Type} {E : Ev} {l : Launch} {X : Mx} {rv : Rt → Option Value} {pc : Nat} {lv : List (Nat × Value)} {st : List Value} {i : Nat} {j : Int32} {k : Int32 → St → Option (Rt × St)} (hd : decode X.2.2.1 pc = .ok (.baload, 1)) (hi : i < 17) (hj : 0 ≤ j ∧ j.toNatClampNeg < SLn.getD i 0) (h : ∀ v, Snd E l X rv (pc + 1) lv (.int v :: st) (k v)) : Snd E l X rv pc lv (.int j :: .ref (E.2.2.2.2.1 i) :: st) (k ((SBy.getD i []).getD j.toNatClampNeg 0)) :=
  (h _).go2 (fun p e R s m args below meth c C H locs ls _ _ _ hS hl kk => va_tb C.1 C.2.1 (C.2.2.2.2.2.1.2.2.2.2.2.1.1 i hi).2.2.2 hS (inb_vp hj.1 hj.2) rfl hd (kk ls hl))
theorem sn_bret {E : Ev} {l : Launch} {X : Mx} {pc : Nat} {lv : List (Nat × Value)} {v : Int32} (hd : decode X.2.2.1 pc = .ok (.ireturn, 1)) (hret : X.2.2.2.2.1 = some .byte) (hn : narrow .byte (.int v) = .int v) : Snd E l X rvI pc lv [.int v] (rt v) :=
  ⟨mono_rt v, fun p e R s m args below meth c C n0 m0 S H locs ls r S' hP hS hl h1 h2 hk hc hs => by
    cases hk
    have hlocks : meth.locks = false := C.2.2.2.2.2.2.2.1
    rw [← hc, ← hs]
    exact W.zret (ty := .byte) C.1 C.2.1 (by rw [C.2.2.2.2.2.2.1, hret]) hn (fun t ht hW => ⟨rfl, by rw [ht]; exact hP, hS.F ht⟩) hS.2.2 hd⟩
theorem sn_cret {E : Ev} {l : Launch} {X : Mx} {pc : Nat} {lv : List (Nat × Value)} {v : Int32} (hd : decode X.2.2.1 pc = .ok (.ireturn, 1)) (hret : X.2.2.2.2.1 = some .char) (hn : narrow .char (.int v) = .int v) : Snd E l X rvI pc lv [.int v] (rt v) :=
  ⟨mono_rt v, fun p e R s m args below meth c C n0 m0 S H locs ls r S' hP hS hl h1 h2 hk hc hs => by
    cases hk
    have hlocks : meth.locks = false := C.2.2.2.2.2.2.2.1
    rw [← hc, ← hs]
    exact W.zret (ty := .char) C.1 C.2.1 (by rw [C.2.2.2.2.2.2.1, hret]) hn (fun t ht hW => ⟨rfl, by rw [ht]; exact hP, hS.F ht⟩) hS.2.2 hd⟩
theorem sn_callQ {Rt : Type} {E : Ev} {l : Launch} {X : Mx} {rv : Rt → Option Value} {pc : Nat} {lv : List (Nat × Value)} {st : List Value} {Ru : Type} {rv' : Ru → Option Value} {y : MethodName} {cc' : ByteArray} {nL' n d' ix : Nat} {ret' : Option FieldType} {As st0 : List Value} {f : St → Option (Ru × St)} {k : Ru → St → Option (Rt × St)} {i : Nat} (hi : i < 17) (hd : decode X.2.2.1 pc = .ok (.invokevirtual ix, 3)) (I : MI y cc' nL' ret' n) (i1 : Cond.instanceMethod y ∈ TB) (i2 : Cond.selects y.cls y y ∈ TB) (i3 : Cond.methodLink X.2.1 ix y ∈ TB) (hci : y.cls = "java/lang/String") (hF : MF E l d' y cc' nL' ret' rv' (.ref (E.2.2.2.1 i) :: As) f) (hd' : d' + 1 ≤ X.1) (hn : As.length = n) (hst : st0 = As.reverse ++ .ref (E.2.2.2.1 i) :: st) (hr : (st.map fun v => v.category).sum ≤ 8) (h : ∀ r, Snd E l X rv (pc + 3) lv ((rv' r).toList ++ st) (k r)) : Snd E l X rv (pc) lv (st0) (cl f k) :=
  ⟨mono_cl hF.1 (fun u => (h u).1), fun p e R s m args below meth c C n0 m0 S H locs ls r S' hP hS hl h1 h2 hk hc hs => by
    have hroom : d' + 1 ≤ R.frames ∧ 8 + (nL' + 11) + 31 * d' ≤ R.locals := ⟨Nat.le_trans hd' C.2.2.2.2.2.2.2.2.2.1, by have := C.2.2.2.2.2.2.2.2.2.2; have := I.2.2.2; omega⟩
    unfold cl at hk
    cases hfS : f S with
    | none => rw [hfS] at hk; cases hk
    | some q =>
      rw [hfS] at hk
      obtain ⟨u, S1⟩ := q
      have hm1 := hF.1 _ _ _ hfS
      have hm2 := (h u).1 _ _ _ hk
      refine call_core (S1 := S1) (r1 := u) hS (va_runV (C := y.cls) ⟨C.1, C.2.1, C.2.2.1, C.2.2.2.1, C.2.2.2.2.1⟩ (hF.2 _ _ _ hfS) (cwV n C.2.2.2.2.1 (goodIn_TB (fun w hw => by
        simp only [wsV, List.mem_append, List.mem_cons, List.not_mem_nil, or_false] at hw
        rcases hw with (rfl | rfl | rfl | rfl) | rfl | hw
        · exact i3
        · exact i1
        · exact i2
        · exact I.1
        · exact I.2.1
        · exact hw)) rfl rfl rfl ⟨rfl, I.2.2.1⟩ hroom) ⟨pre_blind, by rw [hci]; exact vk_recv C.2.2.2.2.2.1.2.2.2.2.2.1 hi hS, fun U hU hW => ⟨rfl, by rw [hU]; exact hP, C.2.2.2.2.2.1.warm hS hU hW⟩⟩ rfl hn hl.1 hst (lv_room hr) hd ⟨by omega, by omega⟩) (fun H1 locs1 hP1 hS1 => ?_)
      have := (h u).2 p e R s m args below meth c C n0 m0 S1 H1 locs1 ls r S' hP1 hS1 hl (by omega) (by omega) hk hc hs
      exact W.cs (by omega) (by omega) this⟩
abbrev dpJ0_coder_7d493 : Nat := 0
set_option maxHeartbeats 4000000 in
set_option maxRecDepth 100000 in
theorem mJ0_coder_7d493 {E : Ev} {l : Launch} (i : Nat) (hi : i < 17) : MF E l dpJ0_coder_7d493 yJ0_coder_7d493 cJ0_coder_7d493 1 (some .byte) rvI [.ref (E.2.2.2.1 i)] (rt 0) := by
  refine MF.of (lv := [(0, .ref (E.2.2.2.1 i))]) (by decide) (Nat.le_of_ble_eq_true rfl) rfl ?_
  refine sn_gcs (pc := 0) dJ0_coder_7d493_0 wt3_45 ?_
  have hh : Snd E l (dpJ0_coder_7d493, yJ0_coder_7d493.cls, cJ0_coder_7d493, 1, (some .byte), yJ0_coder_7d493.name) rvI 6 [(0, .ref (E.2.2.2.1 i))] [] (rt 0) := by
    refine sn_aload_n (pc := 6) (j := 0) dJ0_coder_7d493_6 rfl rfl ?_
    refine sn_scod (pc := 7) dJ0_coder_7d493_7 hi wt7_215 ?_
    refine sn_goto (pc := 10) (tgt := 14) dJ0_coder_7d493_10 (by decide) ?_
    exact sn_bret (pc := 14) dJ0_coder_7d493_14 rfl rfl
  have h0 := sn_if_eq (x := 1) (tgt := 13) (pc := 3) (k1 := no) (k2 := rt 0) (st := []) (lv := [(0, .ref (E.2.2.2.1 i))]) (X := (dpJ0_coder_7d493, yJ0_coder_7d493.cls, cJ0_coder_7d493, 1, (some .byte), yJ0_coder_7d493.name)) (rv := rvI) (E := E) (l := l) dJ0_coder_7d493_3 (by decide) sn_no hh
  exact h0
abbrev dpJ0_isLatin1_aae02 : Nat := 0
set_option maxHeartbeats 4000000 in
set_option maxRecDepth 100000 in
theorem mJ0_isLatin1_aae02 {E : Ev} {l : Launch} (i : Nat) (hi : i < 17) : MF E l dpJ0_isLatin1_aae02 yJ0_isLatin1_aae02 cJ0_isLatin1_aae02 1 (some .boolean) rvZ [.ref (E.2.2.2.1 i)] (rtZ 1) := by
  refine MF.of (lv := [(0, .ref (E.2.2.2.1 i))]) (by decide) (Nat.le_of_ble_eq_true rfl) rfl ?_
  refine sn_gcs (pc := 0) dJ0_isLatin1_aae02_0 wt3_45 ?_
  have hh : Snd E l (dpJ0_isLatin1_aae02, yJ0_isLatin1_aae02.cls, cJ0_isLatin1_aae02, 1, (some .boolean), yJ0_isLatin1_aae02.name) rvZ 6 [(0, .ref (E.2.2.2.1 i))] [] (rtZ 1) := by
    refine sn_aload_n (pc := 6) (j := 0) dJ0_isLatin1_aae02_6 rfl rfl ?_
    refine sn_scod (pc := 7) dJ0_isLatin1_aae02_7 hi wt7_215 ?_
    refine sn_if_ne (x := 0) (tgt := 17) (pc := 10) (k1 := no) (k2 := rtZ 1) dJ0_isLatin1_aae02_10 (by decide) sn_no ?_
    refine sn_iconst (pc := 13) (v := 1) dJ0_isLatin1_aae02_13 (by decide) ?_
    refine sn_goto (pc := 14) (tgt := 18) dJ0_isLatin1_aae02_14 (by decide) ?_
    exact sn_zret (pc := 18) dJ0_isLatin1_aae02_18 rfl
  exact sn_if_eq (x := 1) (tgt := 17) (pc := 3) (k1 := no) (k2 := rtZ 1) (st := []) (lv := [(0, .ref (E.2.2.2.1 i))]) (X := (dpJ0_isLatin1_aae02, yJ0_isLatin1_aae02.cls, cJ0_isLatin1_aae02, 1, (some .boolean), yJ0_isLatin1_aae02.name)) (rv := rvZ) (E := E) (l := l) dJ0_isLatin1_aae02_3 (by decide) sn_no hh
abbrev dpJ0_length_8abf5 : Nat := 1
set_option maxHeartbeats 4000000 in
set_option maxRecDepth 100000 in
theorem mJ0_length_8abf5 {E : Ev} {l : Launch} (i : Nat) (hi : i < 17) : MF E l dpJ0_length_8abf5 yJ0_length_8abf5 cJ0_length_8abf5 1 (some .int) rvI [.ref (E.2.2.2.1 i)] (cl (rt (0 : Int32)) fun v => rt (Int32.ofNat (SLn.getD i 0) >>> (v &&& 31))) := by
  refine MF.of (lv := [(0, .ref (E.2.2.2.1 i))]) (by decide) (Nat.le_of_ble_eq_true rfl) rfl ?_
  refine sn_aload_n (pc := 0) (j := 0) dJ0_length_8abf5_0 rfl rfl ?_
  refine sn_sval (pc := 1) dJ0_length_8abf5_1 hi wt7_214 ?_
  refine sn_slen (pc := 4) dJ0_length_8abf5_4 hi ?_
  refine sn_aload_n (pc := 5) (j := 0) dJ0_length_8abf5_5 rfl rfl ?_
  refine sn_callQ (pc := 6) hi dJ0_length_8abf5_6 iJ0_coder_7d493 wt3_42 wt3_43 wt3_41 rfl (mJ0_coder_7d493 i hi) (by decide) rfl rfl (Nat.le_of_ble_eq_true rfl) (fun v => ?_)
  refine sn_ishr (pc := 9) dJ0_length_8abf5_9 ?_
  exact sn_iret (pc := 10) dJ0_length_8abf5_10 rfl
def fchk (a b : Int32) : St → Option (Int32 × St) := br (a < 0) no (br (a < b) (rt a) no)
abbrev dpJ3_checkIndex_8e157 : Nat := 0
set_option maxHeartbeats 4000000 in
set_option maxRecDepth 100000 in
theorem mJ3_checkIndex_8e157 {E : Ev} {l : Launch} (a b : Int32) (v : Value) (hv : v.category = 1) : MF E l dpJ3_checkIndex_8e157 yJ3_checkIndex_8e157 cJ3_checkIndex_8e157 3 (some .int) rvI [.int a, .int b, v] (fchk a b) := by
  refine MF.of (lv := [(0, .int a), (1, .int b), (2, v)]) (by decide) (by simp [lg_sl, hv, show ∀ z, (Value.int z).category = 1 from fun _ => rfl]) (by simp [lv_args, show ∀ z, (Value.int z).category = 1 from fun _ => rfl]) ?_
  unfold fchk
  refine sn_iload_n (pc := 0) (j := 0) dJ3_checkIndex_8e157_0 rfl rfl ?_
  refine sn_if_lt (pc := 1) (tgt := 9) dJ3_checkIndex_8e157_1 (by decide) sn_no ?_
  refine sn_iload_n (pc := 4) (j := 0) dJ3_checkIndex_8e157_4 rfl rfl ?_
  refine sn_iload_n (pc := 5) (j := 1) dJ3_checkIndex_8e157_5 rfl rfl ?_
  refine sn_icmp_lt (pc := 6) (tgt := 16) dJ3_checkIndex_8e157_6 (by decide) ?_ sn_no
  refine sn_iload_n (pc := 16) (j := 0) dJ3_checkIndex_8e157_16 rfl rfl ?_
  exact sn_iret (pc := 17) dJ3_checkIndex_8e157_17 rfl
abbrev dpJ0_checkIndex_df160 : Nat := 1
set_option maxHeartbeats 4000000 in
set_option maxRecDepth 100000 in
theorem mJ0_checkIndex_df160 {E : Ev} {l : Launch} (a b : Int32) : MF E l dpJ0_checkIndex_df160 yJ0_checkIndex_df160 cJ0_checkIndex_df160 2 none rvV [.int a, .int b] (cl (fchk a b) fun _ => rt ()) := by
  refine MF.of (lv := [(0, .int a), (1, .int b)]) (by decide) (Nat.le_of_ble_eq_true rfl) rfl ?_
  refine sn_iload_n (pc := 0) (j := 0) dJ0_checkIndex_df160_0 rfl rfl ?_
  refine sn_iload_n (pc := 1) (j := 1) dJ0_checkIndex_df160_1 rfl rfl ?_
  refine sn_gfm (pc := 2) dJ0_checkIndex_df160_2 wt3_61 (fun v hv => ?_)
  refine sn_callS (pc := 5) dJ0_checkIndex_df160_5 iJ3_checkIndex_8e157 wt3_64 wt3_63 (mJ3_checkIndex_8e157 a b v hv) (by decide) rfl rfl (Nat.le_of_ble_eq_true rfl) (fun q => ?_)
  refine sn_pop (pc := 8) dJ0_checkIndex_df160_8 rfl ?_
  exact sn_vret (pc := 9) dJ0_checkIndex_df160_9 rfl
def fl1c (i : Nat) (j : Int32) : St → Option (Int32 × St) := cl (cl (fchk j (Int32.ofNat (SLn.getD i 0))) fun _ => rt ()) fun _ => fStr_charAt i j
theorem SBy_small : ∀ i, i < 17 → ∀ j, j < 8 → (((SBy.getD i []).getD j 0) &&& 255).toUInt32 % 65536 = ((SBy.getD i []).getD j 0).toUInt32 ∧ narrow .char (.int ((SBy.getD i []).getD j 0)) = .int ((SBy.getD i []).getD j 0) ∧ SLn.getD i 0 ≤ 8 := by decide +kernel
abbrev dpJ1_charAt_3b067 : Nat := 2
set_option maxHeartbeats 4000000 in
set_option maxRecDepth 100000 in
theorem mJ1_charAt_3b067 {E : Ev} {l : Launch} (i : Nat) (j : Int32) (hi : i < 17) : MF E l dpJ1_charAt_3b067 yJ1_charAt_3b067 cJ1_charAt_3b067 2 (some .char) rvI [.ref (E.2.2.2.2.1 i), .int j] (fl1c i j) := by
  refine MF.of (lv := [(0, .ref (E.2.2.2.2.1 i)), (1, .int j)]) (by decide) (Nat.le_of_ble_eq_true rfl) rfl ?_
  unfold fl1c
  refine sn_iload_n (pc := 0) (j := 1) dJ1_charAt_3b067_0 rfl rfl ?_
  refine sn_aload_n (pc := 1) (j := 0) dJ1_charAt_3b067_1 rfl rfl ?_
  refine sn_slen (pc := 2) dJ1_charAt_3b067_2 hi ?_
  refine sn_callS (pc := 3) dJ1_charAt_3b067_3 iJ0_checkIndex_df160 wt3_59 wt3_58 (mJ0_checkIndex_df160 j _) (by decide) rfl rfl (Nat.le_of_ble_eq_true rfl) (fun q => ?_)
  refine sn_aload_n (pc := 6) (j := 0) dJ1_charAt_3b067_6 rfl rfl ?_
  refine sn_iload_n (pc := 7) (j := 1) dJ1_charAt_3b067_7 rfl rfl ?_
  by_cases hj : 0 ≤ j ∧ j.toNatClampNeg < SLn.getD i 0
  rotate_left
  · have e : fStr_charAt i j = no := by funext S; simp only [fStr_charAt, if_neg hj, no]
    rw [e]
    exact sn_no
  have hs := SBy_small i hi j.toNatClampNeg (by have := (SBy_small i hi 0 (by decide)).2.2; omega)
  have e : fStr_charAt i j = (fun z : Int32 => rt ((z &&& 255).toUInt32 % 65536).toInt32) ((SBy.getD i []).getD j.toNatClampNeg 0) := by
    funext S
    simp only [fStr_charAt, if_pos hj, rt, hs.1]
    rfl
  rw [e]
  have hh : ∀ z : Int32, narrow .char (.int ((z &&& 255).toUInt32 % 65536).toInt32) = .int ((z &&& 255).toUInt32 % 65536).toInt32 → Snd E l (dpJ1_charAt_3b067, yJ1_charAt_3b067.cls, cJ1_charAt_3b067, 2, (some .char), yJ1_charAt_3b067.name) rvI 9 [(0, .ref (E.2.2.2.2.1 i)), (1, .int j)] [.int z] (rt ((z &&& 255).toUInt32 % 65536).toInt32) := by
    intro z hz
    refine sn_sipush (pc := 9) (v := 255) dJ1_charAt_3b067_9 (by decide) ?_
    refine sn_iand (pc := 12) dJ1_charAt_3b067_12 ?_
    refine sn_i2c (pc := 13) dJ1_charAt_3b067_13 ?_
    exact sn_cret (pc := 14) dJ1_charAt_3b067_14 rfl hz
  refine (hh _ ?_).go2 (fun p e R s m args below meth c C H locs ls _ _ _ hS hl kk => va_tb C.1 C.2.1 (C.2.2.2.2.2.1.2.2.2.2.2.1.1 i hi).2.2.2 hS (inb_vp hj.1 hj.2) rfl dJ1_charAt_3b067_8 (kk ls hl))
  rw [hs.1]
  exact hs.2.1
abbrev dpJ0_charAt_5068e : Nat := 3
set_option maxHeartbeats 4000000 in
set_option maxRecDepth 100000 in
theorem mJ0_charAt_5068e {E : Ev} {l : Launch} (i : Nat) (j : Int32) (hi : i < 17) : MF E l dpJ0_charAt_5068e yJ0_charAt_5068e cJ0_charAt_5068e 2 (some .char) rvI [.ref (E.2.2.2.1 i), .int j] (cl (rtZ 1) fun v => br (bi v = 0) no (cl (fl1c i j) fun w => br (narrow .char (.int w) = .int w) (rt w) no)) := by
  refine MF.of (lv := [(0, .ref (E.2.2.2.1 i)), (1, .int j)]) (by decide) (Nat.le_of_ble_eq_true rfl) rfl ?_
  refine sn_aload_n (pc := 0) (j := 0) dJ0_charAt_5068e_0 rfl rfl ?_
  refine sn_callQ (pc := 1) hi dJ0_charAt_5068e_1 iJ0_isLatin1_aae02 wt3_52 wt3_53 wt3_51 rfl (mJ0_isLatin1_aae02 i hi) (by decide) rfl rfl (Nat.le_of_ble_eq_true rfl) (fun v => ?_)
  refine sn_if_eq (pc := 4) (tgt := 16) dJ0_charAt_5068e_4 (by decide) sn_no ?_
  refine sn_aload_n (pc := 7) (j := 0) dJ0_charAt_5068e_7 rfl rfl ?_
  refine sn_sval (pc := 8) dJ0_charAt_5068e_8 hi wt7_214 ?_
  refine sn_iload_n (pc := 11) (j := 1) dJ0_charAt_5068e_11 rfl rfl ?_
  refine sn_callS (pc := 12) dJ0_charAt_5068e_12 iJ1_charAt_3b067 wt3_56 wt3_55 (mJ1_charAt_3b067 i j hi) (by decide) rfl rfl (Nat.le_of_ble_eq_true rfl) (fun w => ?_)
  by_cases hw : narrow .char (.int w) = .int w
  · have e : br (narrow .char (.int w) = .int w) (rt w) no = (rt w : St → Option (Int32 × St)) := by funext S; simp only [br, if_pos hw]
    rw [e]
    exact sn_cret (pc := 15) dJ0_charAt_5068e_15 rfl hw
  · have e : br (narrow .char (.int w) = .int w) (rt w) no = (no : St → Option (Int32 × St)) := by funext S; simp only [br, if_neg hw]
    rw [e]
    exact sn_no
theorem MF.cast {Rt : Type} {E : Ev} {l : Launch} {d : Nat} {y : MethodName} {cc : ByteArray} {nL : Nat} {ret : Option FieldType} {rv : Rt → Option Value} {av : List Value} {f g : St → Option (Rt × St)} (h : MF E l d y cc nL ret rv av f) (e : f = g) : MF E l d y cc nL ret rv av g := e ▸ h
theorem str_len_eq (i : Nat) (hi : i < 17) : (cl (rt (0 : Int32)) fun v => rt (Int32.ofNat (SLn.getD i 0) >>> (v &&& 31))) = fStr_length i := by
  have h : ∀ i, i < 17 → Int32.ofNat (SLn.getD i 0) >>> ((0 : Int32) &&& 31) = Int32.ofNat (SLn.getD i 0) := by decide +kernel
  funext S
  simp only [cl, rt, fStr_length, h i hi]
theorem str_chr_eq (i : Nat) (j : Int32) (hi : i < 17) : (cl (rtZ 1) fun v => br (bi v = 0) no (cl (fl1c i j) fun w => br (narrow .char (.int w) = .int w) (rt w) no)) = fStr_charAt i j := by
  funext S
  have e1 : (rtZ 1 : St → Option (Bool × St)) S = some (true, S) := rfl
  have hlen : SLn.getD i 0 ≤ 8 := (SBy_small i hi 0 (by decide)).2.2
  have hL : (Int32.ofNat (SLn.getD i 0)).toInt = (SLn.getD i 0 : Int) := Int32.toInt_ofNat_of_lt (by omega)
  simp only [cl, e1, br, bi]
  rw [if_neg (by decide)]
  unfold fl1c fchk
  simp only [cl, br]
  by_cases hj : 0 ≤ j ∧ j.toNatClampNeg < SLn.getD i 0
  · have h1 : ¬ j < 0 := nat_of_nonneg hj.1
    have h2 : j < Int32.ofNat (SLn.getD i 0) := by
      rw [Int32.lt_iff_toInt_lt, hL, clamp_nonneg hj.1]
      omega
    rw [if_neg h1, if_pos h2]
    simp only [rt, fStr_charAt, if_pos hj]
    rw [if_pos (SBy_small i hi j.toNatClampNeg (by omega)).2.1]
  · have e2 : fStr_charAt i j S = none := by simp only [fStr_charAt, if_neg hj]
    rw [e2]
    by_cases h1 : j < 0
    · rw [if_pos h1]; rfl
    · rw [if_neg h1]
      have h0 : 0 ≤ j := Int32.not_lt.mp h1
      have h2 : ¬ j < Int32.ofNat (SLn.getD i 0) := by
        rw [Int32.lt_iff_toInt_lt, hL, clamp_nonneg h0]
        intro q
        exact hj ⟨h0, by omega⟩
      rw [if_neg h2]; rfl
theorem sn_str_length {Rt : Type} {E : Ev} {l : Launch} {X : Mx} {rv : Rt → Option Value} {pc : Nat} {lv : List (Nat × Value)} {st : List Value} {ix i : Nat} {k : Int32 → St → Option (Rt × St)} (hd : decode X.2.2.1 pc = .ok (.invokevirtual ix, 3)) (L : Cond.methodLink X.2.1 ix yJ0_length_8abf5 ∈ TB) (hi : i < 17) (hd' : 5 ≤ X.1) (hr : (st.map fun v => v.category).sum ≤ 8) (h : ∀ v, Snd E l X rv (pc + 3) lv (.int v :: st) (k v)) : Snd E l X rv (pc) lv (.ref (E.2.2.2.1 i) :: st) (cl (fStr_length i) k) :=
  sn_callQ hi hd iJ0_length_8abf5 wt3_38 wt3_39 L rfl ((mJ0_length_8abf5 i hi).cast (str_len_eq i hi)) (Nat.le_trans (by decide) hd') rfl rfl hr h
theorem sn_str_charAt {Rt : Type} {E : Ev} {l : Launch} {X : Mx} {rv : Rt → Option Value} {pc : Nat} {lv : List (Nat × Value)} {st : List Value} {ix i : Nat} {j : Int32} {k : Int32 → St → Option (Rt × St)} (hd : decode X.2.2.1 pc = .ok (.invokevirtual ix, 3)) (L : Cond.methodLink X.2.1 ix yJ0_charAt_5068e ∈ TB) (hi : i < 17) (hd' : 5 ≤ X.1) (hr : (st.map fun v => v.category).sum ≤ 8) (h : ∀ v, Snd E l X rv (pc + 3) lv (.int v :: st) (k v)) : Snd E l X rv (pc) lv (.int j :: .ref (E.2.2.2.1 i) :: st) (cl (fStr_charAt i j) k) :=
  sn_callQ hi hd iJ0_charAt_5068e wt3_48 wt3_49 L rfl ((mJ0_charAt_5068e i j hi).cast (str_chr_eq i j hi)) (Nat.le_trans (by decide) hd') rfl rfl hr h
