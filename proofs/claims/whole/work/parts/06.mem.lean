/-- a class: its number, name, fields, their types -/
def CI (ci : Nat) (C : String) (T : u_T) (N : Nat) (ty : Nat → FieldType) : Prop := vwCl[ci]? = some (C, T, N) ∧ ci < 13 ∧ (kTy ci).length = N ∧ (∀ w ∈ u_ws C T N, w ∈ TB) ∧ (∀ k, k < N → parseFieldDescriptor (T k).2.2.1 = some (ty k)) ∧ (∀ a, a < N → ∀ b, b < N → a ≠ b → (T a).2.1 ≠ (T b).2.1) ∧ Cond.instantiable C N ∈ TB ∧ Cond.initialized C ∈ TB ∧ ∀ j, j < N → defaultValue (ty j) = vp_V ((kTy ci).map (fun t => if t = true then Value.int 0 else .null)) j
/-- a field as a class's constants name it -/
def FL (own : String) (ix ci j : Nat) (C : String) (T : u_T) (N : Nat) (ty : Nat → FieldType) : Prop := CI ci C T N ty ∧ j < N ∧ Cond.fieldLink own ix (T j).1 (T j).2.1 (T j).2.2.1 ∈ TB
theorem CI_in {ws : List Cond} (h : ws.all goodWord = true) (ps : List Nat) (hp : ws = ps.filterMap (fun i => tables_1[i]?)) : ∀ w ∈ ws, w ∈ TB := by
  intro w hw
  have h1 := List.all_eq_true.mp h w hw
  rw [hp] at hw
  obtain ⟨i, -, hi⟩ := List.mem_filterMap.mp hw
  exact TB_of (List.mem_of_getElem? hi) h1
theorem sn_gI {Rt : Type} {E : Ev} {l : Launch} {X : Mx} {rv : Rt → Option Value} {pc : Nat} {lv : List (Nat × Value)} {st : List Value} {ci j ix N : Nat} {CC : String} {T : u_T} {ty : Nat → FieldType} {a : Nat} {k : Int32 → St → Option (Rt × St)} (hd : decode X.2.2.1 pc = .ok (.getfield ix, 3)) (L : FL X.2.1 ix ci j CC T N ty) (ht : (kTy ci)[j]? = some true) (h : ∀ v, Snd E l X rv (pc + 3) lv (.int v :: st) (k v)) : Snd E l X rv (pc) lv (.ref (E.1 + a) :: st) (gI (ci + 1) a j k) :=
  ⟨mono_get (fun v => (h v).1) (fun S => sK S a = ci + 1) (fun S => sI S a j) (fun S => S) (fun _ _ => Nat.le_refl _) (fun _ _ => Nat.le_refl _), fun p e R s m args below meth c C n0 m0 S H locs ls r S' hP hS hl h1 h2 hk hc hs => by
    unfold gI at hk
    split at hk
    · rename_i hK
      obtain ⟨⟨L1, L2, L3, L4, L5, L6, L7, L8⟩, L9, L10⟩ := L
      exact va_get C.1 C.2.1 C.2.2.2.2.1 L4 C.2.2.2.1 C.2.2.2.2.2.1.1 hP.1 a (by rw [PW_get (hP.lt hK), PF_obj hK L2]) L1 j L9 (C.2.2.2.2.1 _ L10) (fun _ q => q) (fv_int ht) hd ((h _).2 p e R s m args below meth c C n0 m0 S H locs ls r S' hP hS hl h1 h2 hk hc hs)
    · cases hk⟩
theorem sn_gR {Rt : Type} {E : Ev} {l : Launch} {X : Mx} {rv : Rt → Option Value} {pc : Nat} {lv : List (Nat × Value)} {st : List Value} {ci j ix N : Nat} {CC : String} {T : u_T} {ty : Nat → FieldType} {a : Nat} {k : Option Nat → St → Option (Rt × St)} (hd : decode X.2.2.1 pc = .ok (.getfield ix, 3)) (L : FL X.2.1 ix ci j CC T N ty) (ht : (kTy ci)[j]? = some false) (h : ∀ v, Snd E l X rv (pc + 3) lv (rf E.1 v :: st) (k v)) : Snd E l X rv (pc) lv (.ref (E.1 + a) :: st) (gR (ci + 1) a j k) :=
  ⟨mono_get (fun v => (h v).1) (fun S => sK S a = ci + 1) (fun S => sR S a j) (fun S => S) (fun _ _ => Nat.le_refl _) (fun _ _ => Nat.le_refl _), fun p e R s m args below meth c C n0 m0 S H locs ls r S' hP hS hl h1 h2 hk hc hs => by
    unfold gR at hk
    split at hk
    · rename_i hK
      obtain ⟨⟨L1, L2, L3, L4, L5, L6, L7, L8⟩, L9, L10⟩ := L
      exact va_get C.1 C.2.1 C.2.2.2.2.1 L4 C.2.2.2.1 C.2.2.2.2.2.1.1 hP.1 a (by rw [PW_get (hP.lt hK), PF_obj hK L2]) L1 j L9 (C.2.2.2.2.1 _ L10) (fun _ q => q) (fv_ref ht) hd ((h _).2 p e R s m args below meth c C n0 m0 S H locs ls r S' hP hS hl h1 h2 hk hc hs)
    · cases hk⟩
theorem put_core {p : Program} {l : Launch} {e : Env} {R : Room} {s : State} {m : MethodId} {args : Array Value} {below : List Frame} {meth : Method} {c : Code} {H : Heap} {locs : List Loc} {cells slots : Nat} {Q : State → Prop} {E : Ev} {X : Mx} {S S' : St} {pc : Nat} {ls : Array Slot} {st : List Value} {ci j ix N : Nat} {CC : String} {T : u_T} {ty : Nat → FieldType} {a : Nat} {v : Value}
    (C : MC E X p R s m args meth c) (hP : PH E S H) (hS : va_S (fun q => E.1 ≤ q) s.heap H locs) (hd : decode X.2.2.1 pc = .ok (.putfield ix, 3)) (L : FL X.2.1 ix ci j CC T N ty) (hf : (T j).2.2.2 = false ∨ ((T j).2.2.2 = true ∧ X.2.2.2.2.2 = "<init>" ∧ (T j).1 = X.2.1)) (hn : narrow (ty j) v = v) (hfit : fits (ty j) v = true) (hK : sK S a = ci + 1)
    (e1 : sn S' = sn S) (e2 : ∀ q, sK S' q = sK S q) (e3 : ∀ q, q ≠ a → sL S' q = sL S q ∧ (∀ j, sI S' q j = sI S q j) ∧ (∀ j, sR S' q j = sR S q j) ∧ ∀ j, sJ S' q j = sJ S q j) (e4 : (fv E.1 S a (kTy ci)).set j v = fv E.1 S' a (kTy ci))
    (kk : ∀ (H1 : Heap) (locs1 : List Loc), PH E S' H1 → va_S (fun q => E.1 ≤ q) s.heap H1 locs1 → W p l e R s m args below meth c H1 locs1 cells slots Q (F0 m (pc + 3) ls st)) : W p l e R s m args below meth c H locs cells slots Q (F0 m pc ls (v :: .ref (E.1 + a) :: st)) := by
  obtain ⟨⟨L1, L2, L3, L4, L5, L6, L7, L8⟩, L9, L10⟩ := L
  obtain ⟨C1, C2, C3, C4, C5, C6, C7, C8, C9, C10⟩ := C
  have hts := C5
  have hK0 := C6.1
  have hap := va_apart (own := X.2.1) hts L4 ty L5 L6 hK0 L1
  have he : (PW E.1 E.2.2.1 S)[a]? = some (E.1 + a, .inr (ci, fv E.1 S a (kTy ci))) := by rw [PW_get (hP.lt hK), PF_obj hK L2]
  obtain ⟨r, g1, cell, q1, q2, q3, q4⟩ := hP.1 a _ he
  have hr : r = (CC, T, N) := Option.some.inj (g1.symm.trans L1)
  subst hr
  obtain ⟨hSl, hfc, kC, hkC, hkind⟩ := hK0.1 ci _ L1
  obtain ⟨cf, kf, fi, f, hi, hsl⟩ := hSl j L9
  have hlay := hts _ (L4 _ (u_in_lay L9))
  unfold u_lay at hlay
  have hst := (u_facts hfc hkC (u_lays hts L4 L9) hi).1
  have hj : j < (fv E.1 S a (kTy ci)).length := by rw [fv_len, L3]; exact L9
  have go : ∀ H' : Heap, H'[E.1 + a]? = some (cell.setSlot f.slot v) → H'.size = H.size → (∀ q, q ≠ E.1 + a → H'[q]? = H[q]?) → W p l e R s m args below meth c H' (locs ++ [⟨E.1 + a, f.slot⟩]) cells slots Q (F0 m (pc + 3) ls st) := by
    intro H' g1 g2 g3
    refine kk H' _ (hP.upd (a := a) e1 e2 e3 (fun j q => ?_) g2 g3 ?_) (hS.put g2 g3 (Nat.le_add_right _ _))
    · rw [hK] at q; omega
    · rw [PF_obj (by rw [e2]; exact hK) L2, ← e4]
      rw [hsl] at g1
      exact ⟨_, L1, t_OB.to (V := updV (vp_V (fv E.1 S a (kTy ci))) j v) ⟨_, g1, q2, q3, t_set q4 hap L9 v⟩ (fun i _ => vp_updV_set hj v i)⟩
  rcases hf with hf | ⟨hf, hin, hdecl⟩
  · rw [if_neg (by rw [hf]; decide)] at hlay
    have h6 := u_store hfc hkC hkind hlay hi (L5 j L9) hn hfit
    exact W.putK C1 C2 (f := f) ⟨C4, hts _ L10, ⟨_, _, _, hi⟩, hst⟩ (by rw [q2]; exact h6) q1 q3 (by rw [hsl]; exact k2_hasslot (q4 j L9)) rfl rfl hd go
  · rw [if_pos hf] at hlay
    have hcf : m.cls = cf := by
      obtain ⟨_, _, c', _, _, _, -, -, hf', -, -, -, hown2, -⟩ := Cond.laysFinal_spec hlay
      have e1 : c' = cf := by have := hi.symm.trans hf'; simp at this; exact this.1.symm
      rw [hdecl] at hown2
      rw [← e1]; exact Option.some.inj (C4.symm.trans hown2)
    have h6 := u_fits hfc hkC hkind (Or.inr hlay) hi (L5 j L9) hn hfit
    exact W.putFinK C1 C2 C4 (hts _ L10) hi hst hcf (C9.trans hin) (by rw [q2]; exact h6) q1 q3 (by rw [hsl]; exact k2_hasslot (q4 j L9)) rfl rfl hd go
theorem sn_pI {Rt : Type} {E : Ev} {l : Launch} {X : Mx} {rv : Rt → Option Value} {pc : Nat} {lv : List (Nat × Value)} {st : List Value} {ci j ix N : Nat} {CC : String} {T : u_T} {ty : Nat → FieldType} {a : Nat} {v : Int32} {k : St → Option (Rt × St)} (hd : decode X.2.2.1 pc = .ok (.putfield ix, 3)) (L : FL X.2.1 ix ci j CC T N ty) (ht : (kTy ci)[j]? = some true) (hty : ty j = .int) (hf : (T j).2.2.2 = false ∨ ((T j).2.2.2 = true ∧ X.2.2.2.2.2 = "<init>" ∧ (T j).1 = X.2.1)) (h : Snd E l X rv (pc + 3) lv (st) (k)) : Snd E l X rv (pc) lv (.int v :: .ref (E.1 + a) :: st) (pI (ci + 1) a j v k) :=
  ⟨mono_at h.1 (fun S => sK S a = ci + 1) (fun S => stI S a j v) (fun _ _ => Nat.le_refl _) (fun _ _ => Nat.le_refl _), fun p e R s m args below meth c C n0 m0 S H locs ls r S' hP hS hl h1 h2 hk hc hs => by
    unfold pI at hk
    split at hk
    · rename_i hK
      refine put_core (S' := stI S a j v) C hP hS hd L hf (by rw [hty]; rfl) (by rw [hty]; rfl) hK rfl (fun _ => rfl) (fun q hq => ⟨rfl, fun i => ?_, fun i => ?_, fun i => rfl⟩) (fv_stI ht v) (fun H1 locs1 hP1 hS1 => h.2 p e R s m args below meth c C n0 m0 (stI S a j v) H1 locs1 ls r S' hP1 hS1 hl h1 h2 hk hc hs)
      · simp [sI_stI, sI_stR, hq]
      · simp [sR_stI, sR_stR, hq]
    · cases hk⟩
theorem sn_pZ {Rt : Type} {E : Ev} {l : Launch} {X : Mx} {rv : Rt → Option Value} {pc : Nat} {lv : List (Nat × Value)} {st : List Value} {ci j ix N : Nat} {CC : String} {T : u_T} {ty : Nat → FieldType} {a : Nat} {v : Int32} {k : St → Option (Rt × St)} (hd : decode X.2.2.1 pc = .ok (.putfield ix, 3)) (L : FL X.2.1 ix ci j CC T N ty) (ht : (kTy ci)[j]? = some true) (hty : ty j = .boolean) (hf : (T j).2.2.2 = false ∨ ((T j).2.2.2 = true ∧ X.2.2.2.2.2 = "<init>" ∧ (T j).1 = X.2.1)) (h : Snd E l X rv (pc + 3) lv (st) (k)) : Snd E l X rv (pc) lv (.int v :: .ref (E.1 + a) :: st) (pZ (ci + 1) a j v k) :=
  ⟨mono_at h.1 (fun S => sK S a = ci + 1 ∧ (v = 0 ∨ v = 1)) (fun S => stI S a j v) (fun _ _ => Nat.le_refl _) (fun _ _ => Nat.le_refl _), fun p e R s m args below meth c C n0 m0 S H locs ls r S' hP hS hl h1 h2 hk hc hs => by
    unfold pZ at hk
    split at hk
    · rename_i hK
      refine put_core (S' := stI S a j v) C hP hS hd L hf (by rw [hty]; rcases hK.2 with rfl | rfl <;> rfl) (by rw [hty]; rcases hK.2 with rfl | rfl <;> rfl) hK.1 rfl (fun _ => rfl) (fun q hq => ⟨rfl, fun i => ?_, fun i => ?_, fun i => rfl⟩) (fv_stI ht v) (fun H1 locs1 hP1 hS1 => h.2 p e R s m args below meth c C n0 m0 (stI S a j v) H1 locs1 ls r S' hP1 hS1 hl h1 h2 hk hc hs)
      · simp [sI_stI, sI_stR, hq]
      · simp [sR_stI, sR_stR, hq]
    · cases hk⟩
theorem sn_pR {Rt : Type} {E : Ev} {l : Launch} {X : Mx} {rv : Rt → Option Value} {pc : Nat} {lv : List (Nat × Value)} {st : List Value} {ci j ix N : Nat} {CC : String} {T : u_T} {ty : Nat → FieldType} {a : Nat} {v : Option Nat} {k : St → Option (Rt × St)} (hd : decode X.2.2.1 pc = .ok (.putfield ix, 3)) (L : FL X.2.1 ix ci j CC T N ty) (ht : (kTy ci)[j]? = some false) (hty : (∃ q, ty j = .object q) ∨ ∃ q, ty j = .array q) (hf : (T j).2.2.2 = false ∨ ((T j).2.2.2 = true ∧ X.2.2.2.2.2 = "<init>" ∧ (T j).1 = X.2.1)) (h : Snd E l X rv (pc + 3) lv (st) (k)) : Snd E l X rv (pc) lv (rf E.1 v :: .ref (E.1 + a) :: st) (pR (ci + 1) a j v k) :=
  ⟨mono_at h.1 (fun S => sK S a = ci + 1) (fun S => stR S a j v) (fun _ _ => Nat.le_refl _) (fun _ _ => Nat.le_refl _), fun p e R s m args below meth c C n0 m0 S H locs ls r S' hP hS hl h1 h2 hk hc hs => by
    unfold pR at hk
    split at hk
    · rename_i hK
      refine put_core (S' := stR S a j v) C hP hS hd L hf (by rcases hty with ⟨q, hq⟩ | ⟨q, hq⟩ <;> rw [hq] <;> cases v <;> rfl) (by rcases hty with ⟨q, hq⟩ | ⟨q, hq⟩ <;> rw [hq] <;> cases v <;> rfl) hK rfl (fun _ => rfl) (fun q hq => ⟨rfl, fun i => ?_, fun i => ?_, fun i => rfl⟩) (fv_stR ht v) (fun H1 locs1 hP1 hS1 => h.2 p e R s m args below meth c C n0 m0 (stR S a j v) H1 locs1 ls r S' hP1 hS1 hl h1 h2 hk hc hs)
      · simp [sI_stI, sI_stR, hq]
      · simp [sR_stI, sR_stR, hq]
    · cases hk⟩
theorem sn_iald {Rt : Type} {E : Ev} {l : Launch} {X : Mx} {rv : Rt → Option Value} {pc : Nat} {lv : List (Nat × Value)} {st : List Value} {a : Nat} {i : Int32} {k : Int32 → St → Option (Rt × St)} (hd : decode X.2.2.1 pc = .ok (.iaload, 1)) (h : ∀ v, Snd E l X rv (pc + 1) lv (.int v :: st) (k v)) : Snd E l X rv (pc) lv (.int i :: .ref (E.1 + a) :: st) (aI 15 a i k) :=
  ⟨mono_get (fun v => (h v).1) (fun S => sK S a = 15 ∧ 0 ≤ i ∧ i.toNatClampNeg < sL S a) (fun S => sI S a i.toNatClampNeg) (fun S => S) (fun _ _ => Nat.le_refl _) (fun _ _ => Nat.le_refl _), fun p e R s m args below meth c C n0 m0 S H locs ls r S' hP hS hl h1 h2 hk hc hs => by
    unfold aI at hk
    split at hk
    · rename_i hK
      exact va_iald C.1 C.2.1 C.2.2.2.2.2.1.1 hP.1 a 1 (by rw [PW_get (hP.lt hK.1), PF_int (t := 1) hK.1 (by decide)]) rfl (inb_vp hK.2.1 hK.2.2) hd ((h _).2 p e R s m args below meth c C n0 m0 S H locs ls r S' hP hS hl h1 h2 hk hc hs)
    · cases hk⟩
theorem sn_bald {Rt : Type} {E : Ev} {l : Launch} {X : Mx} {rv : Rt → Option Value} {pc : Nat} {lv : List (Nat × Value)} {st : List Value} {a : Nat} {i : Int32} {k : Int32 → St → Option (Rt × St)} (hd : decode X.2.2.1 pc = .ok (.baload, 1)) (h : ∀ v, Snd E l X rv (pc + 1) lv (.int v :: st) (k v)) : Snd E l X rv (pc) lv (.int i :: .ref (E.1 + a) :: st) (aI 14 a i k) :=
  ⟨mono_get (fun v => (h v).1) (fun S => sK S a = 14 ∧ 0 ≤ i ∧ i.toNatClampNeg < sL S a) (fun S => sI S a i.toNatClampNeg) (fun S => S) (fun _ _ => Nat.le_refl _) (fun _ _ => Nat.le_refl _), fun p e R s m args below meth c C n0 m0 S H locs ls r S' hP hS hl h1 h2 hk hc hs => by
    unfold aI at hk
    split at hk
    · rename_i hK
      exact va_bald C.1 C.2.1 C.2.2.2.2.2.1.1 hP.1 a 0 (by rw [PW_get (hP.lt hK.1), PF_int (t := 0) hK.1 (by decide)]) rfl (inb_vp hK.2.1 hK.2.2) hd ((h _).2 p e R s m args below meth c C n0 m0 S H locs ls r S' hP hS hl h1 h2 hk hc hs)
    · cases hk⟩
theorem sn_zald {Rt : Type} {E : Ev} {l : Launch} {X : Mx} {rv : Rt → Option Value} {pc : Nat} {lv : List (Nat × Value)} {st : List Value} {a : Nat} {i : Int32} {k : Int32 → St → Option (Rt × St)} (hd : decode X.2.2.1 pc = .ok (.baload, 1)) (h : ∀ v, Snd E l X rv (pc + 1) lv (.int v :: st) (k v)) : Snd E l X rv (pc) lv (.int i :: .ref (E.1 + a) :: st) (aI 17 a i k) :=
  ⟨mono_get (fun v => (h v).1) (fun S => sK S a = 17 ∧ 0 ≤ i ∧ i.toNatClampNeg < sL S a) (fun S => sI S a i.toNatClampNeg) (fun S => S) (fun _ _ => Nat.le_refl _) (fun _ _ => Nat.le_refl _), fun p e R s m args below meth c C n0 m0 S H locs ls r S' hP hS hl h1 h2 hk hc hs => by
    unfold aI at hk
    split at hk
    · rename_i hK
      exact va_zald C.1 C.2.1 C.2.2.2.2.2.1.1 hP.1 a 3 (by rw [PW_get (hP.lt hK.1), PF_int (t := 3) hK.1 (by decide)]) rfl (inb_vp hK.2.1 hK.2.2) hd ((h _).2 p e R s m args below meth c C n0 m0 S H locs ls r S' hP hS hl h1 h2 hk hc hs)
    · cases hk⟩
theorem sn_lald {Rt : Type} {E : Ev} {l : Launch} {X : Mx} {rv : Rt → Option Value} {pc : Nat} {lv : List (Nat × Value)} {st : List Value} {a : Nat} {i : Int32} {k : Int64 → St → Option (Rt × St)} (hd : decode X.2.2.1 pc = .ok (.laload, 1)) (h : ∀ v, Snd E l X rv (pc + 1) lv (.long v :: st) (k v)) : Snd E l X rv (pc) lv (.int i :: .ref (E.1 + a) :: st) (aJ a i k) :=
  ⟨mono_get (fun v => (h v).1) (fun S => sK S a = 16 ∧ 0 ≤ i ∧ i.toNatClampNeg < sL S a) (fun S => sJ S a i.toNatClampNeg) (fun S => S) (fun _ _ => Nat.le_refl _) (fun _ _ => Nat.le_refl _), fun p e R s m args below meth c C n0 m0 S H locs ls r S' hP hS hl h1 h2 hk hc hs => by
    unfold aJ at hk
    split at hk
    · rename_i hK
      exact va_lald C.1 C.2.1 C.2.2.2.2.2.1.1 hP.1 a 2 (by rw [PW_get (hP.lt hK.1), PF_long hK.1]) rfl (inb_vp hK.2.1 hK.2.2) hd ((h _).2 p e R s m args below meth c C n0 m0 S H locs ls r S' hP hS hl h1 h2 hk hc hs)
    · cases hk⟩
theorem sn_aald {Rt : Type} {E : Ev} {l : Launch} {X : Mx} {rv : Rt → Option Value} {pc : Nat} {lv : List (Nat × Value)} {st : List Value} {t a : Nat} {i : Int32} {CC : String} {k : Option Nat → St → Option (Rt × St)} (hd : decode X.2.2.1 pc = .ok (.aaload, 1)) (ht : 4 ≤ t) (hty : (tyE E)[t]? = some (E.2.2.1 t, .object CC)) (h : ∀ v, Snd E l X rv (pc + 1) lv (rf E.1 v :: st) (k v)) : Snd E l X rv (pc) lv (.int i :: .ref (E.1 + a) :: st) (aR (t + 14) a i k) :=
  ⟨mono_get (fun v => (h v).1) (fun S => sK S a = t + 14 ∧ 0 ≤ i ∧ i.toNatClampNeg < sL S a) (fun S => sR S a i.toNatClampNeg) (fun S => S) (fun _ _ => Nat.le_refl _) (fun _ _ => Nat.le_refl _), fun p e R s m args below meth c C n0 m0 S H locs ls r S' hP hS hl h1 h2 hk hc hs => by
    unfold aR at hk
    split at hk
    · rename_i hK
      refine va_aldq C.1 C.2.1 C.2.2.2.2.2.1.1 hP.1 a t (by rw [PW_get (hP.lt hK.1), PF_ref hK.1 ht]) hty (inb_vp hK.2.1 hK.2.2) hd ?_
      rw [rf_eq]
      exact (h _).2 p e R s m args below meth c C n0 m0 S H locs ls r S' hP hS hl h1 h2 hk hc hs
    · cases hk⟩
theorem sn_alen {Rt : Type} {E : Ev} {l : Launch} {X : Mx} {rv : Rt → Option Value} {pc : Nat} {lv : List (Nat × Value)} {st : List Value} {t a : Nat} {ty : FieldType} {k : Int32 → St → Option (Rt × St)} (hd : decode X.2.2.1 pc = .ok (.arraylength, 1)) (hty : (tyE E)[t]? = some (E.2.2.1 t, ty)) (h : ∀ v, Snd E l X rv (pc + 1) lv (.int v :: st) (k v)) : Snd E l X rv (pc) lv (.ref (E.1 + a) :: st) (aL (t + 14) a k) :=
  ⟨mono_get (fun v => (h v).1) (fun S => sK S a = t + 14) (fun S => Int32.ofNat (sL S a)) (fun S => S) (fun _ _ => Nat.le_refl _) (fun _ _ => Nat.le_refl _), fun p e R s m args below meth c C n0 m0 S H locs ls r S' hP hS hl h1 h2 hk hc hs => by
    unfold aL at hk
    split at hk
    · rename_i hK
      have hx : ∃ x : vp_A, PF E.1 E.2.2.1 S a = .inl (E.2.2.1 t, x) ∧ x.1 = sL S a := by
        by_cases q : 4 ≤ t
        · exact ⟨_, PF_ref hK q, rfl⟩
        · rcases (show t = 0 ∨ t = 1 ∨ t = 2 ∨ t = 3 by omega) with rfl | rfl | rfl | rfl
          · exact ⟨_, PF_int (t := 0) hK (by decide), rfl⟩
          · exact ⟨_, PF_int (t := 1) hK (by decide), rfl⟩
          · exact ⟨_, PF_long hK, rfl⟩
          · exact ⟨_, PF_int (t := 3) hK (by decide), rfl⟩
      obtain ⟨x, hx1, hx2⟩ := hx
      exact va_alen C.1 C.2.1 C.2.2.2.2.2.1.1 hP.1 a t (by rw [PW_get (hP.lt hK), hx1]) hty (by rw [hx2]) hd ((h _).2 p e R s m args below meth c C n0 m0 S H locs ls r S' hP hS hl h1 h2 hk hc hs)
    · cases hk⟩
theorem sn_iast {Rt : Type} {E : Ev} {l : Launch} {X : Mx} {rv : Rt → Option Value} {pc : Nat} {lv : List (Nat × Value)} {st : List Value} {a : Nat} {i : Int32} {v : Int32} {k : St → Option (Rt × St)} (hd : decode X.2.2.1 pc = .ok (.iastore, 1)) (h : Snd E l X rv (pc + 1) lv (st) (k)) : Snd E l X rv (pc) lv (.int v :: .int i :: .ref (E.1 + a) :: st) (wI a i v k) :=
  ⟨mono_at h.1 (fun S => sK S a = 15 ∧ 0 ≤ i ∧ i.toNatClampNeg < sL S a) (fun S => stI S a i.toNatClampNeg v) (fun _ _ => Nat.le_refl _) (fun _ _ => Nat.le_refl _), fun p e R s m args below meth c C n0 m0 S H locs ls r S' hP hS hl h1 h2 hk hc hs => by
    unfold wI at hk
    split at hk
    · rename_i hK
      have ha : (PW E.1 E.2.2.1 S)[a]? = some (E.1 + a, PF E.1 E.2.2.1 S a) := PW_get (hP.lt hK.1)
      have hat := hP.1 a _ ha
      rw [PF_int (t := 1) hK.1 (by decide)] at hat
      refine W.iast C.1 C.2.1 hat ((C.2.2.2.2.2.1.1.2 1 _ rfl).1 _ _) (fun q => by cases q) (by show ¬ (i < 0 ∨ (arrV _ _ _).slots.size ≤ _); rw [arrV_size]; exact inb_vp hK.2.1 hK.2.2) rfl rfl hd fun H1 e1 z oq => ?_
      refine h.2 p e R s m args below meth c C n0 m0 (stI S a i.toNatClampNeg v) H1 _ ls r S' (hP.upd (a := a) rfl (fun _ => rfl) (fun q hq => ⟨rfl, fun j => ?_, fun j => rfl, fun j => ?_⟩) (fun j q => by rw [hK.1] at q; cases q) z oq ?_) (hS.put z oq (Nat.le_add_right _ _)) hl h1 h2 hk hc hs
      · simp [sI_stI, sI_stJ, hq]
      · simp [sJ_stI, sJ_stJ, hq]
      · rw [PF_int (t := 1) (S := stI S a i.toNatClampNeg v) (show sK (stI S a i.toNatClampNeg v) a = _ from hK.1) (by decide)]
        have e1' : H1[E.1 + a]? = some ((arrV (E.2.2.1 1) (sL S a) (fun j => .int (sI S a j))).setSlot i.toNatClampNeg (.int v)) := e1
        show H1[E.1 + a]? = some (vp_cell _ _)
        rw [vp_cell_i, e1', arrV_store]
        refine congrArg (fun f => some (arrV (E.2.2.1 1) (sL S a) f)) (funext fun j => ?_)
        by_cases hj : j = i.toNatClampNeg
        · subst hj
          simp [updV, sI_stI, sJ_stJ]
        · simp [updV, sI_stI, sJ_stJ, hj]
    · cases hk⟩
theorem byte_fits (v : Int32) : fits .byte (.int v.toInt8.toInt32) = true := by
  have h1 : (-128 : Int) ≤ v.toInt8.toInt := Int8.le_toInt _
  have h2 : v.toInt8.toInt ≤ 127 := Int8.toInt_le _
  simp only [fits, Bool.and_eq_true, decide_eq_true_eq, Int32.le_iff_toInt_le, Int8.toInt_toInt32]
  exact ⟨h1, h2⟩
theorem sn_bast {Rt : Type} {E : Ev} {l : Launch} {X : Mx} {rv : Rt → Option Value} {pc : Nat} {lv : List (Nat × Value)} {st : List Value} {a : Nat} {i : Int32} {v : Int32} {k : St → Option (Rt × St)} (hd : decode X.2.2.1 pc = .ok (.bastore, 1)) (h : Snd E l X rv (pc + 1) lv (st) (k)) : Snd E l X rv (pc) lv (.int v :: .int i :: .ref (E.1 + a) :: st) (wB a i v k) :=
  ⟨mono_at h.1 (fun S => sK S a = 14 ∧ 0 ≤ i ∧ i.toNatClampNeg < sL S a) (fun S => stI S a i.toNatClampNeg v.toInt8.toInt32) (fun _ _ => Nat.le_refl _) (fun _ _ => Nat.le_refl _), fun p e R s m args below meth c C n0 m0 S H locs ls r S' hP hS hl h1 h2 hk hc hs => by
    unfold wB at hk
    split at hk
    · rename_i hK
      have ha : (PW E.1 E.2.2.1 S)[a]? = some (E.1 + a, PF E.1 E.2.2.1 S a) := PW_get (hP.lt hK.1)
      have hat := hP.1 a _ ha
      rw [PF_int (t := 0) hK.1 (by decide)] at hat
      refine W.bast C.1 C.2.1 hat ((C.2.2.2.2.2.1.1.2 0 _ rfl).1 _ _) (fun q => by cases q) (by show ¬ (i < 0 ∨ (arrV _ _ _).slots.size ≤ _); rw [arrV_size]; exact inb_vp hK.2.1 hK.2.2) rfl rfl hd fun H1 e1 z oq => ?_
      refine h.2 p e R s m args below meth c C n0 m0 (stI S a i.toNatClampNeg v.toInt8.toInt32) H1 _ ls r S' (hP.upd (a := a) rfl (fun _ => rfl) (fun q hq => ⟨rfl, fun j => ?_, fun j => rfl, fun j => ?_⟩) (fun j q => by
        rw [sI_stI]
        split
        · exact byte_fits v
        · exact hP.2.2.2 a j q) z oq ?_) (hS.put z oq (Nat.le_add_right _ _)) hl h1 h2 hk hc hs
      · simp [sI_stI, sI_stJ, hq]
      · simp [sJ_stI, sJ_stJ, hq]
      · rw [PF_int (t := 0) (S := stI S a i.toNatClampNeg v.toInt8.toInt32) (show sK (stI S a i.toNatClampNeg v.toInt8.toInt32) a = _ from hK.1) (by decide)]
        have e1' : H1[E.1 + a]? = some ((arrV (E.2.2.1 0) (sL S a) (fun j => .int (sI S a j))).setSlot i.toNatClampNeg (.int v.toInt8.toInt32)) := e1
        show H1[E.1 + a]? = some (vp_cell _ _)
        rw [vp_cell_i, e1', arrV_store]
        refine congrArg (fun f => some (arrV (E.2.2.1 0) (sL S a) f)) (funext fun j => ?_)
        by_cases hj : j = i.toNatClampNeg
        · subst hj
          simp [updV, sI_stI, sJ_stJ]
          try rfl
        · simp [updV, sI_stI, sJ_stJ, hj]
    · cases hk⟩
theorem sn_zast {Rt : Type} {E : Ev} {l : Launch} {X : Mx} {rv : Rt → Option Value} {pc : Nat} {lv : List (Nat × Value)} {st : List Value} {a : Nat} {i : Int32} {v : Int32} {k : St → Option (Rt × St)} (hd : decode X.2.2.1 pc = .ok (.bastore, 1)) (h : Snd E l X rv (pc + 1) lv (st) (k)) : Snd E l X rv (pc) lv (.int v :: .int i :: .ref (E.1 + a) :: st) (wZ a i v k) :=
  ⟨mono_at h.1 (fun S => sK S a = 17 ∧ 0 ≤ i ∧ i.toNatClampNeg < sL S a) (fun S => stI S a i.toNatClampNeg (v &&& 1)) (fun _ _ => Nat.le_refl _) (fun _ _ => Nat.le_refl _), fun p e R s m args below meth c C n0 m0 S H locs ls r S' hP hS hl h1 h2 hk hc hs => by
    unfold wZ at hk
    split at hk
    · rename_i hK
      have ha : (PW E.1 E.2.2.1 S)[a]? = some (E.1 + a, PF E.1 E.2.2.1 S a) := PW_get (hP.lt hK.1)
      have hat := hP.1 a _ ha
      rw [PF_int (t := 3) hK.1 (by decide)] at hat
      refine W.zast C.1 C.2.1 hat ((C.2.2.2.2.2.1.1.2 3 _ rfl).1 _ _) (fun q => by cases q) (by show ¬ (i < 0 ∨ (arrV _ _ _).slots.size ≤ _); rw [arrV_size]; exact inb_vp hK.2.1 hK.2.2) rfl rfl hd fun H1 e1 z oq => ?_
      refine h.2 p e R s m args below meth c C n0 m0 (stI S a i.toNatClampNeg (v &&& 1)) H1 _ ls r S' (hP.upd (a := a) rfl (fun _ => rfl) (fun q hq => ⟨rfl, fun j => ?_, fun j => rfl, fun j => ?_⟩) (fun j q => by rw [hK.1] at q; cases q) z oq ?_) (hS.put z oq (Nat.le_add_right _ _)) hl h1 h2 hk hc hs
      · simp [sI_stI, sI_stJ, hq]
      · simp [sJ_stI, sJ_stJ, hq]
      · rw [PF_int (t := 3) (S := stI S a i.toNatClampNeg (v &&& 1)) (show sK (stI S a i.toNatClampNeg (v &&& 1)) a = _ from hK.1) (by decide)]
        have e1' : H1[E.1 + a]? = some ((arrV (E.2.2.1 3) (sL S a) (fun j => .int (sI S a j))).setSlot i.toNatClampNeg (.int (v &&& 1))) := e1
        show H1[E.1 + a]? = some (vp_cell _ _)
        rw [vp_cell_i, e1', arrV_store]
        refine congrArg (fun f => some (arrV (E.2.2.1 3) (sL S a) f)) (funext fun j => ?_)
        by_cases hj : j = i.toNatClampNeg
        · subst hj
          simp [updV, sI_stI, sJ_stJ]
          try rfl
        · simp [updV, sI_stI, sJ_stJ, hj]
    · cases hk⟩
theorem sn_last {Rt : Type} {E : Ev} {l : Launch} {X : Mx} {rv : Rt → Option Value} {pc : Nat} {lv : List (Nat × Value)} {st : List Value} {a : Nat} {i : Int32} {v : Int64} {k : St → Option (Rt × St)} (hd : decode X.2.2.1 pc = .ok (.lastore, 1)) (h : Snd E l X rv (pc + 1) lv (st) (k)) : Snd E l X rv (pc) lv (.long v :: .int i :: .ref (E.1 + a) :: st) (wJ a i v k) :=
  ⟨mono_at h.1 (fun S => sK S a = 16 ∧ 0 ≤ i ∧ i.toNatClampNeg < sL S a) (fun S => stJ S a i.toNatClampNeg v) (fun _ _ => Nat.le_refl _) (fun _ _ => Nat.le_refl _), fun p e R s m args below meth c C n0 m0 S H locs ls r S' hP hS hl h1 h2 hk hc hs => by
    unfold wJ at hk
    split at hk
    · rename_i hK
      have ha : (PW E.1 E.2.2.1 S)[a]? = some (E.1 + a, PF E.1 E.2.2.1 S a) := PW_get (hP.lt hK.1)
      have hat := hP.1 a _ ha
      rw [PF_long hK.1] at hat
      refine W.last C.1 C.2.1 hat ((C.2.2.2.2.2.1.1.2 2 _ rfl).1 _ _) (fun q => by cases q) (by show ¬ (i < 0 ∨ (arrV _ _ _).slots.size ≤ _); rw [arrV_size]; exact inb_vp hK.2.1 hK.2.2) rfl rfl hd fun H1 e1 z oq => ?_
      refine h.2 p e R s m args below meth c C n0 m0 (stJ S a i.toNatClampNeg v) H1 _ ls r S' (hP.upd (a := a) rfl (fun _ => rfl) (fun q hq => ⟨rfl, fun j => ?_, fun j => rfl, fun j => ?_⟩) (fun j q => by rw [hK.1] at q; cases q) z oq ?_) (hS.put z oq (Nat.le_add_right _ _)) hl h1 h2 hk hc hs
      · simp [sI_stI, sI_stJ, hq]
      · simp [sJ_stI, sJ_stJ, hq]
      · rw [PF_long (S := stJ S a i.toNatClampNeg v) (show sK (stJ S a i.toNatClampNeg v) a = _ from hK.1)]
        have e1' : H1[E.1 + a]? = some ((arrV (E.2.2.1 2) (sL S a) (fun j => .long (sJ S a j))).setSlot i.toNatClampNeg (.long v)) := e1
        show H1[E.1 + a]? = some (vp_cell _ _)
        rw [vp_cell_l, e1', arrV_store]
        refine congrArg (fun f => some (arrV (E.2.2.1 2) (sL S a) f)) (funext fun j => ?_)
        by_cases hj : j = i.toNatClampNeg
        · subst hj
          simp [updV, sI_stI, sJ_stJ]
        · simp [updV, sI_stI, sJ_stJ, hj]
    · cases hk⟩
