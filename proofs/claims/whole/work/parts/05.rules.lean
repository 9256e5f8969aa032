-- combinators: what an instruction does to the pool
def bi (b : Bool) : Int32 := if b = true then 1 else 0
def rvI (r : Int32) : Option Value := some (.int r)
def rvJ (r : Int64) : Option Value := some (.long r)
def rvZ (r : Bool) : Option Value := some (.int (bi r))
def rvV (_ : Unit) : Option Value := none
def rvR (b : Nat) (r : Option Nat) : Option Value := some (rf b r)
def rt {Rt : Type} (r : Rt) : St → Option (Rt × St) := fun S => some (r, S)
def rtZ (v : Int32) : St → Option (Bool × St) := fun S => if v = 0 then some (false, S) else if v = 1 then some (true, S) else none
def no {Rt : Type} : St → Option (Rt × St) := fun _ => none
def br {Rt : Type} (c : Prop) [Decidable c] (k1 k2 : St → Option (Rt × St)) : St → Option (Rt × St) := fun S => if c then k1 S else k2 S
def dv {Rt : Type} (y : Int32) (k : St → Option (Rt × St)) : St → Option (Rt × St) := fun S => if y = 0 then none else k S
def dvJ {Rt : Type} (y : Int64) (k : St → Option (Rt × St)) : St → Option (Rt × St) := fun S => if y = 0 then none else k S
def nn {Rt : Type} (r : Option Nat) (k : Nat → St → Option (Rt × St)) : St → Option (Rt × St) := match r with
  | none => no
  | some a => k a
def on {Rt : Type} (r : Option Nat) (k1 : St → Option (Rt × St)) (k2 : Nat → St → Option (Rt × St)) : St → Option (Rt × St) := match r with
  | none => k1
  | some a => k2 a
def inb (i : Int32) (n : Nat) : Prop := 0 ≤ i ∧ i.toNatClampNeg < n
def gI {Rt : Type} (kd a j : Nat) (k : Int32 → St → Option (Rt × St)) : St → Option (Rt × St) := fun S => if sK S a = kd then k (sI S a j) S else none
def gR {Rt : Type} (kd a j : Nat) (k : Option Nat → St → Option (Rt × St)) : St → Option (Rt × St) := fun S => if sK S a = kd then k (sR S a j) S else none
def pI {Rt : Type} (kd a j : Nat) (v : Int32) (k : St → Option (Rt × St)) : St → Option (Rt × St) := fun S => if sK S a = kd then k (stI S a j v) else none
def pZ {Rt : Type} (kd a j : Nat) (v : Int32) (k : St → Option (Rt × St)) : St → Option (Rt × St) := fun S => if sK S a = kd ∧ (v = 0 ∨ v = 1) then k (stI S a j v) else none
def pR {Rt : Type} (kd a j : Nat) (v : Option Nat) (k : St → Option (Rt × St)) : St → Option (Rt × St) := fun S => if sK S a = kd then k (stR S a j v) else none
def aI {Rt : Type} (kd a : Nat) (i : Int32) (k : Int32 → St → Option (Rt × St)) : St → Option (Rt × St) := fun S => if sK S a = kd ∧ 0 ≤ i ∧ i.toNatClampNeg < sL S a then k (sI S a i.toNatClampNeg) S else none
def aJ {Rt : Type} (a : Nat) (i : Int32) (k : Int64 → St → Option (Rt × St)) : St → Option (Rt × St) := fun S => if sK S a = 16 ∧ 0 ≤ i ∧ i.toNatClampNeg < sL S a then k (sJ S a i.toNatClampNeg) S else none
def aR {Rt : Type} (kd a : Nat) (i : Int32) (k : Option Nat → St → Option (Rt × St)) : St → Option (Rt × St) := fun S => if sK S a = kd ∧ 0 ≤ i ∧ i.toNatClampNeg < sL S a then k (sR S a i.toNatClampNeg) S else none
def wI {Rt : Type} (a : Nat) (i v : Int32) (k : St → Option (Rt × St)) : St → Option (Rt × St) := fun S => if sK S a = 15 ∧ 0 ≤ i ∧ i.toNatClampNeg < sL S a then k (stI S a i.toNatClampNeg v) else none
def wB {Rt : Type} (a : Nat) (i v : Int32) (k : St → Option (Rt × St)) : St → Option (Rt × St) := fun S => if sK S a = 14 ∧ 0 ≤ i ∧ i.toNatClampNeg < sL S a then k (stI S a i.toNatClampNeg v.toInt8.toInt32) else none
def wZ {Rt : Type} (a : Nat) (i v : Int32) (k : St → Option (Rt × St)) : St → Option (Rt × St) := fun S => if sK S a = 17 ∧ 0 ≤ i ∧ i.toNatClampNeg < sL S a then k (stI S a i.toNatClampNeg (v &&& 1)) else none
def wJ {Rt : Type} (a : Nat) (i : Int32) (v : Int64) (k : St → Option (Rt × St)) : St → Option (Rt × St) := fun S => if sK S a = 16 ∧ 0 ≤ i ∧ i.toNatClampNeg < sL S a then k (stJ S a i.toNatClampNeg v) else none
/-- a reference of the kind ek, or null, into an array of the kind kd -/
def okR (S : St) (v : Option Nat) (ek : Nat) : Prop := match v with
  | none => True
  | some b => sK S b = ek
def wR {Rt : Type} (kd ek a : Nat) (i : Int32) (v : Option Nat) (k : St → Option (Rt × St)) : St → Option (Rt × St) := fun S => match v with
  | none => if sK S a = kd ∧ 0 ≤ i ∧ i.toNatClampNeg < sL S a then k (stR S a i.toNatClampNeg none) else none
  | some b => if sK S a = kd ∧ sK S b = ek ∧ 0 ≤ i ∧ i.toNatClampNeg < sL S a then k (stR S a i.toNatClampNeg (some b)) else none
def aL {Rt : Type} (kd a : Nat) (k : Int32 → St → Option (Rt × St)) : St → Option (Rt × St) := fun S => if sK S a = kd then k (Int32.ofNat (sL S a)) S else none
def nO {Rt : Type} (kd w : Nat) (k : Nat → St → Option (Rt × St)) : St → Option (Rt × St) := fun S => k (sn S) (stN S kd 0 w)
def nA {Rt : Type} (kd : Nat) (n : Int32) (k : Nat → St → Option (Rt × St)) : St → Option (Rt × St) := fun S => if 0 ≤ n ∧ n.toNatClampNeg ≤ 65536 then k (sn S) (stN S kd n.toNatClampNeg n.toNatClampNeg) else none
def cl {Rt Ru : Type} (f : St → Option (Ru × St)) (k : Ru → St → Option (Rt × St)) : St → Option (Rt × St) := fun S => match f S with
  | none => none
  | some (r, S1) => k r S1
def ck {Rt : Type} (kd a : Nat) (k : St → Option (Rt × St)) : St → Option (Rt × St) := fun S => if sK S a = kd then k S else none
/-- System.arraycopy of ints (kind 15) or bytes (14) -/
def cp {Rt : Type} (kd a : Nat) (i : Int32) (b : Nat) (j n : Int32) (k : St → Option (Rt × St)) : St → Option (Rt × St) := fun S => if sK S a = kd ∧ sK S b = kd ∧ 0 ≤ i ∧ 0 ≤ j ∧ 0 ≤ n ∧ i.toNatClampNeg + n.toNatClampNeg ≤ sL S a ∧ j.toNatClampNeg + n.toNatClampNeg ≤ sL S b then k (stA S b (va_cpy (sI S a) (sI S b) i.toNatClampNeg j.toNatClampNeg n.toNatClampNeg)) else none
/-- clone of an int array -/
def cn {Rt : Type} (a : Nat) (k : Nat → St → Option (Rt × St)) : St → Option (Rt × St) := fun S => if sK S a = 15 then k (sn S) (stA (stN S 15 (sL S a) (sL S a)) (sn S) (sI S a)) else none
-- Mono
theorem mono_no {Rt : Type} : Mono (no : St → Option (Rt × St)) := fun _ _ _ h => by cases h
theorem mono_rt {Rt : Type} (r : Rt) : Mono (rt r) := fun S r' S' h => by cases h; exact ⟨Nat.le_refl _, Nat.le_refl _⟩
theorem mono_rtZ (v : Int32) : Mono (rtZ v) := fun S r' S' h => by
  unfold rtZ at h
  split at h
  · cases h; exact ⟨Nat.le_refl _, Nat.le_refl _⟩
  · split at h
    · cases h; exact ⟨Nat.le_refl _, Nat.le_refl _⟩
    · cases h
theorem mono_at {Rt : Type} {k : St → Option (Rt × St)} (hk : Mono k) (c : St → Prop) [∀ S, Decidable (c S)] (g : St → St) (h1 : ∀ S, c S → sn S ≤ sn (g S)) (h2 : ∀ S, c S → sm S ≤ sm (g S)) : Mono (fun S => if c S then k (g S) else none) := by
  intro S r S' h
  by_cases hc : c S
  · simp only [if_pos hc] at h
    exact ⟨Nat.le_trans (h1 S hc) (hk _ _ _ h).1, Nat.le_trans (h2 S hc) (hk _ _ _ h).2⟩
  · simp only [if_neg hc] at h
    cases h
theorem mono_get {Rt : Type} {V : Type} {k : V → St → Option (Rt × St)} (hk : ∀ v, Mono (k v)) (c : St → Prop) [∀ S, Decidable (c S)] (v : St → V) (g : St → St) (h1 : ∀ S, c S → sn S ≤ sn (g S)) (h2 : ∀ S, c S → sm S ≤ sm (g S)) : Mono (fun S => if c S then k (v S) (g S) else none) := by
  intro S r S' h
  by_cases hc : c S
  · simp only [if_pos hc] at h
    exact ⟨Nat.le_trans (h1 S hc) (hk _ _ _ _ h).1, Nat.le_trans (h2 S hc) (hk _ _ _ _ h).2⟩
  · simp only [if_neg hc] at h
    cases h
theorem mono_cl {Rt Ru : Type} {f : St → Option (Ru × St)} {k : Ru → St → Option (Rt × St)} (hf : Mono f) (hk : ∀ r, Mono (k r)) : Mono (cl f k) := by
  intro S r S' h
  unfold cl at h
  cases hfS : f S with
  | none => rw [hfS] at h; cases h
  | some q =>
    rw [hfS] at h
    obtain ⟨u, S1⟩ := q
    exact ⟨Nat.le_trans (hf _ _ _ hfS).1 (hk _ _ _ _ h).1, Nat.le_trans (hf _ _ _ hfS).2 (hk _ _ _ _ h).2⟩
theorem mono_br {Rt : Type} {c : Prop} [Decidable c] {k1 k2 : St → Option (Rt × St)} (h1 : Mono k1) (h2 : Mono k2) : Mono (br c k1 k2) := by
  intro S r S' h
  unfold br at h
  split at h
  · exact h1 _ _ _ h
  · exact h2 _ _ _ h
theorem mono_dv {Rt : Type} {y : Int32} {k : St → Option (Rt × St)} (h1 : Mono k) : Mono (dv y k) := by
  intro S r S' h
  unfold dv at h
  split at h
  · cases h
  · exact h1 _ _ _ h
theorem mono_dvJ {Rt : Type} {y : Int64} {k : St → Option (Rt × St)} (h1 : Mono k) : Mono (dvJ y k) := by
  intro S r S' h
  unfold dvJ at h
  split at h
  · cases h
  · exact h1 _ _ _ h
theorem mono_ck {Rt : Type} {kd a : Nat} {k : St → Option (Rt × St)} (h1 : Mono k) : Mono (ck kd a k) := by
  intro S r S' h
  unfold ck at h
  split at h
  · exact h1 _ _ _ h
  · cases h
-- the heap behind a store, behind a making
theorem PH.lt {E : Ev} {S : St} {H : Heap} (h : PH E S H) {a kd : Nat} (ha : sK S a = kd + 1) : a < sn S := by
  rcases Nat.lt_or_ge a (sn S) with q | q
  · exact q
  · rw [h.2.2.1 a q] at ha; cases ha
theorem PH.upd {E : Ev} {S S' : St} {H H1 : Heap} {a : Nat} (h : PH E S H) (hn : sn S' = sn S) (hK : ∀ q, sK S' q = sK S q) (ho : ∀ q, q ≠ a → sL S' q = sL S q ∧ (∀ j, sI S' q j = sI S q j) ∧ (∀ j, sR S' q j = sR S q j) ∧ ∀ j, sJ S' q j = sJ S q j) (hb : ∀ j, sK S a = 14 → fits .byte (.int (sI S' a j)) = true)
    (z : H1.size = H.size) (oq : ∀ q : Nat, q ≠ E.1 + a → H1[q]? = H[q]?) (he : va_at E.2.1 vwCl (E.1 + a, PF E.1 E.2.2.1 S' a) H1) : PH E S' H1 := by
  refine ⟨fun k q hq => ?_, by rw [z, h.2.1, hn], fun b hb => by rw [hK]; exact h.2.2.1 b (by rw [← hn]; exact hb), fun b j hb1 => ?_⟩
  · obtain ⟨hl, rfl⟩ := PW_at hq
    by_cases hk : k = a
    · subst hk
      exact he
    · obtain ⟨o1, o2, o3, o4⟩ := ho k hk
      rw [PF_eq (hK k) o1 o2 o3 o4]
      exact (h.1 k _ (PW_get (by rw [← hn]; exact hl))).kept (oq _ (by show E.1 + k ≠ E.1 + a; omega))
  · by_cases hk : b = a
    · subst hk
      exact hb j (by rw [← hK]; exact hb1)
    · rw [(ho b hk).2.1 j]
      exact h.2.2.2 b j (by rw [← hK]; exact hb1)
theorem PH.new {E : Ev} {S S' : St} {H H1 : Heap} (h : PH E S H) (hn : sn S' = sn S + 1) (hK : ∀ q, q ≠ sn S → sK S' q = sK S q) (ho : ∀ q, q ≠ sn S → sL S' q = sL S q ∧ (∀ j, sI S' q j = sI S q j) ∧ (∀ j, sR S' q j = sR S q j) ∧ ∀ j, sJ S' q j = sJ S q j) (hb : ∀ j, sK S' (sn S) = 14 → fits .byte (.int (sI S' (sn S) j)) = true)
    (z : H1.size = H.size + 1) (oq : ∀ q : Nat, q < H.size → H1[q]? = H[q]?) (he : va_at E.2.1 vwCl (E.1 + sn S, PF E.1 E.2.2.1 S' (sn S)) H1) : PH E S' H1 := by
  refine ⟨fun k q hq => ?_, by rw [z, h.2.1, hn]; omega, fun b hb => ?_, fun b j hb1 => ?_⟩
  · obtain ⟨hl, rfl⟩ := PW_at hq
    by_cases hk : k = sn S
    · subst hk
      exact he
    · obtain ⟨o1, o2, o3, o4⟩ := ho k hk
      rw [PF_eq (hK k hk) o1 o2 o3 o4]
      exact (h.1 k _ (PW_get (by omega))).kept (oq _ (by show E.1 + k < H.size; rw [h.2.1]; omega))
  · have hb' : b ≠ sn S := by omega
    rw [hK b hb']
    exact h.2.2.1 b (by omega)
  · by_cases hk : b = sn S
    · subst hk
      exact hb j hb1
    · rw [(ho b hk).2.1 j]
      exact h.2.2.2 b j (by rw [← hK b hk]; exact hb1)
theorem va_S.new {A : Nat → Prop} {H0 H H1 : Heap} {locs : List Loc} (h : va_S A H0 H locs) (z : H1.size = H.size + 1) (oq : ∀ q : Nat, q < H.size → H1[q]? = H[q]?) : va_S A H0 H1 locs :=
  ⟨by rw [z]; exact Nat.le_trans h.1 (Nat.le_succ _), fun q h1 h2 => by rw [oq q (Nat.lt_of_lt_of_le h1 h.1)]; exact h.2.1 q h1 h2, h.2.2⟩
theorem inb_vp {i : Int32} {n : Nat} (h0 : 0 ≤ i) (h : i.toNatClampNeg < n) : vp_in i n := by
  rintro (q | q)
  · exact absurd q (Int32.not_lt.mpr h0)
  · omega

theorem Snd.go {Rt : Type} {E : Ev} {l : Launch} {X : Mx} {rv : Rt → Option Value} {pc : Nat} {lv : List (Nat × Value)} {st : List Value} {pc' : Nat} {lv' : List (Nat × Value)} {st' : List Value} {k : St → Option (Rt × St)} (h : Snd E l X rv pc' lv' st' k)
    (hw : ∀ (p : Program) (e : Env) (R : Room) (s : State) (m : MethodId) (args : Array Value) (below : List Frame) (meth : Method) (c : Code), MC E X p R s m args meth c → ∀ (H : Heap) (locs : List Loc) (ls : Array Slot) (cells slots : Nat) (Q : State → Prop), lv_has ls X.2.2.2.1 lv → (∀ ls' : Array Slot, lv_has ls' X.2.2.2.1 lv' → W p l e R s m args below meth c H locs cells slots Q (F0 m pc' ls' st')) → W p l e R s m args below meth c H locs cells slots Q (F0 m pc ls st)) : Snd E l X rv pc lv st k :=
  ⟨h.1, fun p e R s m args below meth c C n0 m0 S H locs ls r S' hP hS hl h1 h2 hk hc hs => hw p e R s m args below meth c C H locs ls _ _ _ hl (fun ls' hl' => h.2 p e R s m args below meth c C n0 m0 S H locs ls' r S' hP hS hl' h1 h2 hk hc hs)⟩
theorem sn_iconst {Rt : Type} {E : Ev} {l : Launch} {X : Mx} {rv : Rt → Option Value} {pc : Nat} {lv : List (Nat × Value)} {st : List Value} {k : St → Option (Rt × St)} {n : Int} {v : Int32} (hd : decode X.2.2.1 pc = .ok (.iconst n, 1)) (hv : Int32.ofInt n = v) (h : Snd E l X rv (pc + 1) lv (.int v :: st) (k)) : Snd E l X rv (pc) lv (st) (k) := h.go (fun p e R s m args below meth c C H locs ls _ _ _ hl kk => lv_iconst C.1 C.2.1 hd hv (kk ls hl))
theorem sn_bipush {Rt : Type} {E : Ev} {l : Launch} {X : Mx} {rv : Rt → Option Value} {pc : Nat} {lv : List (Nat × Value)} {st : List Value} {k : St → Option (Rt × St)} {n : Int} {v : Int32} (hd : decode X.2.2.1 pc = .ok (.bipush n, 2)) (hv : (Int8.ofInt n).toInt32 = v) (h : Snd E l X rv (pc + 2) lv (.int v :: st) (k)) : Snd E l X rv (pc) lv (st) (k) := h.go (fun p e R s m args below meth c C H locs ls _ _ _ hl kk => lv_bipush C.1 C.2.1 hd hv (kk ls hl))
theorem sn_sipush {Rt : Type} {E : Ev} {l : Launch} {X : Mx} {rv : Rt → Option Value} {pc : Nat} {lv : List (Nat × Value)} {st : List Value} {k : St → Option (Rt × St)} {n : Int} {v : Int32} (hd : decode X.2.2.1 pc = .ok (.sipush n, 3)) (hv : (Int16.ofInt n).toInt32 = v) (h : Snd E l X rv (pc + 3) lv (.int v :: st) (k)) : Snd E l X rv (pc) lv (st) (k) := h.go (fun p e R s m args below meth c C H locs ls _ _ _ hl kk => lv_sipush C.1 C.2.1 hd hv (kk ls hl))
theorem sn_ldc {Rt : Type} {E : Ev} {l : Launch} {X : Mx} {rv : Rt → Option Value} {pc : Nat} {lv : List (Nat × Value)} {st : List Value} {k : St → Option (Rt × St)} {ix : Nat} {v : Int32} (hd : decode X.2.2.1 pc = .ok (.ldc ix, 2)) (hv : Cond.constant X.2.1 ix v ∈ TB) (h : Snd E l X rv (pc + 2) lv (.int v :: st) (k)) : Snd E l X rv (pc) lv (st) (k) := h.go (fun p e R s m args below meth c C H locs ls _ _ _ hl kk => lv_ldc C.1 C.2.1 C.2.2.2.1 (C.2.2.2.2.1 _ hv) hd (kk ls hl))
theorem sn_ldcw {Rt : Type} {E : Ev} {l : Launch} {X : Mx} {rv : Rt → Option Value} {pc : Nat} {lv : List (Nat × Value)} {st : List Value} {k : St → Option (Rt × St)} {ix : Nat} {v : Int32} (hd : decode X.2.2.1 pc = .ok (.ldc_w ix, 3)) (hv : Cond.constant X.2.1 ix v ∈ TB) (h : Snd E l X rv (pc + 3) lv (.int v :: st) (k)) : Snd E l X rv (pc) lv (st) (k) := h.go (fun p e R s m args below meth c C H locs ls _ _ _ hl kk => lv_ldcw C.1 C.2.1 C.2.2.2.1 (C.2.2.2.2.1 _ hv) hd (kk ls hl))
theorem sn_ldc2 {Rt : Type} {E : Ev} {l : Launch} {X : Mx} {rv : Rt → Option Value} {pc : Nat} {lv : List (Nat × Value)} {st : List Value} {k : St → Option (Rt × St)} {ix : Nat} {v : Int64} (hd : decode X.2.2.1 pc = .ok (.ldc2_w ix, 3)) (hv : Cond.constantLong X.2.1 ix v ∈ TB) (h : Snd E l X rv (pc + 3) lv (.long v :: st) (k)) : Snd E l X rv (pc) lv (st) (k) := h.go (fun p e R s m args below meth c C H locs ls _ _ _ hl kk => lv_ldc2 C.1 C.2.1 C.2.2.2.1 (C.2.2.2.2.1 _ hv) hd (kk ls hl))
theorem sn_lconst {Rt : Type} {E : Ev} {l : Launch} {X : Mx} {rv : Rt → Option Value} {pc : Nat} {lv : List (Nat × Value)} {st : List Value} {k : St → Option (Rt × St)} {n : Fin 2} {v : Int64} (hd : decode X.2.2.1 pc = .ok (.lconst n, 1)) (hv : Int64.ofNat (n : Nat) = v) (h : Snd E l X rv (pc + 1) lv (.long v :: st) (k)) : Snd E l X rv (pc) lv (st) (k) := h.go (fun p e R s m args below meth c C H locs ls _ _ _ hl kk => lv_lconst C.1 C.2.1 hd hv (kk ls hl))
theorem sn_null {Rt : Type} {E : Ev} {l : Launch} {X : Mx} {rv : Rt → Option Value} {pc : Nat} {lv : List (Nat × Value)} {st : List Value} {k : St → Option (Rt × St)}  (hd : decode X.2.2.1 pc = .ok (.aconst_null, 1)) (h : Snd E l X rv (pc + 1) lv (rf E.1 none :: st) (k)) : Snd E l X rv (pc) lv (st) (k) := h.go (fun p e R s m args below meth c C H locs ls _ _ _ hl kk => lv_null C.1 C.2.1 hd (kk ls hl))
theorem sn_iload_n {Rt : Type} {E : Ev} {l : Launch} {X : Mx} {rv : Rt → Option Value} {pc : Nat} {lv : List (Nat × Value)} {st : List Value} {k : St → Option (Rt × St)} {q : Fin 4} {i j : Nat} {x : Int32} (hd : decode X.2.2.1 pc = .ok (.iload_n q, 1)) (hi : (q : Nat) = i) (hj : lv[j]? = some (i, .int x)) (h : Snd E l X rv (pc + 1) lv (.int x :: st) (k)) : Snd E l X rv (pc) lv (st) (k) := h.go (fun p e R s m args below meth c C H locs ls _ _ _ hl kk => lv_iload_n C.1 C.2.1 hd hi (lv_at hl j hj) (kk ls hl))
theorem sn_lload_n {Rt : Type} {E : Ev} {l : Launch} {X : Mx} {rv : Rt → Option Value} {pc : Nat} {lv : List (Nat × Value)} {st : List Value} {k : St → Option (Rt × St)} {q : Fin 4} {i j : Nat} {x : Int64} (hd : decode X.2.2.1 pc = .ok (.lload_n q, 1)) (hi : (q : Nat) = i) (hj : lv[j]? = some (i, .long x)) (h : Snd E l X rv (pc + 1) lv (.long x :: st) (k)) : Snd E l X rv (pc) lv (st) (k) := h.go (fun p e R s m args below meth c C H locs ls _ _ _ hl kk => lv_lload_n C.1 C.2.1 hd hi (lv_at hl j hj) (kk ls hl))
theorem sn_aload_n {Rt : Type} {E : Ev} {l : Launch} {X : Mx} {rv : Rt → Option Value} {pc : Nat} {lv : List (Nat × Value)} {st : List Value} {k : St → Option (Rt × St)} {q : Fin 4} {i j x : Nat} (hd : decode X.2.2.1 pc = .ok (.aload_n q, 1)) (hi : (q : Nat) = i) (hj : lv[j]? = some (i, .ref x)) (h : Snd E l X rv (pc + 1) lv (.ref x :: st) (k)) : Snd E l X rv (pc) lv (st) (k) := h.go (fun p e R s m args below meth c C H locs ls _ _ _ hl kk => lv_aload_n C.1 C.2.1 hd hi (lv_at hl j hj) (kk ls hl))
theorem sn_aloadR_n {Rt : Type} {E : Ev} {l : Launch} {X : Mx} {rv : Rt → Option Value} {pc : Nat} {lv : List (Nat × Value)} {st : List Value} {k : St → Option (Rt × St)} {q : Fin 4} {i j : Nat} {r : Option Nat} (hd : decode X.2.2.1 pc = .ok (.aload_n q, 1)) (hi : (q : Nat) = i) (hj : lv[j]? = some (i, rf E.1 r)) (h : Snd E l X rv (pc + 1) lv (rf E.1 r :: st) (k)) : Snd E l X rv (pc) lv (st) (k) := h.go (fun p e R s m args below meth c C H locs ls _ _ _ hl kk => by cases r with
    | none => exact lv_aload_nN C.1 C.2.1 hd hi (lv_at hl j hj) (kk ls hl)
    | some x => exact lv_aload_n C.1 C.2.1 hd hi (lv_at hl j hj) (kk ls hl))
theorem sn_istore_n {Rt : Type} {E : Ev} {l : Launch} {X : Mx} {rv : Rt → Option Value} {pc : Nat} {lv : List (Nat × Value)} {st : List Value} {k : St → Option (Rt × St)} {q : Fin 4} {i : Nat} {x : Int32} {lv' : List (Nat × Value)} (hd : decode X.2.2.1 pc = .ok (.istore_n q, 1)) (hi : (q : Nat) = i) (hn : i < X.2.2.2.1) (hl : (i, Value.int x) :: lv.filter (fun q => !(q.1 == i) && !(q.1 + 1 == i && q.2.category == 2)) = lv') (h : Snd E l X rv (pc + 1) lv' (st) (k)) : Snd E l X rv (pc) lv (.int x :: st) (k) := h.go (fun p e R s m args below meth c C H locs ls _ _ _ hls kk => lv_istore_n C.1 C.2.1 hd hi hls hn hl kk)
theorem sn_lstore_n {Rt : Type} {E : Ev} {l : Launch} {X : Mx} {rv : Rt → Option Value} {pc : Nat} {lv : List (Nat × Value)} {st : List Value} {k : St → Option (Rt × St)} {q : Fin 4} {i : Nat} {x : Int64} {lv' : List (Nat × Value)} (hd : decode X.2.2.1 pc = .ok (.lstore_n q, 1)) (hi : (q : Nat) = i) (hn : i + 1 < X.2.2.2.1) (hl : (i, Value.long x) :: lv.filter (fun q => !(q.1 == i) && (!(q.1 == i + 1) && !(q.1 + 1 == i && q.2.category == 2))) = lv') (h : Snd E l X rv (pc + 1) lv' (st) (k)) : Snd E l X rv (pc) lv (.long x :: st) (k) := h.go (fun p e R s m args below meth c C H locs ls _ _ _ hls kk => lv_lstore_n C.1 C.2.1 hd hi hls hn hl kk)
theorem sn_astore_n {Rt : Type} {E : Ev} {l : Launch} {X : Mx} {rv : Rt → Option Value} {pc : Nat} {lv : List (Nat × Value)} {st : List Value} {k : St → Option (Rt × St)} {q : Fin 4} {i x : Nat} {lv' : List (Nat × Value)} (hd : decode X.2.2.1 pc = .ok (.astore_n q, 1)) (hi : (q : Nat) = i) (hn : i < X.2.2.2.1) (hl : (i, Value.ref x) :: lv.filter (fun q => !(q.1 == i) && !(q.1 + 1 == i && q.2.category == 2)) = lv') (h : Snd E l X rv (pc + 1) lv' (st) (k)) : Snd E l X rv (pc) lv (.ref x :: st) (k) := h.go (fun p e R s m args below meth c C H locs ls _ _ _ hls kk => lv_astore_n C.1 C.2.1 hd hi hls hn hl kk)
theorem sn_astoreR_n {Rt : Type} {E : Ev} {l : Launch} {X : Mx} {rv : Rt → Option Value} {pc : Nat} {lv : List (Nat × Value)} {st : List Value} {k : St → Option (Rt × St)} {q : Fin 4} {i : Nat} {r : Option Nat} {lv' : List (Nat × Value)} (hd : decode X.2.2.1 pc = .ok (.astore_n q, 1)) (hi : (q : Nat) = i) (hn : i < X.2.2.2.1) (hl : (i, rf E.1 r) :: lv.filter (fun q => !(q.1 == i) && !(q.1 + 1 == i && q.2.category == 2)) = lv') (h : Snd E l X rv (pc + 1) lv' (st) (k)) : Snd E l X rv (pc) lv (rf E.1 r :: st) (k) := h.go (fun p e R s m args below meth c C H locs ls _ _ _ hls kk => by cases r with
    | none => exact lv_astore_nN C.1 C.2.1 hd hi hls hn hl kk
    | some x => exact lv_astore_n C.1 C.2.1 hd hi hls hn hl kk)
theorem sn_iload {Rt : Type} {E : Ev} {l : Launch} {X : Mx} {rv : Rt → Option Value} {pc : Nat} {lv : List (Nat × Value)} {st : List Value} {k : St → Option (Rt × St)} {i j : Nat} {x : Int32} (hd : decode X.2.2.1 pc = .ok (.iload i, 2)) (hj : lv[j]? = some (i, .int x)) (h : Snd E l X rv (pc + 2) lv (.int x :: st) (k)) : Snd E l X rv (pc) lv (st) (k) := h.go (fun p e R s m args below meth c C H locs ls _ _ _ hl kk => lv_iload C.1 C.2.1 hd (lv_at hl j hj) (kk ls hl))
theorem sn_lload {Rt : Type} {E : Ev} {l : Launch} {X : Mx} {rv : Rt → Option Value} {pc : Nat} {lv : List (Nat × Value)} {st : List Value} {k : St → Option (Rt × St)} {i j : Nat} {x : Int64} (hd : decode X.2.2.1 pc = .ok (.lload i, 2)) (hj : lv[j]? = some (i, .long x)) (h : Snd E l X rv (pc + 2) lv (.long x :: st) (k)) : Snd E l X rv (pc) lv (st) (k) := h.go (fun p e R s m args below meth c C H locs ls _ _ _ hl kk => lv_lload C.1 C.2.1 hd (lv_at hl j hj) (kk ls hl))
theorem sn_aload {Rt : Type} {E : Ev} {l : Launch} {X : Mx} {rv : Rt → Option Value} {pc : Nat} {lv : List (Nat × Value)} {st : List Value} {k : St → Option (Rt × St)} {i j x : Nat} (hd : decode X.2.2.1 pc = .ok (.aload i, 2)) (hj : lv[j]? = some (i, .ref x)) (h : Snd E l X rv (pc + 2) lv (.ref x :: st) (k)) : Snd E l X rv (pc) lv (st) (k) := h.go (fun p e R s m args below meth c C H locs ls _ _ _ hl kk => lv_aload C.1 C.2.1 hd (lv_at hl j hj) (kk ls hl))
theorem sn_aloadR {Rt : Type} {E : Ev} {l : Launch} {X : Mx} {rv : Rt → Option Value} {pc : Nat} {lv : List (Nat × Value)} {st : List Value} {k : St → Option (Rt × St)} {i j : Nat} {r : Option Nat} (hd : decode X.2.2.1 pc = .ok (.aload i, 2)) (hj : lv[j]? = some (i, rf E.1 r)) (h : Snd E l X rv (pc + 2) lv (rf E.1 r :: st) (k)) : Snd E l X rv (pc) lv (st) (k) := h.go (fun p e R s m args below meth c C H locs ls _ _ _ hl kk => by cases r with
    | none => exact lv_aloadN C.1 C.2.1 hd (lv_at hl j hj) (kk ls hl)
    | some x => exact lv_aload C.1 C.2.1 hd (lv_at hl j hj) (kk ls hl))
theorem sn_istore {Rt : Type} {E : Ev} {l : Launch} {X : Mx} {rv : Rt → Option Value} {pc : Nat} {lv : List (Nat × Value)} {st : List Value} {k : St → Option (Rt × St)} {i : Nat} {x : Int32} {lv' : List (Nat × Value)} (hd : decode X.2.2.1 pc = .ok (.istore i, 2)) (hn : i < X.2.2.2.1) (hl : (i, Value.int x) :: lv.filter (fun q => !(q.1 == i) && !(q.1 + 1 == i && q.2.category == 2)) = lv') (h : Snd E l X rv (pc + 2) lv' (st) (k)) : Snd E l X rv (pc) lv (.int x :: st) (k) := h.go (fun p e R s m args below meth c C H locs ls _ _ _ hls kk => lv_istore C.1 C.2.1 hd hls hn hl kk)
theorem sn_lstore {Rt : Type} {E : Ev} {l : Launch} {X : Mx} {rv : Rt → Option Value} {pc : Nat} {lv : List (Nat × Value)} {st : List Value} {k : St → Option (Rt × St)} {i : Nat} {x : Int64} {lv' : List (Nat × Value)} (hd : decode X.2.2.1 pc = .ok (.lstore i, 2)) (hn : i + 1 < X.2.2.2.1) (hl : (i, Value.long x) :: lv.filter (fun q => !(q.1 == i) && (!(q.1 == i + 1) && !(q.1 + 1 == i && q.2.category == 2))) = lv') (h : Snd E l X rv (pc + 2) lv' (st) (k)) : Snd E l X rv (pc) lv (.long x :: st) (k) := h.go (fun p e R s m args below meth c C H locs ls _ _ _ hls kk => lv_lstore C.1 C.2.1 hd hls hn hl kk)
theorem sn_astore {Rt : Type} {E : Ev} {l : Launch} {X : Mx} {rv : Rt → Option Value} {pc : Nat} {lv : List (Nat × Value)} {st : List Value} {k : St → Option (Rt × St)} {i x : Nat} {lv' : List (Nat × Value)} (hd : decode X.2.2.1 pc = .ok (.astore i, 2)) (hn : i < X.2.2.2.1) (hl : (i, Value.ref x) :: lv.filter (fun q => !(q.1 == i) && !(q.1 + 1 == i && q.2.category == 2)) = lv') (h : Snd E l X rv (pc + 2) lv' (st) (k)) : Snd E l X rv (pc) lv (.ref x :: st) (k) := h.go (fun p e R s m args below meth c C H locs ls _ _ _ hls kk => lv_astore C.1 C.2.1 hd hls hn hl kk)
theorem sn_astoreR {Rt : Type} {E : Ev} {l : Launch} {X : Mx} {rv : Rt → Option Value} {pc : Nat} {lv : List (Nat × Value)} {st : List Value} {k : St → Option (Rt × St)} {i : Nat} {r : Option Nat} {lv' : List (Nat × Value)} (hd : decode X.2.2.1 pc = .ok (.astore i, 2)) (hn : i < X.2.2.2.1) (hl : (i, rf E.1 r) :: lv.filter (fun q => !(q.1 == i) && !(q.1 + 1 == i && q.2.category == 2)) = lv') (h : Snd E l X rv (pc + 2) lv' (st) (k)) : Snd E l X rv (pc) lv (rf E.1 r :: st) (k) := h.go (fun p e R s m args below meth c C H locs ls _ _ _ hls kk => by cases r with
    | none => exact lv_astoreN C.1 C.2.1 hd hls hn hl kk
    | some x => exact lv_astore C.1 C.2.1 hd hls hn hl kk)
theorem sn_iinc {Rt : Type} {E : Ev} {l : Launch} {X : Mx} {rv : Rt → Option Value} {pc : Nat} {lv : List (Nat × Value)} {st : List Value} {k : St → Option (Rt × St)} {i j : Nat} {n : Int} {x v : Int32} {lv' : List (Nat × Value)} (hd : decode X.2.2.1 pc = .ok (.iinc i n, 3)) (hj : lv[j]? = some (i, .int x)) (hv : x + Int32.ofInt n = v) (hn : i < X.2.2.2.1) (hl : (i, Value.int v) :: lv.filter (fun q => !(q.1 == i) && !(q.1 + 1 == i && q.2.category == 2)) = lv') (h : Snd E l X rv (pc + 3) lv' (st) (k)) : Snd E l X rv (pc) lv (st) (k) := h.go (fun p e R s m args below meth c C H locs ls _ _ _ hls kk => lv_iinc C.1 C.2.1 hd hls hj hv hn hl kk)
theorem sn_iadd {Rt : Type} {E : Ev} {l : Launch} {X : Mx} {rv : Rt → Option Value} {pc : Nat} {lv : List (Nat × Value)} {st : List Value} {k : St → Option (Rt × St)} {x y : Int32} (hd : decode X.2.2.1 pc = .ok (.iadd, 1)) (h : Snd E l X rv (pc + 1) lv (.int (x + y) :: st) (k)) : Snd E l X rv (pc) lv (.int y :: .int x :: st) (k) := h.go (fun p e R s m args below meth c C H locs ls _ _ _ hl kk => lv_iadd C.1 C.2.1 hd (kk ls hl))
theorem sn_isub {Rt : Type} {E : Ev} {l : Launch} {X : Mx} {rv : Rt → Option Value} {pc : Nat} {lv : List (Nat × Value)} {st : List Value} {k : St → Option (Rt × St)} {x y : Int32} (hd : decode X.2.2.1 pc = .ok (.isub, 1)) (h : Snd E l X rv (pc + 1) lv (.int (x - y) :: st) (k)) : Snd E l X rv (pc) lv (.int y :: .int x :: st) (k) := h.go (fun p e R s m args below meth c C H locs ls _ _ _ hl kk => lv_isub C.1 C.2.1 hd (kk ls hl))
theorem sn_imul {Rt : Type} {E : Ev} {l : Launch} {X : Mx} {rv : Rt → Option Value} {pc : Nat} {lv : List (Nat × Value)} {st : List Value} {k : St → Option (Rt × St)} {x y : Int32} (hd : decode X.2.2.1 pc = .ok (.imul, 1)) (h : Snd E l X rv (pc + 1) lv (.int (x * y) :: st) (k)) : Snd E l X rv (pc) lv (.int y :: .int x :: st) (k) := h.go (fun p e R s m args below meth c C H locs ls _ _ _ hl kk => lv_imul C.1 C.2.1 hd (kk ls hl))
theorem sn_iand {Rt : Type} {E : Ev} {l : Launch} {X : Mx} {rv : Rt → Option Value} {pc : Nat} {lv : List (Nat × Value)} {st : List Value} {k : St → Option (Rt × St)} {x y : Int32} (hd : decode X.2.2.1 pc = .ok (.iand, 1)) (h : Snd E l X rv (pc + 1) lv (.int (x &&& y) :: st) (k)) : Snd E l X rv (pc) lv (.int y :: .int x :: st) (k) := h.go (fun p e R s m args below meth c C H locs ls _ _ _ hl kk => lv_iand C.1 C.2.1 hd (kk ls hl))
theorem sn_ior {Rt : Type} {E : Ev} {l : Launch} {X : Mx} {rv : Rt → Option Value} {pc : Nat} {lv : List (Nat × Value)} {st : List Value} {k : St → Option (Rt × St)} {x y : Int32} (hd : decode X.2.2.1 pc = .ok (.ior, 1)) (h : Snd E l X rv (pc + 1) lv (.int (x ||| y) :: st) (k)) : Snd E l X rv (pc) lv (.int y :: .int x :: st) (k) := h.go (fun p e R s m args below meth c C H locs ls _ _ _ hl kk => lv_ior C.1 C.2.1 hd (kk ls hl))
theorem sn_ixor {Rt : Type} {E : Ev} {l : Launch} {X : Mx} {rv : Rt → Option Value} {pc : Nat} {lv : List (Nat × Value)} {st : List Value} {k : St → Option (Rt × St)} {x y : Int32} (hd : decode X.2.2.1 pc = .ok (.ixor, 1)) (h : Snd E l X rv (pc + 1) lv (.int (x ^^^ y) :: st) (k)) : Snd E l X rv (pc) lv (.int y :: .int x :: st) (k) := h.go (fun p e R s m args below meth c C H locs ls _ _ _ hl kk => lv_ixor C.1 C.2.1 hd (kk ls hl))
theorem sn_ishl {Rt : Type} {E : Ev} {l : Launch} {X : Mx} {rv : Rt → Option Value} {pc : Nat} {lv : List (Nat × Value)} {st : List Value} {k : St → Option (Rt × St)} {x y : Int32} (hd : decode X.2.2.1 pc = .ok (.ishl, 1)) (h : Snd E l X rv (pc + 1) lv (.int (x <<< (y &&& 31)) :: st) (k)) : Snd E l X rv (pc) lv (.int y :: .int x :: st) (k) := h.go (fun p e R s m args below meth c C H locs ls _ _ _ hl kk => lv_ishl C.1 C.2.1 hd (kk ls hl))
theorem sn_ishr {Rt : Type} {E : Ev} {l : Launch} {X : Mx} {rv : Rt → Option Value} {pc : Nat} {lv : List (Nat × Value)} {st : List Value} {k : St → Option (Rt × St)} {x y : Int32} (hd : decode X.2.2.1 pc = .ok (.ishr, 1)) (h : Snd E l X rv (pc + 1) lv (.int (x >>> (y &&& 31)) :: st) (k)) : Snd E l X rv (pc) lv (.int y :: .int x :: st) (k) := h.go (fun p e R s m args below meth c C H locs ls _ _ _ hl kk => lv_ishr C.1 C.2.1 hd (kk ls hl))
theorem sn_ladd {Rt : Type} {E : Ev} {l : Launch} {X : Mx} {rv : Rt → Option Value} {pc : Nat} {lv : List (Nat × Value)} {st : List Value} {k : St → Option (Rt × St)} {x y : Int64} (hd : decode X.2.2.1 pc = .ok (.ladd, 1)) (h : Snd E l X rv (pc + 1) lv (.long (x + y) :: st) (k)) : Snd E l X rv (pc) lv (.long y :: .long x :: st) (k) := h.go (fun p e R s m args below meth c C H locs ls _ _ _ hl kk => lv_ladd C.1 C.2.1 hd (kk ls hl))
theorem sn_lsub {Rt : Type} {E : Ev} {l : Launch} {X : Mx} {rv : Rt → Option Value} {pc : Nat} {lv : List (Nat × Value)} {st : List Value} {k : St → Option (Rt × St)} {x y : Int64} (hd : decode X.2.2.1 pc = .ok (.lsub, 1)) (h : Snd E l X rv (pc + 1) lv (.long (x - y) :: st) (k)) : Snd E l X rv (pc) lv (.long y :: .long x :: st) (k) := h.go (fun p e R s m args below meth c C H locs ls _ _ _ hl kk => lv_lsub C.1 C.2.1 hd (kk ls hl))
theorem sn_lmul {Rt : Type} {E : Ev} {l : Launch} {X : Mx} {rv : Rt → Option Value} {pc : Nat} {lv : List (Nat × Value)} {st : List Value} {k : St → Option (Rt × St)} {x y : Int64} (hd : decode X.2.2.1 pc = .ok (.lmul, 1)) (h : Snd E l X rv (pc + 1) lv (.long (x * y) :: st) (k)) : Snd E l X rv (pc) lv (.long y :: .long x :: st) (k) := h.go (fun p e R s m args below meth c C H locs ls _ _ _ hl kk => lv_lmul C.1 C.2.1 hd (kk ls hl))
theorem sn_ineg {Rt : Type} {E : Ev} {l : Launch} {X : Mx} {rv : Rt → Option Value} {pc : Nat} {lv : List (Nat × Value)} {st : List Value} {k : St → Option (Rt × St)} {x : Int32} (hd : decode X.2.2.1 pc = .ok (.ineg, 1)) (h : Snd E l X rv (pc + 1) lv (.int (-x) :: st) (k)) : Snd E l X rv (pc) lv (.int x :: st) (k) := h.go (fun p e R s m args below meth c C H locs ls _ _ _ hl kk => lv_ineg C.1 C.2.1 hd (kk ls hl))
def iush (x y : Int32) : Int32 := (x.toUInt32 >>> (y.toUInt32 &&& Int32.toUInt32 31)).toInt32
def irm (x y : Int32) : Int32 := x - x / y * y
theorem sn_iushr {Rt : Type} {E : Ev} {l : Launch} {X : Mx} {rv : Rt → Option Value} {pc : Nat} {lv : List (Nat × Value)} {st : List Value} {k : St → Option (Rt × St)} {x y : Int32} (hd : decode X.2.2.1 pc = .ok (.iushr, 1)) (h : Snd E l X rv (pc + 1) lv (.int (iush x y) :: st) (k)) : Snd E l X rv (pc) lv (.int y :: .int x :: st) (k) := h.go (fun p e R s m args below meth c C H locs ls _ _ _ hl kk => lv_iushr C.1 C.2.1 hd rfl (kk ls hl))
theorem sn_i2l {Rt : Type} {E : Ev} {l : Launch} {X : Mx} {rv : Rt → Option Value} {pc : Nat} {lv : List (Nat × Value)} {st : List Value} {k : St → Option (Rt × St)} {x : Int32} (hd : decode X.2.2.1 pc = .ok (.i2l, 1)) (h : Snd E l X rv (pc + 1) lv (.long x.toInt64 :: st) (k)) : Snd E l X rv (pc) lv (.int x :: st) (k) := h.go (fun p e R s m args below meth c C H locs ls _ _ _ hl kk => lv_i2l C.1 C.2.1 hd rfl (kk ls hl))
theorem sn_l2i {Rt : Type} {E : Ev} {l : Launch} {X : Mx} {rv : Rt → Option Value} {pc : Nat} {lv : List (Nat × Value)} {st : List Value} {k : St → Option (Rt × St)} {x : Int64} (hd : decode X.2.2.1 pc = .ok (.l2i, 1)) (h : Snd E l X rv (pc + 1) lv (.int x.toInt32 :: st) (k)) : Snd E l X rv (pc) lv (.long x :: st) (k) := h.go (fun p e R s m args below meth c C H locs ls _ _ _ hl kk => lv_l2i C.1 C.2.1 hd rfl (kk ls hl))
theorem sn_i2b {Rt : Type} {E : Ev} {l : Launch} {X : Mx} {rv : Rt → Option Value} {pc : Nat} {lv : List (Nat × Value)} {st : List Value} {k : St → Option (Rt × St)} {x : Int32} (hd : decode X.2.2.1 pc = .ok (.i2b, 1)) (h : Snd E l X rv (pc + 1) lv (.int x.toInt8.toInt32 :: st) (k)) : Snd E l X rv (pc) lv (.int x :: st) (k) := h.go (fun p e R s m args below meth c C H locs ls _ _ _ hl kk => lv_i2b C.1 C.2.1 hd rfl (kk ls hl))
theorem sn_i2c {Rt : Type} {E : Ev} {l : Launch} {X : Mx} {rv : Rt → Option Value} {pc : Nat} {lv : List (Nat × Value)} {st : List Value} {k : St → Option (Rt × St)} {x : Int32} (hd : decode X.2.2.1 pc = .ok (.i2c, 1)) (h : Snd E l X rv (pc + 1) lv (.int (x.toUInt32 % 65536).toInt32 :: st) (k)) : Snd E l X rv (pc) lv (.int x :: st) (k) := h.go (fun p e R s m args below meth c C H locs ls _ _ _ hl kk => lv_i2c C.1 C.2.1 hd rfl (kk ls hl))
theorem sn_lcmp {Rt : Type} {E : Ev} {l : Launch} {X : Mx} {rv : Rt → Option Value} {pc : Nat} {lv : List (Nat × Value)} {st : List Value} {k : St → Option (Rt × St)} {x y : Int64} (hd : decode X.2.2.1 pc = .ok (.lcmp, 1)) (h : Snd E l X rv (pc + 1) lv (.int (lg_cmp x y) :: st) (k)) : Snd E l X rv (pc) lv (.long y :: .long x :: st) (k) := h.go (fun p e R s m args below meth c C H locs ls _ _ _ hl kk => W.lcmp C.1 C.2.1 hd (kk ls hl))
theorem sn_dup {Rt : Type} {E : Ev} {l : Launch} {X : Mx} {rv : Rt → Option Value} {pc : Nat} {lv : List (Nat × Value)} {st : List Value} {k : St → Option (Rt × St)} {v : Value} (hd : decode X.2.2.1 pc = .ok (.dup, 1)) (hv : v.category = 1) (h : Snd E l X rv (pc + 1) lv (v :: v :: st) (k)) : Snd E l X rv (pc) lv (v :: st) (k) := h.go (fun p e R s m args below meth c C H locs ls _ _ _ hl kk => lv_dup C.1 C.2.1 hd hv (kk ls hl))
theorem sn_pop {Rt : Type} {E : Ev} {l : Launch} {X : Mx} {rv : Rt → Option Value} {pc : Nat} {lv : List (Nat × Value)} {st : List Value} {k : St → Option (Rt × St)} {v : Value} (hd : decode X.2.2.1 pc = .ok (.pop, 1)) (hv : v.category = 1) (h : Snd E l X rv (pc + 1) lv (st) (k)) : Snd E l X rv (pc) lv (v :: st) (k) := h.go (fun p e R s m args below meth c C H locs ls _ _ _ hl kk => lv_pop C.1 C.2.1 hd hv (kk ls hl))
theorem sn_dup2 {Rt : Type} {E : Ev} {l : Launch} {X : Mx} {rv : Rt → Option Value} {pc : Nat} {lv : List (Nat × Value)} {st : List Value} {k : St → Option (Rt × St)} {v w : Value} (hd : decode X.2.2.1 pc = .ok (.dup2, 1)) (hv : v.category = 1) (hw : w.category = 1) (h : Snd E l X rv (pc + 1) lv (v :: w :: v :: w :: st) (k)) : Snd E l X rv (pc) lv (v :: w :: st) (k) := h.go (fun p e R s m args below meth c C H locs ls _ _ _ hl kk => lv_dup2_11 C.1 C.2.1 hd hv hw (kk ls hl))
theorem sn_goto {Rt : Type} {E : Ev} {l : Launch} {X : Mx} {rv : Rt → Option Value} {pc : Nat} {lv : List (Nat × Value)} {st : List Value} {k : St → Option (Rt × St)} {off : Int} {tgt : Nat} (hd : decode X.2.2.1 pc = .ok (.goto off, 3)) (ht : (pc : Int) + off = (tgt : Int)) (h : Snd E l X rv (tgt) lv (st) (k)) : Snd E l X rv (pc) lv (st) (k) := h.go (fun p e R s m args below meth c C H locs ls _ _ _ hl kk => lv_goto C.1 C.2.1 hd ht (kk ls hl))
theorem sn_idiv {Rt : Type} {E : Ev} {l : Launch} {X : Mx} {rv : Rt → Option Value} {pc : Nat} {lv : List (Nat × Value)} {st : List Value} {k : St → Option (Rt × St)} {x y : Int32} (hd : decode X.2.2.1 pc = .ok (.idiv, 1)) (h : Snd E l X rv (pc + 1) lv (.int (x / y) :: st) (k)) : Snd E l X rv (pc) lv (.int y :: .int x :: st) (dv y k) :=
  ⟨mono_dv h.1, fun p e R s m args below meth c C n0 m0 S H locs ls r S' hP hS hl h1 h2 hk hc hs => by
    unfold dv at hk
    split at hk
    · cases hk
    · rename_i hy
      exact lv_idiv C.1 C.2.1 hd hy (h.2 p e R s m args below meth c C n0 m0 S H locs ls r S' hP hS hl h1 h2 hk hc hs)⟩
theorem sn_irem {Rt : Type} {E : Ev} {l : Launch} {X : Mx} {rv : Rt → Option Value} {pc : Nat} {lv : List (Nat × Value)} {st : List Value} {k : St → Option (Rt × St)} {x y : Int32} (hd : decode X.2.2.1 pc = .ok (.irem, 1)) (h : Snd E l X rv (pc + 1) lv (.int (irm x y) :: st) (k)) : Snd E l X rv (pc) lv (.int y :: .int x :: st) (dv y k) :=
  ⟨mono_dv h.1, fun p e R s m args below meth c C n0 m0 S H locs ls r S' hP hS hl h1 h2 hk hc hs => by
    unfold dv at hk
    split at hk
    · cases hk
    · rename_i hy
      exact lv_irem C.1 C.2.1 hd hy (h.2 p e R s m args below meth c C n0 m0 S H locs ls r S' hP hS hl h1 h2 hk hc hs)⟩
theorem sn_ldiv {Rt : Type} {E : Ev} {l : Launch} {X : Mx} {rv : Rt → Option Value} {pc : Nat} {lv : List (Nat × Value)} {st : List Value} {k : St → Option (Rt × St)} {x y : Int64} (hd : decode X.2.2.1 pc = .ok (.ldiv, 1)) (h : Snd E l X rv (pc + 1) lv (.long (x / y) :: st) (k)) : Snd E l X rv (pc) lv (.long y :: .long x :: st) (dvJ y k) :=
  ⟨mono_dvJ h.1, fun p e R s m args below meth c C n0 m0 S H locs ls r S' hP hS hl h1 h2 hk hc hs => by
    unfold dvJ at hk
    split at hk
    · cases hk
    · rename_i hy
      exact lv_ldiv C.1 C.2.1 hd hy (h.2 p e R s m args below meth c C n0 m0 S H locs ls r S' hP hS hl h1 h2 hk hc hs)⟩
theorem sn_icmp_eq {Rt : Type} {E : Ev} {l : Launch} {X : Mx} {rv : Rt → Option Value} {pc : Nat} {lv : List (Nat × Value)} {st : List Value} {k1 k2 : St → Option (Rt × St)} {x y : Int32} {off : Int} {tgt : Nat} (hd : decode X.2.2.1 pc = .ok (.if_icmp .eq off, 3)) (ht : (pc : Int) + off = (tgt : Int)) (hA : Snd E l X rv (tgt) lv (st) (k1)) (hB : Snd E l X rv (pc + 3) lv (st) (k2)) : Snd E l X rv (pc) lv (.int y :: .int x :: st) (br (x = y) k1 k2) :=
  ⟨mono_br hA.1 hB.1, fun p e R s m args below meth c C n0 m0 S H locs ls r S' hP hS hl h1 h2 hk hc hs => by
    unfold br at hk
    exact lv_icmp_eq C.1 C.2.1 hd ht (fun q => hA.2 p e R s m args below meth c C n0 m0 S H locs ls r S' hP hS hl h1 h2 (by rw [if_pos q] at hk; exact hk) hc hs) (fun q => hB.2 p e R s m args below meth c C n0 m0 S H locs ls r S' hP hS hl h1 h2 (by rw [if_neg q] at hk; exact hk) hc hs)⟩
theorem sn_icmp_ne {Rt : Type} {E : Ev} {l : Launch} {X : Mx} {rv : Rt → Option Value} {pc : Nat} {lv : List (Nat × Value)} {st : List Value} {k1 k2 : St → Option (Rt × St)} {x y : Int32} {off : Int} {tgt : Nat} (hd : decode X.2.2.1 pc = .ok (.if_icmp .ne off, 3)) (ht : (pc : Int) + off = (tgt : Int)) (hA : Snd E l X rv (tgt) lv (st) (k1)) (hB : Snd E l X rv (pc + 3) lv (st) (k2)) : Snd E l X rv (pc) lv (.int y :: .int x :: st) (br (x = y) k2 k1) :=
  ⟨mono_br hB.1 hA.1, fun p e R s m args below meth c C n0 m0 S H locs ls r S' hP hS hl h1 h2 hk hc hs => by
    unfold br at hk
    exact lv_icmp_ne C.1 C.2.1 hd ht (fun q => hA.2 p e R s m args below meth c C n0 m0 S H locs ls r S' hP hS hl h1 h2 (by rw [if_neg q] at hk; exact hk) hc hs) (fun q => hB.2 p e R s m args below meth c C n0 m0 S H locs ls r S' hP hS hl h1 h2 (by rw [if_pos q] at hk; exact hk) hc hs)⟩
theorem sn_icmp_lt {Rt : Type} {E : Ev} {l : Launch} {X : Mx} {rv : Rt → Option Value} {pc : Nat} {lv : List (Nat × Value)} {st : List Value} {k1 k2 : St → Option (Rt × St)} {x y : Int32} {off : Int} {tgt : Nat} (hd : decode X.2.2.1 pc = .ok (.if_icmp .lt off, 3)) (ht : (pc : Int) + off = (tgt : Int)) (hA : Snd E l X rv (tgt) lv (st) (k1)) (hB : Snd E l X rv (pc + 3) lv (st) (k2)) : Snd E l X rv (pc) lv (.int y :: .int x :: st) (br (x < y) k1 k2) :=
  ⟨mono_br hA.1 hB.1, fun p e R s m args below meth c C n0 m0 S H locs ls r S' hP hS hl h1 h2 hk hc hs => by
    unfold br at hk
    exact lv_icmp_lt C.1 C.2.1 hd ht (fun q => hA.2 p e R s m args below meth c C n0 m0 S H locs ls r S' hP hS hl h1 h2 (by rw [if_pos q] at hk; exact hk) hc hs) (fun q => hB.2 p e R s m args below meth c C n0 m0 S H locs ls r S' hP hS hl h1 h2 (by rw [if_neg q] at hk; exact hk) hc hs)⟩
theorem sn_icmp_ge {Rt : Type} {E : Ev} {l : Launch} {X : Mx} {rv : Rt → Option Value} {pc : Nat} {lv : List (Nat × Value)} {st : List Value} {k1 k2 : St → Option (Rt × St)} {x y : Int32} {off : Int} {tgt : Nat} (hd : decode X.2.2.1 pc = .ok (.if_icmp .ge off, 3)) (ht : (pc : Int) + off = (tgt : Int)) (hA : Snd E l X rv (tgt) lv (st) (k1)) (hB : Snd E l X rv (pc + 3) lv (st) (k2)) : Snd E l X rv (pc) lv (.int y :: .int x :: st) (br (y ≤ x) k1 k2) :=
  ⟨mono_br hA.1 hB.1, fun p e R s m args below meth c C n0 m0 S H locs ls r S' hP hS hl h1 h2 hk hc hs => by
    unfold br at hk
    exact lv_icmp_ge C.1 C.2.1 hd ht (fun q => hA.2 p e R s m args below meth c C n0 m0 S H locs ls r S' hP hS hl h1 h2 (by rw [if_pos q] at hk; exact hk) hc hs) (fun q => hB.2 p e R s m args below meth c C n0 m0 S H locs ls r S' hP hS hl h1 h2 (by rw [if_neg q] at hk; exact hk) hc hs)⟩
theorem sn_icmp_gt {Rt : Type} {E : Ev} {l : Launch} {X : Mx} {rv : Rt → Option Value} {pc : Nat} {lv : List (Nat × Value)} {st : List Value} {k1 k2 : St → Option (Rt × St)} {x y : Int32} {off : Int} {tgt : Nat} (hd : decode X.2.2.1 pc = .ok (.if_icmp .gt off, 3)) (ht : (pc : Int) + off = (tgt : Int)) (hA : Snd E l X rv (tgt) lv (st) (k1)) (hB : Snd E l X rv (pc + 3) lv (st) (k2)) : Snd E l X rv (pc) lv (.int y :: .int x :: st) (br (y < x) k1 k2) :=
  ⟨mono_br hA.1 hB.1, fun p e R s m args below meth c C n0 m0 S H locs ls r S' hP hS hl h1 h2 hk hc hs => by
    unfold br at hk
    exact lv_icmp_gt C.1 C.2.1 hd ht (fun q => hA.2 p e R s m args below meth c C n0 m0 S H locs ls r S' hP hS hl h1 h2 (by rw [if_pos q] at hk; exact hk) hc hs) (fun q => hB.2 p e R s m args below meth c C n0 m0 S H locs ls r S' hP hS hl h1 h2 (by rw [if_neg q] at hk; exact hk) hc hs)⟩
theorem sn_icmp_le {Rt : Type} {E : Ev} {l : Launch} {X : Mx} {rv : Rt → Option Value} {pc : Nat} {lv : List (Nat × Value)} {st : List Value} {k1 k2 : St → Option (Rt × St)} {x y : Int32} {off : Int} {tgt : Nat} (hd : decode X.2.2.1 pc = .ok (.if_icmp .le off, 3)) (ht : (pc : Int) + off = (tgt : Int)) (hA : Snd E l X rv (tgt) lv (st) (k1)) (hB : Snd E l X rv (pc + 3) lv (st) (k2)) : Snd E l X rv (pc) lv (.int y :: .int x :: st) (br (x ≤ y) k1 k2) :=
  ⟨mono_br hA.1 hB.1, fun p e R s m args below meth c C n0 m0 S H locs ls r S' hP hS hl h1 h2 hk hc hs => by
    unfold br at hk
    exact lv_icmp_le C.1 C.2.1 hd ht (fun q => hA.2 p e R s m args below meth c C n0 m0 S H locs ls r S' hP hS hl h1 h2 (by rw [if_pos q] at hk; exact hk) hc hs) (fun q => hB.2 p e R s m args below meth c C n0 m0 S H locs ls r S' hP hS hl h1 h2 (by rw [if_neg q] at hk; exact hk) hc hs)⟩
theorem sn_if_eq {Rt : Type} {E : Ev} {l : Launch} {X : Mx} {rv : Rt → Option Value} {pc : Nat} {lv : List (Nat × Value)} {st : List Value} {k1 k2 : St → Option (Rt × St)} {x : Int32} {off : Int} {tgt : Nat} (hd : decode X.2.2.1 pc = .ok (.ifCond .eq off, 3)) (ht : (pc : Int) + off = (tgt : Int)) (hA : Snd E l X rv (tgt) lv (st) (k1)) (hB : Snd E l X rv (pc + 3) lv (st) (k2)) : Snd E l X rv (pc) lv (.int x :: st) (br (x = 0) k1 k2) :=
  ⟨mono_br hA.1 hB.1, fun p e R s m args below meth c C n0 m0 S H locs ls r S' hP hS hl h1 h2 hk hc hs => by
    unfold br at hk
    exact lv_if_eq C.1 C.2.1 hd ht (fun q => hA.2 p e R s m args below meth c C n0 m0 S H locs ls r S' hP hS hl h1 h2 (by rw [if_pos q] at hk; exact hk) hc hs) (fun q => hB.2 p e R s m args below meth c C n0 m0 S H locs ls r S' hP hS hl h1 h2 (by rw [if_neg q] at hk; exact hk) hc hs)⟩
theorem sn_if_ne {Rt : Type} {E : Ev} {l : Launch} {X : Mx} {rv : Rt → Option Value} {pc : Nat} {lv : List (Nat × Value)} {st : List Value} {k1 k2 : St → Option (Rt × St)} {x : Int32} {off : Int} {tgt : Nat} (hd : decode X.2.2.1 pc = .ok (.ifCond .ne off, 3)) (ht : (pc : Int) + off = (tgt : Int)) (hA : Snd E l X rv (tgt) lv (st) (k1)) (hB : Snd E l X rv (pc + 3) lv (st) (k2)) : Snd E l X rv (pc) lv (.int x :: st) (br (x = 0) k2 k1) :=
  ⟨mono_br hB.1 hA.1, fun p e R s m args below meth c C n0 m0 S H locs ls r S' hP hS hl h1 h2 hk hc hs => by
    unfold br at hk
    exact lv_if_ne C.1 C.2.1 hd ht (fun q => hA.2 p e R s m args below meth c C n0 m0 S H locs ls r S' hP hS hl h1 h2 (by rw [if_neg q] at hk; exact hk) hc hs) (fun q => hB.2 p e R s m args below meth c C n0 m0 S H locs ls r S' hP hS hl h1 h2 (by rw [if_pos q] at hk; exact hk) hc hs)⟩
theorem sn_if_lt {Rt : Type} {E : Ev} {l : Launch} {X : Mx} {rv : Rt → Option Value} {pc : Nat} {lv : List (Nat × Value)} {st : List Value} {k1 k2 : St → Option (Rt × St)} {x : Int32} {off : Int} {tgt : Nat} (hd : decode X.2.2.1 pc = .ok (.ifCond .lt off, 3)) (ht : (pc : Int) + off = (tgt : Int)) (hA : Snd E l X rv (tgt) lv (st) (k1)) (hB : Snd E l X rv (pc + 3) lv (st) (k2)) : Snd E l X rv (pc) lv (.int x :: st) (br (x < 0) k1 k2) :=
  ⟨mono_br hA.1 hB.1, fun p e R s m args below meth c C n0 m0 S H locs ls r S' hP hS hl h1 h2 hk hc hs => by
    unfold br at hk
    exact lv_if_lt C.1 C.2.1 hd ht (fun q => hA.2 p e R s m args below meth c C n0 m0 S H locs ls r S' hP hS hl h1 h2 (by rw [if_pos q] at hk; exact hk) hc hs) (fun q => hB.2 p e R s m args below meth c C n0 m0 S H locs ls r S' hP hS hl h1 h2 (by rw [if_neg q] at hk; exact hk) hc hs)⟩
theorem sn_if_ge {Rt : Type} {E : Ev} {l : Launch} {X : Mx} {rv : Rt → Option Value} {pc : Nat} {lv : List (Nat × Value)} {st : List Value} {k1 k2 : St → Option (Rt × St)} {x : Int32} {off : Int} {tgt : Nat} (hd : decode X.2.2.1 pc = .ok (.ifCond .ge off, 3)) (ht : (pc : Int) + off = (tgt : Int)) (hA : Snd E l X rv (tgt) lv (st) (k1)) (hB : Snd E l X rv (pc + 3) lv (st) (k2)) : Snd E l X rv (pc) lv (.int x :: st) (br (0 ≤ x) k1 k2) :=
  ⟨mono_br hA.1 hB.1, fun p e R s m args below meth c C n0 m0 S H locs ls r S' hP hS hl h1 h2 hk hc hs => by
    unfold br at hk
    exact lv_if_ge C.1 C.2.1 hd ht (fun q => hA.2 p e R s m args below meth c C n0 m0 S H locs ls r S' hP hS hl h1 h2 (by rw [if_pos q] at hk; exact hk) hc hs) (fun q => hB.2 p e R s m args below meth c C n0 m0 S H locs ls r S' hP hS hl h1 h2 (by rw [if_neg q] at hk; exact hk) hc hs)⟩
theorem sn_if_gt {Rt : Type} {E : Ev} {l : Launch} {X : Mx} {rv : Rt → Option Value} {pc : Nat} {lv : List (Nat × Value)} {st : List Value} {k1 k2 : St → Option (Rt × St)} {x : Int32} {off : Int} {tgt : Nat} (hd : decode X.2.2.1 pc = .ok (.ifCond .gt off, 3)) (ht : (pc : Int) + off = (tgt : Int)) (hA : Snd E l X rv (tgt) lv (st) (k1)) (hB : Snd E l X rv (pc + 3) lv (st) (k2)) : Snd E l X rv (pc) lv (.int x :: st) (br (0 < x) k1 k2) :=
  ⟨mono_br hA.1 hB.1, fun p e R s m args below meth c C n0 m0 S H locs ls r S' hP hS hl h1 h2 hk hc hs => by
    unfold br at hk
    exact lv_if_gt C.1 C.2.1 hd ht (fun q => hA.2 p e R s m args below meth c C n0 m0 S H locs ls r S' hP hS hl h1 h2 (by rw [if_pos q] at hk; exact hk) hc hs) (fun q => hB.2 p e R s m args below meth c C n0 m0 S H locs ls r S' hP hS hl h1 h2 (by rw [if_neg q] at hk; exact hk) hc hs)⟩
theorem sn_if_le {Rt : Type} {E : Ev} {l : Launch} {X : Mx} {rv : Rt → Option Value} {pc : Nat} {lv : List (Nat × Value)} {st : List Value} {k1 k2 : St → Option (Rt × St)} {x : Int32} {off : Int} {tgt : Nat} (hd : decode X.2.2.1 pc = .ok (.ifCond .le off, 3)) (ht : (pc : Int) + off = (tgt : Int)) (hA : Snd E l X rv (tgt) lv (st) (k1)) (hB : Snd E l X rv (pc + 3) lv (st) (k2)) : Snd E l X rv (pc) lv (.int x :: st) (br (x ≤ 0) k1 k2) :=
  ⟨mono_br hA.1 hB.1, fun p e R s m args below meth c C n0 m0 S H locs ls r S' hP hS hl h1 h2 hk hc hs => by
    unfold br at hk
    exact lv_if_le C.1 C.2.1 hd ht (fun q => hA.2 p e R s m args below meth c C n0 m0 S H locs ls r S' hP hS hl h1 h2 (by rw [if_pos q] at hk; exact hk) hc hs) (fun q => hB.2 p e R s m args below meth c C n0 m0 S H locs ls r S' hP hS hl h1 h2 (by rw [if_neg q] at hk; exact hk) hc hs)⟩
theorem sn_br {Rt : Type} {E : Ev} {l : Launch} {X : Mx} {rv : Rt → Option Value} {pc : Nat} {lv : List (Nat × Value)} {st : List Value} {k1 k2 : St → Option (Rt × St)} {c0 : Prop} [Decidable c0] (hA : c0 → Snd E l X rv (pc) lv (st) (k1)) (hB : ¬ c0 → Snd E l X rv (pc) lv (st) (k2)) (m1 : Mono k1) (m2 : Mono k2) : Snd E l X rv (pc) lv (st) (br c0 k1 k2) :=
  ⟨mono_br m1 m2, fun p e R s m args below meth c C n0 m0 S H locs ls r S' hP hS hl h1 h2 hk hc hs => by
    unfold br at hk
    by_cases q : c0
    · rw [if_pos q] at hk
      exact (hA q).2 p e R s m args below meth c C n0 m0 S H locs ls r S' hP hS hl h1 h2 hk hc hs
    · rw [if_neg q] at hk
      exact (hB q).2 p e R s m args below meth c C n0 m0 S H locs ls r S' hP hS hl h1 h2 hk hc hs⟩
theorem sn_tableIn {Rt : Type} {E : Ev} {l : Launch} {X : Mx} {rv : Rt → Option Value} {pc : Nat} {lv : List (Nat × Value)} {st : List Value} {k : St → Option (Rt × St)} {dflt lo hi : Int} {offs : Array Int} {len : Nat} {x v : Int32} {off : Int} {tgt : Nat} (hd : decode X.2.2.1 pc = .ok (.tableswitch dflt lo hi offs, len)) (hx : x = v) (q1 : ¬ v.toInt < lo) (q2 : ¬ hi < v.toInt) (q3 : offs[(v.toInt - lo).toNat]? = some off) (ht : (pc : Int) + off = (tgt : Int)) (h : Snd E l X rv (tgt) lv (st) (k)) : Snd E l X rv (pc) lv (.int x :: st) (k) := h.go (fun p e R s m args below meth c C H locs ls _ _ _ hl kk => lv_tableIn C.1 C.2.1 hd (by rw [hx]; exact q1) (by rw [hx]; exact q2) (by rw [hx]; exact q3) ht (kk ls hl))
theorem sn_tableOut {Rt : Type} {E : Ev} {l : Launch} {X : Mx} {rv : Rt → Option Value} {pc : Nat} {lv : List (Nat × Value)} {st : List Value} {k : St → Option (Rt × St)} {dflt lo hi : Int} {offs : Array Int} {len : Nat} {x : Int32} {tgt : Nat} (hd : decode X.2.2.1 pc = .ok (.tableswitch dflt lo hi offs, len)) (q1 : x.toInt < lo ∨ hi < x.toInt) (ht : (pc : Int) + dflt = (tgt : Int)) (h : Snd E l X rv (tgt) lv (st) (k)) : Snd E l X rv (pc) lv (.int x :: st) (k) := h.go (fun p e R s m args below meth c C H locs ls _ _ _ hl kk => lv_tableOut C.1 C.2.1 hd q1 ht (kk ls hl))
theorem sn_lookup {Rt : Type} {E : Ev} {l : Launch} {X : Mx} {rv : Rt → Option Value} {pc : Nat} {lv : List (Nat × Value)} {st : List Value} {k : St → Option (Rt × St)} {dflt : Int} {ps : Array (Int × Int)} {len : Nat} {x : Int32} {off : Int} {tgt : Nat} (hd : decode X.2.2.1 pc = .ok (.lookupswitch dflt ps, len)) (hp : (ps.toList.zip (ps.toList.drop 1)).all (fun (a, next) => a.1 < next.1) = true) (ho : Op.lookupswitch.offset ps.toList dflt x.toInt = off) (ht : (pc : Int) + off = (tgt : Int)) (h : Snd E l X rv (tgt) lv (st) (k)) : Snd E l X rv (pc) lv (.int x :: st) (k) := h.go (fun p e R s m args below meth c C H locs ls _ _ _ hl kk => lv_lookup C.1 C.2.1 hd hp ho ht (kk ls hl))
theorem sn_ifnull_n {Rt : Type} {E : Ev} {l : Launch} {X : Mx} {rv : Rt → Option Value} {pc : Nat} {lv : List (Nat × Value)} {st : List Value} {k : St → Option (Rt × St)} {off : Int} {tgt : Nat} (hd : decode X.2.2.1 pc = .ok (.ifnull off, 3)) (ht : (pc : Int) + off = (tgt : Int)) (h : Snd E l X rv (tgt) lv (st) (k)) : Snd E l X rv (pc) lv (rf E.1 none :: st) (k) := h.go (fun p e R s m args below meth c C H locs ls _ _ _ hl kk => lv_ifnullN C.1 C.2.1 hd ht (kk ls hl))
theorem sn_ifnull_s {Rt : Type} {E : Ev} {l : Launch} {X : Mx} {rv : Rt → Option Value} {pc : Nat} {lv : List (Nat × Value)} {st : List Value} {k : St → Option (Rt × St)} {off : Int} {a : Nat} (hd : decode X.2.2.1 pc = .ok (.ifnull off, 3)) (h : Snd E l X rv (pc + 3) lv (st) (k)) : Snd E l X rv (pc) lv (.ref a :: st) (k) := h.go (fun p e R s m args below meth c C H locs ls _ _ _ hl kk => lv_ifnull C.1 C.2.1 hd (kk ls hl))
theorem sn_ifnonnull_n {Rt : Type} {E : Ev} {l : Launch} {X : Mx} {rv : Rt → Option Value} {pc : Nat} {lv : List (Nat × Value)} {st : List Value} {k : St → Option (Rt × St)} {off : Int} (hd : decode X.2.2.1 pc = .ok (.ifnonnull off, 3)) (h : Snd E l X rv (pc + 3) lv (st) (k)) : Snd E l X rv (pc) lv (rf E.1 none :: st) (k) := h.go (fun p e R s m args below meth c C H locs ls _ _ _ hl kk => lv_ifnonnullN C.1 C.2.1 hd (kk ls hl))
theorem sn_ifnonnull_s {Rt : Type} {E : Ev} {l : Launch} {X : Mx} {rv : Rt → Option Value} {pc : Nat} {lv : List (Nat × Value)} {st : List Value} {k : St → Option (Rt × St)} {off : Int} {tgt a : Nat} (hd : decode X.2.2.1 pc = .ok (.ifnonnull off, 3)) (ht : (pc : Int) + off = (tgt : Int)) (h : Snd E l X rv (tgt) lv (st) (k)) : Snd E l X rv (pc) lv (.ref a :: st) (k) := h.go (fun p e R s m args below meth c C H locs ls _ _ _ hl kk => lv_ifnonnull C.1 C.2.1 hd ht (kk ls hl))
theorem sn_no {Rt : Type} {E : Ev} {l : Launch} {X : Mx} {rv : Rt → Option Value} {pc : Nat} {lv : List (Nat × Value)} {st : List Value} : Snd E l X rv (pc) lv (st) (no) := ⟨mono_no, fun p e R s m args below meth c C n0 m0 S H locs ls r S' hP hS hl h1 h2 hk hc hs => by cases hk⟩
