/-- the pool: kinds, lengths, ints, references, longs, how many cells, how many slots; addresses count from the first cell that the law makes -/
def St : Type := (Nat → Nat) × (Nat → Nat) × (Nat → Nat → Int32) × (Nat → Nat → Option Nat) × (Nat → Nat → Int64) × Nat × Nat
def sK (S : St) (a : Nat) : Nat := S.1 a
def sL (S : St) (a : Nat) : Nat := S.2.1 a
def sI (S : St) (a j : Nat) : Int32 := S.2.2.1 a j
def sR (S : St) (a j : Nat) : Option Nat := S.2.2.2.1 a j
def sJ (S : St) (a j : Nat) : Int64 := S.2.2.2.2.1 a j
def sn (S : St) : Nat := S.2.2.2.2.2.1
def sm (S : St) : Nat := S.2.2.2.2.2.2
def stI (S : St) (a j : Nat) (v : Int32) : St := (S.1, S.2.1, fun b k => if b = a ∧ k = j then v else S.2.2.1 b k, S.2.2.2.1, S.2.2.2.2.1, S.2.2.2.2.2.1, S.2.2.2.2.2.2)
def stR (S : St) (a j : Nat) (v : Option Nat) : St := (S.1, S.2.1, S.2.2.1, fun b k => if b = a ∧ k = j then v else S.2.2.2.1 b k, S.2.2.2.2.1, S.2.2.2.2.2.1, S.2.2.2.2.2.2)
def stJ (S : St) (a j : Nat) (v : Int64) : St := (S.1, S.2.1, S.2.2.1, S.2.2.2.1, fun b k => if b = a ∧ k = j then v else S.2.2.2.2.1 b k, S.2.2.2.2.2.1, S.2.2.2.2.2.2)
def stA (S : St) (a : Nat) (f : Nat → Int32) : St := (S.1, S.2.1, fun b k => if b = a then f k else S.2.2.1 b k, S.2.2.2.1, S.2.2.2.2.1, S.2.2.2.2.2.1, S.2.2.2.2.2.2)
def stN (S : St) (kd len w : Nat) : St := (fun b => if b = sn S then kd else S.1 b, fun b => if b = sn S then len else S.2.1 b, fun b k => if b = sn S then 0 else S.2.2.1 b k, fun b k => if b = sn S then none else S.2.2.2.1 b k, fun b k => if b = sn S then 0 else S.2.2.2.2.1 b k, sn S + 1, sm S + w)
theorem sK_stI (S : St) (a j : Nat) (v : Int32) (b : Nat) : sK (stI S a j v) b = sK S b := rfl
theorem sL_stI (S : St) (a j : Nat) (v : Int32) (b : Nat) : sL (stI S a j v) b = sL S b := rfl
theorem sI_stI (S : St) (a j : Nat) (v : Int32) (b k : Nat) : sI (stI S a j v) b k = if b = a ∧ k = j then v else sI S b k := rfl
theorem sR_stI (S : St) (a j : Nat) (v : Int32) (b k : Nat) : sR (stI S a j v) b k = sR S b k := rfl
theorem sJ_stI (S : St) (a j : Nat) (v : Int32) (b k : Nat) : sJ (stI S a j v) b k = sJ S b k := rfl
theorem sn_stI (S : St) (a j : Nat) (v : Int32) : sn (stI S a j v) = sn S := rfl
theorem sm_stI (S : St) (a j : Nat) (v : Int32) : sm (stI S a j v) = sm S := rfl
theorem sK_stR (S : St) (a j : Nat) (v : Option Nat) (b : Nat) : sK (stR S a j v) b = sK S b := rfl
theorem sL_stR (S : St) (a j : Nat) (v : Option Nat) (b : Nat) : sL (stR S a j v) b = sL S b := rfl
theorem sI_stR (S : St) (a j : Nat) (v : Option Nat) (b k : Nat) : sI (stR S a j v) b k = sI S b k := rfl
theorem sR_stR (S : St) (a j : Nat) (v : Option Nat) (b k : Nat) : sR (stR S a j v) b k = if b = a ∧ k = j then v else sR S b k := rfl
theorem sJ_stR (S : St) (a j : Nat) (v : Option Nat) (b k : Nat) : sJ (stR S a j v) b k = sJ S b k := rfl
theorem sn_stR (S : St) (a j : Nat) (v : Option Nat) : sn (stR S a j v) = sn S := rfl
theorem sm_stR (S : St) (a j : Nat) (v : Option Nat) : sm (stR S a j v) = sm S := rfl
theorem sK_stJ (S : St) (a j : Nat) (v : Int64) (b : Nat) : sK (stJ S a j v) b = sK S b := rfl
theorem sL_stJ (S : St) (a j : Nat) (v : Int64) (b : Nat) : sL (stJ S a j v) b = sL S b := rfl
theorem sI_stJ (S : St) (a j : Nat) (v : Int64) (b k : Nat) : sI (stJ S a j v) b k = sI S b k := rfl
theorem sR_stJ (S : St) (a j : Nat) (v : Int64) (b k : Nat) : sR (stJ S a j v) b k = sR S b k := rfl
theorem sJ_stJ (S : St) (a j : Nat) (v : Int64) (b k : Nat) : sJ (stJ S a j v) b k = if b = a ∧ k = j then v else sJ S b k := rfl
theorem sn_stJ (S : St) (a j : Nat) (v : Int64) : sn (stJ S a j v) = sn S := rfl
theorem sm_stJ (S : St) (a j : Nat) (v : Int64) : sm (stJ S a j v) = sm S := rfl
theorem sK_stA (S : St) (a : Nat) (f : Nat → Int32) (b : Nat) : sK (stA S a f) b = sK S b := rfl
theorem sL_stA (S : St) (a : Nat) (f : Nat → Int32) (b : Nat) : sL (stA S a f) b = sL S b := rfl
theorem sI_stA (S : St) (a : Nat) (f : Nat → Int32) (b k : Nat) : sI (stA S a f) b k = if b = a then f k else sI S b k := rfl
theorem sR_stA (S : St) (a : Nat) (f : Nat → Int32) (b k : Nat) : sR (stA S a f) b k = sR S b k := rfl
theorem sJ_stA (S : St) (a : Nat) (f : Nat → Int32) (b k : Nat) : sJ (stA S a f) b k = sJ S b k := rfl
theorem sn_stA (S : St) (a : Nat) (f : Nat → Int32) : sn (stA S a f) = sn S := rfl
theorem sm_stA (S : St) (a : Nat) (f : Nat → Int32) : sm (stA S a f) = sm S := rfl
theorem sK_stN (S : St) (kd len w b : Nat) : sK (stN S kd len w) b = if b = sn S then kd else sK S b := rfl
theorem sL_stN (S : St) (kd len w b : Nat) : sL (stN S kd len w) b = if b = sn S then len else sL S b := rfl
theorem sI_stN (S : St) (kd len w b k : Nat) : sI (stN S kd len w) b k = if b = sn S then 0 else sI S b k := rfl
theorem sR_stN (S : St) (kd len w b k : Nat) : sR (stN S kd len w) b k = if b = sn S then none else sR S b k := rfl
theorem sJ_stN (S : St) (kd len w b k : Nat) : sJ (stN S kd len w) b k = if b = sn S then 0 else sJ S b k := rfl
theorem sn_stN (S : St) (kd len w : Nat) : sn (stN S kd len w) = sn S + 1 := rfl
theorem sm_stN (S : St) (kd len w : Nat) : sm (stN S kd len w) = sm S + w := rfl
/-- of the class of number c: which fields hold ints (else a reference) -/
def kTy : Nat → List Bool
  | 0 => [true, true, true, true, true, false, false]
  | 1 => [true, true, true, false, false, false]
  | 2 => [true, true, true, true, true, false, false]
  | 3 => [false, true, false, false, false, false]
  | 4 => [true, true, true, true, false, false, false]
  | 5 => [true, true, true, false]
  | 6 => [false, true, false, false, false]
  | 7 => [true, true, true, true, true, true, true, true, true, false, false, false]
  | 8 => [true, true, true, true, true, false, true, true]
  | 9 => [true, true, true, true, false, false, false, false]
  | 10 => [false, true, true, true, true, false, true, false, true, false, true, false, true, false, false]
  | 11 => [false, false, false, false, false, false, false, false]
  | 12 => [false, false, true, true, true, true, true, true, true, true, false, false, false, false, true, true, false, false, true, true, true, true, true, true, true, true, true, true, true, true, true, false, false, true, true, false, false, false]
  | _ => []
def rf (b : Nat) (r : Option Nat) : Value := match r with
  | none => .null
  | some a => .ref (b + a)
theorem rf_eq (b : Nat) (r : Option Nat) : va_rf (r.map (fun x => b + x)) = rf b r := by cases r <;> rfl
def fv (b : Nat) (S : St) (a : Nat) (ts : List Bool) : List Value := ts.zipIdx.map (fun q => if q.1 = true then .int (sI S a q.2) else rf b (sR S a q.2))
theorem fv_int {b : Nat} {S : St} {a k : Nat} {ts : List Bool} (h : ts[k]? = some true) : (fv b S a ts)[k]? = some (.int (sI S a k)) := by
  simp [fv, h]
theorem fv_ref {b : Nat} {S : St} {a k : Nat} {ts : List Bool} (h : ts[k]? = some false) : (fv b S a ts)[k]? = some (rf b (sR S a k)) := by
  simp [fv, h]
theorem fv_len {b : Nat} {S : St} {a : Nat} {ts : List Bool} : (fv b S a ts).length = ts.length := by simp [fv]
theorem fv_stI {b : Nat} {S : St} {a k : Nat} {ts : List Bool} (h : ts[k]? = some true) (v : Int32) : (fv b S a ts).set k (.int v) = fv b (stI S a k v) a ts := by
  apply List.ext_getElem?
  intro j
  rw [List.getElem?_set]
  by_cases hj : k = j
  · subst hj
    have hl : k < ts.length := (List.getElem?_eq_some_iff.mp h).1
    rw [if_pos rfl, if_pos (by rw [fv_len]; exact hl), fv_int (S := stI S a k v) h, sI_stI, if_pos ⟨rfl, rfl⟩]
  · simp only [hj, if_false]
    cases ht : ts[j]? with
    | none => simp [fv, ht]
    | some t => cases t
                · rw [fv_ref ht, fv_ref ht, sR_stI]
                · rw [fv_int ht, fv_int ht, sI_stI, if_neg (fun q => hj q.2.symm)]
theorem fv_stR {b : Nat} {S : St} {a k : Nat} {ts : List Bool} (h : ts[k]? = some false) (v : Option Nat) : (fv b S a ts).set k (rf b v) = fv b (stR S a k v) a ts := by
  apply List.ext_getElem?
  intro j
  rw [List.getElem?_set]
  by_cases hj : k = j
  · subst hj
    have hl : k < ts.length := (List.getElem?_eq_some_iff.mp h).1
    rw [if_pos rfl, if_pos (by rw [fv_len]; exact hl), fv_ref (S := stR S a k v) h, sR_stR, if_pos ⟨rfl, rfl⟩]
  · simp only [hj, if_false]
    cases ht : ts[j]? with
    | none => simp [fv, ht]
    | some t => cases t
                · rw [fv_ref ht, fv_ref ht, sR_stR, if_neg (fun q => hj q.2.symm)]
                · rw [fv_int ht, fv_int ht, sI_stR]
/-- the row of an address, by its kind: 1 .. 13 objects, 14 byte, 15 int, 16 long, 17 boolean, 18 .. references -/
def PF (b : Nat) (cy : Nat → ClassId) (S : St) (a : Nat) : va_E :=
  if sK S a ≤ 13 then .inr (sK S a - 1, fv b S a (kTy (sK S a - 1)))
  else if sK S a = 16 then .inl (cy 2, sL S a, .inr (.inl (sJ S a)))
  else if sK S a ≤ 17 then .inl (cy (sK S a - 14), sL S a, .inl (sI S a))
  else .inl (cy (sK S a - 14), sL S a, .inr (.inr (.inr (.inr (fun j => (sR S a j).map (fun x => b + x))))))
theorem PF_obj {b : Nat} {cy : Nat → ClassId} {S : St} {a c : Nat} (h : sK S a = c + 1) (hc : c < 13) : PF b cy S a = .inr (c, fv b S a (kTy c)) := by
  simp [PF, h, show c + 1 ≤ 13 by omega]
theorem PF_int {b : Nat} {cy : Nat → ClassId} {S : St} {a t : Nat} (h : sK S a = t + 14) (ht : t = 0 ∨ t = 1 ∨ t = 3) : PF b cy S a = .inl (cy t, sL S a, .inl (sI S a)) := by
  rcases ht with rfl | rfl | rfl <;> simp [PF, h]
theorem PF_long {b : Nat} {cy : Nat → ClassId} {S : St} {a : Nat} (h : sK S a = 16) : PF b cy S a = .inl (cy 2, sL S a, .inr (.inl (sJ S a))) := by
  simp [PF, h]
theorem PF_ref {b : Nat} {cy : Nat → ClassId} {S : St} {a t : Nat} (h : sK S a = t + 14) (ht : 4 ≤ t) : PF b cy S a = .inl (cy t, sL S a, .inr (.inr (.inr (.inr (fun j => (sR S a j).map (fun x => b + x)))))) := by
  simp [PF, h, show ¬ t + 14 ≤ 13 by omega, show ¬ t + 14 = 16 by omega, show ¬ t + 14 ≤ 17 by omega]
theorem PF_eq {b : Nat} {cy : Nat → ClassId} {S S' : St} {a : Nat} (h1 : sK S' a = sK S a) (h2 : sL S' a = sL S a) (h3 : ∀ j, sI S' a j = sI S a j) (h4 : ∀ j, sR S' a j = sR S a j) (h5 : ∀ j, sJ S' a j = sJ S a j) : PF b cy S' a = PF b cy S a := by
  have e3 : sI S' a = sI S a := funext h3
  have e5 : sJ S' a = sJ S a := funext h5
  simp only [PF, fv, h1, h2, h4, e3, e5]
def PW (b : Nat) (cy : Nat → ClassId) (S : St) : va_W := (List.range (sn S)).map (fun a => (b + a, PF b cy S a))
theorem PW_get {b : Nat} {cy : Nat → ClassId} {S : St} {a : Nat} (h : a < sn S) : (PW b cy S)[a]? = some (b + a, PF b cy S a) := by
  simp [PW, h]
theorem PW_at {b : Nat} {cy : Nat → ClassId} {S : St} {k : Nat} {q : Nat × va_E} (h : (PW b cy S)[k]? = some q) : k < sn S ∧ q = (b + k, PF b cy S k) := by
  have hl : k < sn S := by
    have := (List.getElem?_eq_some_iff.mp h).1
    simpa [PW] using this
  rw [PW_get hl] at h
  exact ⟨hl, (Option.some.inj h).symm⟩
theorem PW_D (b : Nat) (cy : Nat → ClassId) (S : St) : va_D (fun q => b ≤ q) (PW b cy S) := by
  refine ⟨fun i j p q hp hq e => ?_, fun k q hk => ?_⟩
  · obtain ⟨-, rfl⟩ := PW_at hp
    obtain ⟨-, rfl⟩ := PW_at hq
    simp only at e
    omega
  · obtain ⟨-, rfl⟩ := PW_at hk
    exact Nat.le_add_right _ _
theorem PW_set {b : Nat} {cy : Nat → ClassId} {S S' : St} {a : Nat} {e : va_E} (hn : sn S' = sn S) (ha : PF b cy S' a = e) (ho : ∀ q, q ≠ a → PF b cy S' q = PF b cy S q) : (PW b cy S).set a (b + a, e) = PW b cy S' := by
  apply List.ext_getElem?
  intro j
  rw [List.getElem?_set]
  by_cases hj : a = j
  · subst hj
    by_cases hl : a < sn S
    · rw [PW_get (S := S') (by rw [hn]; exact hl), if_pos rfl, if_pos (by simpa [PW] using hl), ha]
    · simp [PW, hl, hn]
  · simp only [hj, if_false]
    by_cases hl : j < sn S
    · rw [PW_get (S := S) hl, PW_get (S := S') (by rw [hn]; exact hl), ho j (fun q => hj q.symm)]
    · simp [PW, hl, hn]
theorem PW_new {b : Nat} {cy : Nat → ClassId} {S : St} {kd len w : Nat} : PW b cy (stN S kd len w) = PW b cy S ++ [(b + sn S, PF b cy (stN S kd len w) (sn S))] := by
  simp only [PW, sn_stN, List.range_succ, List.map_append, List.map_cons, List.map_nil]
  congr 1
  apply List.map_congr_left
  intro a ha
  have h : a ≠ sn S := by have := List.mem_range.mp ha; omega
  rw [PF_eq] <;> intros <;> simp [sK_stN, sL_stN, sI_stN, sR_stN, sJ_stN, h]
