/-- more cells, the old ones as they were -/
def AG (S S' : St) (a : Nat) : Prop := sK S' a = sK S a ∧ sL S' a = sL S a ∧ (∀ j, sI S' a j = sI S a j) ∧ ∀ j, sR S' a j = sR S a j
theorem AG.rfl {S : St} {a : Nat} : AG S S a := ⟨Eq.refl _, Eq.refl _, fun _ => Eq.refl _, fun _ => Eq.refl _⟩
theorem AG.trans {S S1 S2 : St} {a : Nat} (h : AG S S1 a) (g : AG S1 S2 a) : AG S S2 a := ⟨g.1.trans h.1, g.2.1.trans h.2.1, fun j => (g.2.2.1 j).trans (h.2.2.1 j), fun j => (g.2.2.2 j).trans (h.2.2.2 j)⟩
theorem AG.stI {S S1 : St} {a : Nat} (h : AG S S1 a) {b j : Nat} (v : Int32) (hb : a ≠ b) : AG S (stI S1 b j v) a := ⟨h.1, h.2.1, fun k => by rw [sI_stI, if_neg (fun q => hb q.1)]; exact h.2.2.1 k, h.2.2.2⟩
theorem AG.stA {S S1 : St} {a : Nat} (h : AG S S1 a) {b : Nat} (f : Nat → Int32) (hb : a ≠ b) : AG S (stA S1 b f) a := ⟨h.1, h.2.1, fun k => by rw [sI_stA, if_neg hb]; exact h.2.2.1 k, h.2.2.2⟩
theorem AG.stR {S S1 : St} {a : Nat} (h : AG S S1 a) {b j : Nat} (v : Option Nat) (hb : a ≠ b) : AG S (stR S1 b j v) a := ⟨h.1, h.2.1, h.2.2.1, fun k => by rw [sR_stR, if_neg (fun q => hb q.1)]; exact h.2.2.2 k⟩
theorem AG.stN {S S1 : St} {a : Nat} (h : AG S S1 a) {kd len w : Nat} (ha : a < sn S1) : AG S (stN S1 kd len w) a := by
  have hn : a ≠ sn S1 := by omega
  exact ⟨by rw [sK_stN, if_neg hn]; exact h.1, by rw [sL_stN, if_neg hn]; exact h.2.1, fun j => by rw [sI_stN, if_neg hn]; exact h.2.2.1 j, fun j => by rw [sR_stN, if_neg hn]; exact h.2.2.2 j⟩
def EX (S S' : St) : Prop := sn S ≤ sn S' ∧ ∀ a, a < sn S → AG S S' a
theorem EX.rfl {S : St} : EX S S := ⟨Nat.le_refl _, fun _ _ => AG.rfl⟩
theorem EX.trans {S S1 S2 : St} (h : EX S S1) (g : EX S1 S2) : EX S S2 := ⟨Nat.le_trans h.1 g.1, fun a ha => (h.2 a ha).trans (g.2 a (Nat.lt_of_lt_of_le ha h.1))⟩
theorem EX.new {S S1 : St} (h : EX S S1) (kd len w : Nat) : EX S (stN S1 kd len w) := ⟨by rw [sn_stN]; have := h.1; omega, fun a ha => (h.2 a ha).stN (Nat.lt_of_lt_of_le ha h.1)⟩
theorem EX.stI {S S1 : St} (h : EX S S1) {a j : Nat} (v : Int32) (ha : sn S ≤ a) : EX S (stI S1 a j v) := ⟨h.1, fun b hb => (h.2 b hb).stI v (by omega)⟩
theorem EX.stA {S S1 : St} (h : EX S S1) {a : Nat} (f : Nat → Int32) (ha : sn S ≤ a) : EX S (stA S1 a f) := ⟨h.1, fun b hb => (h.2 b hb).stA f (by omega)⟩
theorem EX.stR {S S1 : St} (h : EX S S1) {a j : Nat} (v : Option Nat) (ha : sn S ≤ a) : EX S (stR S1 a j v) := ⟨h.1, fun b hb => (h.2 b hb).stR v (by omega)⟩
/-- where a world's own things lie -/
def FT (S : St) (w a : Nat) : Prop := (w ≤ a ∧ a < w + 8) ∨ (∃ i q, i < 8 ∧ sR S (w + 2) i = some q ∧ q ≤ a ∧ a < q + 2) ∨ (∃ i q, i < 10 ∧ sR S (w + 3) i = some q ∧ q ≤ a ∧ a < q + 5) ∨ (∃ i q, i < 12 ∧ sR S (w + 4) i = some q ∧ q ≤ a ∧ a < q + 3) ∨ (∃ i q, i < 60 ∧ sR S (w + 5) i = some q ∧ q ≤ a ∧ a < q + 4)
theorem WL_lt {S : St} (h1 : SH S) (hC : CS S) {w : Nat} (hw : WL S w) : (w = 1 ∨ 46 ≤ w) ∧ w + 8 ≤ sn S := by
  have h46 : 46 ≤ sn S := h1.2.2.2
  rcases hw with rfl | ⟨k, hk, hw⟩
  · exact ⟨Or.inl rfl, by omega⟩
  · have := hC.1 k w hk hw
    exact ⟨Or.inr this.1, this.2⟩
theorem HSh.hi {S : St} {q : Nat} (h : HSh S q) : q + 3 ≤ sn S := h.2.2.2.2.2.2.2.2
theorem GSh.hi {S : St} {q : Nat} (h : GSh S q) : q + 4 ≤ sn S := h.2.2.2.2.2.2.2.2.2.2.2
theorem TSh.hi {S : St} {q : Nat} (h : TSh S q) : q + 2 ≤ sn S := h.2.2.2.2.2
theorem LSh.hi {S : St} {q : Nat} (h : LSh S q) : q + 5 ≤ sn S := h.2.2.2.2.2.2.2.2.2.2.2.2.2.2
theorem FT_lt {S : St} (h1 : SH S) (hC : CS S) {w a : Nat} (hw : WL S w) (h : FT S w a) : a < sn S := by
  rcases h with h | ⟨i, q, hi, hq, h⟩ | ⟨i, q, hi, hq, h⟩ | ⟨i, q, hi, hq, h⟩ | ⟨i, q, hi, hq, h⟩
  · have := (WL_lt h1 hC hw).2; omega
  · have := (shT hC hw hi hq).hi; omega
  · have := (shL hC hw hi hq).hi; omega
  · have := (shH hC hw hi hq).hi; omega
  · have := (shG hC hw hi hq).hi; omega
theorem FT_ge {S : St} (h1 : SH S) (hC : CS S) {w a : Nat} (hw : WL S w) (h : FT S w a) : (1 ≤ a ∧ a < 9 ∧ w = 1) ∨ 46 ≤ a := by
  rcases h with h | ⟨i, q, hi, hq, h⟩ | ⟨i, q, hi, hq, h⟩ | ⟨i, q, hi, hq, h⟩ | ⟨i, q, hi, hq, h⟩
  · have := (WL_lt h1 hC hw).1; omega
  · have := (shT hC hw hi hq).ge; omega
  · have := (shL hC hw hi hq).ge; omega
  · have := (shH hC hw hi hq).ge; omega
  · have := (shG hC hw hi hq).ge; omega
/-- a block lies apart from another -/
theorem blk_in {S : St} {q n q' n' a : Nat} (h : blk S q n) (h' : blk S q' n') (hne : q ≠ q') (h1 : q ≤ a) (h2 : a < q + n) (h3 : q' ≤ a) (h4 : a < q' + n') : False :=
  blk_ne h h' hne (j := a - q) (j' := a - q') (by omega) (by omega) (by omega)
theorem FT_W {S : St} (hC : CS S) {w d a : Nat} (hw : WL S w) (hd : WL S d) (hne : w ≠ d) (h : FT S w a) : ¬ (d ≤ a ∧ a < d + 8) := by
  intro hh
  have hD := hC.2.2.1 d hd
  rcases h with h | ⟨i, q, hi, hq, h⟩ | ⟨i, q, hi, hq, h⟩ | ⟨i, q, hi, hq, h⟩ | ⟨i, q, hi, hq, h⟩
  · exact blk_in (hC.2.2.1 w hw).blk hD.blk hne h.1 h.2 hh.1 hh.2
  · have hs := shT hC hw hi hq
    exact blk_in hs.blk hD.blk (ne_kind hs.1 hD.1 (by decide)) h.1 h.2 hh.1 hh.2
  · have hs := shL hC hw hi hq
    exact blk_in hs.blk hD.blk (ne_kind hs.1 hD.1 (by decide)) h.1 h.2 hh.1 hh.2
  · have hs := shH hC hw hi hq
    exact blk_in hs.blk hD.blk (ne_kind hs.1 hD.1 (by decide)) h.1 h.2 hh.1 hh.2
  · have hs := shG hC hw hi hq
    exact blk_in hs.blk hD.blk (ne_kind hs.1 hD.1 (by decide)) h.1 h.2 hh.1 hh.2
theorem FT_H {S : St} (hC : CS S) {w d a i0 q0 : Nat} (hw : WL S w) (hd : WL S d) (hne : w ≠ d) (hi0 : i0 < 12) (hq0 : sR S (d + 4) i0 = some q0) (h : FT S w a) : ¬ (q0 ≤ a ∧ a < q0 + 3) := by
  intro hh
  have hD := shH hC hd hi0 hq0
  rcases h with h | ⟨i, q, hi, hq, h⟩ | ⟨i, q, hi, hq, h⟩ | ⟨i, q, hi, hq, h⟩ | ⟨i, q, hi, hq, h⟩
  · have hs := hC.2.2.1 w hw
    exact blk_in hs.blk hD.blk (ne_kind hs.1 hD.1 (by decide)) h.1 h.2 hh.1 hh.2
  · have hs := shT hC hw hi hq
    exact blk_in hs.blk hD.blk (ne_kind hs.1 hD.1 (by decide)) h.1 h.2 hh.1 hh.2
  · have hs := shL hC hw hi hq
    exact blk_in hs.blk hD.blk (ne_kind hs.1 hD.1 (by decide)) h.1 h.2 hh.1 hh.2
  · have hs := shH hC hw hi hq
    refine blk_in hs.blk hD.blk (fun e => ?_) h.1 h.2 hh.1 hh.2
    subst e
    exact hne (hC.2.2.2.2.2.2.2.1 w d i i0 q hw hd hi hi0 hq hq0).1
  · have hs := shG hC hw hi hq
    exact blk_in hs.blk hD.blk (ne_kind hs.1 hD.1 (by decide)) h.1 h.2 hh.1 hh.2
theorem FT_G {S : St} (hC : CS S) {w d a i0 q0 : Nat} (hw : WL S w) (hd : WL S d) (hne : w ≠ d) (hi0 : i0 < 60) (hq0 : sR S (d + 5) i0 = some q0) (h : FT S w a) : ¬ (q0 ≤ a ∧ a < q0 + 4) := by
  intro hh
  have hD := shG hC hd hi0 hq0
  rcases h with h | ⟨i, q, hi, hq, h⟩ | ⟨i, q, hi, hq, h⟩ | ⟨i, q, hi, hq, h⟩ | ⟨i, q, hi, hq, h⟩
  · have hs := hC.2.2.1 w hw
    exact blk_in hs.blk hD.blk (ne_kind hs.1 hD.1 (by decide)) h.1 h.2 hh.1 hh.2
  · have hs := shT hC hw hi hq
    exact blk_in hs.blk hD.blk (ne_kind hs.1 hD.1 (by decide)) h.1 h.2 hh.1 hh.2
  · have hs := shL hC hw hi hq
    exact blk_in hs.blk hD.blk (ne_kind hs.1 hD.1 (by decide)) h.1 h.2 hh.1 hh.2
  · have hs := shH hC hw hi hq
    exact blk_in hs.blk hD.blk (ne_kind hs.1 hD.1 (by decide)) h.1 h.2 hh.1 hh.2
  · have hs := shG hC hw hi hq
    refine blk_in hs.blk hD.blk (fun e => ?_) h.1 h.2 hh.1 hh.2
    subst e
    exact hne (hC.2.2.2.2.2.2.2.2 w d i i0 q hw hd hi hi0 hq hq0).1
theorem CW_ag {al : Nat → Int32} {w : Nat} {S S' : St} (h : CW al w S) (hOK : OKc al) (hC : CS S) (hw : WL S w) (hA : ∀ a, FT S w a → AG S S' a) : CW al w S' := by
  have eW : ∀ j, j < 8 → AG S S' (w + j) := fun j hj => hA _ (Or.inl ⟨by omega, by omega⟩)
  have e0 := (eW 0 (by omega)).2.2.1
  have e1 := (eW 1 (by omega)).2.2.1
  have e6 := (eW 6 (by omega)).2.2.1
  have e7 := (eW 7 (by omega)).2.2.1
  have r2 := (eW 2 (by omega)).2.2.2
  have r3 := (eW 3 (by omega)).2.2.2
  have r4 := (eW 4 (by omega)).2.2.2
  have r5 := (eW 5 (by omega)).2.2.2
  obtain ⟨⟨s1, s2, s3, s4, s5, s6, s7, s8⟩, t, u, v, p, l, hh, g⟩ := h
  refine ⟨⟨(e0 1).trans s1, (e0 2).trans s2, (e0 3).trans s3, (e0 4).trans s4, (e0 6).trans s5, (e0 8).trans s6, (e0 10).trans s7, (e0 12).trans s8⟩, fun i hi => by rw [e1]; exact t i hi, fun i hi => by rw [e6]; exact u i hi, fun i hi => by rw [e7]; exact v i hi, fun i hi => ?_, fun i hi => ?_, fun i hi => ?_, fun i hi => ?_⟩
  · obtain ⟨q, hq, r⟩ := p i hi
    have hi8 : i < 8 := Nat.lt_of_lt_of_le hi (nat_le hOK.1.2 (by decide))
    have eq : ∀ j, j < 2 → ∀ k, sI S' (q + j) k = sI S (q + j) k := fun j hj => (hA _ (Or.inr (Or.inl ⟨i, q, hi8, hq, by omega, by omega⟩))).2.2.1
    exact ⟨q, by rw [r2]; exact hq, PRel_of r (eq 0 (by omega)) (eq 1 (by omega)) (fun _ _ => rfl)⟩
  · obtain ⟨q, hq, r⟩ := l i hi
    have hi8 : i < 10 := Nat.lt_of_lt_of_le hi (nat_le hOK.2.1.2 (by decide))
    have ea : ∀ j, j < 5 → AG S S' (q + j) := fun j hj => hA _ (Or.inr (Or.inr (Or.inl ⟨i, q, hi8, hq, by omega, by omega⟩)))
    have hsh := shL hC hw hi8 hq
    exact ⟨q, by rw [r3]; exact hq, LRel_of r (ea 1 (by omega)).2.1 hsh.le (ea 0 (by omega)).2.2.1 (ea 1 (by omega)).2.2.1 (ea 2 (by omega)).2.2.1 (ea 3 (by omega)).2.2.1 (ea 4 (by omega)).2.2.1 (fun _ _ => rfl)⟩
  · obtain ⟨q, hq, r⟩ := hh i hi
    have hi8 : i < 12 := Nat.lt_of_lt_of_le hi (nat_le hOK.2.2.1.2 (by decide))
    have eq : ∀ j, j < 3 → ∀ k, sI S' (q + j) k = sI S (q + j) k := fun j hj => (hA _ (Or.inr (Or.inr (Or.inr (Or.inl ⟨i, q, hi8, hq, by omega, by omega⟩))))).2.2.1
    exact ⟨q, by rw [r4]; exact hq, HRel_of r (eq 0 (by omega)) (eq 1 (by omega)) (eq 2 (by omega)) (fun _ _ => rfl)⟩
  · obtain ⟨q, hq, r⟩ := g i hi
    have hi8 : i < 60 := Nat.lt_of_lt_of_le hi (nat_le hOK.2.2.2.1.2 (by decide))
    have eq : ∀ j, j < 4 → ∀ k, sI S' (q + j) k = sI S (q + j) k := fun j hj => (hA _ (Or.inr (Or.inr (Or.inr (Or.inr ⟨i, q, hi8, hq, by omega, by omega⟩))))).2.2.1
    exact ⟨q, by rw [r5]; exact hq, GRel_of r (eq 0 (by omega)) (eq 1 (by omega)) (eq 2 (by omega)) (eq 3 (by omega)) (fun _ _ => rfl)⟩
theorem WSh_ag {S S' : St} {w : Nat} (h : WSh S w) (hA : ∀ j, j < 8 → AG S S' (w + j)) : WSh S' w := by
  have a0 := hA 0 (by omega)
  have a1 := hA 1 (by omega)
  have a2 := hA 2 (by omega)
  have a3 := hA 3 (by omega)
  have a4 := hA 4 (by omega)
  have a5 := hA 5 (by omega)
  have a6 := hA 6 (by omega)
  have a7 := hA 7 (by omega)
  rw [Nat.add_zero] at a0
  unfold WSh at h ⊢
  rw [a0.1, a1.1, a2.1, a3.1, a4.1, a5.1, a6.1, a7.1, a1.2.1, a2.2.1, a3.2.1, a4.2.1, a5.2.1, a6.2.1, a7.2.1, a0.2.2.2, a0.2.2.2, a0.2.2.2, a0.2.2.2, a0.2.2.2, a0.2.2.2, a0.2.2.2]
  exact h
theorem HSh_ag {S S' : St} {q : Nat} (h : HSh S q) (hn : sn S ≤ sn S') (hA : ∀ j, j < 3 → AG S S' (q + j)) : HSh S' q := by
  have a0 := hA 0 (by omega)
  have a1 := hA 1 (by omega)
  have a2 := hA 2 (by omega)
  rw [Nat.add_zero] at a0
  have hi := h.hi
  obtain ⟨b1, b2, b3, b4, b5, b6, b7, b8, b9⟩ := h
  exact ⟨by rw [a0.1]; exact b1, by rw [a1.1]; exact b2, by rw [a2.1]; exact b3, by rw [a1.2.1]; exact b4, by rw [a2.2.1]; exact b5, by rw [a0.2.2.2]; exact b6, by rw [a0.2.2.2]; exact b7, b8, by omega⟩
theorem GSh_ag {S S' : St} {q : Nat} (h : GSh S q) (hn : sn S ≤ sn S') (hA : ∀ j, j < 4 → AG S S' (q + j)) : GSh S' q := by
  have a0 := hA 0 (by omega)
  have a1 := hA 1 (by omega)
  have a2 := hA 2 (by omega)
  have a3 := hA 3 (by omega)
  rw [Nat.add_zero] at a0
  obtain ⟨b1, b2, b3, b4, b5, b6, b7, b8, b9, b10, b11, b12⟩ := h
  exact ⟨by rw [a0.1]; exact b1, by rw [a1.1]; exact b2, by rw [a2.1]; exact b3, by rw [a3.1]; exact b4, by rw [a1.2.1]; exact b5, by rw [a2.2.1]; exact b6, by rw [a3.2.1]; exact b7, by rw [a0.2.2.2]; exact b8, by rw [a0.2.2.2]; exact b9, by rw [a0.2.2.2]; exact b10, b11, by omega⟩
theorem TSh_ag {S S' : St} {q : Nat} (h : TSh S q) (hn : sn S ≤ sn S') (hA : ∀ j, j < 2 → AG S S' (q + j)) : TSh S' q := by
  have a0 := hA 0 (by omega)
  have a1 := hA 1 (by omega)
  rw [Nat.add_zero] at a0
  obtain ⟨b1, b2, b3, b4, b5, b6⟩ := h
  exact ⟨by rw [a0.1]; exact b1, by rw [a1.1]; exact b2, by rw [a1.2.1]; exact b3, by rw [a0.2.2.2]; exact b4, b5, by omega⟩
theorem LSh_ag {S S' : St} {q : Nat} (h : LSh S q) (hn : sn S ≤ sn S') (hA : ∀ j, j < 5 → AG S S' (q + j)) : LSh S' q := by
  have a0 := hA 0 (by omega)
  have a1 := hA 1 (by omega)
  have a2 := hA 2 (by omega)
  have a3 := hA 3 (by omega)
  have a4 := hA 4 (by omega)
  rw [Nat.add_zero] at a0
  obtain ⟨b1, b2, b3, b4, b5, b6, b7, b8, b9, c1, c2, c3, c4, c5, c6⟩ := h
  exact ⟨by rw [a0.1]; exact b1, by rw [a1.1]; exact b2, by rw [a2.1]; exact b3, by rw [a3.1]; exact b4, by rw [a4.1]; exact b5, by rw [a2.2.1, a1.2.1]; exact b6, by rw [a3.2.1, a1.2.1]; exact b7, by rw [a4.2.1, a1.2.1]; exact b8, by rw [a1.2.1]; exact b9, by rw [a0.2.2.2]; exact c1, by rw [a0.2.2.2]; exact c2, by rw [a0.2.2.2]; exact c3, by rw [a0.2.2.2]; exact c4, c5, by omega⟩
theorem EX_SH {S S' : St} (hE : EX S S') (h : SH S) : SH S' := by
  have h46 := h.2.2.2
  refine ⟨fun a ha => by rw [(hE.2 a (by omega)).1]; exact h.1 a ha, fun a ha => by rw [(hE.2 a (by omega)).2.1]; exact h.2.1 a ha, fun q hq => ?_, Nat.le_trans h46 hE.1⟩
  have hq2 : ∀ q ∈ rL, q.1 < 46 := by decide
  rw [(hE.2 _ (Nat.lt_of_lt_of_le (hq2 q hq) h46)).2.2.2]
  exact h.2.2.1 q hq
theorem EX_WL {S S' : St} (hE : EX S S') (h : SH S) (w : Nat) : WL S' w ↔ WL S w := by
  unfold WL
  have h46 := h.2.2.2
  have : ∀ k, sR S' 9 k = sR S 9 k := (hE.2 9 (by omega)).2.2.2
  simp only [this]
theorem EX_CS {S S' : St} (hE : EX S S') (h : SH S) (hC : CS S) : CS S' := by
  have h46 := h.2.2.2
  have e9 : ∀ k, sR S' 9 k = sR S 9 k := (hE.2 9 (by omega)).2.2.2
  have gw : ∀ w, WL S' w → WL S w := fun w hw => (EX_WL hE h w).mp hw
  have eW : ∀ w, WL S w → ∀ j, j < 8 → AG S S' (w + j) := fun w hw j hj => hE.2 _ (by have := (WL_lt h hC hw).2; omega)
  have hn := hE.1
  obtain ⟨g1, g2, g3, g4, g5, g6, g7, g8, g9⟩ := id hC
  refine ⟨fun k w hk hw => ?_, fun k k' w hk hk' hw hw' => ?_, fun w hw => ?_, fun w i q hw hi hq => ?_, fun w i q hw hi hq => ?_, fun w i q hw hi hq => ?_, fun w i q hw hi hq => ?_, fun w w' i i' q hw hw' hi hi' hq hq' => ?_, fun w w' i i' q hw hw' hi hi' hq hq' => ?_⟩
  · rw [e9] at hw; have := g1 k w hk hw; omega
  · rw [e9] at hw hw'; exact g2 k k' w hk hk' hw hw'
  · exact WSh_ag (g3 w (gw w hw)) (eW w (gw w hw))
  · rw [(eW w (gw w hw) 2 (by omega)).2.2.2] at hq
    have hs := g4 w i q (gw w hw) hi hq
    exact TSh_ag hs hn (fun j hj => hE.2 _ (by have := hs.hi; omega))
  · rw [(eW w (gw w hw) 3 (by omega)).2.2.2] at hq
    have hs := g5 w i q (gw w hw) hi hq
    exact LSh_ag hs hn (fun j hj => hE.2 _ (by have := hs.hi; omega))
  · rw [(eW w (gw w hw) 4 (by omega)).2.2.2] at hq
    have hs := g6 w i q (gw w hw) hi hq
    exact HSh_ag hs hn (fun j hj => hE.2 _ (by have := hs.hi; omega))
  · rw [(eW w (gw w hw) 5 (by omega)).2.2.2] at hq
    have hs := g7 w i q (gw w hw) hi hq
    exact GSh_ag hs hn (fun j hj => hE.2 _ (by have := hs.hi; omega))
  · rw [(eW w (gw w hw) 4 (by omega)).2.2.2] at hq
    rw [(eW w' (gw w' hw') 4 (by omega)).2.2.2] at hq'
    exact g8 w w' i i' q (gw w hw) (gw w' hw') hi hi' hq hq'
  · rw [(eW w (gw w hw) 5 (by omega)).2.2.2] at hq
    rw [(eW w' (gw w' hw') 5 (by omega)).2.2.2] at hq'
    exact g9 w w' i i' q (gw w hw) (gw w' hw') hi hi' hq hq'
def kW : Nat → Nat
  | 2 => 19
  | 3 => 21
  | 4 => 18
  | 5 => 20
  | _ => 0
theorem WSh.ks {S : St} {w t : Nat} (h : WSh S w) (ht : 2 ≤ t ∧ t ≤ 5) : sK S (w + t) = kW t := by
  rcases (show t = 2 ∨ t = 3 ∨ t = 4 ∨ t = 5 by omega) with rfl | rfl | rfl | rfl
  · exact h.2.2.1
  · exact h.2.2.2.1
  · exact h.2.2.2.2.1
  · exact h.2.2.2.2.2.1
theorem kW_inj {s t : Nat} (hs : 2 ≤ s ∧ s ≤ 5) (ht : 2 ≤ t ∧ t ≤ 5) (h : kW s = kW t) : s = t := by
  rcases (show t = 2 ∨ t = 3 ∨ t = 4 ∨ t = 5 by omega) with rfl | rfl | rfl | rfl <;> rcases (show s = 2 ∨ s = 3 ∨ s = 4 ∨ s = 5 by omega) with rfl | rfl | rfl | rfl <;> first | rfl | (exact absurd h (by decide))
theorem kW_ge {t : Nat} (ht : 2 ≤ t ∧ t ≤ 5) : 18 ≤ kW t := by
  rcases (show t = 2 ∨ t = 3 ∨ t = 4 ∨ t = 5 by omega) with rfl | rfl | rfl | rfl <;> decide
/-- a reference put into a world's row -/
theorem CS_put {S : St} (h : SH S) (hC : CS S) {d t i0 : Nat} {v : Option Nat} (hd : WL S d) (ht : 2 ≤ t ∧ t ≤ 5)
    (h2 : t = 2 → ∀ q, v = some q → TSh S q) (h3 : t = 3 → ∀ q, v = some q → LSh S q) (h4 : t = 4 → ∀ q, v = some q → HSh S q ∧ ∀ w i, WL S w → i < 12 → sR S (w + 4) i ≠ some q) (h5 : t = 5 → ∀ q, v = some q → GSh S q ∧ ∀ w i, WL S w → i < 60 → sR S (w + 5) i ≠ some q) : CS (stR S (d + t) i0 v) := by
  have hdl := WL_lt h hC hd
  have hkd := (hC.2.2.1 d hd).ks ht
  have hge := kW_ge ht
  have e9 : ∀ k, sR (stR S (d + t) i0 v) 9 k = sR S 9 k := fun k => by rw [sR_stR, if_neg (by rintro ⟨e, -⟩; omega)]
  have gw : ∀ w, WL (stR S (d + t) i0 v) w → WL S w := fun w hw => by
    unfold WL at hw ⊢
    simp only [e9] at hw
    exact hw
  have eo : ∀ a j, sK S a < 18 → sR (stR S (d + t) i0 v) a j = sR S a j := fun a j ha => by rw [sR_stR, if_neg (by rintro ⟨e, -⟩; rw [e, hkd] at ha; omega)]
  have em : ∀ w s i, WL S w → 2 ≤ s ∧ s ≤ 5 → (sR (stR S (d + t) i0 v) (w + s) i = sR S (w + s) i) ∨ (w = d ∧ s = t ∧ i = i0 ∧ sR (stR S (d + t) i0 v) (w + s) i = v) := fun w s i hw hs => by
    rw [sR_stR]
    by_cases e : w + s = d + t ∧ i = i0
    · right
      rw [if_pos e]
      have hks := (hC.2.2.1 w hw).ks hs
      rw [e.1, hkd] at hks
      have := kW_inj ht hs hks
      exact ⟨by omega, this.symm, e.2, rfl⟩
    · left; rw [if_neg e]
  have wk : ∀ w, WL S w → WSh (stR S (d + t) i0 v) w := fun w hw => by
    have hs := hC.2.2.1 w hw
    unfold WSh at hs ⊢
    rw [eo w 0 (by rw [hs.1]; decide), eo w 5 (by rw [hs.1]; decide), eo w 7 (by rw [hs.1]; decide), eo w 9 (by rw [hs.1]; decide), eo w 11 (by rw [hs.1]; decide), eo w 13 (by rw [hs.1]; decide), eo w 14 (by rw [hs.1]; decide)]
    exact hs
  have tk : ∀ q, TSh S q → TSh (stR S (d + t) i0 v) q := fun q hs => by
    unfold TSh at hs ⊢
    rw [eo q 3 (by rw [hs.1]; decide)]
    exact hs
  have lk : ∀ q, LSh S q → LSh (stR S (d + t) i0 v) q := fun q hs => by
    unfold LSh at hs ⊢
    rw [eo q 4 (by rw [hs.1]; decide), eo q 5 (by rw [hs.1]; decide), eo q 6 (by rw [hs.1]; decide), eo q 7 (by rw [hs.1]; decide)]
    exact hs
  have hk : ∀ q, HSh S q → HSh (stR S (d + t) i0 v) q := fun q hs => by
    unfold HSh at hs ⊢
    rw [eo q 5 (by rw [hs.1]; decide), eo q 6 (by rw [hs.1]; decide)]
    exact hs
  have gk : ∀ q, GSh S q → GSh (stR S (d + t) i0 v) q := fun q hs => by
    unfold GSh at hs ⊢
    rw [eo q 9 (by rw [hs.1]; decide), eo q 10 (by rw [hs.1]; decide), eo q 11 (by rw [hs.1]; decide)]
    exact hs
  obtain ⟨g1, g2, g3, g4, g5, g6, g7, g8, g9⟩ := id hC
  refine ⟨fun k w hk hw => ?_, fun k k' w hk hk' hw hw' => ?_, fun w hw => wk w (gw w hw), fun w i q hw hi hq => ?_, fun w i q hw hi hq => ?_, fun w i q hw hi hq => ?_, fun w i q hw hi hq => ?_, fun w w' i i' q hw hw' hi hi' hq hq' => ?_, fun w w' i i' q hw hw' hi hi' hq hq' => ?_⟩
  · rw [e9] at hw; exact g1 k w hk hw
  · rw [e9] at hw hw'; exact g2 k k' w hk hk' hw hw'
  · rcases em w 2 i (gw w hw) (by omega) with e | ⟨-, e2, -, e⟩
    · rw [e] at hq; exact tk q (g4 w i q (gw w hw) hi hq)
    · rw [e] at hq; exact tk q (h2 e2.symm q hq)
  · rcases em w 3 i (gw w hw) (by omega) with e | ⟨-, e2, -, e⟩
    · rw [e] at hq; exact lk q (g5 w i q (gw w hw) hi hq)
    · rw [e] at hq; exact lk q (h3 e2.symm q hq)
  · rcases em w 4 i (gw w hw) (by omega) with e | ⟨-, e2, -, e⟩
    · rw [e] at hq; exact hk q (g6 w i q (gw w hw) hi hq)
    · rw [e] at hq; exact hk q (h4 e2.symm q hq).1
  · rcases em w 5 i (gw w hw) (by omega) with e | ⟨-, e2, -, e⟩
    · rw [e] at hq; exact gk q (g7 w i q (gw w hw) hi hq)
    · rw [e] at hq; exact gk q (h5 e2.symm q hq).1
  · rcases em w 4 i (gw w hw) (by omega) with e | ⟨z1, z2, z3, e⟩ <;> rcases em w' 4 i' (gw w' hw') (by omega) with e' | ⟨z1', z2', z3', e'⟩ <;> rw [e] at hq <;> rw [e'] at hq'
    · exact g8 w w' i i' q (gw w hw) (gw w' hw') hi hi' hq hq'
    · exact absurd hq ((h4 z2'.symm q hq').2 w i (gw w hw) hi)
    · exact absurd hq' ((h4 z2.symm q hq).2 w' i' (gw w' hw') hi')
    · exact ⟨by omega, by omega⟩
  · rcases em w 5 i (gw w hw) (by omega) with e | ⟨z1, z2, z3, e⟩ <;> rcases em w' 5 i' (gw w' hw') (by omega) with e' | ⟨z1', z2', z3', e'⟩ <;> rw [e] at hq <;> rw [e'] at hq'
    · exact g9 w w' i i' q (gw w hw) (gw w' hw') hi hi' hq hq'
    · exact absurd hq ((h5 z2'.symm q hq').2 w i (gw w hw) hi)
    · exact absurd hq' ((h5 z2.symm q hq).2 w' i' (gw w' hw') hi')
    · exact ⟨by omega, by omega⟩
theorem SH_put {S : St} (h : SH S) {a j : Nat} (v : Option Nat) (ha : a = 3 ∨ a = 4 ∨ a = 5 ∨ a = 6 ∨ a = 9 ∨ 46 ≤ a) : SH (stR S a j v) := by
  refine ⟨h.1, h.2.1, fun q hq => ?_, h.2.2.2⟩
  have hq2 : ∀ q ∈ rL, q.1 ≠ 3 ∧ q.1 ≠ 4 ∧ q.1 ≠ 5 ∧ q.1 ≠ 6 ∧ q.1 ≠ 9 ∧ q.1 < 46 := by decide
  have := hq2 q hq
  rw [sR_stR, if_neg (by rintro ⟨e, -⟩; omega)]
  exact h.2.2.1 q hq
/-- what the class holds -/
def IC (al : Nat → Int32) (im : Nat → Option (Nat → Int32)) (S : St) : Prop := SH S ∧ CS S ∧ RC al im S ∧ OK al ∧ ∀ k al', k < 3 → im k = some al' → OK al'
theorem IN.ic {al : Nat → Int32} {im : Nat → Option (Nat → Int32)} {S : St} (h : IN al im S) : IC al im S := ⟨h.1, h.2.1, h.2.2.1, h.2.2.2.2.1, h.2.2.2.2.2⟩

theorem CQ_addH {al al' : Nat → Int32} {im : Nat → Option (Nat → Int32)} {S0 S S1 : St} {n q : Nat} (hI : IC al im S) (hn : al 2 = Int32.ofNat n) (hlt : n < 12) (hE : EX S S1) (hq : sn S ≤ q) (hsh : HSh S1 q) (hal : ∀ k, k < 7440 → k ≠ 2 → ¬ (3440 + 160 * n ≤ k ∧ k < 3600 + 160 * n) → al' k = al k) (hc : al' 2 = Int32.ofNat n + 1) (hrel : HRel al' n q S1) (b1 : sn S1 ≤ sn S0 + 300) (b2 : sm S1 ≤ sm S0 + 3000) (b3 : ∀ j, sI S 33 j = sI S0 33 j) (b4 : ∀ j, sI S 34 j = sI S0 34 j) : CQ S0 al' im (stI (stR S1 5 n (some q)) 1 10 (Int32.ofNat n + 1)) := by
  obtain ⟨h1, h2, h3, h4, h6⟩ := hI
  have h46 := h1.2.2.2
  have k1 := EX_SH hE h1
  have k2 := EX_CS hE h1 h2
  have n0 : nat (al 0) ≤ 8 := nat_le h4.1.1.2 (by decide)
  have n1 : nat (al 1) ≤ 10 := nat_le h4.1.2.1.2 (by decide)
  have n2 : nat (al 2) ≤ 12 := nat_le h4.1.2.2.1.2 (by decide)
  have n3 : nat (al 3) ≤ 60 := nat_le h4.1.2.2.2.1.2 (by decide)
  have hnn : nat (al 2) = n := by rw [hn]; exact nat_ofNat (by omega)
  have hnn' : nat (al' 2) = n + 1 := by rw [hc, succ32]; exact nat_ofNat (by omega)
  have hw : WL S 1 := Or.inl rfl
  have fresh : ∀ w i, WL S w → i < 12 → sR S (w + 4) i ≠ some q := fun w i hw' hi e => by
    have := (shH h2 hw' hi e).hi
    omega
  have hC2 : CS (stR S1 5 n (some q)) := by
    refine CS_put (d := 1) (t := 4) k1 k2 (Or.inl rfl) (by omega) ?_ ?_ ?_ ?_

    · intro e; omega
    · intro e; omega
    · rintro - q' e
      cases e
      exact ⟨hsh, fun w i hw' hi => by
        have hw'' := (EX_WL hE h1 w).mp hw'
        rw [(hE.2 _ (by have := (WL_lt h1 h2 hw'').2; omega)).2.2.2]
        exact fresh w i hw'' hi⟩
    · intro e; omega
  have ag : ∀ a, 46 ≤ a → a < sn S → AG S (stI (stR S1 5 n (some q)) 1 10 (Int32.ofNat n + 1)) a := fun a ha hb => ((hE.2 a hb).stR _ (by omega)).stI _ (by omega)
  have al2 : ∀ a, a = 2 ∨ a = 7 ∨ a = 8 ∨ a = 9 ∨ a = 33 ∨ a = 34 → AG S (stI (stR S1 5 n (some q)) 1 10 (Int32.ofNat n + 1)) a := fun a ha => ((hE.2 a (by omega)).stR _ (by omega)).stI _ (by omega)
  have rr : ∀ a i, 3 ≤ a → a ≤ 6 → (a ≠ 5 ∨ i ≠ n) → sR (stI (stR S1 5 n (some q)) 1 10 (Int32.ofNat n + 1)) a i = sR S a i := fun a i ha hb hc => by
    rw [sR_stI, sR_stR, if_neg (by rintro ⟨rfl, rfl⟩; rcases hc with hc | hc <;> exact hc rfl)]
    exact (hE.2 a (by omega)).2.2.2 i
  have e1 : ∀ j, j ≠ 10 → sI (stI (stR S1 5 n (some q)) 1 10 (Int32.ofNat n + 1)) 1 j = sI S 1 j := fun j hj => by rw [sI_stI, if_neg (fun z => hj z.2)]; exact (hE.2 1 (by omega)).2.2.1 j
  refine ⟨SH_put k1 _ (by omega), hC2, ⟨?_, fun k hk => ?_⟩, b1, b2, fun j => ((al2 33 (by omega)).2.2.1 j).trans (b3 j), fun j => ((al2 34 (by omega)).2.2.1 j).trans (b4 j)⟩
  · obtain ⟨⟨s1, s2, s3, s4, s5, s6, s7, s8⟩, t, u, v, p, l, hh, g⟩ := h3.1
    refine ⟨?_, fun i hi => ?_, fun i hi => ?_, fun i hi => ?_, fun i hi => ?_, fun i hi => ?_, fun i hi => ?_, fun i hi => ?_⟩
    · exact ⟨(by rw [e1 1 (by omega), hal 5 (by omega) (by omega) (by omega)]; exact s1), (by rw [e1 2 (by omega), hal 6 (by omega) (by omega) (by omega)]; exact s2), (by rw [e1 3 (by omega), hal 7 (by omega) (by omega) (by omega)]; exact s3), (by rw [e1 4 (by omega), hal 4 (by omega) (by omega) (by omega)]; exact s4), (by rw [e1 6 (by omega), hal 0 (by omega) (by omega) (by omega)]; exact s5), (by rw [e1 8 (by omega), hal 1 (by omega) (by omega) (by omega)]; exact s6), (by rw [st_get, hc]), (by rw [e1 12 (by omega), hal 3 (by omega) (by omega) (by omega)]; exact s8)⟩
    · rw [(al2 2 (by omega)).2.2.1, hal _ (by omega) (by omega) (by omega)]; exact t i hi
    · rw [(al2 7 (by omega)).2.2.1, hal _ (by omega) (by omega) (by omega)]; exact u i hi
    · rw [(al2 8 (by omega)).2.2.1, hal _ (by omega) (by omega) (by omega)]; exact v i hi
    · rw [hal 0 (by omega) (by omega) (by omega)] at hi
      obtain ⟨q', hq', r⟩ := p i hi
      have hs := shT h2 hw (show i < 8 by omega) hq'
      have h1' := hs.hi
      have h2' := hs.ge
      refine ⟨q', by rw [rr _ _ (by omega) (by omega) (Or.inl (by omega))]; exact hq', ?_⟩
      exact PRel_of r (ag _ (by omega) (by omega)).2.2.1 (ag _ (by omega) (by omega)).2.2.1 (fun k hk => hal _ (by omega) (by omega) (by omega))
    · rw [hal 1 (by omega) (by omega) (by omega)] at hi
      obtain ⟨q', hq', r⟩ := l i hi
      have hs := shL h2 hw (show i < 10 by omega) hq'
      have h1' := hs.hi
      have h2' := hs.ge
      refine ⟨q', by rw [rr _ _ (by omega) (by omega) (Or.inl (by omega))]; exact hq', ?_⟩
      exact LRel_of r (ag _ (by omega) (by omega)).2.1 hs.le (ag _ (by omega) (by omega)).2.2.1 (ag _ (by omega) (by omega)).2.2.1 (ag _ (by omega) (by omega)).2.2.1 (ag _ (by omega) (by omega)).2.2.1 (ag _ (by omega) (by omega)).2.2.1 (fun k hk => hal _ (by omega) (by omega) (by omega))
    · rw [hnn'] at hi
      by_cases e : i = n
      · subst e
        refine ⟨q, by rw [sR_stI, sR_stR, if_pos ⟨rfl, rfl⟩], ?_⟩
        have hge := hsh.ge
        exact HRel_of hrel (fun j => st_ne (Or.inl (by omega))) (fun j => st_ne (Or.inl (by omega))) (fun j => st_ne (Or.inl (by omega))) (fun _ _ => rfl)
      · obtain ⟨q', hq', r⟩ := hh i (by omega)
        have hs := shH h2 hw (show i < 12 by omega) hq'
        have h1' := hs.hi
        have h2' := hs.ge
        refine ⟨q', by rw [rr _ _ (by omega) (by omega) (Or.inr e)]; exact hq', ?_⟩
        exact HRel_of r (ag _ (by omega) (by omega)).2.2.1 (ag _ (by omega) (by omega)).2.2.1 (ag _ (by omega) (by omega)).2.2.1 (fun k hk => hal _ (by omega) (by omega) (by omega))
    · rw [hal 3 (by omega) (by omega) (by omega)] at hi
      obtain ⟨q', hq', r⟩ := g i hi
      have hs := shG h2 hw (show i < 60 by omega) hq'
      have h1' := hs.hi
      have h2' := hs.ge
      refine ⟨q', by rw [rr _ _ (by omega) (by omega) (Or.inl (by omega))]; exact hq', ?_⟩
      exact GRel_of r (ag _ (by omega) (by omega)).2.2.1 (ag _ (by omega) (by omega)).2.2.1 (ag _ (by omega) (by omega)).2.2.1 (ag _ (by omega) (by omega)).2.2.1 (fun k hk => hal _ (by omega) (by omega) (by omega))
  · have e9 := (al2 9 (by omega)).2.2.2
    rcases h3.2 k hk with ⟨z1, z2⟩ | ⟨al0, w, z1, z2, z3⟩
    · exact Or.inl ⟨z1, by rw [e9]; exact z2⟩
    · have hw2 : WL S w := Or.inr ⟨k, hk, z2⟩
      have hw46 := (h2.1 k w hk z2).1
      refine Or.inr ⟨al0, w, z1, by rw [e9]; exact z2, CW_ag z3 (h6 k al0 hk z1).1 h2 hw2 (fun a ha => ag a ?_ (FT_lt h1 h2 hw2 ha))⟩
      have := FT_ge h1 h2 hw2 ha
      omega
theorem CQ_addG {al al' : Nat → Int32} {im : Nat → Option (Nat → Int32)} {S0 S S1 : St} {n q : Nat} (hI : IC al im S) (hn : al 3 = Int32.ofNat n) (hlt : n < 60) (hE : EX S S1) (hq : sn S ≤ q) (hsh : GSh S1 q) (hal : ∀ k, k < 7440 → k ≠ 3 → ¬ (5360 + 28 * n ≤ k ∧ k < 5388 + 28 * n) → al' k = al k) (hc : al' 3 = Int32.ofNat n + 1) (hrel : GRel al' n q S1) (b1 : sn S1 ≤ sn S0 + 300) (b2 : sm S1 ≤ sm S0 + 3000) (b3 : ∀ j, sI S 33 j = sI S0 33 j) (b4 : ∀ j, sI S 34 j = sI S0 34 j) : CQ S0 al' im (stI (stR S1 6 n (some q)) 1 12 (Int32.ofNat n + 1)) := by
  obtain ⟨h1, h2, h3, h4, h6⟩ := hI
  have h46 := h1.2.2.2
  have k1 := EX_SH hE h1
  have k2 := EX_CS hE h1 h2
  have n0 : nat (al 0) ≤ 8 := nat_le h4.1.1.2 (by decide)
  have n1 : nat (al 1) ≤ 10 := nat_le h4.1.2.1.2 (by decide)
  have n2 : nat (al 2) ≤ 12 := nat_le h4.1.2.2.1.2 (by decide)
  have n3 : nat (al 3) ≤ 60 := nat_le h4.1.2.2.2.1.2 (by decide)
  have hnn : nat (al 3) = n := by rw [hn]; exact nat_ofNat (by omega)
  have hnn' : nat (al' 3) = n + 1 := by rw [hc, succ32]; exact nat_ofNat (by omega)
  have hw : WL S 1 := Or.inl rfl
  have fresh : ∀ w i, WL S w → i < 60 → sR S (w + 5) i ≠ some q := fun w i hw' hi e => by
    have := (shG h2 hw' hi e).hi
    omega
  have hC2 : CS (stR S1 6 n (some q)) := by
    refine CS_put (d := 1) (t := 5) k1 k2 (Or.inl rfl) (by omega) ?_ ?_ ?_ ?_

    · intro e; omega
    · intro e; omega
    · intro e; omega
    · rintro - q' e
      cases e
      exact ⟨hsh, fun w i hw' hi => by
        have hw'' := (EX_WL hE h1 w).mp hw'
        rw [(hE.2 _ (by have := (WL_lt h1 h2 hw'').2; omega)).2.2.2]
        exact fresh w i hw'' hi⟩
  have ag : ∀ a, 46 ≤ a → a < sn S → AG S (stI (stR S1 6 n (some q)) 1 12 (Int32.ofNat n + 1)) a := fun a ha hb => ((hE.2 a hb).stR _ (by omega)).stI _ (by omega)
  have al2 : ∀ a, a = 2 ∨ a = 7 ∨ a = 8 ∨ a = 9 ∨ a = 33 ∨ a = 34 → AG S (stI (stR S1 6 n (some q)) 1 12 (Int32.ofNat n + 1)) a := fun a ha => ((hE.2 a (by omega)).stR _ (by omega)).stI _ (by omega)
  have rr : ∀ a i, 3 ≤ a → a ≤ 6 → (a ≠ 6 ∨ i ≠ n) → sR (stI (stR S1 6 n (some q)) 1 12 (Int32.ofNat n + 1)) a i = sR S a i := fun a i ha hb hc => by
    rw [sR_stI, sR_stR, if_neg (by rintro ⟨rfl, rfl⟩; rcases hc with hc | hc <;> exact hc rfl)]
    exact (hE.2 a (by omega)).2.2.2 i
  have e1 : ∀ j, j ≠ 12 → sI (stI (stR S1 6 n (some q)) 1 12 (Int32.ofNat n + 1)) 1 j = sI S 1 j := fun j hj => by rw [sI_stI, if_neg (fun z => hj z.2)]; exact (hE.2 1 (by omega)).2.2.1 j
  refine ⟨SH_put k1 _ (by omega), hC2, ⟨?_, fun k hk => ?_⟩, b1, b2, fun j => ((al2 33 (by omega)).2.2.1 j).trans (b3 j), fun j => ((al2 34 (by omega)).2.2.1 j).trans (b4 j)⟩
  · obtain ⟨⟨s1, s2, s3, s4, s5, s6, s7, s8⟩, t, u, v, p, l, hh, g⟩ := h3.1
    refine ⟨?_, fun i hi => ?_, fun i hi => ?_, fun i hi => ?_, fun i hi => ?_, fun i hi => ?_, fun i hi => ?_, fun i hi => ?_⟩
    · exact ⟨(by rw [e1 1 (by omega), hal 5 (by omega) (by omega) (by omega)]; exact s1), (by rw [e1 2 (by omega), hal 6 (by omega) (by omega) (by omega)]; exact s2), (by rw [e1 3 (by omega), hal 7 (by omega) (by omega) (by omega)]; exact s3), (by rw [e1 4 (by omega), hal 4 (by omega) (by omega) (by omega)]; exact s4), (by rw [e1 6 (by omega), hal 0 (by omega) (by omega) (by omega)]; exact s5), (by rw [e1 8 (by omega), hal 1 (by omega) (by omega) (by omega)]; exact s6), (by rw [e1 10 (by omega), hal 2 (by omega) (by omega) (by omega)]; exact s7), (by rw [st_get, hc])⟩
    · rw [(al2 2 (by omega)).2.2.1, hal _ (by omega) (by omega) (by omega)]; exact t i hi
    · rw [(al2 7 (by omega)).2.2.1, hal _ (by omega) (by omega) (by omega)]; exact u i hi
    · rw [(al2 8 (by omega)).2.2.1, hal _ (by omega) (by omega) (by omega)]; exact v i hi
    · rw [hal 0 (by omega) (by omega) (by omega)] at hi
      obtain ⟨q', hq', r⟩ := p i hi
      have hs := shT h2 hw (show i < 8 by omega) hq'
      have h1' := hs.hi
      have h2' := hs.ge
      refine ⟨q', by rw [rr _ _ (by omega) (by omega) (Or.inl (by omega))]; exact hq', ?_⟩
      exact PRel_of r (ag _ (by omega) (by omega)).2.2.1 (ag _ (by omega) (by omega)).2.2.1 (fun k hk => hal _ (by omega) (by omega) (by omega))
    · rw [hal 1 (by omega) (by omega) (by omega)] at hi
      obtain ⟨q', hq', r⟩ := l i hi
      have hs := shL h2 hw (show i < 10 by omega) hq'
      have h1' := hs.hi
      have h2' := hs.ge
      refine ⟨q', by rw [rr _ _ (by omega) (by omega) (Or.inl (by omega))]; exact hq', ?_⟩
      exact LRel_of r (ag _ (by omega) (by omega)).2.1 hs.le (ag _ (by omega) (by omega)).2.2.1 (ag _ (by omega) (by omega)).2.2.1 (ag _ (by omega) (by omega)).2.2.1 (ag _ (by omega) (by omega)).2.2.1 (ag _ (by omega) (by omega)).2.2.1 (fun k hk => hal _ (by omega) (by omega) (by omega))
    · rw [hal 2 (by omega) (by omega) (by omega)] at hi
      obtain ⟨q', hq', r⟩ := hh i hi
      have hs := shH h2 hw (show i < 12 by omega) hq'
      have h1' := hs.hi
      have h2' := hs.ge
      refine ⟨q', by rw [rr _ _ (by omega) (by omega) (Or.inl (by omega))]; exact hq', ?_⟩
      exact HRel_of r (ag _ (by omega) (by omega)).2.2.1 (ag _ (by omega) (by omega)).2.2.1 (ag _ (by omega) (by omega)).2.2.1 (fun k hk => hal _ (by omega) (by omega) (by omega))
    · rw [hnn'] at hi
      by_cases e : i = n
      · subst e
        refine ⟨q, by rw [sR_stI, sR_stR, if_pos ⟨rfl, rfl⟩], ?_⟩
        have hge := hsh.ge
        exact GRel_of hrel (fun j => st_ne (Or.inl (by omega))) (fun j => st_ne (Or.inl (by omega))) (fun j => st_ne (Or.inl (by omega))) (fun j => st_ne (Or.inl (by omega))) (fun _ _ => rfl)
      · obtain ⟨q', hq', r⟩ := g i (by omega)
        have hs := shG h2 hw (show i < 60 by omega) hq'
        have h1' := hs.hi
        have h2' := hs.ge
        refine ⟨q', by rw [rr _ _ (by omega) (by omega) (Or.inr e)]; exact hq', ?_⟩
        exact GRel_of r (ag _ (by omega) (by omega)).2.2.1 (ag _ (by omega) (by omega)).2.2.1 (ag _ (by omega) (by omega)).2.2.1 (ag _ (by omega) (by omega)).2.2.1 (fun k hk => hal _ (by omega) (by omega) (by omega))
  · have e9 := (al2 9 (by omega)).2.2.2
    rcases h3.2 k hk with ⟨z1, z2⟩ | ⟨al0, w, z1, z2, z3⟩
    · exact Or.inl ⟨z1, by rw [e9]; exact z2⟩
    · have hw2 : WL S w := Or.inr ⟨k, hk, z2⟩
      have hw46 := (h2.1 k w hk z2).1
      refine Or.inr ⟨al0, w, z1, by rw [e9]; exact z2, CW_ag z3 (h6 k al0 hk z1).1 h2 hw2 (fun a ha => ag a ?_ (FT_lt h1 h2 hw2 ha))⟩
      have := FT_ge h1 h2 hw2 ha
      omega
theorem CQ_addT {al al' : Nat → Int32} {im : Nat → Option (Nat → Int32)} {S0 S S1 : St} {n q : Nat} (hI : IC al im S) (hn : al 0 = Int32.ofNat n) (hlt : n < 8) (hE : EX S S1) (hq : sn S ≤ q) (hsh : TSh S1 q) (hal : ∀ k, k < 7440 → k ≠ 0 → ¬ (20 + 27 * n ≤ k ∧ k < 47 + 27 * n) → al' k = al k) (hc : al' 0 = Int32.ofNat n + 1) (hrel : PRel al' n q S1) (b1 : sn S1 ≤ sn S0 + 300) (b2 : sm S1 ≤ sm S0 + 3000) (b3 : ∀ j, sI S 33 j = sI S0 33 j) (b4 : ∀ j, sI S 34 j = sI S0 34 j) : CQ S0 al' im (stI (stR S1 3 n (some q)) 1 6 (Int32.ofNat n + 1)) := by
  obtain ⟨h1, h2, h3, h4, h6⟩ := hI
  have h46 := h1.2.2.2
  have k1 := EX_SH hE h1
  have k2 := EX_CS hE h1 h2
  have n0 : nat (al 0) ≤ 8 := nat_le h4.1.1.2 (by decide)
  have n1 : nat (al 1) ≤ 10 := nat_le h4.1.2.1.2 (by decide)
  have n2 : nat (al 2) ≤ 12 := nat_le h4.1.2.2.1.2 (by decide)
  have n3 : nat (al 3) ≤ 60 := nat_le h4.1.2.2.2.1.2 (by decide)
  have hnn : nat (al 0) = n := by rw [hn]; exact nat_ofNat (by omega)
  have hnn' : nat (al' 0) = n + 1 := by rw [hc, succ32]; exact nat_ofNat (by omega)
  have hw : WL S 1 := Or.inl rfl
  have fresh : ∀ w i, WL S w → i < 8 → sR S (w + 2) i ≠ some q := fun w i hw' hi e => by
    have := (shT h2 hw' hi e).hi
    omega
  have hC2 : CS (stR S1 3 n (some q)) := by
    refine CS_put (d := 1) (t := 2) k1 k2 (Or.inl rfl) (by omega) ?_ ?_ ?_ ?_

    · rintro - q' e
      cases e
      exact hsh
    · intro e; omega
    · intro e; omega
    · intro e; omega
  have ag : ∀ a, 46 ≤ a → a < sn S → AG S (stI (stR S1 3 n (some q)) 1 6 (Int32.ofNat n + 1)) a := fun a ha hb => ((hE.2 a hb).stR _ (by omega)).stI _ (by omega)
  have al2 : ∀ a, a = 2 ∨ a = 7 ∨ a = 8 ∨ a = 9 ∨ a = 33 ∨ a = 34 → AG S (stI (stR S1 3 n (some q)) 1 6 (Int32.ofNat n + 1)) a := fun a ha => ((hE.2 a (by omega)).stR _ (by omega)).stI _ (by omega)
  have rr : ∀ a i, 3 ≤ a → a ≤ 6 → (a ≠ 3 ∨ i ≠ n) → sR (stI (stR S1 3 n (some q)) 1 6 (Int32.ofNat n + 1)) a i = sR S a i := fun a i ha hb hc => by
    rw [sR_stI, sR_stR, if_neg (by rintro ⟨rfl, rfl⟩; rcases hc with hc | hc <;> exact hc rfl)]
    exact (hE.2 a (by omega)).2.2.2 i
  have e1 : ∀ j, j ≠ 6 → sI (stI (stR S1 3 n (some q)) 1 6 (Int32.ofNat n + 1)) 1 j = sI S 1 j := fun j hj => by rw [sI_stI, if_neg (fun z => hj z.2)]; exact (hE.2 1 (by omega)).2.2.1 j
  refine ⟨SH_put k1 _ (by omega), hC2, ⟨?_, fun k hk => ?_⟩, b1, b2, fun j => ((al2 33 (by omega)).2.2.1 j).trans (b3 j), fun j => ((al2 34 (by omega)).2.2.1 j).trans (b4 j)⟩
  · obtain ⟨⟨s1, s2, s3, s4, s5, s6, s7, s8⟩, t, u, v, p, l, hh, g⟩ := h3.1
    refine ⟨?_, fun i hi => ?_, fun i hi => ?_, fun i hi => ?_, fun i hi => ?_, fun i hi => ?_, fun i hi => ?_, fun i hi => ?_⟩
    · exact ⟨(by rw [e1 1 (by omega), hal 5 (by omega) (by omega) (by omega)]; exact s1), (by rw [e1 2 (by omega), hal 6 (by omega) (by omega) (by omega)]; exact s2), (by rw [e1 3 (by omega), hal 7 (by omega) (by omega) (by omega)]; exact s3), (by rw [e1 4 (by omega), hal 4 (by omega) (by omega) (by omega)]; exact s4), (by rw [st_get, hc]), (by rw [e1 8 (by omega), hal 1 (by omega) (by omega) (by omega)]; exact s6), (by rw [e1 10 (by omega), hal 2 (by omega) (by omega) (by omega)]; exact s7), (by rw [e1 12 (by omega), hal 3 (by omega) (by omega) (by omega)]; exact s8)⟩
    · rw [(al2 2 (by omega)).2.2.1, hal _ (by omega) (by omega) (by omega)]; exact t i hi
    · rw [(al2 7 (by omega)).2.2.1, hal _ (by omega) (by omega) (by omega)]; exact u i hi
    · rw [(al2 8 (by omega)).2.2.1, hal _ (by omega) (by omega) (by omega)]; exact v i hi
    · rw [hnn'] at hi
      by_cases e : i = n
      · subst e
        refine ⟨q, by rw [sR_stI, sR_stR, if_pos ⟨rfl, rfl⟩], ?_⟩
        have hge := hsh.ge
        exact PRel_of hrel (fun j => st_ne (Or.inl (by omega))) (fun j => st_ne (Or.inl (by omega))) (fun _ _ => rfl)
      · obtain ⟨q', hq', r⟩ := p i (by omega)
        have hs := shT h2 hw (show i < 8 by omega) hq'
        have h1' := hs.hi
        have h2' := hs.ge
        refine ⟨q', by rw [rr _ _ (by omega) (by omega) (Or.inr e)]; exact hq', ?_⟩
        exact PRel_of r (ag _ (by omega) (by omega)).2.2.1 (ag _ (by omega) (by omega)).2.2.1 (fun k hk => hal _ (by omega) (by omega) (by omega))
    · rw [hal 1 (by omega) (by omega) (by omega)] at hi
      obtain ⟨q', hq', r⟩ := l i hi
      have hs := shL h2 hw (show i < 10 by omega) hq'
      have h1' := hs.hi
      have h2' := hs.ge
      refine ⟨q', by rw [rr _ _ (by omega) (by omega) (Or.inl (by omega))]; exact hq', ?_⟩
      exact LRel_of r (ag _ (by omega) (by omega)).2.1 hs.le (ag _ (by omega) (by omega)).2.2.1 (ag _ (by omega) (by omega)).2.2.1 (ag _ (by omega) (by omega)).2.2.1 (ag _ (by omega) (by omega)).2.2.1 (ag _ (by omega) (by omega)).2.2.1 (fun k hk => hal _ (by omega) (by omega) (by omega))
    · rw [hal 2 (by omega) (by omega) (by omega)] at hi
      obtain ⟨q', hq', r⟩ := hh i hi
      have hs := shH h2 hw (show i < 12 by omega) hq'
      have h1' := hs.hi
      have h2' := hs.ge
      refine ⟨q', by rw [rr _ _ (by omega) (by omega) (Or.inl (by omega))]; exact hq', ?_⟩
      exact HRel_of r (ag _ (by omega) (by omega)).2.2.1 (ag _ (by omega) (by omega)).2.2.1 (ag _ (by omega) (by omega)).2.2.1 (fun k hk => hal _ (by omega) (by omega) (by omega))
    · rw [hal 3 (by omega) (by omega) (by omega)] at hi
      obtain ⟨q', hq', r⟩ := g i hi
      have hs := shG h2 hw (show i < 60 by omega) hq'
      have h1' := hs.hi
      have h2' := hs.ge
      refine ⟨q', by rw [rr _ _ (by omega) (by omega) (Or.inl (by omega))]; exact hq', ?_⟩
      exact GRel_of r (ag _ (by omega) (by omega)).2.2.1 (ag _ (by omega) (by omega)).2.2.1 (ag _ (by omega) (by omega)).2.2.1 (ag _ (by omega) (by omega)).2.2.1 (fun k hk => hal _ (by omega) (by omega) (by omega))
  · have e9 := (al2 9 (by omega)).2.2.2
    rcases h3.2 k hk with ⟨z1, z2⟩ | ⟨al0, w, z1, z2, z3⟩
    · exact Or.inl ⟨z1, by rw [e9]; exact z2⟩
    · have hw2 : WL S w := Or.inr ⟨k, hk, z2⟩
      have hw46 := (h2.1 k w hk z2).1
      refine Or.inr ⟨al0, w, z1, by rw [e9]; exact z2, CW_ag z3 (h6 k al0 hk z1).1 h2 hw2 (fun a ha => ag a ?_ (FT_lt h1 h2 hw2 ha))⟩
      have := FT_ge h1 h2 hw2 ha
      omega
theorem CQ_addL {al al' : Nat → Int32} {im : Nat → Option (Nat → Int32)} {S0 S S1 : St} {n q : Nat} (hI : IC al im S) (hn : al 1 = Int32.ofNat n) (hlt : n < 10) (hE : EX S S1) (hq : sn S ≤ q) (hsh : LSh S1 q) (hal : ∀ k, k < 7440 → k ≠ 1 → ¬ (240 + 320 * n ≤ k ∧ k < 560 + 320 * n) → al' k = al k) (hc : al' 1 = Int32.ofNat n + 1) (hrel : LRel al' n q S1) (b1 : sn S1 ≤ sn S0 + 300) (b2 : sm S1 ≤ sm S0 + 3000) (b3 : ∀ j, sI S 33 j = sI S0 33 j) (b4 : ∀ j, sI S 34 j = sI S0 34 j) : CQ S0 al' im (stI (stR S1 4 n (some q)) 1 8 (Int32.ofNat n + 1)) := by
  obtain ⟨h1, h2, h3, h4, h6⟩ := hI
  have h46 := h1.2.2.2
  have k1 := EX_SH hE h1
  have k2 := EX_CS hE h1 h2
  have n0 : nat (al 0) ≤ 8 := nat_le h4.1.1.2 (by decide)
  have n1 : nat (al 1) ≤ 10 := nat_le h4.1.2.1.2 (by decide)
  have n2 : nat (al 2) ≤ 12 := nat_le h4.1.2.2.1.2 (by decide)
  have n3 : nat (al 3) ≤ 60 := nat_le h4.1.2.2.2.1.2 (by decide)
  have hnn : nat (al 1) = n := by rw [hn]; exact nat_ofNat (by omega)
  have hnn' : nat (al' 1) = n + 1 := by rw [hc, succ32]; exact nat_ofNat (by omega)
  have hw : WL S 1 := Or.inl rfl
  have fresh : ∀ w i, WL S w → i < 10 → sR S (w + 3) i ≠ some q := fun w i hw' hi e => by
    have := (shL h2 hw' hi e).hi
    omega
  have hC2 : CS (stR S1 4 n (some q)) := by
    refine CS_put (d := 1) (t := 3) k1 k2 (Or.inl rfl) (by omega) ?_ ?_ ?_ ?_

    · intro e; omega
    · rintro - q' e
      cases e
      exact hsh
    · intro e; omega
    · intro e; omega
  have ag : ∀ a, 46 ≤ a → a < sn S → AG S (stI (stR S1 4 n (some q)) 1 8 (Int32.ofNat n + 1)) a := fun a ha hb => ((hE.2 a hb).stR _ (by omega)).stI _ (by omega)
  have al2 : ∀ a, a = 2 ∨ a = 7 ∨ a = 8 ∨ a = 9 ∨ a = 33 ∨ a = 34 → AG S (stI (stR S1 4 n (some q)) 1 8 (Int32.ofNat n + 1)) a := fun a ha => ((hE.2 a (by omega)).stR _ (by omega)).stI _ (by omega)
  have rr : ∀ a i, 3 ≤ a → a ≤ 6 → (a ≠ 4 ∨ i ≠ n) → sR (stI (stR S1 4 n (some q)) 1 8 (Int32.ofNat n + 1)) a i = sR S a i := fun a i ha hb hc => by
    rw [sR_stI, sR_stR, if_neg (by rintro ⟨rfl, rfl⟩; rcases hc with hc | hc <;> exact hc rfl)]
    exact (hE.2 a (by omega)).2.2.2 i
  have e1 : ∀ j, j ≠ 8 → sI (stI (stR S1 4 n (some q)) 1 8 (Int32.ofNat n + 1)) 1 j = sI S 1 j := fun j hj => by rw [sI_stI, if_neg (fun z => hj z.2)]; exact (hE.2 1 (by omega)).2.2.1 j
  refine ⟨SH_put k1 _ (by omega), hC2, ⟨?_, fun k hk => ?_⟩, b1, b2, fun j => ((al2 33 (by omega)).2.2.1 j).trans (b3 j), fun j => ((al2 34 (by omega)).2.2.1 j).trans (b4 j)⟩
  · obtain ⟨⟨s1, s2, s3, s4, s5, s6, s7, s8⟩, t, u, v, p, l, hh, g⟩ := h3.1
    refine ⟨?_, fun i hi => ?_, fun i hi => ?_, fun i hi => ?_, fun i hi => ?_, fun i hi => ?_, fun i hi => ?_, fun i hi => ?_⟩
    · exact ⟨(by rw [e1 1 (by omega), hal 5 (by omega) (by omega) (by omega)]; exact s1), (by rw [e1 2 (by omega), hal 6 (by omega) (by omega) (by omega)]; exact s2), (by rw [e1 3 (by omega), hal 7 (by omega) (by omega) (by omega)]; exact s3), (by rw [e1 4 (by omega), hal 4 (by omega) (by omega) (by omega)]; exact s4), (by rw [e1 6 (by omega), hal 0 (by omega) (by omega) (by omega)]; exact s5), (by rw [st_get, hc]), (by rw [e1 10 (by omega), hal 2 (by omega) (by omega) (by omega)]; exact s7), (by rw [e1 12 (by omega), hal 3 (by omega) (by omega) (by omega)]; exact s8)⟩
    · rw [(al2 2 (by omega)).2.2.1, hal _ (by omega) (by omega) (by omega)]; exact t i hi
    · rw [(al2 7 (by omega)).2.2.1, hal _ (by omega) (by omega) (by omega)]; exact u i hi
    · rw [(al2 8 (by omega)).2.2.1, hal _ (by omega) (by omega) (by omega)]; exact v i hi
    · rw [hal 0 (by omega) (by omega) (by omega)] at hi
      obtain ⟨q', hq', r⟩ := p i hi
      have hs := shT h2 hw (show i < 8 by omega) hq'
      have h1' := hs.hi
      have h2' := hs.ge
      refine ⟨q', by rw [rr _ _ (by omega) (by omega) (Or.inl (by omega))]; exact hq', ?_⟩
      exact PRel_of r (ag _ (by omega) (by omega)).2.2.1 (ag _ (by omega) (by omega)).2.2.1 (fun k hk => hal _ (by omega) (by omega) (by omega))
    · rw [hnn'] at hi
      by_cases e : i = n
      · subst e
        refine ⟨q, by rw [sR_stI, sR_stR, if_pos ⟨rfl, rfl⟩], ?_⟩
        have hge := hsh.ge
        exact LRel_of hrel rfl hsh.le (fun j => st_ne (Or.inl (by omega))) (fun j => st_ne (Or.inl (by omega))) (fun j => st_ne (Or.inl (by omega))) (fun j => st_ne (Or.inl (by omega))) (fun j => st_ne (Or.inl (by omega))) (fun _ _ => rfl)
      · obtain ⟨q', hq', r⟩ := l i (by omega)
        have hs := shL h2 hw (show i < 10 by omega) hq'
        have h1' := hs.hi
        have h2' := hs.ge
        refine ⟨q', by rw [rr _ _ (by omega) (by omega) (Or.inr e)]; exact hq', ?_⟩
        exact LRel_of r (ag _ (by omega) (by omega)).2.1 hs.le (ag _ (by omega) (by omega)).2.2.1 (ag _ (by omega) (by omega)).2.2.1 (ag _ (by omega) (by omega)).2.2.1 (ag _ (by omega) (by omega)).2.2.1 (ag _ (by omega) (by omega)).2.2.1 (fun k hk => hal _ (by omega) (by omega) (by omega))
    · rw [hal 2 (by omega) (by omega) (by omega)] at hi
      obtain ⟨q', hq', r⟩ := hh i hi
      have hs := shH h2 hw (show i < 12 by omega) hq'
      have h1' := hs.hi
      have h2' := hs.ge
      refine ⟨q', by rw [rr _ _ (by omega) (by omega) (Or.inl (by omega))]; exact hq', ?_⟩
      exact HRel_of r (ag _ (by omega) (by omega)).2.2.1 (ag _ (by omega) (by omega)).2.2.1 (ag _ (by omega) (by omega)).2.2.1 (fun k hk => hal _ (by omega) (by omega) (by omega))
    · rw [hal 3 (by omega) (by omega) (by omega)] at hi
      obtain ⟨q', hq', r⟩ := g i hi
      have hs := shG h2 hw (show i < 60 by omega) hq'
      have h1' := hs.hi
      have h2' := hs.ge
      refine ⟨q', by rw [rr _ _ (by omega) (by omega) (Or.inl (by omega))]; exact hq', ?_⟩
      exact GRel_of r (ag _ (by omega) (by omega)).2.2.1 (ag _ (by omega) (by omega)).2.2.1 (ag _ (by omega) (by omega)).2.2.1 (ag _ (by omega) (by omega)).2.2.1 (fun k hk => hal _ (by omega) (by omega) (by omega))
  · have e9 := (al2 9 (by omega)).2.2.2
    rcases h3.2 k hk with ⟨z1, z2⟩ | ⟨al0, w, z1, z2, z3⟩
    · exact Or.inl ⟨z1, by rw [e9]; exact z2⟩
    · have hw2 : WL S w := Or.inr ⟨k, hk, z2⟩
      have hw46 := (h2.1 k w hk z2).1
      refine Or.inr ⟨al0, w, z1, by rw [e9]; exact z2, CW_ag z3 (h6 k al0 hk z1).1 h2 hw2 (fun a ha => ag a ?_ (FT_lt h1 h2 hw2 ha))⟩
      have := FT_ge h1 h2 hw2 ha
      omega
