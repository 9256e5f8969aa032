theorem cnt_toInt {c : Int32} (hc : 0 ≤ c) : (c - 1).toInt = c.toInt - 1 := by
  have h0 : (0 : Int) ≤ c.toInt := by simpa using Int32.le_iff_toInt_le.mp hc
  have h1 : c.toInt < 2 ^ 31 := Int32.toInt_lt c
  rw [Int32.toInt_sub]
  show (c.toInt - 1).bmod (2 ^ 32) = _
  rw [Int.bmod_eq_of_le (by omega) (by omega)]
theorem wi_cnt {x c : Int32} (hc : 0 ≤ c) : wi x 0 (c - 1) = true ↔ ∃ n, n < nat c ∧ x = Int32.ofNat n := by
  have h1 : c.toInt < 2 ^ 31 := Int32.toInt_lt c
  have h0 : (0 : Int) ≤ c.toInt := by simpa using Int32.le_iff_toInt_le.mp hc
  have hn : nat c = c.toInt.toNat := rfl
  constructor
  · intro h
    have h' := of_decide_eq_true h
    have hx0 : 0 ≤ x := Int32.not_lt.mp h'.1
    have hx1 : ¬ (c - 1).toInt < x.toInt := fun q => h'.2 (Int32.lt_iff_toInt_lt.mpr q)
    rw [cnt_toInt hc] at hx1
    have hx2 : (0 : Int) ≤ x.toInt := by simpa using Int32.le_iff_toInt_le.mp hx0
    have hx3 : nat x = x.toInt.toNat := rfl
    exact ⟨nat x, by omega, (ofNat_nat hx0).symm⟩
  · rintro ⟨n, hn2, rfl⟩
    have hl : n < 2 ^ 31 := by omega
    refine decide_eq_true ⟨?_, ?_⟩
    · rw [Int32.lt_iff_toInt_lt, toInt_ofNat hl]; simp
    · rw [Int32.lt_iff_toInt_lt, cnt_toInt hc, toInt_ofNat hl]; omega
theorem le_ofNat {n m : Nat} (hn : n < 2 ^ 31) (hm : m < 2 ^ 31) : (Int32.ofNat m ≤ Int32.ofNat n) = (m ≤ n) := by
  apply propext
  rw [Int32.le_iff_toInt_le, toInt_ofNat hn, toInt_ofNat hm]
  omega
theorem lt_ofNat {n m : Nat} (hn : n < 2 ^ 31) (hm : m < 2 ^ 31) : (Int32.ofNat m < Int32.ofNat n) = (m < n) := by
  apply propext
  rw [Int32.lt_iff_toInt_lt, toInt_ofNat hn, toInt_ofNat hm]
  omega
theorem eq_ofNat {n m : Nat} (hn : n < 2 ^ 31) (hm : m < 2 ^ 31) : (Int32.ofNat m = Int32.ofNat n) = (m = n) := by
  apply propext
  constructor
  · intro h
    have := congrArg Int32.toInt h
    rw [toInt_ofNat hn, toInt_ofNat hm] at this
    omega
  · intro h; rw [h]
theorem patternAt_no {S : St} {w : Nat} {x c : Int32} (h : WSh S w) (hs : sI S w 6 = c) (hx : wi x 0 (c - 1) = false) : fX10_patternAt w x S = some (none, S) := by
  unfold fX10_patternAt
  rw [gI_at h.1, hs, cl_within, br_b, if_neg (by rw [hx]; decide), rt_S]
theorem patternAt_ok {S : St} {w n : Nat} {c : Int32} (h : WSh S w) (hs : sI S w 6 = c) (hc : 0 ≤ c ∧ c ≤ 8) (hn : n < nat c) : fX10_patternAt w (Int32.ofNat n) S = some (sR S (w + 2) n, S) := by
  have h8 : n < 8 := Nat.lt_of_lt_of_le hn (nat_le (n := 8) hc.2 (by decide))
  unfold fX10_patternAt
  rw [gI_at h.1, hs, cl_within, br_b, if_pos ((wi_cnt hc.1).mpr ⟨n, hn, rfl⟩), br_S, if_neg (by rw [show (8 : Int32) = Int32.ofNat 8 from rfl, le_ofNat (by omega) (by omega)]; omega), gR_at h.1 h.2.2.2.2.2.2.2.2.2.2.2.2.2.2.2.2.1, nn_S, aR_at (n := n) h.2.2.1 rfl (by omega) (by rw [h.2.2.2.2.2.2.2.2.2.1]; exact h8), rt_S]
theorem listAt_no {S : St} {w : Nat} {x c : Int32} (h : WSh S w) (hs : sI S w 8 = c) (hx : wi x 0 (c - 1) = false) : fX10_listAt w x S = some (none, S) := by
  unfold fX10_listAt
  rw [gI_at h.1, hs, cl_within, br_b, if_neg (by rw [hx]; decide), rt_S]
theorem listAt_ok {S : St} {w n : Nat} {c : Int32} (h : WSh S w) (hs : sI S w 8 = c) (hc : 0 ≤ c ∧ c ≤ 10) (hn : n < nat c) : fX10_listAt w (Int32.ofNat n) S = some (sR S (w + 3) n, S) := by
  have h8 : n < 10 := Nat.lt_of_lt_of_le hn (nat_le (n := 10) hc.2 (by decide))
  unfold fX10_listAt
  rw [gI_at h.1, hs, cl_within, br_b, if_pos ((wi_cnt hc.1).mpr ⟨n, hn, rfl⟩), br_S, if_neg (by rw [show (10 : Int32) = Int32.ofNat 10 from rfl, le_ofNat (by omega) (by omega)]; omega), gR_at h.1 h.2.2.2.2.2.2.2.2.2.2.2.2.2.2.2.2.2.1, nn_S, aR_at (n := n) h.2.2.2.1 rfl (by omega) (by rw [h.2.2.2.2.2.2.2.2.2.2.1]; exact h8), rt_S]
theorem handAt_no {S : St} {w : Nat} {x c : Int32} (h : WSh S w) (hs : sI S w 10 = c) (hx : wi x 0 (c - 1) = false) : fX10_handAt w x S = some (none, S) := by
  unfold fX10_handAt
  rw [gI_at h.1, hs, cl_within, br_b, if_neg (by rw [hx]; decide), rt_S]
theorem handAt_ok {S : St} {w n : Nat} {c : Int32} (h : WSh S w) (hs : sI S w 10 = c) (hc : 0 ≤ c ∧ c ≤ 12) (hn : n < nat c) : fX10_handAt w (Int32.ofNat n) S = some (sR S (w + 4) n, S) := by
  have h8 : n < 12 := Nat.lt_of_lt_of_le hn (nat_le (n := 12) hc.2 (by decide))
  unfold fX10_handAt
  rw [gI_at h.1, hs, cl_within, br_b, if_pos ((wi_cnt hc.1).mpr ⟨n, hn, rfl⟩), br_S, if_neg (by rw [show (12 : Int32) = Int32.ofNat 12 from rfl, le_ofNat (by omega) (by omega)]; omega), gR_at h.1 h.2.2.2.2.2.2.2.2.2.2.2.2.2.2.2.2.2.2.1, nn_S, aR_at (n := n) h.2.2.2.2.1 rfl (by omega) (by rw [h.2.2.2.2.2.2.2.2.2.2.2.1]; exact h8), rt_S]
theorem pieceAt_no {S : St} {w : Nat} {x c : Int32} (h : WSh S w) (hs : sI S w 12 = c) (hx : wi x 0 (c - 1) = false) : fX10_pieceAt w x S = some (none, S) := by
  unfold fX10_pieceAt
  rw [gI_at h.1, hs, cl_within, br_b, if_neg (by rw [hx]; decide), rt_S]
theorem pieceAt_ok {S : St} {w n : Nat} {c : Int32} (h : WSh S w) (hs : sI S w 12 = c) (hc : 0 ≤ c ∧ c ≤ 60) (hn : n < nat c) : fX10_pieceAt w (Int32.ofNat n) S = some (sR S (w + 5) n, S) := by
  have h8 : n < 60 := Nat.lt_of_lt_of_le hn (nat_le (n := 60) hc.2 (by decide))
  unfold fX10_pieceAt
  rw [gI_at h.1, hs, cl_within, br_b, if_pos ((wi_cnt hc.1).mpr ⟨n, hn, rfl⟩), br_S, if_neg (by rw [show (60 : Int32) = Int32.ofNat 60 from rfl, le_ofNat (by omega) (by omega)]; omega), gR_at h.1 h.2.2.2.2.2.2.2.2.2.2.2.2.2.2.2.2.2.2.2.1, nn_S, aR_at (n := n) h.2.2.2.2.2.1 rfl (by omega) (by rw [h.2.2.2.2.2.2.2.2.2.2.2.2.1]; exact h8), rt_S]
theorem isOf_eq {S : St} (h : SH S) (x y : Int32) {k : Nat} (hy : y = Int32.ofNat k) (hk : k < 8) : fX12_isOf 32 x y S = some (wi x 0 (sI S 33 k - 1), S) := by
  subst hy
  unfold fX12_isOf
  rw [gR_at (SH_K32 h) (SH_R32_0 h), nn_S, aI_at (n := k) (SH_K33 h) rfl (by omega) (by rw [SH_L33 h]; omega), cl_isIn, rtZ_b]
theorem of3 (a b c n j : Nat) (x y z : Int32) (hx : x = Int32.ofNat a) (hy : y = Int32.ofNat b) (hz : z = Int32.ofNat j) : (x + y * Int32.ofNat n) + z = Int32.ofNat (a + b * n + j) := by
  subst hx; subst hy; subst hz
  rw [← Int32.ofNat_mul, ← Int32.ofNat_add, ← Int32.ofNat_add]
theorem patternOf_eq {S : St} (h : SH S) {n j : Nat} {x y : Int32} (hx : x = Int32.ofNat n) (hy : y = Int32.ofNat j) (hn : n < 8) (hj : j < 27) : fX12_patternOf 32 x y S = some (sI S 33 (20 + 27 * n + j), S) := by
  subst hx
  unfold fX12_patternOf
  rw [gR_at (SH_K32 h) (SH_R32_0 h), nn_S, aI_at (i := 20 + 27 * Int32.ofNat n + y) (n := 20 + 27 * n + j) (SH_K33 h) (of3 20 27 0 n j _ _ _ rfl rfl hy) (by omega) (by rw [SH_L33 h]; omega), rt_S]
theorem handOf_eq {S : St} (h : SH S) {n j : Nat} {x y : Int32} (hx : x = Int32.ofNat n) (hy : y = Int32.ofNat j) (hn : n < 12) (hj : j < 160) : fX12_handOf 32 x y S = some (sI S 33 (3440 + 160 * n + j), S) := by
  subst hx
  unfold fX12_handOf
  rw [gR_at (SH_K32 h) (SH_R32_0 h), nn_S, aI_at (i := 3440 + 160 * Int32.ofNat n + y) (n := 3440 + 160 * n + j) (SH_K33 h) (of3 3440 160 0 n j _ _ _ rfl rfl hy) (by omega) (by rw [SH_L33 h]; omega), rt_S]
theorem pieceOf_eq {S : St} (h : SH S) {n j : Nat} {x y : Int32} (hx : x = Int32.ofNat n) (hy : y = Int32.ofNat j) (hn : n < 60) (hj : j < 28) : fX12_pieceOf 32 x y S = some (sI S 33 (5360 + 28 * n + j), S) := by
  subst hx
  unfold fX12_pieceOf
  rw [gR_at (SH_K32 h) (SH_R32_0 h), nn_S, aI_at (i := 5360 + 28 * Int32.ofNat n + y) (n := 5360 + 28 * n + j) (SH_K33 h) (of3 5360 28 0 n j _ _ _ rfl rfl hy) (by omega) (by rw [SH_L33 h]; omega), rt_S]
theorem shH {S : St} (h : CS S) {w i q : Nat} (hw : WL S w) (hi : i < 12) (hq : sR S (w + 4) i = some q) : HSh S q := h.2.2.2.2.2.1 w i q hw hi hq
theorem shG {S : St} (h : CS S) {w i q : Nat} (hw : WL S w) (hi : i < 60) (hq : sR S (w + 5) i = some q) : GSh S q := h.2.2.2.2.2.2.1 w i q hw hi hq
theorem shT {S : St} (h : CS S) {w i q : Nat} (hw : WL S w) (hi : i < 8) (hq : sR S (w + 2) i = some q) : TSh S q := h.2.2.2.1 w i q hw hi hq
theorem shL {S : St} (h : CS S) {w i q : Nat} (hw : WL S w) (hi : i < 10) (hq : sR S (w + 3) i = some q) : LSh S q := h.2.2.2.2.1 w i q hw hi hq
theorem ne_kind {S : St} {a b k k' : Nat} (ha : sK S a = k) (hb : sK S b = k') (h : k ≠ k') : a ≠ b := fun e => h (by rw [← ha, ← hb, e])
/-- a cell of a block that is a world's own lies in no other world's footprint, and in its own only there -/
theorem NF_H {S : St} (hC : CS S) {w w' i q b : Nat} (hw : WL S w) (hw' : WL S w') (hi : i < 12) (hq : sR S (w + 4) i = some q) (hq1 : q ≤ b) (hq2 : b < q + 3) :
    (b ≠ w' ∧ b ≠ w' + 1 ∧ b ≠ w' + 6 ∧ b ≠ w' + 7) ∧ (∀ i' q', i' < 8 → sR S (w' + 2) i' = some q' → b ≠ q' ∧ b ≠ q' + 1) ∧ (∀ i' q', i' < 10 → sR S (w' + 3) i' = some q' → b ≠ q' ∧ b ≠ q' + 1 ∧ b ≠ q' + 2 ∧ b ≠ q' + 3 ∧ b ≠ q' + 4) ∧ (∀ i' q', i' < 12 → sR S (w' + 4) i' = some q' → (w' = w → i' ≠ i) → (b ≠ q' ∧ b ≠ q' + 1 ∧ b ≠ q' + 2)) ∧ (∀ i' q', i' < 60 → sR S (w' + 5) i' = some q' → (b ≠ q' ∧ b ≠ q' + 1 ∧ b ≠ q' + 2 ∧ b ≠ q' + 3)) := by
  have hs := shH hC hw hi hq
  have hb := hs.blk
  have hW := (hC.2.2.1 w' hw')
  have dj : ∀ {q' n j : Nat}, blk S q' n → q ≠ q' → j < n → b ≠ q' + j := fun hb' hne hj e => blk_ne hb hb' hne (j := b - q) (by omega) hj (by omega)
  refine ⟨⟨?_, ?_, ?_, ?_⟩, fun i' q' hi' hq' => ?_, fun i' q' hi' hq' => ?_, fun i' q' hi' hq' => ?_, fun i' q' hi' hq' => ?_⟩
  · exact dj (j := 0) hW.blk (ne_kind hs.1 hW.1 (by decide)) (by omega)
  · exact dj hW.blk (ne_kind hs.1 hW.1 (by decide)) (by omega)
  · exact dj hW.blk (ne_kind hs.1 hW.1 (by decide)) (by omega)
  · exact dj hW.blk (ne_kind hs.1 hW.1 (by decide)) (by omega)
  · have h' := shT hC hw' hi' hq'
    have hne := ne_kind hs.1 h'.1 (by decide)
    exact ⟨dj (j := 0) h'.blk hne (by omega), dj h'.blk hne (by omega)⟩
  · have h' := shL hC hw' hi' hq'
    have hne := ne_kind hs.1 h'.1 (by decide)
    exact ⟨dj (j := 0) h'.blk hne (by omega), dj h'.blk hne (by omega), dj h'.blk hne (by omega), dj h'.blk hne (by omega), dj h'.blk hne (by omega)⟩
  · intro hx
    have h' := shH hC hw' hi' hq'
    have hne : q ≠ q' := by
      intro e
      subst e
      obtain ⟨e1, e2⟩ := hC.2.2.2.2.2.2.2.1 w w' i i' q hw hw' hi hi' hq hq'
      exact hx e1.symm e2.symm
    exact ⟨dj (j := 0) h'.blk hne (by omega), dj h'.blk hne (by omega), dj h'.blk hne (by omega)⟩
  · have h' := shG hC hw' hi' hq'
    have hne := ne_kind hs.1 h'.1 (by decide)
    exact ⟨dj (j := 0) h'.blk hne (by omega), dj h'.blk hne (by omega), dj h'.blk hne (by omega), dj h'.blk hne (by omega)⟩
theorem RC_H {al al' : Nat → Int32} {im : Nat → Option (Nat → Int32)} {S S' : St} {h q : Nat} (hR : RC al im S) (hC : CS S) (hOK : OK al) (hOKi : ∀ k al', k < 3 → im k = some al' → OK al') (hh : h < nat (al 2)) (hq : sR S 5 h = some q) (hF : FR (fun b => q ≤ b ∧ b < q + 3) S S') (hal : ∀ k, ¬ (3440 + 160 * h ≤ k ∧ k < 3600 + 160 * h) → al' k = al k) (hrel : HRel al' h q S') : RC al' im S' := by
  have hw : WL S 1 := Or.inl rfl
  have hlim : h < 12 := Nat.lt_of_lt_of_le hh (nat_le (n := 12) hOK.1.2.2.1.2 (by decide))
  have n0 : nat (al 0) ≤ 8 := nat_le hOK.1.1.2 (by decide)
  have n1 : nat (al 1) ≤ 10 := nat_le hOK.1.2.1.2 (by decide)
  have n2 : nat (al 2) ≤ 12 := nat_le hOK.1.2.2.1.2 (by decide)
  have n3 : nat (al 3) ≤ 60 := nat_le hOK.1.2.2.2.1.2 (by decide)
  have hs := shH hC hw hlim hq
  have h46 : 46 ≤ q := hs.2.2.2.2.2.2.2.1
  have nf : ∀ w', WL S w' → ∀ b, q ≤ b → b < q + 3 → _ := fun w' hw' b h1 h2 => NF_H hC hw hw' hlim hq h1 h2
  have eR : ∀ a j, a ≠ 21 → sR S' a j = sR S a j := fun a j z => hF.2.2.1 a j (Or.inl z)
  have eI : ∀ a, (∀ b, q ≤ b → b < q + 3 → b ≠ a) → ∀ j, sI S' a j = sI S a j := fun a ha j => hF.2.2.2.2.2 a j (fun z => ha a z.1 z.2 rfl)
  have e9 : ∀ k, sR S' 9 k = sR S 9 k := fun k => eR 9 k (by decide)
  refine ⟨?_, fun k hk => ?_⟩
  · obtain ⟨⟨s1, s2, s3, s4, s5, s6, s7, s8⟩, t, u, v, p, l, hd, g⟩ := hR.1
    have z1 := eI 1 (fun b h1 h2 => by omega)
    have z2 := eI (1 + 1) (fun b h1 h2 => by omega)
    have z7 := eI (1 + 6) (fun b h1 h2 => by omega)
    have z8 := eI (1 + 7) (fun b h1 h2 => by omega)
    refine ⟨?_, fun i hi => by rw [z2, hal _ (by omega)]; exact t i hi, fun i hi => by rw [z7, hal _ (by omega)]; exact u i hi, fun i hi => by rw [z8, hal _ (by omega)]; exact v i hi, fun i hi => ?_, fun i hi => ?_, fun i hi => ?_, fun i hi => ?_⟩
    · rw [z1, z1, z1, z1, z1, z1, z1, z1, hal 5 (by omega), hal 6 (by omega), hal 7 (by omega), hal 4 (by omega), hal 0 (by omega), hal 1 (by omega), hal 2 (by omega), hal 3 (by omega)]
      exact ⟨s1, s2, s3, s4, s5, s6, s7, s8⟩
    · rw [hal 0 (by omega)] at hi
      obtain ⟨q', hq', r⟩ := p i hi
      have nn := fun b h1 h2 => (nf 1 hw b h1 h2).2.1 i q' (by omega) hq'
      exact ⟨q', by rw [eR _ _ (by omega)]; exact hq', PRel_of r (eI _ (fun b h1 h2 => (nn b h1 h2).1)) (eI _ (fun b h1 h2 => (nn b h1 h2).2)) (fun k hk => hal _ (by omega))⟩
    · rw [hal 1 (by omega)] at hi
      obtain ⟨q', hq', r⟩ := l i hi
      have nn := fun b h1 h2 => (nf 1 hw b h1 h2).2.2.1 i q' (by omega) hq'
      have hsh := shL hC hw (show i < 10 by omega) hq'
      exact ⟨q', by rw [eR _ _ (by omega)]; exact hq', LRel_of r (hF.2.1 _) hsh.2.2.2.2.2.2.2.2.1 (eI _ (fun b h1 h2 => (nn b h1 h2).1)) (eI _ (fun b h1 h2 => (nn b h1 h2).2.1)) (eI _ (fun b h1 h2 => (nn b h1 h2).2.2.1)) (eI _ (fun b h1 h2 => (nn b h1 h2).2.2.2.1)) (eI _ (fun b h1 h2 => (nn b h1 h2).2.2.2.2)) (fun k hk => hal _ (by omega))⟩
    · rw [hal 2 (by omega)] at hi
      obtain ⟨q', hq', r⟩ := hd i hi
      by_cases e : i = h
      · subst e
        rw [hq] at hq'
        cases hq'
        exact ⟨q, by rw [eR _ _ (by omega)]; exact hq, hrel⟩
      · have nn := fun b h1 h2 => (nf 1 hw b h1 h2).2.2.2.1 i q' (by omega) hq' (fun _ => e)
        exact ⟨q', by rw [eR _ _ (by omega)]; exact hq', HRel_of r (eI _ (fun b h1 h2 => (nn b h1 h2).1)) (eI _ (fun b h1 h2 => (nn b h1 h2).2.1)) (eI _ (fun b h1 h2 => (nn b h1 h2).2.2)) (fun k hk => hal _ (by omega))⟩
    · rw [hal 3 (by omega)] at hi
      obtain ⟨q', hq', r⟩ := g i hi
      have nn := fun b h1 h2 => (nf 1 hw b h1 h2).2.2.2.2 i q' (by omega) hq'
      exact ⟨q', by rw [eR _ _ (by omega)]; exact hq', GRel_of r (eI _ (fun b h1 h2 => (nn b h1 h2).1)) (eI _ (fun b h1 h2 => (nn b h1 h2).2.1)) (eI _ (fun b h1 h2 => (nn b h1 h2).2.2.1)) (eI _ (fun b h1 h2 => (nn b h1 h2).2.2.2)) (fun k hk => hal _ (by omega))⟩
  · rcases hR.2 k hk with ⟨h1, h2⟩ | ⟨al0, w, h1, h2, h3⟩
    · exact Or.inl ⟨h1, by rw [e9]; exact h2⟩
    · have hw2 : WL S w := Or.inr ⟨k, hk, h2⟩
      have hw46 := (hC.1 k w hk h2).1
      refine Or.inr ⟨al0, w, h1, by rw [e9]; exact h2, CW_fr h3 (hOKi k al0 hk h1).1 hC hw2 hF (fun b hb => ?_)⟩
      obtain ⟨a1, a2, a3, a4, a5⟩ := nf w hw2 b hb.1 hb.2
      exact ⟨a1.1, a1.2.1, a1.2.2.1, a1.2.2.2, a2, a3, fun i q hi hq => a4 i q hi hq (fun e => by omega), a5⟩
/-- a cell of a block that is a world's own lies in no other world's footprint, and in its own only there -/
theorem NF_G {S : St} (hC : CS S) {w w' i q b : Nat} (hw : WL S w) (hw' : WL S w') (hi : i < 60) (hq : sR S (w + 5) i = some q) (hq1 : q ≤ b) (hq2 : b < q + 4) :
    (b ≠ w' ∧ b ≠ w' + 1 ∧ b ≠ w' + 6 ∧ b ≠ w' + 7) ∧ (∀ i' q', i' < 8 → sR S (w' + 2) i' = some q' → b ≠ q' ∧ b ≠ q' + 1) ∧ (∀ i' q', i' < 10 → sR S (w' + 3) i' = some q' → b ≠ q' ∧ b ≠ q' + 1 ∧ b ≠ q' + 2 ∧ b ≠ q' + 3 ∧ b ≠ q' + 4) ∧ (∀ i' q', i' < 12 → sR S (w' + 4) i' = some q' → (b ≠ q' ∧ b ≠ q' + 1 ∧ b ≠ q' + 2)) ∧ (∀ i' q', i' < 60 → sR S (w' + 5) i' = some q' → (w' = w → i' ≠ i) → (b ≠ q' ∧ b ≠ q' + 1 ∧ b ≠ q' + 2 ∧ b ≠ q' + 3)) := by
  have hs := shG hC hw hi hq
  have hb := hs.blk
  have hW := (hC.2.2.1 w' hw')
  have dj : ∀ {q' n j : Nat}, blk S q' n → q ≠ q' → j < n → b ≠ q' + j := fun hb' hne hj e => blk_ne hb hb' hne (j := b - q) (by omega) hj (by omega)
  refine ⟨⟨?_, ?_, ?_, ?_⟩, fun i' q' hi' hq' => ?_, fun i' q' hi' hq' => ?_, fun i' q' hi' hq' => ?_, fun i' q' hi' hq' => ?_⟩
  · exact dj (j := 0) hW.blk (ne_kind hs.1 hW.1 (by decide)) (by omega)
  · exact dj hW.blk (ne_kind hs.1 hW.1 (by decide)) (by omega)
  · exact dj hW.blk (ne_kind hs.1 hW.1 (by decide)) (by omega)
  · exact dj hW.blk (ne_kind hs.1 hW.1 (by decide)) (by omega)
  · have h' := shT hC hw' hi' hq'
    have hne := ne_kind hs.1 h'.1 (by decide)
    exact ⟨dj (j := 0) h'.blk hne (by omega), dj h'.blk hne (by omega)⟩
  · have h' := shL hC hw' hi' hq'
    have hne := ne_kind hs.1 h'.1 (by decide)
    exact ⟨dj (j := 0) h'.blk hne (by omega), dj h'.blk hne (by omega), dj h'.blk hne (by omega), dj h'.blk hne (by omega), dj h'.blk hne (by omega)⟩
  · have h' := shH hC hw' hi' hq'
    have hne := ne_kind hs.1 h'.1 (by decide)
    exact ⟨dj (j := 0) h'.blk hne (by omega), dj h'.blk hne (by omega), dj h'.blk hne (by omega)⟩
  · intro hx
    have h' := shG hC hw' hi' hq'
    have hne : q ≠ q' := by
      intro e
      subst e
      obtain ⟨e1, e2⟩ := hC.2.2.2.2.2.2.2.2 w w' i i' q hw hw' hi hi' hq hq'
      exact hx e1.symm e2.symm
    exact ⟨dj (j := 0) h'.blk hne (by omega), dj h'.blk hne (by omega), dj h'.blk hne (by omega), dj h'.blk hne (by omega)⟩
theorem RC_G {al al' : Nat → Int32} {im : Nat → Option (Nat → Int32)} {S S' : St} {h q : Nat} (hR : RC al im S) (hC : CS S) (hOK : OK al) (hOKi : ∀ k al', k < 3 → im k = some al' → OK al') (hh : h < nat (al 3)) (hq : sR S 6 h = some q) (hF : FR (fun b => q ≤ b ∧ b < q + 4) S S') (hal : ∀ k, ¬ (5360 + 28 * h ≤ k ∧ k < 5388 + 28 * h) → al' k = al k) (hrel : GRel al' h q S') : RC al' im S' := by
  have hw : WL S 1 := Or.inl rfl
  have hlim : h < 60 := Nat.lt_of_lt_of_le hh (nat_le (n := 60) hOK.1.2.2.2.1.2 (by decide))
  have n0 : nat (al 0) ≤ 8 := nat_le hOK.1.1.2 (by decide)
  have n1 : nat (al 1) ≤ 10 := nat_le hOK.1.2.1.2 (by decide)
  have n2 : nat (al 2) ≤ 12 := nat_le hOK.1.2.2.1.2 (by decide)
  have n3 : nat (al 3) ≤ 60 := nat_le hOK.1.2.2.2.1.2 (by decide)
  have hs := shG hC hw hlim hq
  have h46 : 46 ≤ q := hs.2.2.2.2.2.2.2.2.2.2.1
  have nf : ∀ w', WL S w' → ∀ b, q ≤ b → b < q + 4 → _ := fun w' hw' b h1 h2 => NF_G hC hw hw' hlim hq h1 h2
  have eR : ∀ a j, a ≠ 21 → sR S' a j = sR S a j := fun a j z => hF.2.2.1 a j (Or.inl z)
  have eI : ∀ a, (∀ b, q ≤ b → b < q + 4 → b ≠ a) → ∀ j, sI S' a j = sI S a j := fun a ha j => hF.2.2.2.2.2 a j (fun z => ha a z.1 z.2 rfl)
  have e9 : ∀ k, sR S' 9 k = sR S 9 k := fun k => eR 9 k (by decide)
  refine ⟨?_, fun k hk => ?_⟩
  · obtain ⟨⟨s1, s2, s3, s4, s5, s6, s7, s8⟩, t, u, v, p, l, hd, g⟩ := hR.1
    have z1 := eI 1 (fun b h1 h2 => by omega)
    have z2 := eI (1 + 1) (fun b h1 h2 => by omega)
    have z7 := eI (1 + 6) (fun b h1 h2 => by omega)
    have z8 := eI (1 + 7) (fun b h1 h2 => by omega)
    refine ⟨?_, fun i hi => by rw [z2, hal _ (by omega)]; exact t i hi, fun i hi => by rw [z7, hal _ (by omega)]; exact u i hi, fun i hi => by rw [z8, hal _ (by omega)]; exact v i hi, fun i hi => ?_, fun i hi => ?_, fun i hi => ?_, fun i hi => ?_⟩
    · rw [z1, z1, z1, z1, z1, z1, z1, z1, hal 5 (by omega), hal 6 (by omega), hal 7 (by omega), hal 4 (by omega), hal 0 (by omega), hal 1 (by omega), hal 2 (by omega), hal 3 (by omega)]
      exact ⟨s1, s2, s3, s4, s5, s6, s7, s8⟩
    · rw [hal 0 (by omega)] at hi
      obtain ⟨q', hq', r⟩ := p i hi
      have nn := fun b h1 h2 => (nf 1 hw b h1 h2).2.1 i q' (by omega) hq'
      exact ⟨q', by rw [eR _ _ (by omega)]; exact hq', PRel_of r (eI _ (fun b h1 h2 => (nn b h1 h2).1)) (eI _ (fun b h1 h2 => (nn b h1 h2).2)) (fun k hk => hal _ (by omega))⟩
    · rw [hal 1 (by omega)] at hi
      obtain ⟨q', hq', r⟩ := l i hi
      have nn := fun b h1 h2 => (nf 1 hw b h1 h2).2.2.1 i q' (by omega) hq'
      have hsh := shL hC hw (show i < 10 by omega) hq'
      exact ⟨q', by rw [eR _ _ (by omega)]; exact hq', LRel_of r (hF.2.1 _) hsh.2.2.2.2.2.2.2.2.1 (eI _ (fun b h1 h2 => (nn b h1 h2).1)) (eI _ (fun b h1 h2 => (nn b h1 h2).2.1)) (eI _ (fun b h1 h2 => (nn b h1 h2).2.2.1)) (eI _ (fun b h1 h2 => (nn b h1 h2).2.2.2.1)) (eI _ (fun b h1 h2 => (nn b h1 h2).2.2.2.2)) (fun k hk => hal _ (by omega))⟩
    · rw [hal 2 (by omega)] at hi
      obtain ⟨q', hq', r⟩ := hd i hi
      have nn := fun b h1 h2 => (nf 1 hw b h1 h2).2.2.2.1 i q' (by omega) hq'
      exact ⟨q', by rw [eR _ _ (by omega)]; exact hq', HRel_of r (eI _ (fun b h1 h2 => (nn b h1 h2).1)) (eI _ (fun b h1 h2 => (nn b h1 h2).2.1)) (eI _ (fun b h1 h2 => (nn b h1 h2).2.2)) (fun k hk => hal _ (by omega))⟩
    · rw [hal 3 (by omega)] at hi
      obtain ⟨q', hq', r⟩ := g i hi
      by_cases e : i = h
      · subst e
        rw [hq] at hq'
        cases hq'
        exact ⟨q, by rw [eR _ _ (by omega)]; exact hq, hrel⟩
      · have nn := fun b h1 h2 => (nf 1 hw b h1 h2).2.2.2.2 i q' (by omega) hq' (fun _ => e)
        exact ⟨q', by rw [eR _ _ (by omega)]; exact hq', GRel_of r (eI _ (fun b h1 h2 => (nn b h1 h2).1)) (eI _ (fun b h1 h2 => (nn b h1 h2).2.1)) (eI _ (fun b h1 h2 => (nn b h1 h2).2.2.1)) (eI _ (fun b h1 h2 => (nn b h1 h2).2.2.2)) (fun k hk => hal _ (by omega))⟩
  · rcases hR.2 k hk with ⟨h1, h2⟩ | ⟨al0, w, h1, h2, h3⟩
    · exact Or.inl ⟨h1, by rw [e9]; exact h2⟩
    · have hw2 : WL S w := Or.inr ⟨k, hk, h2⟩
      have hw46 := (hC.1 k w hk h2).1
      refine Or.inr ⟨al0, w, h1, by rw [e9]; exact h2, CW_fr h3 (hOKi k al0 hk h1).1 hC hw2 hF (fun b hb => ?_)⟩
      obtain ⟨a1, a2, a3, a4, a5⟩ := nf w hw2 b hb.1 hb.2
      exact ⟨a1.1, a1.2.1, a1.2.2.1, a1.2.2.2, a2, a3, a4, fun i q hi hq => a5 i q hi hq (fun e => by omega)⟩
