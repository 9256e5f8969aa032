set_option maxRecDepth 100000 in
theorem SB_9 : ∀ k, k < 3 → sR SB 9 k = none := by decide +kernel
set_option maxRecDepth 100000 in
theorem SB_3 : ∀ k, k < 8 → sR SB 3 k = none := by decide +kernel
set_option maxRecDepth 100000 in
theorem SB_4 : ∀ k, k < 10 → sR SB 4 k = none := by decide +kernel
set_option maxRecDepth 100000 in
theorem SB_5 : ∀ k, k < 12 → sR SB 5 k = none := by decide +kernel
set_option maxRecDepth 100000 in
theorem SB_6 : ∀ k, k < 60 → sR SB 6 k = none := by decide +kernel
set_option maxRecDepth 100000 in
theorem SB_tape : ∀ i, i < 400 → sI SB 2 i = (sI SB 33 (7040 + i)).toInt8.toInt32 ∧ 0 ≤ sI SB 33 (7040 + i) ∧ sI SB 33 (7040 + i) ≤ 255 := by decide +kernel
set_option maxRecDepth 100000 in
theorem SB_num : (sI SB 1 1 = sI SB 33 5 ∧ sI SB 1 2 = sI SB 33 6 ∧ sI SB 1 3 = sI SB 33 7 ∧ sI SB 1 4 = sI SB 33 4 ∧ sI SB 1 6 = sI SB 33 0 ∧ sI SB 1 8 = sI SB 33 1 ∧ sI SB 1 10 = sI SB 33 2 ∧ sI SB 1 12 = sI SB 33 3) ∧ (sI SB 33 0 = 0 ∧ sI SB 33 1 = 0 ∧ sI SB 33 2 = 0 ∧ sI SB 33 3 = 0 ∧ sI SB 33 4 = 0 ∧ sI SB 33 5 = 0) := by decide +kernel
set_option maxRecDepth 100000 in
theorem SB_t7 : ∀ s, s < 6 → sI SB 7 s = sI SB 33 (14 + s) ∧ 1 ≤ sI SB 33 (14 + s) ∧ sI SB 33 (14 + s) ≤ 9999 := by decide +kernel
set_option maxRecDepth 100000 in
theorem SB_t8 : ∀ s, s < 3 → sI SB 8 s = sI SB 33 (10 + s) := by decide +kernel
set_option maxRecDepth 100000 in
theorem SB_34 : ∀ k, k < 3 → sI SB 34 k = 0 := by decide +kernel
theorem WSh_1 {S : St} (h : SH S) : WSh S 1 := ⟨SH_K1 h, SH_K2 h, SH_K3 h, SH_K4 h, SH_K5 h, SH_K6 h, SH_K7 h, SH_K8 h, SH_L2 h, SH_L3 h, SH_L4 h, SH_L5 h, SH_L6 h, SH_L7 h, SH_L8 h, SH_R1_0 h, SH_R1_5 h, SH_R1_7 h, SH_R1_9 h, SH_R1_11 h, SH_R1_13 h, SH_R1_14 h⟩
theorem CS_SB : CS SB := by
  have hw : ∀ w, WL SB w → w = 1 := by
    rintro w (h | ⟨k, hk, h⟩)
    · exact h
    · rw [SB_9 k hk] at h; cases h
  refine ⟨fun k w hk h => ?_, fun k k' w hk hk' h => ?_, fun w h => ?_, fun w i q h hi hq => ?_, fun w i q h hi hq => ?_, fun w i q h hi hq => ?_, fun w i q h hi hq => ?_, fun w w' i i' q h h' hi hi' hq => ?_, fun w w' i i' q h h' hi hi' hq => ?_⟩
  · rw [SB_9 k hk] at h; cases h
  · rw [SB_9 k hk] at h; cases h
  · rw [hw w h]; exact WSh_1 SH_SB
  · rw [hw w h, SB_3 i hi] at hq; cases hq
  · rw [hw w h, SB_4 i hi] at hq; cases hq
  · rw [hw w h, SB_5 i hi] at hq; cases hq
  · rw [hw w h, SB_6 i hi] at hq; cases hq
  · rw [hw w h, SB_5 i hi] at hq; cases hq
  · rw [hw w h, SB_6 i hi] at hq; cases hq
theorem INV_SB : INV SB := by
  obtain ⟨n1, n2⟩ := SB_num
  have z : ∀ x : Int32, x = 0 → nat x = 0 := fun x h => by rw [h]; rfl
  refine ⟨fun i => sI SB 33 i, fun _ => none, SH_SB, CS_SB, ⟨⟨n1, fun i hi => (SB_tape i hi).1, fun i hi => (SB_t7 i hi).1, fun i hi => SB_t8 i hi, fun i hi => ?_, fun i hi => ?_, fun i hi => ?_, fun i hi => ?_⟩, fun k hk => Or.inl ⟨rfl, SB_9 k hk⟩⟩, ⟨fun i hi => rfl, fun k hk => Or.inl ⟨rfl, SB_34 k hk⟩⟩, ⟨?_, fun i hi => ?_, fun i hi => ?_, fun i hi => ?_, fun i hi => ?_, fun s hs => (SB_t7 s hs).2, fun i hi => (SB_tape i hi).2⟩, fun k al' hk h => by cases h⟩
  · rw [z _ n2.1] at hi; omega
  · rw [z _ n2.2.1] at hi; omega
  · rw [z _ n2.2.2.1] at hi; omega
  · rw [z _ n2.2.2.2.1] at hi; omega
  · unfold OKc
    simp only [n2.1, n2.2.1, n2.2.2.1, n2.2.2.2.1, n2.2.2.2.2.1, n2.2.2.2.2.2]
    decide
  · rw [z _ n2.2.2.1] at hi; omega
  · rw [z _ n2.1] at hi; omega
  · rw [z _ n2.2.2.2.1] at hi; omega
  · rw [z _ n2.2.1] at hi; omega
