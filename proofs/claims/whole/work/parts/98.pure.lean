theorem pure_law : ∀ (L : Nat) (xs : Nat → Int32), L ≤ 3584 → ∃ S' : St, fL_law L xs S00 = some (true, S') ∧ sn S' ≤ 600000 ∧ sm S' ≤ 7302250 := by
  intro L xs hL
  obtain ⟨S', a1, a2, a3⟩ := law_loop (INV := INV) (fun S h => INV_K0 h) H_feed H_end H_pattern H_list H_fault H_stitches H_about H_day H_lists H_hand H_habit H_hay H_advance H_tell H_term H_out H_in H_piece H_bill H_wronged H_carried H_write H_differ H_part H_parted H_look H_unlike H_who H_stolen H_time H_even H_count H_image H_again (xs := xs) hL FU 0 SB (by unfold FU; omega) (Nat.zero_le _) INV_SB
  have hn := hSB_n
  refine ⟨S', ?_, by omega, by omega⟩
  rw [law_ini]
  exact a1
