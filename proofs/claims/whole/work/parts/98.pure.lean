theorem pure_law : ∀ (L : Nat) (xs : Nat → Int32), L ≤ 3584 → ∃ S' : St, fL_law L xs S00 = some (true, S') ∧ sn S' ≤ 600000 ∧ sm S' ≤ 7302250 := sorry
