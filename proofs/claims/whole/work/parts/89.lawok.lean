/-- THE LAW ON THE SMALL MACHINE -/
theorem law_ok (SL : Nat) (xs : Nat → Int32) (hL : SL ≤ 3072) : ∃ d : Nat, d ≤ 1000 ∧ mm_s SL xs (d + 1) 282 [.ref 0] mm_h0 (fun r _ => r = some (.int 1)) := sorry
