/-! ring: not proved yet -/
theorem ca_ring {SL : Nat} {xs : Nat → Int32} {d : Nat} {h : mm_H} {Q : Option Value → mm_H → Prop}  (hd : 150 ≤ d) (hiv : iv h) (k : ∀ (r : Int32) (h1 : mm_H), h1.2.1 65 = .inr 9 → (∀ Q2 : Option Value → mm_H → Prop, (∀ h2, iv h2 → Q2 (some (.int r)) h2) → mm_s SL xs d 199 [.ref 65] h1 Q2) → Q (some (.int r)) h1) : mm_s SL xs d 118 [.ref 2] h Q := sorry
