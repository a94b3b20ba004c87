theorem ca_far {SL : Nat} {xs : Nat → Int32} {d : Nat} {h : mm_H} {Q : Option Value → mm_H → Prop} {a0 : Int64} {a1 : Int32} {a2 : Int64} (hd : 150 ≤ d) (hiv : iv h) (k : ∀ (r : Int64) (h1 : mm_H), h1.2.1 65 = .inr 9 → (∀ Q2 : Option Value → mm_H → Prop, (∀ h2, iv h2 → Q2 (some (.long r)) h2) → mm_s SL xs d 235 [.ref 65, .long a0, .int a1, .long a2] h1 Q2) → Q (some (.long r)) h1) : mm_s SL xs d 134 [.ref 2, .long a0, .int a1, .long a2] h Q := by
  obtain ⟨e, rfl⟩ : ∃ e, d = e + 2 := ⟨d - 2, by omega⟩
  exact c_X10_far (k _ h hiv.2.1 (fun Q2 k2 => c_X11_far (k2 h hiv)))
theorem ca_at {SL : Nat} {xs : Nat → Int32} {d : Nat} {h : mm_H} {Q : Option Value → mm_H → Prop} {a0 : Int64} {a1 : Int32} {a2 : Int64} (hd : 150 ≤ d) (hiv : iv h) (k : ∀ (r : Int64) (h1 : mm_H), h1.2.1 65 = .inr 9 → (∀ Q2 : Option Value → mm_H → Prop, (∀ h2, iv h2 → Q2 (some (.long r)) h2) → mm_s SL xs d 236 [.ref 65, .long a0, .int a1, .long a2] h1 Q2) → Q (some (.long r)) h1) : mm_s SL xs d 135 [.ref 2, .long a0, .int a1, .long a2] h Q := by
  obtain ⟨e, rfl⟩ : ∃ e, d = e + 2 := ⟨d - 2, by omega⟩
  exact c_X10_at (k _ h hiv.2.1 (fun Q2 k2 => c_X11_at (k2 h hiv)))
theorem ca_size {SL : Nat} {xs : Nat → Int32} {d : Nat} {h : mm_H} {Q : Option Value → mm_H → Prop} {a0 : Int32} {a1 : Int32} {a2 : Int32} (hd : 150 ≤ d) (hiv : iv h) (k : ∀ (r : Int32) (h1 : mm_H), h1.2.1 65 = .inr 9 → (∀ Q2 : Option Value → mm_H → Prop, (∀ h2, iv h2 → Q2 (some (.int r)) h2) → mm_s SL xs d 237 [.ref 65, .int a0, .int a1, .int a2] h1 Q2) → Q (some (.int r)) h1) : mm_s SL xs d 136 [.ref 2, .int a0, .int a1, .int a2] h Q := by
  obtain ⟨e, rfl⟩ : ∃ e, d = e + 2 := ⟨d - 2, by omega⟩
  exact c_X10_size (k _ h hiv.2.1 (fun Q2 k2 => c_X11_size (k2 h hiv)))
