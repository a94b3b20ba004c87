/-! the lines: which one, in the reference -/
def ful (i : Nat) (A : Nat → Option Nat) (G P D : List (Nat × Nat)) : Prop := if i = 7 then 8 ≤ G.length else if i = 9 then 9 ≤ P.length else if i = 10 then 12 ≤ D.length else (A (if i = 3 then 6 else if i = 4 then 3 else if i = 5 then 4 else if i = 6 then 5 else if i = 8 then 7 else i)).isSome = true
section
variable {SL : Nat} {xs : Nat → Int32} {d : Nat} {p s q : Nat} {Q : Option Value → mm_H → Prop} {I : Nat → Nat → Int32} {J : Nat → Nat → Int64} {l j : Nat} {T : Nat → Nat} {A : Nat → Option Nat} {G : List (Nat × Nat)} {w e : Nat} {P D : List (Nat × Nat)} {u : Nat} {C : List Int}
theorem sk_0 (h : MLr l T j A G w e P D u C I J) (hk : tkK l T j ≠ 128 ∨ (A 0).isSome = true) (k : w_X11_readLine_30 SL xs d p s q Q I J) : mm_s SL xs (d + 7) 197 [.ref 65] (hp p s q I J) Q := by
  refine sg_X11_readLine ?_
  rw [show sy_X11_isWord (Int64.ofInt 495873781348) I J = zB (decide (tkK l T j = 128)) from Mm_isW h.1 0 (by omega), zB_0]
  refine ⟨fun _ => k, fun z => ⟨z_inN (t := 0) (by omega) (by omega), ?_⟩⟩
  have z : tkK l T j = 128 := of_decide_eq_true (by simpa using z)
  rw [show (Int32.ofInt 0).toNatClampNeg = 0 from z_ixN (t := 0) (by omega), h.2.2.1.1 0 (by omega), zB_0]
  exact ⟨fun y => absurd (hk.elim (fun x => absurd z x) (fun x => x)) (by rw [y]; decide), fun _ => k⟩
theorem hi_0 (h : MLr l T j A G w e P D u C I J) (hk : tkK l T j = 128) (hf : ¬ (A 0).isSome = true) (k : mm_s SL xs (d + 6) 191 [.ref 65, .int (Int32.ofInt 0), .int (Int32.ofInt 1), .int (Int32.ofInt 60)] (hp p s q I J) (fun r_ h_ => ∃ I1 J1, r_ = none ∧ h_ = hp p s q I1 J1 ∧ w_X11_readLine_317 SL xs d p s q Q I1 J1)) : mm_s SL xs (d + 7) 197 [.ref 65] (hp p s q I J) Q := by
  refine sg_X11_readLine ?_
  rw [show sy_X11_isWord (Int64.ofInt 495873781348) I J = zB (decide (tkK l T j = 128)) from Mm_isW h.1 0 (by omega), zB_0]
  refine ⟨fun z => absurd hk (of_decide_eq_false z), fun z => ⟨z_inN (t := 0) (by omega) (by omega), ?_⟩⟩
  rw [show (Int32.ofInt 0).toNatClampNeg = 0 from z_ixN (t := 0) (by omega), h.2.2.1.1 0 (by omega), zB_0]
  exact ⟨fun _ => k, fun y => absurd (eq_false_of_ne_true hf) y⟩
theorem sk_1 (h : MLr l T j A G w e P D u C I J) (hk : tkK l T j ≠ 129 ∨ (A 1).isSome = true) (k : w_X11_readLine_60 SL xs d p s q Q I J) : w_X11_readLine_30 SL xs d p s q Q I J := by
  refine sg_X11_readLine_30 ?_
  rw [show sy_X11_isWord (Int64.ofInt 422608071022) I J = zB (decide (tkK l T j = 129)) from Mm_isW h.1 1 (by omega), zB_0]
  refine ⟨fun _ => k, fun z => ⟨z_inN (t := 1) (by omega) (by omega), ?_⟩⟩
  have z : tkK l T j = 129 := of_decide_eq_true (by simpa using z)
  rw [show (Int32.ofInt 1).toNatClampNeg = 1 from z_ixN (t := 1) (by omega), h.2.2.1.1 1 (by omega), zB_0]
  exact ⟨fun y => absurd (hk.elim (fun x => absurd z x) (fun x => x)) (by rw [y]; decide), fun _ => k⟩
theorem hi_1 (h : MLr l T j A G w e P D u C I J) (hk : tkK l T j = 129) (hf : ¬ (A 1).isSome = true) (k : mm_s SL xs (d + 6) 191 [.ref 65, .int (Int32.ofInt 1), .int (Int32.ofInt 0), .int (Int32.ofInt 59)] (hp p s q I J) (fun r_ h_ => ∃ I1 J1, r_ = none ∧ h_ = hp p s q I1 J1 ∧ w_X11_readLine_317 SL xs d p s q Q I1 J1)) : w_X11_readLine_30 SL xs d p s q Q I J := by
  refine sg_X11_readLine_30 ?_
  rw [show sy_X11_isWord (Int64.ofInt 422608071022) I J = zB (decide (tkK l T j = 129)) from Mm_isW h.1 1 (by omega), zB_0]
  refine ⟨fun z => absurd hk (of_decide_eq_false z), fun z => ⟨z_inN (t := 1) (by omega) (by omega), ?_⟩⟩
  rw [show (Int32.ofInt 1).toNatClampNeg = 1 from z_ixN (t := 1) (by omega), h.2.2.1.1 1 (by omega), zB_0]
  exact ⟨fun _ => k, fun y => absurd (eq_false_of_ne_true hf) y⟩
theorem sk_2 (h : MLr l T j A G w e P D u C I J) (hk : tkK l T j ≠ 130 ∨ (A 2).isSome = true) (k : w_X11_readLine_90 SL xs d p s q Q I J) : w_X11_readLine_60 SL xs d p s q Q I J := by
  refine sg_X11_readLine_60 ?_
  rw [show sy_X11_isWord (Int64.ofInt 1818584692) I J = zB (decide (tkK l T j = 130)) from Mm_isW h.1 2 (by omega), zB_0]
  refine ⟨fun _ => k, fun z => ⟨z_inN (t := 2) (by omega) (by omega), ?_⟩⟩
  have z : tkK l T j = 130 := of_decide_eq_true (by simpa using z)
  rw [show (Int32.ofInt 2).toNatClampNeg = 2 from z_ixN (t := 2) (by omega), h.2.2.1.1 2 (by omega), zB_0]
  exact ⟨fun y => absurd (hk.elim (fun x => absurd z x) (fun x => x)) (by rw [y]; decide), fun _ => k⟩
theorem hi_2 (h : MLr l T j A G w e P D u C I J) (hk : tkK l T j = 130) (hf : ¬ (A 2).isSome = true) (k : mm_s SL xs (d + 6) 191 [.ref 65, .int (Int32.ofInt 2), .int (Int32.ofInt 1), .int (Int32.ofInt 59)] (hp p s q I J) (fun r_ h_ => ∃ I1 J1, r_ = none ∧ h_ = hp p s q I1 J1 ∧ w_X11_readLine_317 SL xs d p s q Q I1 J1)) : w_X11_readLine_60 SL xs d p s q Q I J := by
  refine sg_X11_readLine_60 ?_
  rw [show sy_X11_isWord (Int64.ofInt 1818584692) I J = zB (decide (tkK l T j = 130)) from Mm_isW h.1 2 (by omega), zB_0]
  refine ⟨fun z => absurd hk (of_decide_eq_false z), fun z => ⟨z_inN (t := 2) (by omega) (by omega), ?_⟩⟩
  rw [show (Int32.ofInt 2).toNatClampNeg = 2 from z_ixN (t := 2) (by omega), h.2.2.1.1 2 (by omega), zB_0]
  exact ⟨fun _ => k, fun y => absurd (eq_false_of_ne_true hf) y⟩
theorem sk_3 (h : MLr l T j A G w e P D u C I J) (hk : tkK l T j ≠ 131 ∨ (A 6).isSome = true) (k : w_X11_readLine_117 SL xs d p s q Q I J) : w_X11_readLine_90 SL xs d p s q Q I J := by
  refine sg_X11_readLine_90 ?_
  rw [show sy_X11_isWord (Int64.ofInt 427071729268) I J = zB (decide (tkK l T j = 131)) from Mm_isW h.1 3 (by omega), zB_0]
  refine ⟨fun _ => k, fun z => ⟨z_inN (t := 6) (by omega) (by omega), ?_⟩⟩
  have z : tkK l T j = 131 := of_decide_eq_true (by simpa using z)
  rw [show (Int32.ofInt 6).toNatClampNeg = 6 from z_ixN (t := 6) (by omega), h.2.2.1.1 6 (by omega), zB_0]
  exact ⟨fun y => absurd (hk.elim (fun x => absurd z x) (fun x => x)) (by rw [y]; decide), fun _ => k⟩
theorem hi_3 (h : MLr l T j A G w e P D u C I J) (hk : tkK l T j = 131) (hf : ¬ (A 6).isSome = true) (k : mm_s SL xs (d + 6) 196 [.ref 65] (hp p s q I J) (fun r_ h_ => ∃ I1 J1, r_ = none ∧ h_ = hp p s q I1 J1 ∧ w_X11_readLine_317 SL xs d p s q Q I1 J1)) : w_X11_readLine_90 SL xs d p s q Q I J := by
  refine sg_X11_readLine_90 ?_
  rw [show sy_X11_isWord (Int64.ofInt 427071729268) I J = zB (decide (tkK l T j = 131)) from Mm_isW h.1 3 (by omega), zB_0]
  refine ⟨fun z => absurd hk (of_decide_eq_false z), fun z => ⟨z_inN (t := 6) (by omega) (by omega), ?_⟩⟩
  rw [show (Int32.ofInt 6).toNatClampNeg = 6 from z_ixN (t := 6) (by omega), h.2.2.1.1 6 (by omega), zB_0]
  exact ⟨fun _ => k, fun y => absurd (eq_false_of_ne_true hf) y⟩
theorem sk_4 (h : MLr l T j A G w e P D u C I J) (hk : tkK l T j ≠ 132 ∨ (A 3).isSome = true) (k : w_X11_readLine_147 SL xs d p s q Q I J) : w_X11_readLine_117 SL xs d p s q Q I J := by
  refine sg_X11_readLine_117 ?_
  rw [show sy_X11_isWord (Int64.ofInt 1953854062) I J = zB (decide (tkK l T j = 132)) from Mm_isW h.1 4 (by omega), zB_0]
  refine ⟨fun _ => k, fun z => ⟨z_inN (t := 3) (by omega) (by omega), ?_⟩⟩
  have z : tkK l T j = 132 := of_decide_eq_true (by simpa using z)
  rw [show (Int32.ofInt 3).toNatClampNeg = 3 from z_ixN (t := 3) (by omega), h.2.2.1.1 3 (by omega), zB_0]
  exact ⟨fun y => absurd (hk.elim (fun x => absurd z x) (fun x => x)) (by rw [y]; decide), fun _ => k⟩
theorem hi_4 (h : MLr l T j A G w e P D u C I J) (hk : tkK l T j = 132) (hf : ¬ (A 3).isSome = true) (k : mm_s SL xs (d + 6) 191 [.ref 65, .int (Int32.ofInt 3), .int (Int32.ofInt 1), .int (Int32.ofInt 99)] (hp p s q I J) (fun r_ h_ => ∃ I1 J1, r_ = none ∧ h_ = hp p s q I1 J1 ∧ w_X11_readLine_317 SL xs d p s q Q I1 J1)) : w_X11_readLine_117 SL xs d p s q Q I J := by
  refine sg_X11_readLine_117 ?_
  rw [show sy_X11_isWord (Int64.ofInt 1953854062) I J = zB (decide (tkK l T j = 132)) from Mm_isW h.1 4 (by omega), zB_0]
  refine ⟨fun z => absurd hk (of_decide_eq_false z), fun z => ⟨z_inN (t := 3) (by omega) (by omega), ?_⟩⟩
  rw [show (Int32.ofInt 3).toNatClampNeg = 3 from z_ixN (t := 3) (by omega), h.2.2.1.1 3 (by omega), zB_0]
  exact ⟨fun _ => k, fun y => absurd (eq_false_of_ne_true hf) y⟩
theorem sk_5 (h : MLr l T j A G w e P D u C I J) (hk : tkK l T j ≠ 133 ∨ (A 4).isSome = true) (k : w_X11_readLine_177 SL xs d p s q Q I J) : w_X11_readLine_147 SL xs d p s q Q I J := by
  refine sg_X11_readLine_147 ?_
  rw [show sy_X11_isWord (Int64.ofInt 418346264942) I J = zB (decide (tkK l T j = 133)) from Mm_isW h.1 5 (by omega), zB_0]
  refine ⟨fun _ => k, fun z => ⟨z_inN (t := 4) (by omega) (by omega), ?_⟩⟩
  have z : tkK l T j = 133 := of_decide_eq_true (by simpa using z)
  rw [show (Int32.ofInt 4).toNatClampNeg = 4 from z_ixN (t := 4) (by omega), h.2.2.1.1 4 (by omega), zB_0]
  exact ⟨fun y => absurd (hk.elim (fun x => absurd z x) (fun x => x)) (by rw [y]; decide), fun _ => k⟩
theorem hi_5 (h : MLr l T j A G w e P D u C I J) (hk : tkK l T j = 133) (hf : ¬ (A 4).isSome = true) (k : mm_s SL xs (d + 6) 191 [.ref 65, .int (Int32.ofInt 4), .int (Int32.ofInt 0), .int (Int32.ofInt 9)] (hp p s q I J) (fun r_ h_ => ∃ I1 J1, r_ = none ∧ h_ = hp p s q I1 J1 ∧ w_X11_readLine_317 SL xs d p s q Q I1 J1)) : w_X11_readLine_147 SL xs d p s q Q I J := by
  refine sg_X11_readLine_147 ?_
  rw [show sy_X11_isWord (Int64.ofInt 418346264942) I J = zB (decide (tkK l T j = 133)) from Mm_isW h.1 5 (by omega), zB_0]
  refine ⟨fun z => absurd hk (of_decide_eq_false z), fun z => ⟨z_inN (t := 4) (by omega) (by omega), ?_⟩⟩
  rw [show (Int32.ofInt 4).toNatClampNeg = 4 from z_ixN (t := 4) (by omega), h.2.2.1.1 4 (by omega), zB_0]
  exact ⟨fun _ => k, fun y => absurd (eq_false_of_ne_true hf) y⟩
theorem sk_6 (h : MLr l T j A G w e P D u C I J) (hk : tkK l T j ≠ 134 ∨ (A 5).isSome = true) (k : w_X11_readLine_207 SL xs d p s q Q I J) : w_X11_readLine_177 SL xs d p s q Q I J := by
  refine sg_X11_readLine_177 ?_
  rw [show sy_X11_isWord (Int64.ofInt 6451065) I J = zB (decide (tkK l T j = 134)) from Mm_isW h.1 6 (by omega), zB_0]
  refine ⟨fun _ => k, fun z => ⟨z_inN (t := 5) (by omega) (by omega), ?_⟩⟩
  have z : tkK l T j = 134 := of_decide_eq_true (by simpa using z)
  rw [show (Int32.ofInt 5).toNatClampNeg = 5 from z_ixN (t := 5) (by omega), h.2.2.1.1 5 (by omega), zB_0]
  exact ⟨fun y => absurd (hk.elim (fun x => absurd z x) (fun x => x)) (by rw [y]; decide), fun _ => k⟩
theorem hi_6 (h : MLr l T j A G w e P D u C I J) (hk : tkK l T j = 134) (hf : ¬ (A 5).isSome = true) (k : mm_s SL xs (d + 6) 191 [.ref 65, .int (Int32.ofInt 5), .int (Int32.ofInt 0), .int (Int32.ofInt 59)] (hp p s q I J) (fun r_ h_ => ∃ I1 J1, r_ = none ∧ h_ = hp p s q I1 J1 ∧ w_X11_readLine_317 SL xs d p s q Q I1 J1)) : w_X11_readLine_177 SL xs d p s q Q I J := by
  refine sg_X11_readLine_177 ?_
  rw [show sy_X11_isWord (Int64.ofInt 6451065) I J = zB (decide (tkK l T j = 134)) from Mm_isW h.1 6 (by omega), zB_0]
  refine ⟨fun z => absurd hk (of_decide_eq_false z), fun z => ⟨z_inN (t := 5) (by omega) (by omega), ?_⟩⟩
  rw [show (Int32.ofInt 5).toNatClampNeg = 5 from z_ixN (t := 5) (by omega), h.2.2.1.1 5 (by omega), zB_0]
  exact ⟨fun _ => k, fun y => absurd (eq_false_of_ne_true hf) y⟩
theorem sk_7 (h : MLr l T j A G w e P D u C I J) (hl : G.length ≤ 8) (hk : tkK l T j ≠ 135 ∨ 8 ≤ G.length) (k : w_X11_readLine_233 SL xs d p s q Q I J) : w_X11_readLine_207 SL xs d p s q Q I J := by
  refine sg_X11_readLine_207 ?_
  rw [show sy_X11_isWord (Int64.ofInt 444350952036) I J = zB (decide (tkK l T j = 135)) from Mm_isW h.1 7 (by omega), zB_0, h.2.2.2.1.1, z_le (by omega)]
  refine ⟨fun _ => k, fun z => ⟨fun _ => k, fun y => ?_⟩⟩
  have z : tkK l T j = 135 := of_decide_eq_true (by simpa using z)
  omega
theorem hi_7 (h : MLr l T j A G w e P D u C I J) (hl : G.length ≤ 8) (hk : tkK l T j = 135) (hf : ¬ 8 ≤ G.length) (k : mm_s SL xs (d + 6) 192 [.ref 65] (hp p s q I J) (fun r_ h_ => ∃ I1 J1, r_ = none ∧ h_ = hp p s q I1 J1 ∧ w_X11_readLine_317 SL xs d p s q Q I1 J1)) : w_X11_readLine_207 SL xs d p s q Q I J := by
  refine sg_X11_readLine_207 ?_
  rw [show sy_X11_isWord (Int64.ofInt 444350952036) I J = zB (decide (tkK l T j = 135)) from Mm_isW h.1 7 (by omega), zB_0, h.2.2.2.1.1, z_le (by omega)]
  exact ⟨fun z => absurd hk (of_decide_eq_false z), fun z => ⟨fun y => absurd y (by omega), fun _ => k⟩⟩
theorem sk_8 (h : MLr l T j A G w e P D u C I J) (hk : tkK l T j ≠ 136 ∨ (A 7).isSome = true) (k : w_X11_readLine_260 SL xs d p s q Q I J) : w_X11_readLine_233 SL xs d p s q Q I J := by
  refine sg_X11_readLine_233 ?_
  rw [show sy_X11_isWord (Int64.ofInt 491379060069) I J = zB (decide (tkK l T j = 136)) from Mm_isW h.1 8 (by omega), zB_0]
  refine ⟨fun _ => k, fun z => ⟨z_inN (t := 7) (by omega) (by omega), ?_⟩⟩
  have z : tkK l T j = 136 := of_decide_eq_true (by simpa using z)
  rw [show (Int32.ofInt 7).toNatClampNeg = 7 from z_ixN (t := 7) (by omega), h.2.2.1.1 7 (by omega), zB_0]
  exact ⟨fun y => absurd (hk.elim (fun x => absurd z x) (fun x => x)) (by rw [y]; decide), fun _ => k⟩
theorem hi_8 (h : MLr l T j A G w e P D u C I J) (hk : tkK l T j = 136) (hf : ¬ (A 7).isSome = true) (k : mm_s SL xs (d + 6) 193 [.ref 65] (hp p s q I J) (fun r_ h_ => ∃ I1 J1, r_ = none ∧ h_ = hp p s q I1 J1 ∧ w_X11_readLine_317 SL xs d p s q Q I1 J1)) : w_X11_readLine_233 SL xs d p s q Q I J := by
  refine sg_X11_readLine_233 ?_
  rw [show sy_X11_isWord (Int64.ofInt 491379060069) I J = zB (decide (tkK l T j = 136)) from Mm_isW h.1 8 (by omega), zB_0]
  refine ⟨fun z => absurd hk (of_decide_eq_false z), fun z => ⟨z_inN (t := 7) (by omega) (by omega), ?_⟩⟩
  rw [show (Int32.ofInt 7).toNatClampNeg = 7 from z_ixN (t := 7) (by omega), h.2.2.1.1 7 (by omega), zB_0]
  exact ⟨fun _ => k, fun y => absurd (eq_false_of_ne_true hf) y⟩
theorem sk_9 (h : MLr l T j A G w e P D u C I J) (hl : P.length ≤ 9) (hk : tkK l T j ≠ 137 ∨ 9 ≤ P.length) (k : w_X11_readLine_286 SL xs d p s q Q I J) : w_X11_readLine_260 SL xs d p s q Q I J := by
  refine sg_X11_readLine_260 ?_
  rw [show sy_X11_isWord (Int64.ofInt 123581014175598) I J = zB (decide (tkK l T j = 137)) from Mm_isW h.1 9 (by omega), zB_0, h.2.2.2.2.2.1.1, z_le (by omega)]
  refine ⟨fun _ => k, fun z => ⟨fun _ => k, fun y => ?_⟩⟩
  have z : tkK l T j = 137 := of_decide_eq_true (by simpa using z)
  omega
theorem hi_9 (h : MLr l T j A G w e P D u C I J) (hl : P.length ≤ 9) (hk : tkK l T j = 137) (hf : ¬ 9 ≤ P.length) (k : mm_s SL xs (d + 6) 194 [.ref 65] (hp p s q I J) (fun r_ h_ => ∃ I1 J1, r_ = none ∧ h_ = hp p s q I1 J1 ∧ w_X11_readLine_317 SL xs d p s q Q I1 J1)) : w_X11_readLine_260 SL xs d p s q Q I J := by
  refine sg_X11_readLine_260 ?_
  rw [show sy_X11_isWord (Int64.ofInt 123581014175598) I J = zB (decide (tkK l T j = 137)) from Mm_isW h.1 9 (by omega), zB_0, h.2.2.2.2.2.1.1, z_le (by omega)]
  exact ⟨fun z => absurd hk (of_decide_eq_false z), fun z => ⟨fun y => absurd y (by omega), fun _ => k⟩⟩
theorem sk_10 (h : MLr l T j A G w e P D u C I J) (hl : D.length ≤ 12) (hk : tkK l T j ≠ 138 ∨ 12 ≤ D.length) (k : w_X11_readLine_312 SL xs d p s q Q I J) : w_X11_readLine_286 SL xs d p s q Q I J := by
  refine sg_X11_readLine_286 ?_
  rw [show sy_X11_isWord (Int64.ofInt 431415719790) I J = zB (decide (tkK l T j = 138)) from Mm_isW h.1 10 (by omega), zB_0, h.2.2.2.2.2.2.1.1, z_le (by omega)]
  refine ⟨fun _ => k, fun z => ⟨fun _ => k, fun y => ?_⟩⟩
  have z : tkK l T j = 138 := of_decide_eq_true (by simpa using z)
  omega
theorem hi_10 (h : MLr l T j A G w e P D u C I J) (hl : D.length ≤ 12) (hk : tkK l T j = 138) (hf : ¬ 12 ≤ D.length) (k : mm_s SL xs (d + 6) 195 [.ref 65] (hp p s q I J) (fun r_ h_ => ∃ I1 J1, r_ = none ∧ h_ = hp p s q I1 J1 ∧ w_X11_readLine_317 SL xs d p s q Q I1 J1)) : w_X11_readLine_286 SL xs d p s q Q I J := by
  refine sg_X11_readLine_286 ?_
  rw [show sy_X11_isWord (Int64.ofInt 431415719790) I J = zB (decide (tkK l T j = 138)) from Mm_isW h.1 10 (by omega), zB_0, h.2.2.2.2.2.2.1.1, z_le (by omega)]
  exact ⟨fun z => absurd hk (of_decide_eq_false z), fun z => ⟨fun y => absurd y (by omega), fun _ => k⟩⟩
theorem di_0 (h : MLr l T j A G w e P D u C I J) (hw : LW A G w e P D u C) (hk : tkK l T j = 128) (hf : ¬ (A 0).isSome = true) (k : mm_s SL xs (d + 6) 191 [.ref 65, .int (Int32.ofInt 0), .int (Int32.ofInt 1), .int (Int32.ofInt 60)] (hp p s q I J) (fun r_ h_ => ∃ I1 J1, r_ = none ∧ h_ = hp p s q I1 J1 ∧ w_X11_readLine_317 SL xs d p s q Q I1 J1)) : mm_s SL xs (d + 7) 197 [.ref 65] (hp p s q I J) Q :=
  hi_0 h hk hf k
theorem di_1 (h : MLr l T j A G w e P D u C I J) (hw : LW A G w e P D u C) (hk : tkK l T j = 129) (hf : ¬ (A 1).isSome = true) (k : mm_s SL xs (d + 6) 191 [.ref 65, .int (Int32.ofInt 1), .int (Int32.ofInt 0), .int (Int32.ofInt 59)] (hp p s q I J) (fun r_ h_ => ∃ I1 J1, r_ = none ∧ h_ = hp p s q I1 J1 ∧ w_X11_readLine_317 SL xs d p s q Q I1 J1)) : mm_s SL xs (d + 7) 197 [.ref 65] (hp p s q I J) Q :=
  sk_0 h (Or.inl (by omega)) (hi_1 h hk hf k)
theorem di_2 (h : MLr l T j A G w e P D u C I J) (hw : LW A G w e P D u C) (hk : tkK l T j = 130) (hf : ¬ (A 2).isSome = true) (k : mm_s SL xs (d + 6) 191 [.ref 65, .int (Int32.ofInt 2), .int (Int32.ofInt 1), .int (Int32.ofInt 59)] (hp p s q I J) (fun r_ h_ => ∃ I1 J1, r_ = none ∧ h_ = hp p s q I1 J1 ∧ w_X11_readLine_317 SL xs d p s q Q I1 J1)) : mm_s SL xs (d + 7) 197 [.ref 65] (hp p s q I J) Q :=
  sk_0 h (Or.inl (by omega)) (sk_1 h (Or.inl (by omega)) (hi_2 h hk hf k))
theorem di_3 (h : MLr l T j A G w e P D u C I J) (hw : LW A G w e P D u C) (hk : tkK l T j = 131) (hf : ¬ (A 6).isSome = true) (k : mm_s SL xs (d + 6) 196 [.ref 65] (hp p s q I J) (fun r_ h_ => ∃ I1 J1, r_ = none ∧ h_ = hp p s q I1 J1 ∧ w_X11_readLine_317 SL xs d p s q Q I1 J1)) : mm_s SL xs (d + 7) 197 [.ref 65] (hp p s q I J) Q :=
  sk_0 h (Or.inl (by omega)) (sk_1 h (Or.inl (by omega)) (sk_2 h (Or.inl (by omega)) (hi_3 h hk hf k)))
theorem di_4 (h : MLr l T j A G w e P D u C I J) (hw : LW A G w e P D u C) (hk : tkK l T j = 132) (hf : ¬ (A 3).isSome = true) (k : mm_s SL xs (d + 6) 191 [.ref 65, .int (Int32.ofInt 3), .int (Int32.ofInt 1), .int (Int32.ofInt 99)] (hp p s q I J) (fun r_ h_ => ∃ I1 J1, r_ = none ∧ h_ = hp p s q I1 J1 ∧ w_X11_readLine_317 SL xs d p s q Q I1 J1)) : mm_s SL xs (d + 7) 197 [.ref 65] (hp p s q I J) Q :=
  sk_0 h (Or.inl (by omega)) (sk_1 h (Or.inl (by omega)) (sk_2 h (Or.inl (by omega)) (sk_3 h (Or.inl (by omega)) (hi_4 h hk hf k))))
theorem di_5 (h : MLr l T j A G w e P D u C I J) (hw : LW A G w e P D u C) (hk : tkK l T j = 133) (hf : ¬ (A 4).isSome = true) (k : mm_s SL xs (d + 6) 191 [.ref 65, .int (Int32.ofInt 4), .int (Int32.ofInt 0), .int (Int32.ofInt 9)] (hp p s q I J) (fun r_ h_ => ∃ I1 J1, r_ = none ∧ h_ = hp p s q I1 J1 ∧ w_X11_readLine_317 SL xs d p s q Q I1 J1)) : mm_s SL xs (d + 7) 197 [.ref 65] (hp p s q I J) Q :=
  sk_0 h (Or.inl (by omega)) (sk_1 h (Or.inl (by omega)) (sk_2 h (Or.inl (by omega)) (sk_3 h (Or.inl (by omega)) (sk_4 h (Or.inl (by omega)) (hi_5 h hk hf k)))))
theorem di_6 (h : MLr l T j A G w e P D u C I J) (hw : LW A G w e P D u C) (hk : tkK l T j = 134) (hf : ¬ (A 5).isSome = true) (k : mm_s SL xs (d + 6) 191 [.ref 65, .int (Int32.ofInt 5), .int (Int32.ofInt 0), .int (Int32.ofInt 59)] (hp p s q I J) (fun r_ h_ => ∃ I1 J1, r_ = none ∧ h_ = hp p s q I1 J1 ∧ w_X11_readLine_317 SL xs d p s q Q I1 J1)) : mm_s SL xs (d + 7) 197 [.ref 65] (hp p s q I J) Q :=
  sk_0 h (Or.inl (by omega)) (sk_1 h (Or.inl (by omega)) (sk_2 h (Or.inl (by omega)) (sk_3 h (Or.inl (by omega)) (sk_4 h (Or.inl (by omega)) (sk_5 h (Or.inl (by omega)) (hi_6 h hk hf k))))))
theorem di_7 (h : MLr l T j A G w e P D u C I J) (hw : LW A G w e P D u C) (hk : tkK l T j = 135) (hf : ¬ 8 ≤ G.length) (k : mm_s SL xs (d + 6) 192 [.ref 65] (hp p s q I J) (fun r_ h_ => ∃ I1 J1, r_ = none ∧ h_ = hp p s q I1 J1 ∧ w_X11_readLine_317 SL xs d p s q Q I1 J1)) : mm_s SL xs (d + 7) 197 [.ref 65] (hp p s q I J) Q :=
  sk_0 h (Or.inl (by omega)) (sk_1 h (Or.inl (by omega)) (sk_2 h (Or.inl (by omega)) (sk_3 h (Or.inl (by omega)) (sk_4 h (Or.inl (by omega)) (sk_5 h (Or.inl (by omega)) (sk_6 h (Or.inl (by omega)) (hi_7 h hw.2.1.1 hk hf k)))))))
theorem di_8 (h : MLr l T j A G w e P D u C I J) (hw : LW A G w e P D u C) (hk : tkK l T j = 136) (hf : ¬ (A 7).isSome = true) (k : mm_s SL xs (d + 6) 193 [.ref 65] (hp p s q I J) (fun r_ h_ => ∃ I1 J1, r_ = none ∧ h_ = hp p s q I1 J1 ∧ w_X11_readLine_317 SL xs d p s q Q I1 J1)) : mm_s SL xs (d + 7) 197 [.ref 65] (hp p s q I J) Q :=
  sk_0 h (Or.inl (by omega)) (sk_1 h (Or.inl (by omega)) (sk_2 h (Or.inl (by omega)) (sk_3 h (Or.inl (by omega)) (sk_4 h (Or.inl (by omega)) (sk_5 h (Or.inl (by omega)) (sk_6 h (Or.inl (by omega)) (sk_7 h hw.2.1.1 (Or.inl (by omega)) (hi_8 h hk hf k))))))))
theorem di_9 (h : MLr l T j A G w e P D u C I J) (hw : LW A G w e P D u C) (hk : tkK l T j = 137) (hf : ¬ 9 ≤ P.length) (k : mm_s SL xs (d + 6) 194 [.ref 65] (hp p s q I J) (fun r_ h_ => ∃ I1 J1, r_ = none ∧ h_ = hp p s q I1 J1 ∧ w_X11_readLine_317 SL xs d p s q Q I1 J1)) : mm_s SL xs (d + 7) 197 [.ref 65] (hp p s q I J) Q :=
  sk_0 h (Or.inl (by omega)) (sk_1 h (Or.inl (by omega)) (sk_2 h (Or.inl (by omega)) (sk_3 h (Or.inl (by omega)) (sk_4 h (Or.inl (by omega)) (sk_5 h (Or.inl (by omega)) (sk_6 h (Or.inl (by omega)) (sk_7 h hw.2.1.1 (Or.inl (by omega)) (sk_8 h (Or.inl (by omega)) (hi_9 h hw.2.2.2.1.1 hk hf k)))))))))
theorem di_10 (h : MLr l T j A G w e P D u C I J) (hw : LW A G w e P D u C) (hk : tkK l T j = 138) (hf : ¬ 12 ≤ D.length) (k : mm_s SL xs (d + 6) 195 [.ref 65] (hp p s q I J) (fun r_ h_ => ∃ I1 J1, r_ = none ∧ h_ = hp p s q I1 J1 ∧ w_X11_readLine_317 SL xs d p s q Q I1 J1)) : mm_s SL xs (d + 7) 197 [.ref 65] (hp p s q I J) Q :=
  sk_0 h (Or.inl (by omega)) (sk_1 h (Or.inl (by omega)) (sk_2 h (Or.inl (by omega)) (sk_3 h (Or.inl (by omega)) (sk_4 h (Or.inl (by omega)) (sk_5 h (Or.inl (by omega)) (sk_6 h (Or.inl (by omega)) (sk_7 h hw.2.1.1 (Or.inl (by omega)) (sk_8 h (Or.inl (by omega)) (sk_9 h hw.2.2.2.1.1 (Or.inl (by omega)) (hi_10 h hw.2.2.2.2.1.1 hk hf k))))))))))
theorem di_no (h : MLr l T j A G w e P D u C I J) (hw : LW A G w e P D u C) (h0 : tkK l T j ≠ 128 ∨ (A 0).isSome = true) (h1 : tkK l T j ≠ 129 ∨ (A 1).isSome = true) (h2 : tkK l T j ≠ 130 ∨ (A 2).isSome = true) (h3 : tkK l T j ≠ 131 ∨ (A 6).isSome = true) (h4 : tkK l T j ≠ 132 ∨ (A 3).isSome = true) (h5 : tkK l T j ≠ 133 ∨ (A 4).isSome = true) (h6 : tkK l T j ≠ 134 ∨ (A 5).isSome = true) (h7 : tkK l T j ≠ 135 ∨ 8 ≤ G.length) (h8 : tkK l T j ≠ 136 ∨ (A 7).isSome = true) (h9 : tkK l T j ≠ 137 ∨ 9 ≤ P.length) (h10 : tkK l T j ≠ 138 ∨ 12 ≤ D.length) (kq : Q none (hp p s q (gI I (tkK l T j) 2 j) J)) : mm_s SL xs (d + 7) 197 [.ref 65] (hp p s q I J) Q := by
  refine sk_0 h h0 (sk_1 h h1 (sk_2 h h2 (sk_3 h h3 (sk_4 h h4 (sk_5 h h5 (sk_6 h h6 (sk_7 h hw.2.1.1 h7 (sk_8 h h8 (sk_9 h hw.2.2.2.1.1 h9 (sk_10 h hw.2.2.2.2.1.1 h10 (?_)))))))))))
  exact sg_X11_readLine_312 (m_wrong (n := 2) h.1 h.2.1 ⟨_, _, rfl, rfl, f317_b flt_1 kq⟩)
end
