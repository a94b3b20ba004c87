/-! names -/
section
variable {SL : Nat} {xs : Nat → Int32} {d : Nat} {p s q : Nat} {Q : Option Value → mm_H → Prop} {I : Nat → Nat → Int32} {J : Nat → Nat → Int64} {l j : Nat} {T : Nat → Nat}
theorem m_name2 {v : Bool} (h : Mm l T j I J) (c : tkK l T j = 3 ∨ 128 ≤ tkK l T j) (kq : ∀ b : Bool, (b = true ↔ v = false ∧ ¬ (tkK l T j = 140 ∨ tkK l T j = 138 ∨ tkK l T j = 141 ∨ tkK l T j = 145 ∨ tkK l T j = 146 ∨ tkK l T j = 147 ∨ tkK l T j = 148 ∨ tkK l T j = 149 ∨ tkK l T j = 143 ∨ tkK l T j = 142 ∨ tkK l T j = 144)) → Q (some (.int (zB b))) (hp p s q I J)) : w_X11_isName_137 SL xs d p s q Q (zB v) I J := by
  refine sg_X11_isName_137 ?_
  rw [show (J 65 9 = Int64.ofInt 512970880104) = (tkK l T j = 140) from Mm_wk (k := 12) h (by omega) c, show (J 65 9 = Int64.ofInt 431415719790) = (tkK l T j = 138) from Mm_wk (k := 10) h (by omega) c, show (J 65 9 = Int64.ofInt 131277443786868) = (tkK l T j = 141) from Mm_wk (k := 13) h (by omega) c, show (J 65 9 = Int64.ofInt 444250812007) = (tkK l T j = 145) from Mm_wk (k := 17) h (by omega) c, show (J 65 9 = Int64.ofInt 1751478885) = (tkK l T j = 146) from Mm_wk (k := 18) h (by omega) c, show (J 65 9 = Int64.ofInt 1818325876) = (tkK l T j = 147) from Mm_wk (k := 19) h (by omega) c, show (J 65 9 = Int64.ofInt 512970876019) = (tkK l T j = 148) from Mm_wk (k := 20) h (by omega) c, show (J 65 9 = Int64.ofInt 495689625203) = (tkK l T j = 149) from Mm_wk (k := 21) h (by omega) c, show (J 65 9 = Int64.ofInt 6385252) = (tkK l T j = 143) from Mm_wk (k := 15) h (by omega) c, show (J 65 9 = Int64.ofInt 28530) = (tkK l T j = 142) from Mm_wk (k := 14) h (by omega) c, show (J 65 9 = Int64.ofInt 7237492) = (tkK l T j = 144) from Mm_wk (k := 16) h (by omega) c]
  have yes : (tkK l T j = 140 ∨ tkK l T j = 138 ∨ tkK l T j = 141 ∨ tkK l T j = 145 ∨ tkK l T j = 146 ∨ tkK l T j = 147 ∨ tkK l T j = 148 ∨ tkK l T j = 149 ∨ tkK l T j = 143 ∨ tkK l T j = 142 ∨ tkK l T j = 144) → w_X11_isName_258 SL xs d p s q Q (zB v) I J := fun e => by
    refine sg_X11_isName_258 (sg_X11_isName_264 ⟨fun _ => ⟨fun z => absurd z (by decide), fun _ => sg_X11_isName_276 (kq false ?_)⟩, fun _ => sg_X11_isName_276 (kq false ?_)⟩)
    all_goals exact ⟨fun z => absurd z (by decide), fun z => absurd e z.2⟩
  refine ⟨fun e => yes (by omega), fun e12 => ?_⟩
  refine ⟨fun e => yes (by omega), fun e10 => ?_⟩
  refine ⟨fun e => yes (by omega), fun e13 => ?_⟩
  refine ⟨fun e => yes (by omega), fun e17 => ?_⟩
  refine ⟨fun e => yes (by omega), fun e18 => ?_⟩
  refine ⟨fun e => yes (by omega), fun e19 => ?_⟩
  refine ⟨fun e => yes (by omega), fun e20 => ?_⟩
  refine ⟨fun e => yes (by omega), fun e21 => ?_⟩
  refine ⟨fun e => yes (by omega), fun e15 => ?_⟩
  refine ⟨fun e => yes (by omega), fun e14 => ?_⟩
  refine ⟨fun e => yes (by omega), fun e16 => ?_⟩
  refine sg_X11_isName_264 ⟨fun z => ⟨fun _ => kq true ?_, fun z => absurd rfl z⟩, fun z => sg_X11_isName_276 (kq false ?_)⟩
  · rw [zB_0] at z; exact ⟨fun _ => ⟨z, by omega⟩, fun _ => rfl⟩
  · rw [zB_0] at z; exact ⟨fun y => absurd y (by decide), fun y => absurd y.1 z⟩
theorem m_isName (h : Mm l T j I J) (kq : Q (some (.int (zB (decide (tkK l T j = 3))))) (hp p s q I J)) : mm_s SL xs (d + 1) 175 [.ref 65] (hp p s q I J) Q := by
  have hr := (KR l T j).1
  refine sg_X11_isName ?_
  rw [Mm_w h]
  refine ⟨fun c => ?_, fun c => ?_⟩
  · rw [show (J 65 9 = Int64.ofInt 495873781348) = (tkK l T j = 128) from Mm_wk (k := 0) h (by omega) c, show (J 65 9 = Int64.ofInt 422608071022) = (tkK l T j = 129) from Mm_wk (k := 1) h (by omega) c, show (J 65 9 = Int64.ofInt 1818584692) = (tkK l T j = 130) from Mm_wk (k := 2) h (by omega) c, show (J 65 9 = Int64.ofInt 427071729268) = (tkK l T j = 131) from Mm_wk (k := 3) h (by omega) c, show (J 65 9 = Int64.ofInt 1953854062) = (tkK l T j = 132) from Mm_wk (k := 4) h (by omega) c, show (J 65 9 = Int64.ofInt 418346264942) = (tkK l T j = 133) from Mm_wk (k := 5) h (by omega) c, show (J 65 9 = Int64.ofInt 6451065) = (tkK l T j = 134) from Mm_wk (k := 6) h (by omega) c, show (J 65 9 = Int64.ofInt 444350952036) = (tkK l T j = 135) from Mm_wk (k := 7) h (by omega) c, show (J 65 9 = Int64.ofInt 29807) = (tkK l T j = 139) from Mm_wk (k := 11) h (by omega) c, show (J 65 9 = Int64.ofInt 491379060069) = (tkK l T j = 136) from Mm_wk (k := 8) h (by omega) c, show (J 65 9 = Int64.ofInt 123581014175598) = (tkK l T j = 137) from Mm_wk (k := 9) h (by omega) c]
    have yes : (tkK l T j = 128 ∨ tkK l T j = 129 ∨ tkK l T j = 130 ∨ tkK l T j = 131 ∨ tkK l T j = 132 ∨ tkK l T j = 133 ∨ tkK l T j = 134 ∨ tkK l T j = 135 ∨ tkK l T j = 139 ∨ tkK l T j = 136 ∨ tkK l T j = 137) → w_X11_isName_131 SL xs d p s q Q I J := fun e => by
      refine sg_X11_isName_131 (m_name2 (v := true) h c (fun b hb => ?_))
      have hb : b = false := by
        cases b
        · rfl
        · exact absurd (hb.1 rfl).1 (by decide)
      rw [decide_eq_false (by omega)] at kq
      rw [hb]; exact kq
    refine ⟨fun e => yes (by omega), fun e0 => ?_⟩
    refine ⟨fun e => yes (by omega), fun e1 => ?_⟩
    refine ⟨fun e => yes (by omega), fun e2 => ?_⟩
    refine ⟨fun e => yes (by omega), fun e3 => ?_⟩
    refine ⟨fun e => yes (by omega), fun e4 => ?_⟩
    refine ⟨fun e => yes (by omega), fun e5 => ?_⟩
    refine ⟨fun e => yes (by omega), fun e6 => ?_⟩
    refine ⟨fun e => yes (by omega), fun e7 => ?_⟩
    refine ⟨fun e => yes (by omega), fun e11 => ?_⟩
    refine ⟨fun e => yes (by omega), fun e8 => ?_⟩
    refine ⟨fun e => yes (by omega), fun e9 => ?_⟩
    refine m_name2 (v := false) h c (fun b hb => ?_)
    have hb : b = decide (tkK l T j = 3) := by
      cases b
      · refine (decide_eq_false (fun z => ?_)).symm
        exact absurd (hb.2 ⟨rfl, by omega⟩) (by decide)
      · have := (hb.1 rfl).2
        exact (decide_eq_true (by omega)).symm
    rw [hb]; exact kq
  · rw [decide_eq_false (by omega)] at kq; exact kq
end
