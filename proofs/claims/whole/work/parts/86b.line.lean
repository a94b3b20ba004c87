/-! a line, in the class -/
def kx (i : Nat) : Nat := if i = 3 then 6 else if i = 4 then 3 else if i = 5 then 4 else if i = 6 then 5 else if i = 8 then 7 else i
theorem kx_s : ∀ i : Fin 9, i.val ≠ 7 → kx i.val < 8 ∧ sn (kx i.val) = i.val := by decide
def fu (i : Nat) (A : Nat → Option Nat) (G P D : List (Nat × Nat)) : Prop := if i = 7 then 8 ≤ G.length else if i = 9 then 9 ≤ P.length else if i = 10 then 12 ≤ D.length else (A (kx i)).isSome = true
theorem fu_7 {A : Nat → Option Nat} {G P D : List (Nat × Nat)} : fu 7 A G P D = (8 ≤ G.length) := by rw [fu, if_pos rfl]
theorem fu_9 {A : Nat → Option Nat} {G P D : List (Nat × Nat)} : fu 9 A G P D = (9 ≤ P.length) := by rw [fu, if_neg (by omega), if_pos rfl]
theorem fu_10 {A : Nat → Option Nat} {G P D : List (Nat × Nat)} : fu 10 A G P D = (12 ≤ D.length) := by rw [fu, if_neg (by omega), if_neg (by omega), if_pos rfl]
theorem fu_0 {A : Nat → Option Nat} {G P D : List (Nat × Nat)} : fu 0 A G P D = ((A 0).isSome = true) := by rw [fu, if_neg (by omega), if_neg (by omega), if_neg (by omega), show kx 0 = 0 by decide]
theorem fu_1 {A : Nat → Option Nat} {G P D : List (Nat × Nat)} : fu 1 A G P D = ((A 1).isSome = true) := by rw [fu, if_neg (by omega), if_neg (by omega), if_neg (by omega), show kx 1 = 1 by decide]
theorem fu_2 {A : Nat → Option Nat} {G P D : List (Nat × Nat)} : fu 2 A G P D = ((A 2).isSome = true) := by rw [fu, if_neg (by omega), if_neg (by omega), if_neg (by omega), show kx 2 = 2 by decide]
theorem fu_3 {A : Nat → Option Nat} {G P D : List (Nat × Nat)} : fu 3 A G P D = ((A 6).isSome = true) := by rw [fu, if_neg (by omega), if_neg (by omega), if_neg (by omega), show kx 3 = 6 by decide]
theorem fu_4 {A : Nat → Option Nat} {G P D : List (Nat × Nat)} : fu 4 A G P D = ((A 3).isSome = true) := by rw [fu, if_neg (by omega), if_neg (by omega), if_neg (by omega), show kx 4 = 3 by decide]
theorem fu_5 {A : Nat → Option Nat} {G P D : List (Nat × Nat)} : fu 5 A G P D = ((A 4).isSome = true) := by rw [fu, if_neg (by omega), if_neg (by omega), if_neg (by omega), show kx 5 = 4 by decide]
theorem fu_6 {A : Nat → Option Nat} {G P D : List (Nat × Nat)} : fu 6 A G P D = ((A 5).isSome = true) := by rw [fu, if_neg (by omega), if_neg (by omega), if_neg (by omega), show kx 6 = 5 by decide]
theorem fu_8 {A : Nat → Option Nat} {G P D : List (Nat × Nat)} : fu 8 A G P D = ((A 7).isSome = true) := by rw [fu, if_neg (by omega), if_neg (by omega), if_neg (by omega), show kx 8 = 7 by decide]
section
variable {SL : Nat} {xs : Nat → Int32} {d : Nat} {p s q : Nat} {Q : Option Value → mm_H → Prop} {I : Nat → Nat → Int32} {J : Nat → Nat → Int64} {l j : Nat} {T : Nat → Nat} {A : Nat → Option Nat} {G : List (Nat × Nat)} {w e : Nat} {P D : List (Nat × Nat)} {u : Nat} {C : List Int}
set_option maxRecDepth 20000 in
theorem c_full (hq : isP q) (h : CLr l T q j A G w e P D u C I J) (hw : LW A G w e P D u C) (h1 : 128 ≤ tkK l T j) (h2 : tkK l T j ≤ 138) (k0 : ¬ fu (tkK l T j - 128) A G P D → Q (some (.int (Int32.ofInt 0))) (hp p s q I J)) (k1 : fu (tkK l T j - 128) A G P D → Q (some (.int (Int32.ofInt 1))) (hp p s q I J)) : mm_s SL xs (d + 1) 77 [.ref 3, .int (Int32.ofInt (tkK l T j : Nat))] (hp p s q I J) Q := by
  have hG := hw.2.1.1
  have hP := hw.2.2.2.1.1
  have hD := hw.2.2.2.2.1.1
  refine sg_X7_isFull hq ?_
  rw [h.2.2.2.1.1, h.2.2.2.2.2.1.1, h.2.2.2.2.2.2.1.1, z_eq (by omega), z_eq (by omega), z_eq (by omega), z_lt (by omega), z_lt (by omega), z_lt (by omega), z_lt (by omega), z_lt (by omega)]
  refine ⟨fun z => ⟨fun y => k0 ?_, fun y => k1 ?_⟩, fun z => ⟨fun y => k0 ?_, fun y => k1 ?_⟩, fun z => ⟨fun y => k0 ?_, fun y => k1 ?_⟩, fun z1 z2 z3 => ⟨fun y => absurd y (by omega), fun _ => ⟨fun y => absurd y (by omega), fun _ => ?_⟩⟩⟩
  · rw [show tkK l T j - 128 = 7 by omega, fu, if_pos rfl]; omega
  · rw [show tkK l T j - 128 = 7 by omega, fu, if_pos rfl]; omega
  · rw [show tkK l T j - 128 = 9 by omega, fu, if_neg (by omega), if_pos rfl]; omega
  · rw [show tkK l T j - 128 = 9 by omega, fu, if_neg (by omega), if_pos rfl]; omega
  · rw [show tkK l T j - 128 = 10 by omega, fu, if_neg (by omega), if_neg (by omega), if_pos rfl]; omega
  · rw [show tkK l T j - 128 = 10 by omega, fu, if_neg (by omega), if_neg (by omega), if_pos rfl]; omega
  · have e : Int32.ofInt (tkK l T j : Nat) - Int32.ofInt 128 = Int32.ofInt ((tkK l T j - 128 : Nat) : Int) := by rw [z_sub]; congr 1; omega
    rw [e]
    refine ⟨z_inN (by omega) (by omega), ?_⟩
    have ks := kx_s ⟨tkK l T j - 128, by omega⟩ (by show tkK l T j - 128 ≠ 7; omega)
    have e14 : I 14 (tkK l T j - 128) = zB (A (kx (tkK l T j - 128))).isSome := by
      have := h.2.1 _ ks.1
      rw [ks.2] at this
      exact this
    have ef : fu (tkK l T j - 128) A G P D = ((A (kx (tkK l T j - 128))).isSome = true) := by rw [fu, if_neg (by omega), if_neg (by omega), if_neg (by omega)]
    rw [ef] at k0 k1
    rw [z_ixN (by omega), e14, zB_0]
    exact ⟨fun y => k0 (by rw [y]; decide), fun y => k1 (eq_true_of_ne_false y)⟩
set_option maxRecDepth 20000 in
theorem lf_no (hw : LW A G w e P D u C) (h : tkK l T j < 128 ∨ 138 < tkK l T j ∨ fu (tkK l T j - 128) A G P D) : LF l T j A G w e P D u C (flt (tkK l T j) 2) j := by
  intro SL xs d p s q Q I J ml kq
  have hh : ∀ i, i ≤ 10 → tkK l T j = 128 + i → fu i A G P D := fun i hi z => by
    rcases h with y | y | y
    · omega
    · omega
    · rw [z, show 128 + i - 128 = i by omega] at y; exact y
  have sp : ∀ (c i : Nat) (X : Prop), c = 128 + i → i ≤ 10 → fu i A G P D = X → tkK l T j ≠ c ∨ X := fun c i X hc hi hX => by
    by_cases z : tkK l T j = c
    · right; rw [← hX]; exact hh i hi (by omega)
    · exact Or.inl z
  exact di_no ml hw (sp 128 0 _ rfl (by omega) fu_0) (sp 129 1 _ rfl (by omega) fu_1) (sp 130 2 _ rfl (by omega) fu_2) (sp 131 3 _ rfl (by omega) fu_3) (sp 132 4 _ rfl (by omega) fu_4) (sp 133 5 _ rfl (by omega) fu_5) (sp 134 6 _ rfl (by omega) fu_6) (sp 135 7 _ rfl (by omega) fu_7) (sp 136 8 _ rfl (by omega) fu_8) (sp 137 9 _ rfl (by omega) fu_9) (sp 138 10 _ rfl (by omega) fu_10) (kq _ _ FL_g gI_2.1 gI_2.2)
set_option maxRecDepth 20000 in
theorem c_line (hd : 49 ≤ d) (hq : isP q) (h : CLr l T q j A G w e P D u C I J) (hw : LW A G w e P D u C) (kq : ∀ I2 J2, LO l T q j A G w e P D u C I I2 J J2 → Q (some (.int (Int32.ofInt 1))) (hp p s q I2 J2)) (kf : ∀ I2 J2, LX l T q j A G w e P D u C I I2 J J2 → Q (some (.int (Int32.ofInt 0))) (hp p s q I2 J2)) : mm_s SL xs (d + 91) 76 [.ref 3] (hp p s q I J) Q := by
  have hb : tkK l T j ≤ 149 := by have := (KR l T j).1; omega
  have e2 : I 4 2 = Int32.ofInt (tkK l T j : Nat) := h.1.2.2.2.2.1
  have no : (tkK l T j < 128 ∨ 138 < tkK l T j ∨ fu (tkK l T j - 128) A G P D) → w_X7_readLine_30 SL xs d p s q Q (Int32.ofInt (tkK l T j : Nat)) I J := fun z =>
    sg_X7_readLine_30 (c_fail (n := 2) h.1 ⟨_, _, _, rfl, rfl, Or.inl rfl, kf _ _ ⟨FK_f hq, _, _, fI_2.1, fI_2.2, flt_1.1, flt_1.2, lf_no hw z⟩⟩)
  refine sg_X7_readLine hq ?_
  rw [e2, z_lt (a := ((tkK l T j : Nat) : Int)) (b := 128) (by omega), z_lt (a := 138) (b := ((tkK l T j : Nat) : Int)) (by omega)]
  refine ⟨fun z => no (Or.inl (by omega)), fun z1 => ⟨fun z => no (Or.inr (Or.inl (by omega))), fun z2 => c_full hq h hw (by omega) (by omega) (fun nf => ⟨_, _, _, rfl, rfl, fun _ => ?_, fun z => absurd rfl z⟩) (fun f => ⟨_, _, _, rfl, rfl, fun z => absurd z (by decide), fun _ => no (Or.inr (Or.inr f))⟩)⟩⟩
  have e128 : Int32.ofInt (tkK l T j : Nat) - Int32.ofInt 128 = Int32.ofInt ((tkK l T j - 128 : Nat) : Int) := by rw [z_sub]; congr 1; omega
  rw [e128]
  refine ⟨z_inN (by omega) (by omega), ?_⟩
  rw [z_ixN (by omega), z_eq (by omega)]
  have ko : ∀ v1 I1 J1, BO l T q j A G w e P D u C I I1 J J1 → w_X7_readLine_163 SL xs d p s q Q v1 (Int32.ofInt 1) I1 J1 := fun v1 I1 J1 b => c_163 hq b kq kf
  have kx_ : ∀ v1 I1 J1, LX l T q j A G w e P D u C I I1 J J1 → w_X7_readLine_163 SL xs d p s q Q v1 (Int32.ofInt 0) I1 J1 := fun v1 I1 J1 b => c_163f b kf
  have kn : ∀ v1 I1 J1 jj, FK q I I1 J J1 → Cc l T jj I1 J1 → tkK l T jj ≠ 59 → LF l T j A G w e P D u C (flt (tkK l T jj) 2) jj → w_X7_readLine_163 SL xs d p s q Q v1 (Int32.ofInt 1) I1 J1 := fun v1 I1 J1 jj a b c e => c_163n hq a b c e kf
  have set_ : ∀ k lo hi, tb (tkK l T j) k lo hi → ¬ (A k).isSome = true → w_X7_readLine_61 SL xs d p s q Q (Int32.ofInt (tkK l T j : Nat)) (mm_u I 14 (tkK l T j - 128) (Int32.ofInt 1)) J := fun k lo hi ht hf => b_set ht rfl hq h hw hf (ko _) (kx_ _)
  refine ⟨fun z => ?_, fun z => ?_⟩
  · have z : tkK l T j = 131 := by omega
    rw [z] at nf ⊢
    rw [show 131 - 128 = 3 from rfl, fu_3] at nf
    exact sg_X5_forgetCount hq ⟨_, _, rfl, rfl, b_count hd z hq h hw nf (ko _) (kn _) (kx_ _)⟩
  · have hc : tkK l T j = 128 ∨ tkK l T j = 129 ∨ tkK l T j = 130 ∨ tkK l T j = 132 ∨ tkK l T j = 133 ∨ tkK l T j = 134 ∨ tkK l T j = 135 ∨ tkK l T j = 136 ∨ tkK l T j = 137 ∨ tkK l T j = 138 := by omega
    rcases hc with c | c | c | c | c | c | c | c | c | c
    · exact set_ 0 1 60 (by unfold tb; omega) (by rw [c, show 128 - 128 = 0 from rfl, fu_0] at nf; exact nf)
    · exact set_ 1 0 59 (by unfold tb; omega) (by rw [c, show 129 - 128 = 1 from rfl, fu_1] at nf; exact nf)
    · exact set_ 2 1 59 (by unfold tb; omega) (by rw [c, show 130 - 128 = 2 from rfl, fu_2] at nf; exact nf)
    · exact set_ 3 1 99 (by unfold tb; omega) (by rw [c, show 132 - 128 = 4 from rfl, fu_4] at nf; exact nf)
    · exact set_ 4 0 9 (by unfold tb; omega) (by rw [c, show 133 - 128 = 5 from rfl, fu_5] at nf; exact nf)
    · exact set_ 5 0 59 (by unfold tb; omega) (by rw [c, show 134 - 128 = 6 from rfl, fu_6] at nf; exact nf)
    · rw [c] at nf ⊢
      rw [show 135 - 128 = 7 from rfl, fu_7] at nf
      exact b_guard c hq h hw nf (ko _) (kx_ _)
    · rw [c] at nf ⊢
      rw [show 136 - 128 = 8 from rfl, fu_8] at nf
      exact b_rhyme c hq h hw nf (ko _) (kn _) (kx_ _)
    · rw [c] at nf ⊢
      rw [show 137 - 128 = 9 from rfl, fu_9] at nf
      exact b_person c hq h hw nf (ko _) (kx_ _)
    · rw [c] at nf ⊢
      rw [show 138 - 128 = 10 from rfl, fu_10] at nf
      exact b_drawn c hq h hw nf (ko _) (kx_ _)
end
