/-! the lines: the rhyme -/
theorem MB_w {A : Nat → Option Nat} {G : List (Nat × Nat)} {w e w2 e2 : Nat} {P D : List (Nat × Nat)} {u : Nat} {C : List Int} {I : Nat → Nat → Int32} {J : Nat → Nat → Int64} {a b : Int32} (ha : a = Int32.ofInt (w2 : Nat)) (hb : b = Int32.ofInt (e2 : Nat)) (h : MB A G w e P D u C I J) : MB A G w2 e2 P D u C (mm_u (mm_u I 65 40 a) 65 41 b) J := by
  obtain ⟨⟨h1, h1'⟩, ⟨h2, h2'⟩, _, ⟨h4, h4'⟩, ⟨h5, h5'⟩, h6, h6', h6''⟩ := h
  have r : ∀ r, r ≠ 65 → mm_u (mm_u I 65 40 a) 65 41 b r = I r := fun r hr => by rw [mu_row hr, mu_row hr]
  have g : ∀ k, k ≠ 40 → k ≠ 41 → mm_u (mm_u I 65 40 a) 65 41 b 65 k = I 65 k := fun k x y => by rw [mu_ne y, mu_ne x]
  exact ⟨⟨fun k hk => by rw [r 85 (by omega)]; exact h1 k hk, fun k v hk hv => by rw [r 74 (by omega)]; exact h1' k v hk hv⟩, ⟨by rw [g 37 (by omega) (by omega)]; exact h2, XS_c G (fun i _ => by rw [r 75 (by omega), r 76 (by omega)]; exact ⟨rfl, rfl⟩) h2'⟩, ⟨by rw [mu_ne (by omega), mu_at]; exact ha, by rw [mu_at]; exact hb⟩, ⟨by rw [g 38 (by omega) (by omega)]; exact h4, PM_c P (fun i _ => by rw [r 77 (by omega)]; exact ⟨rfl, rfl⟩) h4'⟩, ⟨by rw [g 39 (by omega) (by omega)]; exact h5, XS_c D (fun i _ => by rw [r 78 (by omega), r 79 (by omega)]; exact ⟨rfl, rfl⟩) h5'⟩, by rw [g 18 (by omega) (by omega)]; exact h6, NS_c C (fun i _ => by rw [r 67 (by omega), r 68 (by omega)]; exact ⟨rfl, rfl⟩) h6', by rw [g 19 (by omega) (by omega)]; exact h6''⟩
theorem KB_w {q : Nat} {A : Nat → Option Nat} {G : List (Nat × Nat)} {w e w2 e2 : Nat} {P D : List (Nat × Nat)} {u : Nat} {C : List Int} {I : Nat → Nat → Int32} {J : Nat → Nat → Int64} {a b : Int32} (hq : isP q) (ha : a = Int32.ofInt (w2 : Nat)) (hb : b = Int32.ofInt (e2 : Nat)) (h : KB q A G w e P D u C I J) : KB q A G w2 e2 P D u C (mm_u (mm_u I q 7 a) q 8 b) J := by
  have hq' : q = 39 ∨ q = 46 := hq
  obtain ⟨h1, ⟨h2, h2'⟩, h3, ⟨h4, h4'⟩, ⟨h5, h5'⟩, h6, h6', h6''⟩ := h
  have r : ∀ r, r ≠ q → mm_u (mm_u I q 7 a) q 8 b r = I r := fun r hr => by rw [mu_row hr, mu_row hr]
  have g : ∀ k, k ≠ 7 → k ≠ 8 → mm_u (mm_u I q 7 a) q 8 b q k = I q k := fun k x y => by rw [mu_ne y, mu_ne x]
  refine ⟨?_, ⟨by rw [r 3 (by omega)]; exact h2, h2'⟩, ⟨by rw [mu_ne (by omega), mu_at]; exact ha, by rw [mu_at]; exact hb⟩, ⟨by rw [g 10 (by omega) (by omega)]; exact h4, PS_c P (fun i _ => by rw [r (q + 2) (by omega)]; exact ⟨rfl, rfl⟩) h4'⟩, ⟨by rw [g 11 (by omega) (by omega)]; exact h5, XS_c D (fun i _ => by rw [r (q + 3) (by omega), r (q + 4) (by omega)]; exact ⟨rfl, rfl⟩) h5'⟩, by rw [g 9 (by omega) (by omega)]; exact h6, by rw [g 17 (by omega) (by omega)]; exact h6', CS_c _ (fun i _ => by rw [r (q + 5) (by omega)]) h6''⟩
  unfold kS at h1 ⊢
  rw [g 0 (by omega) (by omega), g 1 (by omega) (by omega), g 2 (by omega) (by omega), g 3 (by omega) (by omega), g 4 (by omega) (by omega), g 5 (by omega) (by omega)]; exact h1
/-- the reference within the rhyme -/
def RR (l : Nat) (T : Nat → Nat) (j : Nat) (A : Nat → Option Nat) (G : List (Nat × Nat)) (w e : Nat) (P D : List (Nat × Nat)) (u : Nat) (C : List Int) (jj i ee : Nat) : Prop := ∀ (SL : Nat) (xs : Nat → Int32) (d p s q : Nat) (Q : Option Value → mm_H → Prop) (I : Nat → Nat → Int32) (J : Nat → Nat → Int64), MLr l T j A G w e P D u C I J → (∀ I2 J2, FL I I2 J J2 → MLr l T jj (upA A 7 0) G i ee P D u C I2 J2 → w_X11_readRhyme_24 SL xs (d + 3) p s q (fun r_ h_ => ∃ I1 J1, r_ = none ∧ h_ = hp p s q I1 J1 ∧ w_X11_readLine_317 SL xs d p s q Q I1 J1) I2 J2) → mm_s SL xs (d + 7) 197 [.ref 65] (hp p s q I J) Q
section
variable {SL : Nat} {xs : Nat → Int32} {d : Nat} {p s q : Nat} {Q : Option Value → mm_H → Prop} {I : Nat → Nat → Int32} {J : Nat → Nat → Int64} {l j : Nat} {T : Nat → Nat} {A : Nat → Option Nat} {G : List (Nat × Nat)} {w e : Nat} {P D : List (Nat × Nat)} {u : Nat} {C : List Int}
theorem m_rhy (hK : tkK l T j = 136) (h : MLr l T j A G w e P D u C I J) (hw : LW A G w e P D u C) (hf : ¬ (A 7).isSome = true) (k1 : tkK l T (nX l T j) = 3 → ∀ I2 J2, FL I I2 J J2 → MLr l T (nX l T j) (upA A 7 0) G 0 0 P D u C I2 J2 → w_X11_readRhyme_24 SL xs (d + 3) p s q (fun r_ h_ => ∃ I1 J1, r_ = none ∧ h_ = hp p s q I1 J1 ∧ w_X11_readLine_317 SL xs d p s q Q I1 J1) I2 J2) (k0 : tkK l T (nX l T j) ≠ 3 → ∀ I2 J2, FLw I I2 J J2 → I2 65 2 = Int32.ofInt (flt (tkK l T (nX l T j)) 2 : Nat) → I2 65 3 = Int32.ofInt (nX l T j : Nat) → Q none (hp p s q I2 J2)) : mm_s SL xs (d + 7) 197 [.ref 65] (hp p s q I J) Q := by
  have hA : A 7 = none := by
    cases z : A 7 with
    | none => rfl
    | some v => rw [z] at hf; exact absurd rfl hf
  obtain ⟨rfl, rfl⟩ := hw.2.2.1.2.2 hA
  refine di_8 h hw hK hf (sg_X11_readRhyme (m_adv h.1 (by omega) (fun I1 J1 f1 c1 => ⟨_, _, rfl, rfl, z_inN (t := 7) (by omega) (by omega), ?_⟩)))
  rw [show (Int32.ofInt 7).toNatClampNeg = 7 from z_ixN (t := 7) (by omega)]
  have c1' : Mm l T (nX l T j) (mm_u I1 85 7 (Int32.ofInt 1)) J1 := Mm_c (fun _ _ _ => by rw [mu_row (by omega)]) (mu_row (by omega)) rfl c1
  have e2 : mm_u I1 85 7 (Int32.ofInt 1) 65 2 = Int32.ofInt 0 := by rw [mu_row (by omega), f1.2.1 2 (by omega)]; exact h.2.1
  have fl : FL I (mm_u I1 85 7 (Int32.ofInt 1)) J J1 := FL_t (FL_m f1) (FL_u (Or.inr ⟨by omega, by unfold rrow; omega⟩))
  refine m_isName c1' ⟨_, _, _, rfl, rfl, fun z => ?_, fun z => ?_⟩
  · rw [zB_0] at z
    have z := of_decide_eq_false z
    refine m_wrong (n := 2) c1' e2 ⟨_, _, rfl, rfl, sg_X11_readRhyme_24 ⟨fun y => ?_, fun _ => ⟨_, _, rfl, rfl, f317_b flt_1 (k0 z _ _ (FY fl FL_g) gI_2.1 gI_2.2)⟩⟩⟩
    rw [mu_ne (by omega), mu_at] at y; exact absurd y flt_0.1
  · rw [zB_t] at z
    have z := of_decide_eq_true z
    refine k1 z _ _ fl ⟨c1', e2, ?_⟩
    refine MB_A (fun r a b c => ?_) (fun k hk => ?_) ?_ ⟨fun i hi => ?_, fun i v hi hv => ?_⟩ h.2.2
    · rw [mu_row c, f1.1 r a]
    · rw [mu_row (by omega), f1.2.1 k (by omega)]
    · rw [f1.2.2.1 86 (by omega)]
    · unfold upA
      by_cases z : i = 7
      · subst z; rw [mu_at, if_pos rfl]; rfl
      · rw [mu_ne z, if_neg z, f1.1 85 (by omega)]; exact h.2.2.1.1 i hi
    · unfold upA at hv
      rw [if_neg (by omega)] at hv
      rw [mu_row (by omega), f1.1 74 (by omega)]; exact h.2.2.1.2 i v hi hv
theorem RR_s {jj i ee : Nat} (h : RR l T j A G w e P D u C jj i ee) (hk : tkK l T jj = 3) (hi : i < 24) (hee : ee ≤ 8 * i) : RR l T j A G w e P D u C (nX l T jj) (i + 1) (ee + tlen l T jj) := by
  intro SL xs d p s q Q I J ml kk
  refine h SL xs d p s q Q I J ml (fun I2 J2 f2 m2 => sg_X11_readRhyme_24 ⟨fun _ => m_isName m2.1 ⟨_, _, _, rfl, rfl, fun z => ?_, fun _ => ⟨fun z => ?_, fun z => ⟨fun _ => ?_, fun z => absurd (by rw [m2.2.1]; decide) z⟩⟩⟩, fun z => absurd m2.2.1 z⟩)
  · rw [zB_0, decide_eq_true hk] at z; exact absurd z (by decide)
  · rw [m2.2.2.2.2.1.1, z_eq (by omega)] at z; omega
  · have n := Mm_n m2.1 hk
    have f : FL I2 (mm_u (mm_u I2 65 40 (I2 65 40 + Int32.ofInt 1)) 65 41 (I2 65 41 + I2 65 10)) J2 J2 := FL_t (FL_u (Or.inl ⟨rfl, by unfold rfld; omega⟩)) (FL_u (Or.inl ⟨rfl, by unfold rfld; omega⟩))
    refine m_adv (Mm_c (fun k a b => by rw [mu_ne (by omega), mu_ne (by omega)]) (by rw [mu_row (by omega), mu_row (by omega)]) rfl m2.1) (by omega) (fun I3 J3 f3 c3 => ⟨_, _, rfl, rfl, kk I3 J3 (FL_t f2 (FL_t f (FL_m f3))) ⟨c3, ?_, MB_m f3 (MB_w ?_ ?_ m2.2.2)⟩⟩)
    · rw [f3.2.1 2 (by omega), mu_ne (by omega), mu_ne (by omega)]; exact m2.2.1
    · rw [m2.2.2.2.2.1.1, z_p1]
    · rw [m2.2.2.2.2.1.2, n.2, z_add]; rfl
theorem RR_e {jj i ee : Nat} (h : RR l T j A G w e P D u C jj i ee) (hk : tkK l T jj ≠ 3) : AS l T j A G w e P D u C jj (upA A 7 0) G i ee P D u C := by
  intro SL xs d p s q Q I J ml kk
  refine h SL xs d p s q Q I J ml (fun I2 J2 f2 m2 => sg_X11_readRhyme_24 ⟨fun _ => m_isName m2.1 ⟨_, _, _, rfl, rfl, fun _ => ⟨_, _, rfl, rfl, kk I2 J2 f2 m2⟩, fun z => ?_⟩, fun z => absurd m2.2.1 z⟩)
  rw [zB_t] at z; exact absurd (of_decide_eq_true z) hk
theorem RR_x {jj ee : Nat} (h : RR l T j A G w e P D u C jj 24 ee) (hk : tkK l T jj = 3) : LF l T j A G w e P D u C (flt (tkK l T jj) 2) jj := by
  intro SL xs d p s q Q I J ml kk
  refine h SL xs d p s q Q I J ml (fun I2 J2 f2 m2 => sg_X11_readRhyme_24 ⟨fun _ => m_isName m2.1 ⟨_, _, _, rfl, rfl, fun z => ?_, fun _ => ⟨fun _ => m_wrong (n := 2) m2.1 m2.2.1 ⟨_, _, rfl, rfl, fun z => ?_, fun _ => ⟨_, _, rfl, rfl, f317_b flt_1 (kk _ _ (FY f2 FL_g) gI_2.1 gI_2.2)⟩⟩, fun z => absurd m2.2.2.2.2.1.1 z⟩⟩, fun z => absurd m2.2.1 z⟩)
  · rw [zB_0, decide_eq_true hk] at z; exact absurd z (by decide)
  · rw [mu_ne (by omega), mu_at] at z; exact absurd z flt_0.2
theorem c_163n {I1 : Nat → Nat → Int32} {J1 : Nat → Nat → Int64} {v1 : Int32} {jj : Nat} (hq : isP q) (f : FK q I I1 J J1) (hc : Cc l T jj I1 J1) (hk : tkK l T jj ≠ 59) (hl : LF l T j A G w e P D u C (flt (tkK l T jj) 2) jj) (kf : ∀ I2 J2, LX l T q j A G w e P D u C I I2 J J2 → Q (some (.int (Int32.ofInt 0))) (hp p s q I2 J2)) : w_X7_readLine_163 SL xs d p s q Q v1 (Int32.ofInt 1) I1 J1 :=
  sg_X7_readLine_163 ⟨fun z => absurd z (by decide), fun _ => c_take (c := 59) (by omega) hc (fun z => absurd z hk) (fun _ => ⟨_, _, _, rfl, rfl, fun _ => sg_X7_readLine_180 (kf _ _ ⟨FZ f (FK_f hq), _, _, fI_2.1, fI_2.2, flt_1.1, flt_1.2, hl⟩), fun z => absurd rfl z⟩)⟩
theorem c_rhy (hq : isP q) (hw : LW A G w e P D u C) (ko : ∀ I1 J1, BO l T q j A G w e P D u C I I1 J J1 → Q (some (.int (Int32.ofInt 1))) (hp p s q I1 J1)) (kn : ∀ I1 J1 jj, FK q I I1 J J1 → Cc l T jj I1 J1 → tkK l T jj ≠ 59 → LF l T j A G w e P D u C (flt (tkK l T jj) 2) jj → Q (some (.int (Int32.ofInt 1))) (hp p s q I1 J1)) : ∀ (f i jj ee : Nat) (I1 : Nat → Nat → Int32) (J1 : Nat → Nat → Int64), i + f = 24 → FK q I I1 J J1 → CLr l T q jj (upA A 7 0) G i ee P D u C I1 J1 → ee ≤ 8 * i → RR l T j A G w e P D u C jj i ee → j < jj → w_X7_readRhyme_19 SL xs d p s q Q (Int32.ofInt (i : Nat)) I1 J1
  | f, i, jj, ee, I1, J1, hf, g1, g2, g3, g4, g5 => by
    have hq' : q = 39 ∨ q = 46 := hq
    have e3 : (I1 4 2 = Int32.ofInt 3) = (tkK l T jj = 3) := Cc_k (c := 3) g2.1 (by omega)
    have fin : tkK l T jj ≠ 3 → Q (some (.int (Int32.ofInt 1))) (hp p s q I1 J1) := fun hk => by
      refine ko I1 J1 ⟨jj, upA A 7 0, G, i, ee, P, D, u, C, g1, g2, ?_, RR_e g4 hk, g5⟩
      obtain ⟨w1, w2, w3, w4, w5, w6⟩ := hw
      exact ⟨w1, w2, ⟨by omega, g3, fun z => absurd z (by unfold upA; rw [if_pos rfl]; simp)⟩, w4, w5, w6⟩
    match f, hf with
    | 0, hf =>
      obtain rfl : i = 24 := by omega
      refine sg_X7_readRhyme_19 hq ⟨fun _ => ?_, fun z => absurd (by decide) z⟩
      by_cases c : tkK l T jj = 3
      · exact kn I1 J1 jj g1 g2.1 (by omega) (RR_x g4 c)
      · exact fin c
    | f + 1, hf =>
      refine sg_X7_readRhyme_19 hq ⟨fun z => ?_, fun _ => ?_⟩
      · rw [z_le (by omega)] at z; omega
      · rw [e3]
        refine ⟨fun hk => ?_, fin⟩
        have n := Cc_n g2.1 hk
        have k7 : I1 q 7 + Int32.ofInt 1 = Int32.ofInt ((i + 1 : Nat) : Int) := by rw [g2.2.2.2.2.1.1, z_p1]
        have k8 : I1 q 8 + (mm_u I1 q 7 (I1 q 7 + Int32.ofInt 1)) 4 6 = Int32.ofInt ((ee + tlen l T jj : Nat) : Int) := by rw [g2.2.2.2.2.1.2, mu_row (by omega), n.2.1, z_add]; rfl
        have kb := KB_w hq k7 k8 g2.2.2
        refine c_adv (Cc_c (by rw [mu_row (by omega), mu_row (by omega)]) (by rw [mu_row (by omega), mu_row (by omega)]) rfl rfl g2.1) (fun I2 J2 f2 c2 => ⟨_, _, rfl, rfl, ?_⟩)
        rw [z_p1]
        have l2 := tk_lt g2.1.1 (show tkK l T jj ≠ 0 by omega)
        refine c_rhy hq hw ko kn f (i + 1) (nX l T jj) (ee + tlen l T jj) I2 J2 (by omega) (FK_t g1 (FK_t (FK_u hq (by omega)) (FK_t (FK_u hq (by omega)) (FK_4 f2)))) ⟨c2, ?_, KB_4 hq f2 kb⟩ (by omega) (RR_s g4 hk (by omega) g3) (by omega)
        intro x hx
        rw [f2.1 14 (by omega), mu_row (by omega), mu_row (by omega)]; exact g2.2.1 x hx
theorem b_rhyme (hK : tkK l T j = 136) (hq : isP q) (h : CLr l T q j A G w e P D u C I J) (hw : LW A G w e P D u C) (hf : ¬ (A 7).isSome = true) (ko : ∀ I1 J1, BO l T q j A G w e P D u C I I1 J J1 → w_X7_readLine_163 SL xs d p s q Q (Int32.ofInt 136) (Int32.ofInt 1) I1 J1) (kn : ∀ I1 J1 jj, FK q I I1 J J1 → Cc l T jj I1 J1 → tkK l T jj ≠ 59 → LF l T j A G w e P D u C (flt (tkK l T jj) 2) jj → w_X7_readLine_163 SL xs d p s q Q (Int32.ofInt 136) (Int32.ofInt 1) I1 J1) (kx : ∀ I1 J1, LX l T q j A G w e P D u C I I1 J J1 → w_X7_readLine_163 SL xs d p s q Q (Int32.ofInt 136) (Int32.ofInt 0) I1 J1) : w_X7_readLine_61 SL xs d p s q Q (Int32.ofInt 136) (mm_u I 14 8 (Int32.ofInt 1)) J := by
  have hq' : q = 39 ∨ q = 46 := hq
  have hA : A 7 = none := by
    cases z : A 7 with
    | none => rfl
    | some v => rw [z] at hf; exact absurd rfl hf
  obtain ⟨w0, e0⟩ := hw.2.2.1.2.2 hA
  have c0 : Cc l T j (mm_u I 14 8 (Int32.ofInt 1)) J := Cc_c (by rw [mu_row (by omega)]) (by rw [mu_row (by omega)]) rfl rfl h.1
  have l1 := tk_lt h.1.1 (show tkK l T j ≠ 0 by omega)
  refine sg_X7_readLine_61 (c_adv c0 (fun I1 J1 f1 c1 => ⟨_, _, rfl, rfl, fun z => absurd z (by decide), fun z => absurd z (by decide), fun _ => ?_, fun z => absurd z (by decide), fun z => absurd z (by decide), fun _ _ z => absurd rfl z⟩))
  have e3 : (I1 4 2 = Int32.ofInt 3) = (tkK l T (nX l T j) = 3) := Cc_k (c := 3) c1 (by omega)
  have k0 : FK q I I1 J J1 := FK_t (FK_u hq (by omega)) (FK_4 f1)
  refine sg_X7_readRhyme ?_
  rw [e3]
  refine ⟨fun hk => ?_, fun hk => c_fail (n := 2) c1 ⟨_, _, _, rfl, rfl, Or.inl rfl, ⟨_, _, _, rfl, rfl, kx _ _ ⟨FZ k0 (FK_f hq), _, _, fI_2.1, fI_2.2, flt_1.1, flt_1.2, ?_⟩⟩⟩⟩
  · refine c_rhy (j := j) (I := I) (J := J) hq hw (fun I2 J2 bo => ⟨_, _, _, rfl, rfl, ko I2 J2 bo⟩) (fun I2 J2 jj a b c d => ⟨_, _, _, rfl, rfl, kn I2 J2 jj a b c d⟩) 24 0 (nX l T j) 0 I1 J1 rfl k0 ⟨c1, ?_, ?_⟩ (by omega) ?_ l1.2
    · exact kN_up (k := 7) (v := 0) (by omega) (by rw [f1.1 14 (by omega)]; rfl) h.2.1
    · have kb := KB_4 hq f1 (KB_14 (k := 8) (v := Int32.ofInt 1) hq h.2.2)
      rw [w0, e0] at kb
      exact kb
    · intro SL' xs' d' p' s' q' Q' Im Jm ml kk
      exact m_rhy hK ml hw hf (fun _ I2 J2 f m => kk I2 J2 f m) (fun z => absurd hk z)
  · intro SL' xs' d' p' s' q' Q' Im Jm ml kk
    exact m_rhy hK ml hw hf (fun z => absurd z hk) (fun _ I2 J2 f a b => kk I2 J2 f a b)
end
