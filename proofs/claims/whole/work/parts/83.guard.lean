/-! the lines: guards -/
theorem gst_s {G : List (Nat × Nat)} {a b : Nat} (ha : a ≤ 60) (hb : b ≤ 59) : bs (gst G) ||| (sx_X6_all (Int32.ofInt (b : Nat) + Int32.ofInt 1) &&& (sx_X6_all (Int32.ofInt (a : Nat)) ^^^ Int64.ofInt (-1))) = bs (gst ((a, b) :: G)) := by
  rw [z_p1, bs_all (by omega), bs_all ha, bs_not, bs_or]
  refine bs_cong (fun i hi => ?_)
  show (gst G i || (decide (i < b + 1) && !decide (i < a))) = (gst G i || decide (a ≤ i ∧ i ≤ b))
  congr 1
  by_cases c : i < b + 1
  · by_cases c2 : i < a
    · rw [decide_eq_true c, decide_eq_true c2, decide_eq_false (by omega)]; rfl
    · rw [decide_eq_true c, decide_eq_false c2, decide_eq_true (by omega)]; rfl
  · rw [decide_eq_false c, decide_eq_false (p := a ≤ i ∧ i ≤ b) (by omega)]; rfl
theorem tk_lt {l : Nat} {T : Nat → Nat} {j : Nat} (h : j ≤ l) (hk : tkK l T j ≠ 0) : nX l T j ≤ l ∧ j < nX l T j := by
  have b := nX_b (T := T) h
  refine ⟨b.1, b.2 ?_⟩
  rcases Nat.lt_or_ge j l with y | y
  · exact y
  · exact absurd (by rw [tkK, if_pos y]) hk
section
variable {SL : Nat} {xs : Nat → Int32} {d : Nat} {p s q : Nat} {Q : Option Value → mm_H → Prop} {I : Nat → Nat → Int32} {J : Nat → Nat → Int64} {l j : Nat} {T : Nat → Nat} {A : Nat → Option Nat} {G : List (Nat × Nat)} {w e : Nat} {P D : List (Nat × Nat)} {u : Nat} {C : List Int}
theorem m_guard (hK : tkK l T j = 135) (h : MLr l T j A G w e P D u C I J) (hw : LW A G w e P D u C) (hf : ¬ 8 ≤ G.length) (j1 : Nat) (e1 : j1 = nX l T j) (j2 : Nat) (e2 : j2 = nX l T j1) (j3 : Nat) (e3 : j3 = nX l T j2)
  (k1 : tkK l T j1 = 2 → tv l T j1 ≤ 59 → tkK l T j2 = 139 → tkK l T j3 = 2 → tv l T j1 ≤ tv l T j3 → tv l T j3 ≤ 59 → ∀ I2 J2, FL I I2 J J2 → MLr l T (nX l T j3) A ((tv l T j1, tv l T j3) :: G) w e P D u C I2 J2 → w_X11_readLine_317 SL xs d p s q Q I2 J2)
  (k0 : ∀ n, nbad (tkK l T j1) (tv l T j1) 0 59 n → ∀ I2 J2, FLw I I2 J J2 → I2 65 2 = Int32.ofInt (flt (tkK l T j1) n : Nat) → I2 65 3 = Int32.ofInt (j1 : Nat) → Q none (hp p s q I2 J2))
  (k2 : tkK l T j1 = 2 → tv l T j1 ≤ 59 → tkK l T j2 ≠ 139 → ∀ I2 J2, FLw I I2 J J2 → I2 65 2 = Int32.ofInt (flt (tkK l T j2) 2 : Nat) → I2 65 3 = Int32.ofInt (j2 : Nat) → Q none (hp p s q I2 J2))
  (k3 : tkK l T j1 = 2 → tv l T j1 ≤ 59 → tkK l T j2 = 139 → ∀ n, nbad (tkK l T j3) (tv l T j3) (tv l T j1) 59 n → ∀ I2 J2, FLw I I2 J J2 → I2 65 2 = Int32.ofInt (flt (tkK l T j3) n : Nat) → I2 65 3 = Int32.ofInt (j3 : Nat) → Q none (hp p s q I2 J2)) : mm_s SL xs (d + 7) 197 [.ref 65] (hp p s q I J) Q := by
  subst e1 e2 e3
  refine di_7 h hw hK hf (sg_X11_readGuard (m_adv h.1 (by omega) (fun I1 J1 f1 c1 => ⟨_, _, rfl, rfl, ?_⟩)))
  have hg : ∀ k n jj (I3 : Nat → Nat → Int32) (J3 : Nat → Nat → Int64), (1 ≤ flt k n ∧ flt k n ≤ 4) → Q none (hp p s q (gI I3 k n jj) J3) → (((gI I3 k n jj 65 2) ≤ Int32.ofInt 0 → (vp_in (gI I3 k n jj 65 37) 8 ∧ ∀ x2 x3 : Int32, ∃ I1 J1, (none : Option Value) = none ∧ hp p s q (mm_u (mm_u (mm_u (gI I3 k n jj) 75 (((gI I3 k n jj 65 37)).toNatClampNeg) x2) 76 (((gI I3 k n jj 65 37)).toNatClampNeg) x3) 65 37 ((gI I3 k n jj 65 37) + (Int32.ofInt 1))) J3 = hp p s q I1 J1 ∧ w_X11_readLine_317 SL xs d p s q Q I1 J1)) ∧ (¬ ((gI I3 k n jj 65 2) ≤ Int32.ofInt 0) → ∃ I1 J1, (none : Option Value) = none ∧ hp p s q (gI I3 k n jj) J3 = hp p s q I1 J1 ∧ w_X11_readLine_317 SL xs d p s q Q I1 J1)) := fun k n jj I3 J3 hb hq => by
    refine ⟨fun z => ?_, fun _ => ⟨_, _, rfl, rfl, f317_b hb hq⟩⟩
    rw [gI_2.1] at z; exact absurd z (flt_ne hb).2
  refine m_num (lo := 0) (hi := 59) (by omega) (by omega) c1 (by rw [f1.2.1 2 (by omega)]; exact h.2.1) (fun a b c2 I3 J3 f3 c3 => ⟨_, _, _, rfl, rfl, ?_⟩) (fun n x hn => ⟨_, _, _, rfl, rfl, ?_⟩)
  · refine m_told (c := 11) (hi := 59) (by omega) (by omega) (by omega) c3 (by rw [f3.2.1 2 (by omega), f1.2.1 2 (by omega)]; exact h.2.1) (fun y1 y2 y3 y4 I4 J4 f4 c4 => ⟨_, _, _, rfl, rfl, fun _ => ?_, fun z => absurd ?_ z⟩) (fun y1 n x I4 J4 f4 hn => ⟨_, _, _, rfl, rfl, ?_⟩) (fun y1 x => ⟨_, _, _, rfl, rfl, ?_⟩)
    · have ff := fm_t f1 (fm_t f3 f4)
      have g37 : I4 65 37 = Int32.ofInt (G.length : Nat) := by rw [ff.2.1 37 (by omega)]; exact h.2.2.2.1.1
      have mb := MB_m ff h.2.2
      rw [g37]
      refine ⟨z_inN (by omega) (by omega), ?_⟩
      rw [z_ixN (by omega), z_p1]
      refine ⟨_, _, rfl, rfl, k1 a c2 y1 y2 y3 y4 _ _ (FL_t (FL_m ff) (FL_t (FL_u (Or.inr ⟨by omega, by unfold rrow; omega⟩)) (FL_t (FL_u (Or.inr ⟨by omega, by unfold rrow; omega⟩)) (FL_u (Or.inl ⟨rfl, by unfold rfld; omega⟩))))) ⟨Mm_c (fun k a b => by rw [mu_ne (by omega), mu_row (by omega), mu_row (by omega)]) (by rw [mu_row (by omega), mu_row (by omega), mu_row (by omega)]) rfl c4, ?_, ?_⟩⟩
      · rw [mu_ne (by omega), mu_row (by omega), mu_row (by omega), ff.2.1 2 (by omega)]; exact h.2.1
      · obtain ⟨⟨h1, h1'⟩, ⟨h2, h2'⟩, ⟨h3, h3'⟩, ⟨h4, h4'⟩, ⟨h5, h5'⟩, h6, h6', h6''⟩ := mb
        refine ⟨⟨fun k hk => by rw [mu_row (by omega), mu_row (by omega), mu_row (by omega)]; exact h1 k hk, fun k v hk hv => by rw [mu_row (by omega), mu_row (by omega), mu_row (by omega)]; exact h1' k v hk hv⟩, ⟨by rw [mu_at, List.length_cons], ⟨by rw [mu_row (by omega), mu_row (by omega), mu_at], by rw [mu_row (by omega), mu_at]⟩, XS_c G (fun i hi => ⟨by rw [mu_row (by omega), mu_row (by omega), mu_ne (by omega)], by rw [mu_row (by omega), mu_ne (by omega), mu_row (by omega)]⟩) h2'⟩, ⟨by rw [mu_ne (by omega), mu_row (by omega), mu_row (by omega)]; exact h3, by rw [mu_ne (by omega), mu_row (by omega), mu_row (by omega)]; exact h3'⟩, ⟨by rw [mu_ne (by omega), mu_row (by omega), mu_row (by omega)]; exact h4, PM_c P (fun i _ => by rw [mu_row (by omega), mu_row (by omega), mu_row (by omega)]; exact ⟨rfl, rfl⟩) h4'⟩, ⟨by rw [mu_ne (by omega), mu_row (by omega), mu_row (by omega)]; exact h5, XS_c D (fun i _ => by rw [mu_row (by omega), mu_row (by omega), mu_row (by omega), mu_row (by omega), mu_row (by omega), mu_row (by omega)]; exact ⟨rfl, rfl⟩) h5'⟩, by rw [mu_ne (by omega), mu_row (by omega), mu_row (by omega)]; exact h6, NS_c C (fun i _ => by rw [mu_row (by omega), mu_row (by omega), mu_row (by omega), mu_row (by omega), mu_row (by omega), mu_row (by omega)]; exact ⟨rfl, rfl⟩) h6', by rw [mu_ne (by omega), mu_row (by omega), mu_row (by omega)]; exact h6''⟩
    · rw [f4.2.1 2 (by omega), f3.2.1 2 (by omega), f1.2.1 2 (by omega), h.2.1]; decide
    · have := hg (tkK l T (nX l T (nX l T (nX l T j)))) n (nX l T (nX l T (nX l T j))) I4 J4 (flt_b hn) (k3 a c2 y1 n hn _ _ (FY (FL_m (fm_t f1 (fm_t f3 f4))) FL_g) gI_2.1 gI_2.2)
      exact ⟨fun z => ⟨(this.1 z).1, (this.1 z).2 _ _⟩, this.2⟩
    · have := hg (tkK l T (nX l T (nX l T j))) 2 (nX l T (nX l T j)) I3 J3 flt_1 (k2 a c2 y1 _ _ (FY (FL_m (fm_t f1 f3)) FL_g) gI_2.1 gI_2.2)
      exact ⟨fun z => ⟨(this.1 z).1, (this.1 z).2 _ _⟩, this.2⟩
  · have := hg (tkK l T (nX l T j)) n (nX l T j) I1 J1 (flt_b hn) (k0 n hn _ _ (FY (FL_m f1) FL_g) gI_2.1 gI_2.2)
    exact m_told0 (by rw [gI_2.1]; exact (flt_ne (flt_b hn)).2) ⟨_, _, _, rfl, rfl, fun z => ⟨(this.1 z).1, (this.1 z).2 _ _⟩, this.2⟩
theorem b_guard (hK : tkK l T j = 135) (hq : isP q) (h : CLr l T q j A G w e P D u C I J) (hw : LW A G w e P D u C) (hf : ¬ 8 ≤ G.length) (ko : ∀ I1 J1, BO l T q j A G w e P D u C I I1 J J1 → w_X7_readLine_163 SL xs d p s q Q (Int32.ofInt 135) (Int32.ofInt 1) I1 J1) (kx : ∀ I1 J1, LX l T q j A G w e P D u C I I1 J J1 → w_X7_readLine_163 SL xs d p s q Q (Int32.ofInt 135) (Int32.ofInt 0) I1 J1) : w_X7_readLine_61 SL xs d p s q Q (Int32.ofInt 135) (mm_u I 14 7 (Int32.ofInt 1)) J := by
  have hq' : q = 39 ∨ q = 46 := hq
  have c0 : Cc l T j (mm_u I 14 7 (Int32.ofInt 1)) J := Cc_c (by rw [mu_row (by omega)]) (by rw [mu_row (by omega)]) rfl rfl h.1
  have l1 := tk_lt h.1.1 (show tkK l T j ≠ 0 by omega)
  refine sg_X7_readLine_61 (c_adv c0 (fun I1 J1 f1 c1 => ⟨_, _, rfl, rfl, fun z => absurd z (by decide), fun _ => ?_, fun z => absurd z (by decide), fun z => absurd z (by decide), fun z => absurd z (by decide), fun _ z => absurd rfl z⟩))
  have e35 : I1 3 5 = Int32.ofInt (G.length : Nat) := by rw [f1.1 3 (by omega), mu_row (by omega)]; exact h.2.2.2.1.1
  refine sg_X7_readGuard hq ?_
  rw [e35, z_p1]
  have c1' : Cc l T (nX l T j) (mm_u I1 3 5 (Int32.ofInt ((G.length + 1 : Nat) : Int))) J1 := Cc_c (by rw [mu_row (by omega)]) (by rw [mu_row (by omega)]) rfl rfl c1
  have k0 : FK q I (mm_u I1 3 5 (Int32.ofInt ((G.length + 1 : Nat) : Int))) J J1 := FK_t (FK_u hq (by omega)) (FK_t (FK_4 f1) (FK_u hq (by omega)))
  refine c_num (lo := 0) (hi := 59) (by omega) (by omega) c1' (fun a1 _ a2 => ⟨_, _, _, rfl, rfl, fun z => absurd z (by decide), fun _ => c_adv c1' (fun I2 J2 f2 c2 => ⟨_, _, rfl, rfl, c_take (c := 139) (by omega) c2 (fun y1 I3 J3 f3 c3 => ⟨_, _, _, rfl, rfl, fun z => absurd z (by decide), fun _ => ?_⟩) (fun y1 => ⟨_, _, _, rfl, rfl, fun _ => ⟨_, _, _, rfl, rfl, kx _ _ ?_⟩, fun z => absurd rfl z⟩)⟩)⟩) (fun n hn => ⟨_, _, _, rfl, rfl, fun _ => ⟨_, _, _, rfl, rfl, kx _ _ ?_⟩, fun z => absurd rfl z⟩)
  · rw [(Cc_v c1' a1).1]
    refine c_num (hi := 59) (by omega) (by omega) c3 (fun b1 b2 b3 => ⟨_, _, _, rfl, rfl, fun z => absurd z (by decide), fun _ => ?_⟩) (fun n hn => ⟨_, _, _, rfl, rfl, fun _ => ⟨_, _, _, rfl, rfl, kx _ _ ?_⟩, fun z => absurd rfl z⟩)
    · have e6 : J3 q 6 = bs (gst G) := by rw [f3.2.2 q (by omega), f2.2.2 q (by omega), f1.2.2 q (by omega)]; exact h.2.2.2.1.2
      rw [(Cc_v c3 b1).1, e6, gst_s (by omega) (by omega)]
      refine c_adv (Cc_c rfl rfl (mu_row (by omega)) (mu_row (by omega)) c3) (fun I4 J4 f4 c4 => ⟨_, _, rfl, rfl, ⟨_, _, _, rfl, rfl, ko I4 J4 ?_⟩⟩)
      refine ⟨nX l T (nX l T (nX l T (nX l T j))), A, (tv l T (nX l T j), tv l T (nX l T (nX l T (nX l T j)))) :: G, w, e, P, D, u, C, FK_t k0 (FK_t (FK_4 f2) (FK_t (FK_4 f3) (FK_t (FK_J (Or.inl rfl)) (FK_4 f4)))), ⟨c4, ?_, KB_4 hq f4 ?_⟩, ?_, ?_, ?_⟩
      · refine kN_no (k := 7) (v := Int32.ofInt 1) (by omega) ?_ h.2.1
        rw [f4.1 14 (by omega), f3.1 14 (by omega), f2.1 14 (by omega), mu_row (by omega), f1.1 14 (by omega)]
      · have kb := KB_4 hq f1 (KB_14 (k := 7) (v := Int32.ofInt 1) hq h.2.2)
        obtain ⟨h1, _, h3, ⟨h4, h4'⟩, ⟨h5, h5'⟩, h6, h6', h6''⟩ := kb
        have r : ∀ r, r ≠ 3 → r ≠ 4 → I3 r = I1 r := fun r a b => by rw [f3.1 r b, f2.1 r b, mu_row a]
        refine ⟨?_, ⟨?_, by rw [mu_at]⟩, by rw [r q (by omega) (by omega)]; exact h3, ⟨by rw [r q (by omega) (by omega)]; exact h4, PS_c P (fun i _ => ?_) h4'⟩, ⟨by rw [r q (by omega) (by omega)]; exact h5, XS_c D (fun i _ => by rw [r (q + 3) (by omega) (by omega), r (q + 4) (by omega) (by omega)]; exact ⟨rfl, rfl⟩) h5'⟩, by rw [r q (by omega) (by omega)]; exact h6, by rw [r q (by omega) (by omega)]; exact h6', CS_c _ (fun i _ => by rw [r (q + 5) (by omega) (by omega)]) h6''⟩
        · unfold kS at h1 ⊢
          rw [r q (by omega) (by omega)]; exact h1
        · rw [f3.1 3 (by omega), f2.1 3 (by omega), mu_at, List.length_cons]
        · rw [r (q + 2) (by omega) (by omega), mu_row (by omega), f3.2.2 (q + 1) (by omega), f2.2.2 (q + 1) (by omega)]; exact ⟨rfl, rfl⟩
      · obtain ⟨w1, w2, w3, w4, w5, w6⟩ := hw
        exact ⟨w1, ⟨by rw [List.length_cons]; omega, ⟨b2, b3⟩, w2.2⟩, w3, w4, w5, w6⟩
      · intro SL' xs' d' p' s' q' Q' Im Jm ml kk
        exact m_guard hK ml hw hf _ rfl _ rfl _ rfl (fun _ _ _ _ _ _ I2 J2 f m => kk I2 J2 f m) (fun n hn => by unfold nbad at hn; omega) (fun _ _ z => absurd y1 z) (fun _ _ _ n hn => by unfold nbad at hn; omega)
      · have l2 := tk_lt l1.1 (show tkK l T (nX l T j) ≠ 0 by omega)
        have l3 := tk_lt l2.1 (show tkK l T (nX l T (nX l T j)) ≠ 0 by omega)
        have l4 := tk_lt l3.1 (show tkK l T (nX l T (nX l T (nX l T j))) ≠ 0 by omega)
        omega
    · have fb := flt_b hn
      refine ⟨FZ k0 (FZ (FK_4 f2) (FZ (FK_4 f3) (FK_f hq))), _, _, fI_2.1, fI_2.2, fb.1, fb.2, ?_⟩
      intro SL' xs' d' p' s' q' Q' Im Jm ml kk
      exact m_guard hK ml hw hf _ rfl _ rfl _ rfl (fun _ _ _ _ _ _ => by unfold nbad at hn; omega) (fun n hn => by unfold nbad at hn; omega) (fun _ _ z => absurd y1 z) (fun _ _ _ n2 hn2 I2 J2 f x y => kk I2 J2 f (by rw [x, show n2 = n by unfold nbad at hn hn2; omega]) y)
  · refine ⟨FZ k0 (FZ (FK_4 f2) (FK_f hq)), _, _, fI_2.1, fI_2.2, flt_1.1, flt_1.2, ?_⟩
    intro SL' xs' d' p' s' q' Q' Im Jm ml kk
    exact m_guard hK ml hw hf _ rfl _ rfl _ rfl (fun _ _ z => absurd z y1) (fun n hn => by unfold nbad at hn; omega) (fun _ _ _ I2 J2 f x y => kk I2 J2 f x y) (fun _ _ z => absurd z y1)
  · have fb := flt_b hn
    refine ⟨FZ k0 (FK_f hq), _, _, fI_2.1, fI_2.2, fb.1, fb.2, ?_⟩
    intro SL' xs' d' p' s' q' Q' Im Jm ml kk
    exact m_guard hK ml hw hf _ rfl _ rfl _ rfl (fun _ _ _ => by unfold nbad at hn; omega) (fun n2 hn2 I2 J2 f x y => kk I2 J2 f (by rw [x, show n2 = n by unfold nbad at hn hn2; omega]) y) (fun _ _ => by unfold nbad at hn; omega) (fun _ _ => by unfold nbad at hn; omega)
end
