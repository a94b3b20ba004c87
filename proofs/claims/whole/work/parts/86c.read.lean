/-! the whole text, in the class -/
theorem ly_3 {p s q v : Nat} : mm_u (ly_R p s q) 3 3 (some v) = ly_R p s v := by
  funext a k
  unfold mm_u
  by_cases h : a = 3
  · subst h
    rw [if_pos rfl]
    match k with
    | 0 => rfl
    | 1 => rfl
    | 2 => rfl
    | 3 => rfl
    | 4 => rfl
    | n + 5 => rw [if_neg (by omega)]; rfl
  · rw [if_neg h]
    match a, h with
    | 0, _ => rfl
    | 1, _ => rfl
    | 2, _ => rfl
    | 3, h => exact absurd rfl h
    | n + 4, _ => rfl
theorem pR_3 {p s q v : Nat} {I : Nat → Nat → Int32} {J : Nat → Nat → Int64} : mm_pR (hp p s q I J) 3 3 (some v) = hp p s v I J := by
  show (107, ly_kd, I, J, mm_u (ly_R p s q) 3 3 (some v)) = _
  rw [ly_3]; rfl
def A0 : Nat → Option Nat := fun _ => none
/-- the reference, from the text's beginning -/
def GA (l : Nat) (T : Nat → Nat) (j0 j : Nat) (A : Nat → Option Nat) (G : List (Nat × Nat)) (w e : Nat) (P D : List (Nat × Nat)) (u : Nat) (C : List Int) : Prop := ∀ (SL : Nat) (xs : Nat → Int32) (d p s q : Nat) (Q : Option Value → mm_H → Prop) (v1 : Int32) (I : Nat → Nat → Int32) (J : Nat → Nat → Int64), MLr l T j0 A0 [] 0 0 [] [] 0 [] I J → (∀ I2 J2, FL I I2 J J2 → MLr l T j A G w e P D u C I2 J2 → w_X11_readAll_88 SL xs d p s q Q v1 I2 J2) → w_X11_readAll_88 SL xs d p s q Q v1 I J
def GF (l : Nat) (T : Nat → Nat) (j0 fx px : Nat) : Prop := ∀ (SL : Nat) (xs : Nat → Int32) (d p s q : Nat) (Q : Option Value → mm_H → Prop) (v1 : Int32) (I : Nat → Nat → Int32) (J : Nat → Nat → Int64), MLr l T j0 A0 [] 0 0 [] [] 0 [] I J → (∀ I2 J2, FLw I I2 J J2 → I2 65 2 = Int32.ofInt (fx : Nat) → I2 65 3 = Int32.ofInt (px : Nat) → Q none (hp p s q I2 J2)) → w_X11_readAll_88 SL xs d p s q Q v1 I J
section
variable {SL : Nat} {xs : Nat → Int32} {d : Nat} {p s q : Nat} {Q : Option Value → mm_H → Prop} {I : Nat → Nat → Int32} {J : Nat → Nat → Int64} {l j j0 : Nat} {T : Nat → Nat} {A : Nat → Option Nat} {G : List (Nat × Nat)} {w e : Nat} {P D : List (Nat × Nat)} {u : Nat} {C : List Int}
theorem m_88 {v1 : Int32} (h : MLr l T j A G w e P D u C I J) (hk : tkK l T j ≠ 0) (k : mm_s SL xs (d + 7) 197 [.ref 65] (hp p s q I J) (fun r_ h_ => ∃ I1 J1, r_ = none ∧ h_ = hp p s q I1 J1 ∧ w_X11_readAll_88 SL xs d p s q Q v1 I1 J1)) : w_X11_readAll_88 SL xs d p s q Q v1 I J := by
  refine sg_X11_readAll_88 ⟨fun _ => ⟨fun z => ?_, fun _ => k⟩, fun z => absurd h.2.1 z⟩
  rw [show (I 65 6 = Int32.ofInt 0) = (tkK l T j = 0) from Mm_k (c := 0) h.1 (by omega)] at z; exact absurd z hk
theorem m_88e {v1 : Int32} (h : MLr l T j A G w e P D u C I J) (hk : tkK l T j = 0) (k : Q none (hp p s q I J)) : w_X11_readAll_88 SL xs d p s q Q v1 I J := by
  refine sg_X11_readAll_88 ⟨fun _ => ⟨fun _ => k, fun z => absurd ?_ z⟩, fun z => absurd h.2.1 z⟩
  rw [show (I 65 6 = Int32.ofInt 0) = (tkK l T j = 0) from Mm_k (c := 0) h.1 (by omega)]; exact hk
theorem m_88f {v1 : Int32} (h : ¬ I 65 2 = Int32.ofInt 0) (k : Q none (hp p s q I J)) : w_X11_readAll_88 SL xs d p s q Q v1 I J :=
  sg_X11_readAll_88 ⟨fun z => absurd z h, fun _ => k⟩
def w_read_29 (SL : Nat) (xs : Nat → Int32) (d p s q : Nat) (Q : Option Value → mm_H → Prop) (v : Int32) (I : Nat → Nat → Int32) (J : Nat → Nat → Int64) : Prop := mm_w SL xs (mm_s SL xs d) mm_am kX7_read 0 0 (some .boolean) Q 29 [some (.ref 3), some (.ref q), some (.int v)] [] (hp p s q I J) 0 0
def w_read_51 (SL : Nat) (xs : Nat → Int32) (d p s q : Nat) (Q : Option Value → mm_H → Prop) (v : Int32) (I : Nat → Nat → Int32) (J : Nat → Nat → Int64) : Prop := mm_w SL xs (mm_s SL xs d) mm_am kX7_read 0 0 (some .boolean) Q 51 [some (.ref 3), some (.ref q), some (.int v)] [] (hp p s q I J) 0 0
def w_read_60 (SL : Nat) (xs : Nat → Int32) (d p s q : Nat) (Q : Option Value → mm_H → Prop) (v : Int32) (I : Nat → Nat → Int32) (J : Nat → Nat → Int64) : Prop := mm_w SL xs (mm_s SL xs d) mm_am kX7_read 0 0 (some .boolean) Q 60 [some (.ref 3), some (.ref q), some (.int v)] [] (hp p s q I J) 0 0
def w_read_92 (SL : Nat) (xs : Nat → Int32) (d p s q : Nat) (Q : Option Value → mm_H → Prop) (v : Int32) (I : Nat → Nat → Int32) (J : Nat → Nat → Int64) : Prop := mm_w SL xs (mm_s SL xs d) mm_am kX7_read 0 0 (some .boolean) Q 92 [some (.ref 3), some (.ref q), some (.int v)] [] (hp p s q I J) 0 0
theorem s_read_29 {v : Int32} (k0 : Int32.ofInt 11 ≤ v → w_read_51 SL xs d p s q Q v I J) (k1 : ¬ Int32.ofInt 11 ≤ v → vp_in v 11 ∧ w_read_29 SL xs d p s q Q (v + Int32.ofInt 1) (mm_u I 14 v.toNatClampNeg (Int32.ofInt 0)) J) : w_read_29 SL xs d p s q Q v I J := by
  unfold w_read_29
  refine sp_iload_n 30 rfl rfl rfl ?_
  refine sp_aload_n 31 rfl rfl rfl ?_
  refine hq_getR 34 rfl rfl rfl rfl ?_
  refine hq_alen 35 rfl rfl rfl rfl ?_
  refine sp_I (y := Int32.ofInt 11) rfl ?_
  refine sp_ic_ge 38 rfl rfl (fun q_ => k0 q_) (fun q_ => ?_)
  obtain ⟨n1, k⟩ := k1 q_
  refine sp_aload_n 39 rfl rfl rfl ?_
  refine hq_getR 42 rfl rfl rfl rfl ?_
  refine sp_iload_n 43 rfl rfl rfl ?_
  refine sp_iconst 44 rfl rfl ?_
  refine hq_zast 45 rfl rfl n1 (by decide) rfl ?_
  refine hs_iinc 48 (L2 := [some (.ref 3), some (.ref q), some (.int (v + Int32.ofInt 1))]) rfl rfl rfl rfl rfl ?_
  exact sp_goto rfl k
theorem s_read_60 {v : Int32} (k0 : Int32.ofInt 1200 ≤ v → w_read_92 SL xs d p s q Q v I J) (k1 : ¬ Int32.ofInt 1200 ≤ v → (I 4 2 = 0 → w_read_92 SL xs d p s q Q v I J) ∧ (¬ I 4 2 = 0 → mm_s SL xs d 76 [.ref 3] (hp p s q I J) (fun r_ h_ => ∃ x1 I1 J1, r_ = some (.int x1) ∧ h_ = hp p s q I1 J1 ∧ ((x1 = 0 → Q (some (.int (Int32.ofInt 0))) (hp p s q I1 J1)) ∧ (¬ x1 = 0 → w_read_60 SL xs d p s q Q (v + Int32.ofInt 1) I1 J1))))) : w_read_60 SL xs d p s q Q v I J := by
  unfold w_read_60
  refine sp_iload_n 61 rfl rfl rfl ?_
  refine sp_sipush 64 rfl rfl ?_
  refine sp_ic_ge 67 rfl rfl (fun q_ => k0 q_) (fun q_ => ?_)
  obtain ⟨k2, k3⟩ := k1 q_
  refine sp_aload_n 68 rfl rfl rfl ?_
  refine hq_getR 71 rfl rfl rfl rfl ?_
  refine hq_getI 74 rfl rfl rfl ?_
  refine sp_if_eq 77 rfl rfl (fun q_ => k2 q_) (fun q_ => ?_)
  refine sp_aload_n 78 rfl rfl rfl ?_
  refine sc_V 81 rfl rfl rfl rfl rfl (Nat.le_refl _) (Nat.le_refl _) rfl ?_
  refine mm_s_mono _ _ _ _ _ _ ?_ (k3 q_)
  rintro r_ h_ ⟨x1, I1, J1, rfl, rfl, k⟩
  refine hs_S (st2 := [.int x1]) rfl ?_
  refine sp_if_ne 84 rfl rfl (fun q_ => ?_) (fun q_ => ?_)
  · refine hs_iinc 89 (L2 := [some (.ref 3), some (.ref q), some (.int (v + Int32.ofInt 1))]) rfl rfl rfl rfl rfl ?_
    exact sp_goto rfl (k.2 q_)
  · refine sp_iconst 85 rfl rfl ?_
    exact st_zret rfl rfl (by decide) (Nat.le_refl _) (Nat.le_refl _) (k.1 q_)
theorem s_read_92 {v : Int32} (k : mm_s SL xs d 51 [.ref q] (hp p s q I J) (fun r_ h_ => ∃ I1 J1, r_ = none ∧ h_ = hp p s q I1 J1 ∧ Q (some (.int (Int32.ofInt 1))) (hp p s q I1 J1))) (hq : isP q) : w_read_92 SL xs d p s q Q v I J := by
  unfold w_read_92
  refine sp_aload_n 93 rfl rfl rfl ?_
  refine hq_getR 96 rfl rfl rfl rfl ?_
  refine sc_V 99 rfl rfl (kP0 hq) rfl rfl (Nat.le_refl _) (Nat.le_refl _) rfl ?_
  refine mm_s_mono _ _ _ _ _ _ ?_ k
  rintro r_ h_ ⟨I1, J1, rfl, rfl, k⟩
  refine hs_S (st2 := []) rfl ?_
  refine sp_iconst 100 rfl rfl ?_
  exact st_zret rfl rfl (by decide) (Nat.le_refl _) (Nat.le_refl _) k
theorem s_read_51 {v : Int32} (k : mm_s SL xs d 104 [.ref 4] (hp p s q I J) (fun r_ h_ => ∃ I1 J1, r_ = none ∧ h_ = hp p s q I1 J1 ∧ w_read_60 SL xs d p s q Q (Int32.ofInt 0) I1 J1)) : w_read_51 SL xs d p s q Q v I J := by
  unfold w_read_51
  refine sp_aload_n 52 rfl rfl rfl ?_
  refine hq_getR 55 rfl rfl rfl rfl ?_
  refine sc_V 58 rfl rfl rfl rfl rfl (Nat.le_refl _) (Nat.le_refl _) rfl ?_
  refine mm_s_mono _ _ _ _ _ _ ?_ k
  rintro r_ h_ ⟨I1, J1, rfl, rfl, k⟩
  refine hs_S (st2 := []) rfl ?_
  refine sp_iconst 59 rfl rfl ?_
  exact hs_istore_n 60 (L2 := [some (.ref 3), some (.ref q), some (.int (Int32.ofInt 0))]) rfl rfl rfl rfl k
theorem s_read {q0 : Nat} (hq : isP q) (k : mm_s SL xs d 50 [.ref q] (hp p s q I J) (fun r_ h_ => ∃ I1 J1, r_ = none ∧ h_ = hp p s q I1 J1 ∧ w_read_29 SL xs d p s q Q (Int32.ofInt 0) (mm_u (mm_u (mm_u I1 3 1 (Int32.ofInt 0)) 3 2 (Int32.ofInt (-1))) 3 5 (Int32.ofInt 0)) J1)) : mm_s SL xs (d + 1) 73 [.ref 3, .ref q] (hp p s q0 I J) Q := by
  refine e_X7_read rfl ?_
  refine hs_L (L2 := [some (.ref 3), some (.ref q), none]) rfl ?_
  refine sp_aload_n 1 rfl rfl rfl ?_
  refine sp_aload_n 2 rfl rfl rfl ?_
  refine sp_putR 5 rfl rfl rfl ?_
  rw [pR_3]
  refine sp_aload_n 6 rfl rfl rfl ?_
  refine hq_getR 9 rfl rfl rfl rfl ?_
  refine sc_V 12 rfl rfl (kP0 hq) rfl rfl (Nat.le_refl _) (Nat.le_refl _) rfl ?_
  refine mm_s_mono _ _ _ _ _ _ ?_ k
  rintro r_ h_ ⟨I1, J1, rfl, rfl, k⟩
  refine hs_S (st2 := []) rfl ?_
  refine sp_aload_n 13 rfl rfl rfl ?_
  refine sp_iconst 14 rfl rfl ?_
  refine hq_putI 17 rfl rfl rfl ?_
  refine sp_aload_n 18 rfl rfl rfl ?_
  refine sp_iconst 19 rfl rfl ?_
  refine hq_putI 22 rfl rfl rfl ?_
  refine sp_aload_n 23 rfl rfl rfl ?_
  refine sp_iconst 24 rfl rfl ?_
  refine hq_putI 27 rfl rfl rfl ?_
  refine sp_iconst 28 rfl rfl ?_
  exact hs_istore_n 29 (L2 := [some (.ref 3), some (.ref q), some (.int (Int32.ofInt 0))]) rfl rfl rfl rfl k
theorem r_seen : ∀ (f i : Nat) (I : Nat → Nat → Int32), i + f = 11 → (∀ k, k < i → I 14 k = Int32.ofInt 0) → (∀ I2 : Nat → Nat → Int32, (∀ r, r ≠ 14 → I2 r = I r) → (∀ k, k < 11 → I2 14 k = Int32.ofInt 0) → ∀ v, w_read_51 SL xs d p s q Q v I2 J) → w_read_29 SL xs d p s q Q (Int32.ofInt (i : Nat)) I J
  | 0, i, I, hf, hz, kq => s_read_29 (fun _ => kq I (fun _ _ => rfl) (fun k hk => hz k (by omega)) _) (fun z => absurd (by rw [z_le (by omega)]; omega) z)
  | f + 1, i, I, hf, hz, kq => by
    refine s_read_29 (fun z => ?_) (fun _ => ⟨z_inN (by omega) (by omega), ?_⟩)
    · rw [z_le (by omega)] at z; omega
    · rw [z_ixN (by omega), z_p1]
      refine r_seen f (i + 1) _ (by omega) (fun k hk => ?_) (fun I2 a b v => kq I2 (fun r hr => by rw [a r hr, mu_row hr]) b v)
      by_cases c : k = i
      · subst c; rw [mu_at]
      · rw [mu_ne c]; exact hz k (by omega)
/-- line by line -/
theorem r_lines (hd : 49 ≤ d) (hq : isP q) (hl : l ≤ 1200) (kq : ∀ v I1 J1 j A G w e P D u C, FK q I I1 J J1 → CLr l T q j A G w e P D u C I1 J1 → LW A G w e P D u C → tkK l T j = 0 → GA l T j0 j A G w e P D u C → w_read_92 SL xs (d + 91) p s q Q v I1 J1) (kf : ∀ I1 J1, FKw q I I1 J J1 → (∃ fx px : Nat, I1 3 1 = Int32.ofInt (fx : Nat) ∧ I1 3 2 = Int32.ofInt (px : Nat) ∧ 1 ≤ fx ∧ fx ≤ 4 ∧ GF l T j0 fx px) → Q (some (.int (Int32.ofInt 0))) (hp p s q I1 J1)) : ∀ (f i j : Nat) (A : Nat → Option Nat) (G : List (Nat × Nat)) (w e : Nat) (P D : List (Nat × Nat)) (u : Nat) (C : List Int) (I1 : Nat → Nat → Int32) (J1 : Nat → Nat → Int64), l - j ≤ f → i ≤ j → FK q I I1 J J1 → CLr l T q j A G w e P D u C I1 J1 → LW A G w e P D u C → GA l T j0 j A G w e P D u C → w_read_60 SL xs (d + 91) p s q Q (Int32.ofInt (i : Nat)) I1 J1 := by
  intro f
  induction f with
  | zero =>
    intro i j A G w e P D u C I1 J1 hf hi g1 g2 g3 g4
    have k0 : tkK l T j = 0 := by rw [tkK, if_pos (by omega)]
    refine s_read_60 (fun _ => kq _ I1 J1 j A G w e P D u C g1 g2 g3 k0 g4) (fun _ => ⟨fun _ => kq _ I1 J1 j A G w e P D u C g1 g2 g3 k0 g4, fun z => absurd ?_ z⟩)
    have := g2.1.2.2.2.2.1
    rw [k0] at this
    exact this
  | succ f ih =>
    intro i j A G w e P D u C I1 J1 hf hi g1 g2 g3 g4
    have hjl := g2.1.1
    by_cases k0 : tkK l T j = 0
    · refine s_read_60 (fun _ => kq _ I1 J1 j A G w e P D u C g1 g2 g3 k0 g4) (fun _ => ⟨fun _ => kq _ I1 J1 j A G w e P D u C g1 g2 g3 k0 g4, fun z => absurd ?_ z⟩)
      have := g2.1.2.2.2.2.1
      rw [k0] at this
      exact this
    · have hj : j < l := by
        rcases Nat.lt_or_ge j l with y | y
        · exact y
        · exact absurd (by rw [tkK, if_pos y]) k0
      have kz : ¬ I1 4 2 = 0 := fun z => k0 (by
        have := Cc_k (c := 0) g2.1 (by omega)
        exact this.mp z)
      refine s_read_60 (fun z => ?_) (fun _ => ⟨fun z => absurd z kz, fun _ => ?_⟩)
      · rw [z_le (by omega)] at z; omega
      · refine c_line hd hq g2 g3 (fun I2 J2 lo => ⟨_, _, _, rfl, rfl, fun z => absurd z (by decide), fun _ => ?_⟩) (fun I2 J2 lx => ⟨_, _, _, rfl, rfl, fun _ => ?_, fun z => absurd rfl z⟩)
        · obtain ⟨j1, A1, G1, w1, e1, P1, D1, u1, C1, n1, n2, n3, n4, n5⟩ := lo
          rw [z_p1]
          refine ih (i + 1) j1 A1 G1 w1 e1 P1 D1 u1 C1 I2 J2 (by omega) (by omega) (FK_t g1 n1) n2 n3 ?_
          intro SL' xs' d' p' s' q' Q' v1 Im Jm ml kk
          refine g4 SL' xs' d' p' s' q' Q' v1 Im Jm ml (fun Im2 Jm2 f2 m2 => m_88 m2 k0 (n4 SL' xs' d' p' s' q' _ Im2 Jm2 m2 (fun Im3 Jm3 f3 m3 => ⟨_, _, rfl, rfl, kk Im3 Jm3 (FL_t f2 f3) m3⟩)))
        · obtain ⟨n1, fx, px, n2, n3, n4, n5, n6⟩ := lx
          refine kf I2 J2 (FZ g1 n1) ⟨fx, px, n2, n3, n4, n5, ?_⟩
          intro SL' xs' d' p' s' q' Q' v1 Im Jm ml kk
          refine g4 SL' xs' d' p' s' q' Q' v1 Im Jm ml (fun Im2 Jm2 f2 m2 => m_88 m2 k0 (n6 SL' xs' d' p' s' q' _ Im2 Jm2 m2 (fun Im3 Jm3 f3 a b => ⟨_, _, rfl, rfl, m_88f (by rw [a, z_eq (by omega)]; omega) (kk Im3 Jm3 (FY f2 f3) a b)⟩)))
end
