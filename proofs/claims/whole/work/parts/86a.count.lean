/-! the lines: the count -/
section
variable {SL : Nat} {xs : Nat → Int32} {d : Nat} {p s q : Nat} {Q : Option Value → mm_H → Prop} {I : Nat → Nat → Int32} {J : Nat → Nat → Int64} {l j : Nat} {T : Nat → Nat} {A : Nat → Option Nat} {G : List (Nat × Nat)} {w e : Nat} {P D : List (Nat × Nat)} {u : Nat} {C : List Int}
theorem A_none {k : Nat} (hf : ¬ (A k).isSome = true) : A k = none := by
  cases z : A k with
  | none => rfl
  | some v => rw [z] at hf; exact absurd rfl hf
theorem m_cnt (hK : tkK l T j = 131) (h : MLr l T j A G w e P D u C I J) (hw : LW A G w e P D u C) (hf : ¬ (A 6).isSome = true) (k : ∀ Q16 : Option Value → mm_H → Prop, (∀ I3 J3, w_X11_readLine_317 SL xs d p s q Q I3 J3 → Q16 none (hp p s q I3 J3)) → ∀ I2 J2, FL I I2 J J2 → ME l T (nX l T j) 0 [] [] I2 J2 → MB (upA A 6 0) G w e P D 0 [] I2 J2 → w_X11_readCount_16 SL xs d p s q Q16 (Int32.ofInt 0) I2 J2) : mm_s SL xs (d + 7) 197 [.ref 65] (hp p s q I J) Q := by
  obtain ⟨rfl, rfl⟩ := hw.2.2.2.2.2.2.2.1 (A_none hf)
  have c0 : Mm l T j (mm_u I 85 6 (Int32.ofInt 1)) J := Mm_c (fun _ _ _ => by rw [mu_row (by omega)]) (mu_row (by omega)) rfl h.1
  refine di_3 h hw hK hf (sg_X11_readCountLine ⟨z_inN (t := 6) (by omega) (by omega), ?_⟩)
  rw [show (Int32.ofInt 6).toNatClampNeg = 6 from z_ixN (t := 6) (by omega)]
  refine sg_X11_readCount (m_adv c0 (by omega) (fun I1 J1 f1 c1 => ⟨_, _, rfl, rfl, ?_⟩))
  have r1 : ∀ r, r ≠ 65 → mm_u (mm_u I1 65 22 (Int32.ofInt 0)) 65 23 (Int32.ofInt 0) r = I1 r := fun r hr => by rw [mu_row hr, mu_row hr]
  have g1 : ∀ k, k ≠ 22 → k ≠ 23 → mm_u (mm_u I1 65 22 (Int32.ofInt 0)) 65 23 (Int32.ofInt 0) 65 k = I1 65 k := fun k a b => by rw [mu_ne b, mu_ne a]
  refine k _ (fun I3 J3 h3 => ⟨_, _, rfl, rfl, ⟨_, _, rfl, rfl, h3⟩⟩) _ _ (FL_t (FL_u (Or.inr ⟨by omega, by unfold rrow; omega⟩)) (FL_t (FL_m f1) (FL_t (FL_u (Or.inl ⟨rfl, by unfold rfld; omega⟩)) (FL_u (Or.inl ⟨rfl, by unfold rfld; omega⟩))))) ⟨Mm_c (fun k a b => g1 k (by omega) (by omega)) (r1 66 (by omega)) rfl c1, ?_, ?_, trivial, ?_, ?_, trivial, ?_, Nat.zero_le _, Nat.zero_le _⟩ ?_
  · rw [g1 2 (by omega) (by omega), f1.2.1 2 (by omega), mu_row (by omega)]; exact h.2.1
  · rw [g1 18 (by omega) (by omega), f1.2.1 18 (by omega), mu_row (by omega)]; exact h.2.2.2.2.2.2.2.1
  · rw [g1 19 (by omega) (by omega), f1.2.1 19 (by omega), mu_row (by omega)]; exact h.2.2.2.2.2.2.2.2.2
  · rw [mu_ne (by omega), mu_at]; rfl
  · rw [mu_at]; rfl
  · refine MB_A (fun r a b c => ?_) (fun k hk => ?_) ?_ ⟨fun i hi => ?_, fun i v hi hv => ?_⟩ (MB_m (I := I) (J := J) fm_r h.2.2)
    · rw [r1 r a, f1.1 r a, mu_row c]
    · rw [g1 k (by omega) (by omega), f1.2.1 k (by omega), mu_row (by omega)]
    · rw [f1.2.2.1 86 (by omega)]
    · rw [r1 85 (by omega), f1.1 85 (by omega)]
      unfold upA
      by_cases z : i = 6
      · subst z; rw [mu_at, if_pos rfl]; rfl
      · rw [mu_ne z, if_neg z]; exact h.2.2.1.1 i hi
    · unfold upA at hv
      rw [if_neg (by omega)] at hv
      rw [r1 74 (by omega), f1.1 74 (by omega), mu_row (by omega)]; exact h.2.2.1.2 i v hi hv
theorem MB_C {A2 : Nat → Option Nat} {u2 u3 : Nat} {C2 C3 : List Int} {I2 : Nat → Nat → Int32} {J2 : Nat → Nat → Int64} {j2 : Nat} (f : FE I I2 J J2) (m : ME l T j2 u3 C3 [] I2 J2) (h : MB A2 G w e P D u2 C2 I J) : MB A2 G w e P D u3 C3 I2 J2 := by
  obtain ⟨⟨h1, h1'⟩, ⟨h2, h2'⟩, ⟨h3, h3'⟩, ⟨h4, h4'⟩, ⟨h5, h5'⟩, _⟩ := h
  have r : ∀ r, 74 ≤ r → I2 r = I r := fun r hr => f.1 r (by omega) (by omega) (by omega) (by omega)
  have g : ∀ k, 37 ≤ k → I2 65 k = I 65 k := fun k hk => f.2.1 k (by omega)
  exact ⟨⟨fun k hk => by rw [r 85 (by omega)]; exact h1 k hk, fun k v hk hv => by rw [r 74 (by omega)]; exact h1' k v hk hv⟩, ⟨by rw [g 37 (by omega)]; exact h2, XS_c G (fun i _ => by rw [r 75 (by omega), r 76 (by omega)]; exact ⟨rfl, rfl⟩) h2'⟩, ⟨by rw [g 40 (by omega)]; exact h3, by rw [g 41 (by omega)]; exact h3'⟩, ⟨by rw [g 38 (by omega)]; exact h4, PM_c P (fun i _ => by rw [r 77 (by omega), f.2.2.1 86 (by omega)]; exact ⟨rfl, rfl⟩) h4'⟩, ⟨by rw [g 39 (by omega)]; exact h5, XS_c D (fun i _ => by rw [r 78 (by omega), r 79 (by omega)]; exact ⟨rfl, rfl⟩) h5'⟩, m.2.2.1, m.2.2.2.1, m.2.2.2.2.1⟩
theorem b_count (hd : 49 ≤ d) (hK : tkK l T j = 131) (hq : isP q) (h : CLr l T q j A G w e P D u C I J) (hw : LW A G w e P D u C) (hf : ¬ (A 6).isSome = true) (ko : ∀ I1 J1, BO l T q j A G w e P D u C I I1 J J1 → w_X7_readLine_163 SL xs d p s q Q (Int32.ofInt 131) (Int32.ofInt 1) I1 J1) (kn : ∀ I1 J1 jj, FK q I I1 J J1 → Cc l T jj I1 J1 → tkK l T jj ≠ 59 → LF l T j A G w e P D u C (flt (tkK l T jj) 2) jj → w_X7_readLine_163 SL xs d p s q Q (Int32.ofInt 131) (Int32.ofInt 1) I1 J1) (kx : ∀ I1 J1, LX l T q j A G w e P D u C I I1 J J1 → w_X7_readLine_163 SL xs d p s q Q (Int32.ofInt 131) (Int32.ofInt 0) I1 J1) : w_X7_readLine_61 SL xs d p s q Q (Int32.ofInt 131) (mm_u (mm_u I 14 3 (Int32.ofInt 1)) q 17 (Int32.ofInt 0)) J := by
  have hq' : q = 39 ∨ q = 46 := hq
  have hA := A_none hf
  obtain ⟨u0, C0⟩ := hw.2.2.2.2.2.2.2.1 hA
  have c0 : Cc l T j (mm_u (mm_u I 14 3 (Int32.ofInt 1)) q 17 (Int32.ofInt 0)) J := Cc_c (by rw [mu_row (by omega), mu_row (by omega)]) (by rw [mu_row (by omega), mu_row (by omega)]) rfl rfl h.1
  have l1 := tk_lt h.1.1 (show tkK l T j ≠ 0 by omega)
  refine sg_X7_readLine_61 (c_adv c0 (fun I1 J1 f1 c1 => ⟨_, _, rfl, rfl, fun _ => ?_, fun z => absurd z (by decide), fun z => absurd z (by decide), fun z => absurd z (by decide), fun z => absurd z (by decide), fun z => absurd rfl z⟩))
  have k0 : FK q I I1 J J1 := FK_t (FK_u hq (by omega)) (FK_t (FK_u hq (by omega)) (FK_4 f1))
  have ce : CE l T q (nX l T j) 0 [] I1 J1 := by
    refine ⟨c1, ?_, ?_, trivial⟩
    · rw [f1.1 q (by omega), mu_ne (by omega), mu_row (by omega), ← u0]; exact h.2.2.2.2.2.2.2.1
    · rw [f1.1 q (by omega), mu_at]; rfl
  have sp := (x_all 7 0 rfl).2
  refine sp SL xs (d + 90) p s q _ I1 J1 l T (nX l T j) 0 [] [] 0 (by omega) hq ce (by omega) (Nat.zero_le _) (Nat.zero_le _) rfl trivial trivial (Nat.zero_le _) rfl (fun I2 J2 r2 => ⟨_, _, _, rfl, rfl, ?_⟩) (fun I2 J2 r2 => ⟨_, _, _, rfl, rfl, kx I2 J2 ?_⟩)
  · obtain ⟨j3, u3, C3, v3, N3, k1, k2, k3, k4, k5, k6, k7, k8, k9, k10, k11, k12, k13⟩ := r2
    by_cases hk : tkK l T j3 = 59
    · refine ko I2 J2 ⟨j3, upA A 6 0, G, w, e, P, D, u3, C3, FK_t k0 (FK_c k1), ⟨k2.1, ?_, ?_⟩, ?_, ?_, ?_⟩
      · refine kN_up (k := 6) (v := 0) (by omega) ?_ h.2.1
        rw [k1.1 14 (by omega) (by omega) (by omega) (by omega), f1.1 14 (by omega), mu_row (by omega)]; rfl
      · obtain ⟨h1, ⟨h2, h2'⟩, h3, ⟨h4, h4'⟩, ⟨h5, h5'⟩, _⟩ := h.2.2
        have g : ∀ k, k ≠ 9 → k ≠ 17 → I2 q k = I q k := fun k a b => by rw [k1.2.1 k a b, f1.1 q (by omega), mu_ne b, mu_row (by omega)]
        have r : ∀ r, q + 1 ≤ r → r ≤ q + 4 → I2 r = I r := fun r a b => by rw [k1.1 r (by omega) (by omega) (by omega) (by omega), f1.1 r (by omega), mu_row (by omega), mu_row (by omega)]
        have gj : ∀ r, r ≠ 4 → J2 r = J r := fun r a => by rw [k1.2.2.2.2 r a, f1.2.2 r a]
        refine ⟨?_, ⟨?_, by rw [gj q (by omega)]; exact h2'⟩, ⟨by rw [g 7 (by omega) (by omega)]; exact h3.1, by rw [g 8 (by omega) (by omega)]; exact h3.2⟩, ⟨by rw [g 10 (by omega) (by omega)]; exact h4, PS_c P (fun i _ => by rw [r (q + 2) (by omega) (by omega), gj (q + 1) (by omega)]; exact ⟨rfl, rfl⟩) h4'⟩, ⟨by rw [g 11 (by omega) (by omega)]; exact h5, XS_c D (fun i _ => by rw [r (q + 3) (by omega) (by omega), r (q + 4) (by omega) (by omega)]; exact ⟨rfl, rfl⟩) h5'⟩, k2.2.1, k2.2.2.1, k2.2.2.2⟩
        · unfold kS at h1 ⊢
          rw [g 0 (by omega) (by omega), g 1 (by omega) (by omega), g 2 (by omega) (by omega), g 3 (by omega) (by omega), g 4 (by omega) (by omega), g 5 (by omega) (by omega)]; exact h1
        · rw [k1.2.2.1 5, f1.1 3 (by omega), mu_row (by omega), mu_row (by omega)]; exact h2
      · obtain ⟨w1, w2, w3, w4, w5, w6⟩ := hw
        have e0 : ([] : List Int).length = 0 := rfl
        refine ⟨w1, w2, w3, w4, w5, k4, by omega, fun z => absurd z (by unfold upA; rw [if_pos rfl]; simp), fun _ => ⟨k6, by omega⟩⟩
      · intro SL' xs' d' p' s' q' Q' Im Jm ml kk
        refine m_cnt hK ml hw hf (fun Q16 hQ Im2 Jm2 fm2 me2 mb2 => ?_)
        refine k12 SL' xs' d' p' s' q' Q16 Im2 Jm2 me2 (fun Im3 Jm3 fm3 me3 => ?_)
        rw [List.append_nil] at me3
        refine rc_end me3 hk k9 (fun Im4 fm4 me4 => hQ _ _ (kk _ _ (FL_t fm2 (FL_e (FE_t fm3 fm4))) ?_))
        rw [← k8] at me4
        exact ⟨me4.1, me4.2.1, MB_C (FE_t fm3 fm4) me4 mb2⟩
      · omega
    · refine kn I2 J2 j3 (FK_t k0 (FK_c k1)) k2.1 hk ?_
      intro SL' xs' d' p' s' q' Q' Im Jm ml kk
      refine m_cnt hK ml hw hf (fun Q16 hQ Im2 Jm2 fm2 me2 mb2 => ?_)
      refine k12 SL' xs' d' p' s' q' Q16 Im2 Jm2 me2 (fun Im3 Jm3 fm3 me3 => ?_)
      have ho : hasO (v3 ++ []) = false := by
        rw [List.append_nil]
        clear me3 k12 k8 k10 k11
        induction v3 with
        | nil => rfl
        | cons a r ih =>
          have ha := (k9 a (by simp)).1
          rw [hasO, ih (fun w hw => k9 w (by simp [hw])), decide_eq_false (fun z => by subst z; unfold opn at ha; omega)]; rfl
      exact sf_end k11 (Or.inr ho) (Or.inr hk) SL' xs' d' p' s' q' Q16 Im3 Jm3 me3 (fun Im4 Jm4 fm4 a b => hQ _ _ (f317_f (by rw [a]; exact flt_0.1) (kk Im4 Jm4 (FY fm2 (FLw_e (FX fm3 fm4))) a b)))
  · obtain ⟨m1, m2, fx, px, m3, m4, m5, m6, m7⟩ := r2
    refine ⟨FZ k0 (FKw_c m1), fx, px, m3, m4, m5, m6, ?_⟩
    intro SL' xs' d' p' s' q' Q' Im Jm ml kk
    refine m_cnt hK ml hw hf (fun Q16 hQ Im2 Jm2 fm2 me2 mb2 => ?_)
    exact m7 SL' xs' d' p' s' q' Q16 Im2 Jm2 me2 (fun Im3 Jm3 fm3 a b => hQ _ _ (f317_f (by rw [a, z_eq (by omega)]; omega) (kk Im3 Jm3 (FY fm2 (FLw_e fm3)) a b)))
end
