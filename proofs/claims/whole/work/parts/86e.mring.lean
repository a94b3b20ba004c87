/-! the whole text, in the reference -/
def FA (I I2 : Nat → Nat → Int32) (J J2 : Nat → Nat → Int64) : Prop := (∀ r, ¬ rrow r → I2 r = I r) ∧ (∀ k, ¬ rfldw k → k ≠ 1 → k ≠ 5 → I2 65 k = I 65 k) ∧ I2 65 1 = Int32.ofInt 0 ∧ ∀ r, r ≠ 65 → r ≠ 86 → J2 r = J r
theorem FA_l {I I2 I3 : Nat → Nat → Int32} {J J2 J3 : Nat → Nat → Int64} (a : FA I I2 J J2) (b : FLw I2 I3 J2 J3) : FA I I3 J J3 := ⟨fun r h => by rw [b.1 r h, a.1 r h], fun k h h1 h5 => by rw [b.2.1 k h, a.2.1 k h h1 h5], by rw [b.2.1 1 (by unfold rfldw; omega)]; exact a.2.2.1, fun r h1 h2 => by rw [b.2.2 r h1 h2, a.2.2.2 r h1 h2]⟩
theorem FLw_s {I I2 : Nat → Nat → Int32} {J J2 : Nat → Nat → Int64} (a : FL I I2 J J2) : FLw I I2 J J2 := ⟨a.1, fun k h => a.2.1 k (rfw h), a.2.2⟩
def raI (I : Nat → Nat → Int32) : Nat → Nat → Int32 := mm_u (mm_u (mm_u (mm_u (mm_u (mm_u (mm_u (mm_u (mm_u (mm_u (mm_u (mm_u I 65 5 (I 65 1)) 65 1 (Int32.ofInt 0)) 65 4 (Int32.ofInt 0)) 65 2 (Int32.ofInt 0)) 65 3 (Int32.ofInt (-1))) 65 18 (Int32.ofInt 0)) 65 19 (Int32.ofInt 0)) 65 37 (Int32.ofInt 0)) 65 38 (Int32.ofInt 0)) 65 39 (Int32.ofInt 0)) 65 40 (Int32.ofInt 0)) 65 41 (Int32.ofInt 0)
theorem raI_r {I : Nat → Nat → Int32} {r : Nat} (h : r ≠ 65) : raI I r = I r := by
  unfold raI
  rw [mu_row h, mu_row h, mu_row h, mu_row h, mu_row h, mu_row h, mu_row h, mu_row h, mu_row h, mu_row h, mu_row h, mu_row h]
theorem raI_k {I : Nat → Nat → Int32} {k : Nat} (h : ¬ rfldw k) (h1 : k ≠ 1) (h5 : k ≠ 5) : raI I 65 k = I 65 k := by
  unfold rfldw at h
  unfold raI
  rw [mu_ne (by omega), mu_ne (by omega), mu_ne (by omega), mu_ne (by omega), mu_ne (by omega), mu_ne (by omega), mu_ne (by omega), mu_ne (by omega), mu_ne (by omega), mu_ne (by omega), mu_ne (by omega), mu_ne (by omega)]
theorem raI_v {I : Nat → Nat → Int32} : raI I 65 5 = I 65 1 ∧ raI I 65 1 = Int32.ofInt 0 ∧ raI I 65 4 = Int32.ofInt 0 ∧ raI I 65 2 = Int32.ofInt 0 ∧ raI I 65 3 = Int32.ofInt (-1) ∧ raI I 65 18 = Int32.ofInt 0 ∧ raI I 65 19 = Int32.ofInt 0 ∧ raI I 65 37 = Int32.ofInt 0 ∧ raI I 65 38 = Int32.ofInt 0 ∧ raI I 65 39 = Int32.ofInt 0 ∧ raI I 65 40 = Int32.ofInt 0 ∧ raI I 65 41 = Int32.ofInt 0 := by
  refine ⟨?_, ?_, ?_, ?_, ?_, ?_, ?_, ?_, ?_, ?_, ?_, ?_⟩ <;> simp [raI, mm_u]
section
variable {SL : Nat} {xs : Nat → Int32} {d : Nat} {p s q : Nat} {Q : Option Value → mm_H → Prop} {J : Nat → Nat → Int64} {l j0 : Nat} {T : Nat → Nat}
theorem m_had : ∀ (f i : Nat) (I : Nat → Nat → Int32), i + f = 8 → (∀ k, k < i → I 85 k = Int32.ofInt 0) → (∀ I2 : Nat → Nat → Int32, (∀ r, r ≠ 85 → I2 r = I r) → (∀ k, k < 8 → I2 85 k = Int32.ofInt 0) → ∀ v, mm_s SL xs (d + 7) 172 [.ref 65] (hp p s q I2 J) (fun r_ h_ => ∃ I1 J1, r_ = none ∧ h_ = hp p s q I1 J1 ∧ w_X11_readAll_88 SL xs d p s q Q v I1 J1)) → w_X11_readAll_65 SL xs d p s q Q (Int32.ofInt (i : Nat)) I J
  | 0, i, I, hf, hz, kq => sg_X11_readAll_65 ⟨fun _ => kq I (fun _ _ => rfl) (fun k hk => hz k (by omega)) _, fun z => absurd (by rw [z_le (by omega)]; omega) z⟩
  | f + 1, i, I, hf, hz, kq => by
    refine sg_X11_readAll_65 ⟨fun z => ?_, fun _ => ⟨z_inN (by omega) (by omega), ?_⟩⟩
    · rw [z_le (by omega)] at z; omega
    · rw [z_ixN (by omega), z_p1]
      refine m_had f (i + 1) _ (by omega) (fun k hk => ?_) (fun I2 a b v => kq I2 (fun r hr => by rw [a r hr, mu_row hr]) b v)
      by_cases c : k = i
      · subst c; rw [mu_at]
      · rw [mu_ne c]; exact hz k (by omega)
theorem m_readAll {I : Nat → Nat → Int32} (hl : l ≤ 1200) (h1 : I 65 1 = Int32.ofInt (l : Nat)) (ht : ∀ i, i < l → T i ≤ 255 ∧ I 66 i = Int32.ofInt (T i : Nat)) (e0 : j0 = rn tB l T l 0) (k : ∀ v1 I2 J2, FA I I2 J J2 → MLr l T j0 A0 [] 0 0 [] [] 0 [] I2 J2 → I2 65 3 = Int32.ofInt (-1) → w_X11_readAll_88 SL xs d p s q Q v1 I2 J2) : mm_s SL xs (d + 8) 198 [.ref 65] (hp p s q I J) Q := by
  refine sg_X11_readAll (m_had 8 0 (raI I) rfl (fun k hk => absurd hk (Nat.not_lt_zero k)) (fun I2 a2 b2 v => ?_))
  obtain ⟨v5, v1, v4, v2, v3, v18, v19, v37, v38, v39, v40, v41⟩ := raI_v (I := I)
  have r65 : I2 65 = raI I 65 := a2 65 (by omega)
  have hT : MTp l T I2 := ⟨hl, by rw [r65, v5]; exact h1, fun i hi => ⟨(ht i hi).1, by rw [a2 66 (by omega), raI_r (by omega)]; exact (ht i hi).2⟩⟩
  refine e_X11_token rfl (m_token l 0 I2 J (Nat.zero_add l) hT (by rw [r65]; exact v4) (fun I3 J3 f g => ⟨_, _, rfl, rfl, k _ I3 J3 ⟨fun r hr => ?_, fun k hk k1 k5 => ?_, ?_, fun r h _ => f.2.2.1 r h⟩ ⟨⟨?_, MTp_f f hT, by rw [e0]; exact g⟩, ?_, ?_⟩ ?_⟩))
  · unfold rrow at hr
    rw [f.1 r (by omega), a2 r (by omega), raI_r (by omega)]
  · have hk' := hk
    unfold rfldw at hk'
    rw [f.2.1 k (by omega), r65, raI_k hk k1 k5]
  · rw [f.2.1 1 (by omega), r65]; exact v1
  · have := rn_ge (P := tB) (l := l) (T := T) l 0; omega
  · rw [f.2.1 2 (by omega), r65]; exact v2
  · have g2 : ∀ k, 10 < k → I3 65 k = raI I 65 k := fun k hk => by rw [f.2.1 k (by omega), r65]
    refine ⟨⟨fun k hk => by rw [f.1 85 (by omega), b2 k hk]; rfl, fun k v _ hv => by simp [A0] at hv⟩, ⟨by rw [g2 37 (by omega)]; exact v37, trivial⟩, ⟨by rw [g2 40 (by omega)]; exact v40, by rw [g2 41 (by omega)]; exact v41⟩, ⟨by rw [g2 38 (by omega)]; exact v38, trivial⟩, ⟨by rw [g2 39 (by omega)]; exact v39, trivial⟩, by rw [g2 18 (by omega)]; exact v18, trivial, by rw [g2 19 (by omega)]; exact v19⟩
  · rw [f.2.1 3 (by omega), r65]; exact v3
end
/-! what the reference takes over -/
def pk_ (A : Nat → Option Nat) : Nat := (A 2).getD 1
def pt_ (A : Nat → Option Nat) : Nat := (A 3).getD 0
def pa_ (A : Nat → Option Nat) : Nat := (A 4).getD 0
def m47 (A : Nat → Option Nat) (C : List Int) (I I2 : Nat → Nat → Int32) : Prop := (∀ r, r ≠ 65 → I2 r = I r) ∧ (∀ k, k < 47 ∨ 53 < k → k ≠ 20 → I2 65 k = I 65 k) ∧ I2 65 47 = Int32.ofInt (pn A : Nat) ∧ I2 65 48 = Int32.ofInt ((pb A % pn A : Nat) : Int) ∧ I2 65 49 = Int32.ofInt (pk_ A : Nat) ∧ I2 65 50 = Int32.ofInt (pt_ A : Nat) ∧ I2 65 51 = Int32.ofInt (pa_ A : Nat) ∧ I2 65 52 = Int32.ofInt (oi (by_ A) (-1)) ∧ I2 65 53 = zB (A 6).isSome ∧ I2 65 20 = Int32.ofInt (C.length : Nat)
section
variable {SL : Nat} {xs : Nat → Int32} {d : Nat} {p s q : Nat} {Q : Option Value → mm_H → Prop} {I : Nat → Nat → Int32} {J : Nat → Nat → Int64} {l j : Nat} {T : Nat → Nat} {A : Nat → Option Nat} {G : List (Nat × Nat)} {w e : Nat} {P D : List (Nat × Nat)} {u : Nat} {C : List Int}
theorem m_ring1 (h : MB A G w e P D u C I J) (ha : aok A) (h2 : I 65 2 = Int32.ofInt 0) (k : ∀ I2, m47 A C I I2 → w_X11_ring_182 SL xs d p s q Q (Int32.ofInt 0) I2 J) : ((I 65 2) ≤ Int32.ofInt 0 → (vp_in (Int32.ofInt 0) 8 ∧ (((I 85 ((Int32.ofInt 0).toNatClampNeg)) = Int32.ofInt 0 → w_X11_ring_36 SL xs d p s q Q (mm_u I 65 47 (Int32.ofInt 1)) J) ∧ (¬ ((I 85 ((Int32.ofInt 0).toNatClampNeg)) = Int32.ofInt 0) → (vp_in (Int32.ofInt 0) 6 ∧ w_X11_ring_36 SL xs d p s q Q (mm_u I 65 47 (I 74 ((Int32.ofInt 0).toNatClampNeg))) J))))) := by
  obtain ⟨n1, n2, n3⟩ := pn_b ha
  obtain ⟨b1, b2⟩ := pb_b ha
  have hA := h.1.1
  have hV := h.1.2
  have i0 : (Int32.ofInt 0).toNatClampNeg = 0 := z_ixN (t := 0) (by omega)
  have i1 : (Int32.ofInt 1).toNatClampNeg = 1 := z_ixN (t := 1) (by omega)
  have i2 : (Int32.ofInt 2).toNatClampNeg = 2 := z_ixN (t := 2) (by omega)
  have i3 : (Int32.ofInt 3).toNatClampNeg = 3 := z_ixN (t := 3) (by omega)
  have i4 : (Int32.ofInt 4).toNatClampNeg = 4 := z_ixN (t := 4) (by omega)
  have i5 : (Int32.ofInt 5).toNatClampNeg = 5 := z_ixN (t := 5) (by omega)
  have i6 : (Int32.ofInt 6).toNatClampNeg = 6 := z_ixN (t := 6) (by omega)
  have p6 : ∀ X, w_X11_ring_182 SL xs d p s q Q (Int32.ofInt 0) (mm_u (mm_u X 65 53 (zB (A 6).isSome)) 65 20 (Int32.ofInt (C.length : Nat))) J → X 85 = I 85 → X 65 18 = I 65 18 → w_X11_ring_161 SL xs d p s q Q X J := fun X hk e85 e18 => by
    refine sg_X11_ring_161 ⟨z_inN (t := 6) (by omega) (by omega), ?_⟩
    rw [i6, e85, hA 6 (by omega), e18, h.2.2.2.2.2.1]
    exact ⟨zB_z _, hk⟩
  have p5 : ∀ X, w_X11_ring_161 SL xs d p s q Q (mm_u X 65 52 (Int32.ofInt (oi (by_ A) (-1)))) J → X 85 = I 85 → X 74 = I 74 → X 65 47 = Int32.ofInt (pn A : Nat) → w_X11_ring_133 SL xs d p s q Q X J := fun X hk e85 e74 e47 => by
    refine sg_X11_ring_133 ⟨z_inN (t := 5) (by omega) (by omega), ?_⟩
    rw [i5, e85, hA 5 (by omega), zB_0]
    unfold by_ at hk
    cases z : A 5 with
    | none => rw [z] at hk; exact ⟨fun _ => hk, fun y => absurd rfl y⟩
    | some v =>
      have hv := ha.2.2.2.2.2 v z
      rw [z] at hk
      refine ⟨fun y => absurd y (by simp), fun _ => ⟨z_inN (t := 5) (by omega) (by omega), ?_⟩⟩
      rw [e74, hV 5 v (by omega) z, e47, z_eq0 (by omega), z_remN (by omega) (by omega) (by omega)]
      exact ⟨by omega, hk⟩
  have p4 : ∀ X, w_X11_ring_133 SL xs d p s q Q (mm_u X 65 51 (Int32.ofInt (pa_ A : Nat))) J → X 85 = I 85 → X 74 = I 74 → w_X11_ring_110 SL xs d p s q Q X J := fun X hk e85 e74 => by
    refine sg_X11_ring_110 ⟨z_inN (t := 4) (by omega) (by omega), ?_⟩
    rw [i4, e85, hA 4 (by omega), zB_0]
    unfold pa_ at hk
    cases z : A 4 with
    | none => rw [z] at hk; exact ⟨fun _ => hk, fun y => absurd rfl y⟩
    | some v =>
      rw [z] at hk
      refine ⟨fun y => absurd y (by simp), fun _ => ⟨z_inN (t := 4) (by omega) (by omega), ?_⟩⟩
      rw [e74, hV 4 v (by omega) z]; exact hk
  have p3 : ∀ X, w_X11_ring_110 SL xs d p s q Q (mm_u X 65 50 (Int32.ofInt (pt_ A : Nat))) J → X 85 = I 85 → X 74 = I 74 → w_X11_ring_87 SL xs d p s q Q X J := fun X hk e85 e74 => by
    refine sg_X11_ring_87 ⟨z_inN (t := 3) (by omega) (by omega), ?_⟩
    rw [i3, e85, hA 3 (by omega), zB_0]
    unfold pt_ at hk
    cases z : A 3 with
    | none => rw [z] at hk; exact ⟨fun _ => hk, fun y => absurd rfl y⟩
    | some v =>
      rw [z] at hk
      refine ⟨fun y => absurd y (by simp), fun _ => ⟨z_inN (t := 3) (by omega) (by omega), ?_⟩⟩
      rw [e74, hV 3 v (by omega) z]; exact hk
  have p2 : ∀ X, w_X11_ring_87 SL xs d p s q Q (mm_u X 65 49 (Int32.ofInt (pk_ A : Nat))) J → X 85 = I 85 → X 74 = I 74 → w_X11_ring_64 SL xs d p s q Q X J := fun X hk e85 e74 => by
    refine sg_X11_ring_64 ⟨z_inN (t := 2) (by omega) (by omega), ?_⟩
    rw [i2, e85, hA 2 (by omega), zB_0]
    unfold pk_ at hk
    cases z : A 2 with
    | none => rw [z] at hk; exact ⟨fun _ => hk, fun y => absurd rfl y⟩
    | some v =>
      rw [z] at hk
      refine ⟨fun y => absurd y (by simp), fun _ => ⟨z_inN (t := 2) (by omega) (by omega), ?_⟩⟩
      rw [e74, hV 2 v (by omega) z]; exact hk
  have p1 : ∀ X, w_X11_ring_64 SL xs d p s q Q (mm_u X 65 48 (Int32.ofInt ((pb A % pn A : Nat) : Int))) J → X 85 = I 85 → X 74 = I 74 → X 65 47 = Int32.ofInt (pn A : Nat) → w_X11_ring_36 SL xs d p s q Q X J := fun X hk e85 e74 e47 => by
    refine sg_X11_ring_36 ⟨z_inN (t := 1) (by omega) (by omega), ?_⟩
    rw [i1, e85, hA 1 (by omega), zB_0]
    unfold pb at hk b1
    cases z : A 1 with
    | none =>
      rw [z] at hk
      rw [show (none : Option Nat).getD 0 % pn A = 0 from Nat.zero_mod _] at hk
      exact ⟨fun _ => hk, fun y => absurd rfl y⟩
    | some v =>
      rw [z] at hk b1
      have hv : v ≤ 59 := b1
      refine ⟨fun y => absurd y (by simp), fun _ => ⟨z_inN (t := 1) (by omega) (by omega), ?_⟩⟩
      rw [e74, hV 1 v (by omega) z, e47, z_eq0 (by omega), z_remN (by omega) (by omega) (by omega)]
      exact ⟨by omega, hk⟩
  have fin : w_X11_ring_36 SL xs d p s q Q (mm_u I 65 47 (Int32.ofInt (pn A : Nat))) J := by
    refine p1 _ (p2 _ (p3 _ (p4 _ (p5 _ (p6 _ (k _ ⟨fun r hr => ?_, fun k hk h20 => ?_, ?_, ?_, ?_, ?_, ?_, ?_, ?_, ?_⟩) ?_ ?_) ?_ ?_ ?_) ?_ ?_) ?_ ?_) ?_ ?_) ?_ ?_ ?_
    · rw [mu_row hr, mu_row hr, mu_row hr, mu_row hr, mu_row hr, mu_row hr, mu_row hr, mu_row hr]
    · rw [mu_ne h20, mu_ne (by omega), mu_ne (by omega), mu_ne (by omega), mu_ne (by omega), mu_ne (by omega), mu_ne (by omega), mu_ne (by omega)]
    · rw [mu_ne (by omega), mu_ne (by omega), mu_ne (by omega), mu_ne (by omega), mu_ne (by omega), mu_ne (by omega), mu_ne (by omega), mu_at]
    · rw [mu_ne (by omega), mu_ne (by omega), mu_ne (by omega), mu_ne (by omega), mu_ne (by omega), mu_ne (by omega), mu_at]
    · rw [mu_ne (by omega), mu_ne (by omega), mu_ne (by omega), mu_ne (by omega), mu_ne (by omega), mu_at]
    · rw [mu_ne (by omega), mu_ne (by omega), mu_ne (by omega), mu_ne (by omega), mu_at]
    · rw [mu_ne (by omega), mu_ne (by omega), mu_ne (by omega), mu_at]
    · rw [mu_ne (by omega), mu_ne (by omega), mu_at]
    · rw [mu_ne (by omega), mu_at]
    · rw [mu_at]
    · rw [mu_row (by omega), mu_row (by omega), mu_row (by omega), mu_row (by omega), mu_row (by omega), mu_row (by omega)]
    · rw [mu_ne (by omega), mu_ne (by omega), mu_ne (by omega), mu_ne (by omega), mu_ne (by omega), mu_ne (by omega)]
    · rw [mu_row (by omega), mu_row (by omega), mu_row (by omega), mu_row (by omega), mu_row (by omega)]
    · rw [mu_row (by omega), mu_row (by omega), mu_row (by omega), mu_row (by omega), mu_row (by omega)]
    · rw [mu_ne (by omega), mu_ne (by omega), mu_ne (by omega), mu_ne (by omega), mu_at]
    · rw [mu_row (by omega), mu_row (by omega), mu_row (by omega), mu_row (by omega)]
    · rw [mu_row (by omega), mu_row (by omega), mu_row (by omega), mu_row (by omega)]
    · rw [mu_row (by omega), mu_row (by omega), mu_row (by omega)]
    · rw [mu_row (by omega), mu_row (by omega), mu_row (by omega)]
    · rw [mu_row (by omega), mu_row (by omega)]
    · rw [mu_row (by omega), mu_row (by omega)]
    · rw [mu_row (by omega)]
    · rw [mu_row (by omega)]
    · rw [mu_at]
  refine fun _ => ⟨z_inN (t := 0) (by omega) (by omega), ?_⟩
  rw [i0, hA 0 (by omega), zB_0]
  unfold pn at fin
  cases z : A 0 with
  | none => rw [z] at fin; exact ⟨fun _ => fin, fun y => absurd rfl y⟩
  | some v =>
    rw [z] at fin
    refine ⟨fun y => absurd y (by simp), fun _ => ⟨z_inN (t := 0) (by omega) (by omega), ?_⟩⟩
    rw [hV 0 v (by omega) z]; exact fin
end
