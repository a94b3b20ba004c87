/-! tokens: the reference's -/
def mFw (T : Nat → Nat) : Nat → Nat → Int64 → Int64
  | 0, _, w => w
  | n + 1, j, w => mFw T n (j + 1) ((w <<< ((Int32.ofInt 8).toInt64 &&& 63)) ||| (Int32.ofInt (T j : Nat)).toInt64)
def MTp (l : Nat) (T : Nat → Nat) (I : Nat → Nat → Int32) : Prop := l ≤ 1200 ∧ I 65 5 = Int32.ofInt (l : Nat) ∧ ∀ i, i < l → T i ≤ 255 ∧ I 66 i = Int32.ofInt (T i : Nat)
def fm (I I2 : Nat → Nat → Int32) (J J2 : Nat → Nat → Int64) : Prop := (∀ r, r ≠ 65 → I2 r = I r) ∧ (∀ k, k < 4 ∨ k = 5 ∨ 10 < k → I2 65 k = I 65 k) ∧ (∀ r, r ≠ 65 → J2 r = J r) ∧ ∀ k, k ≠ 9 → J2 65 k = J 65 k
theorem fm_r {I : Nat → Nat → Int32} {J : Nat → Nat → Int64} : fm I I J J := ⟨fun _ _ => rfl, fun _ _ => rfl, fun _ _ => rfl, fun _ _ => rfl⟩
theorem fm_t {I I2 I3 : Nat → Nat → Int32} {J J2 J3 : Nat → Nat → Int64} (a : fm I I2 J J2) (b : fm I2 I3 J2 J3) : fm I I3 J J3 := ⟨fun r h => by rw [b.1 r h, a.1 r h], fun k h => by rw [b.2.1 k h, a.2.1 k h], fun r h => by rw [b.2.2.1 r h, a.2.2.1 r h], fun k h => by rw [b.2.2.2 k h, a.2.2.2 k h]⟩
theorem fm_I {I : Nat → Nat → Int32} {J : Nat → Nat → Int64} {k : Nat} {v : Int32} (hk : k = 4 ∨ (6 ≤ k ∧ k ≤ 10)) : fm I (mm_u I 65 k v) J J := ⟨fun r h => mu_row h, fun j h => mu_ne (by omega), fun _ _ => rfl, fun _ _ => rfl⟩
theorem fm_J {I : Nat → Nat → Int32} {J : Nat → Nat → Int64} {v : Int64} : fm I I J (mm_u J 65 9 v) := ⟨fun _ _ => rfl, fun _ _ => rfl, fun r h => mu_row h, fun k h => mu_ne h⟩
theorem MTp_f {l : Nat} {T : Nat → Nat} {I I2 : Nat → Nat → Int32} {J J2 : Nat → Nat → Int64} (f : fm I I2 J J2) (h : MTp l T I) : MTp l T I2 := ⟨h.1, by rw [f.2.1 5 (by omega)]; exact h.2.1, fun i hi => by rw [f.1 66 (by omega)]; exact h.2.2 i hi⟩
def hv (l : Nat) (T : Nat → Nat) (i : Nat) : Int := if i < l then (T i : Nat) else -1
section
variable {SL : Nat} {xs : Nat → Int32} {d : Nat} {p s q : Nat} {Q : Option Value → mm_H → Prop}
theorem m_here {l j c : Nat} {T : Nat → Nat} {I : Nat → Nat → Int32} {J : Nat → Nat → Int64} (hT : MTp l T I) (h4 : I 65 4 = Int32.ofInt (j : Nat)) (hj : j + c ≤ 100000) (k : Q (some (.int (Int32.ofInt (hv l T (j + c))))) (hp p s q I J)) : mm_s SL xs (d + 1) 168 [.ref 65, .int (Int32.ofInt (c : Nat))] (hp p s q I J) Q := by
  obtain ⟨h1, h2, h3⟩ := hT
  have e : Int32.ofInt (j : Nat) + Int32.ofInt (c : Nat) = Int32.ofInt ((j + c : Nat) : Int) := by rw [z_add]; rfl
  unfold hv at k
  refine sg_X11_here ?_
  rw [h4, h2, e, z_le (by omega)]
  refine ⟨fun h => ?_, fun h => ⟨z_inN (by omega) (by omega), ?_⟩⟩
  · rw [if_neg (by omega)] at k; exact k
  · rw [if_pos (by omega)] at k
    rw [z_ixN (by omega), (h3 (j + c) (by omega)).2]; exact k
theorem hL {l i : Nat} {T : Nat → Nat} {I : Nat → Nat → Int32} (hT : MTp l T I) : (sx_X11_isLetter (Int32.ofInt (hv l T i)) = Int32.ofInt 0) = ¬ (i < l ∧ tL (T i) = true) := by
  unfold hv
  by_cases h : i < l
  · have := (hT.2.2 i h).1
    rw [if_pos h, tL_m ⟨T i, by omega⟩, zB_0]
    exact propext ⟨fun z q => by rw [show tL (T i) = false from z] at q; exact absurd q.2 (by decide), fun z => by
      cases e : tL (T i)
      · rfl
      · exact absurd ⟨h, e⟩ z⟩
  · rw [if_neg h]
    exact propext ⟨fun _ q => h q.1, fun _ => by decide⟩
theorem hD {l i : Nat} {T : Nat → Nat} {I : Nat → Nat → Int32} (hT : MTp l T I) : (sx_X11_isDigit (Int32.ofInt (hv l T i)) = Int32.ofInt 0) = ¬ (i < l ∧ tD (T i) = true) := by
  unfold hv
  by_cases h : i < l
  · have := (hT.2.2 i h).1
    rw [if_pos h, tD_m ⟨T i, by omega⟩, zB_0]
    exact propext ⟨fun z q => by rw [show tD (T i) = false from z] at q; exact absurd q.2 (by decide), fun z => by
      cases e : tD (T i)
      · rfl
      · exact absurd ⟨h, e⟩ z⟩
  · rw [if_neg h]
    exact propext ⟨fun _ q => h q.1, fun _ => by decide⟩
theorem m_word_l {l j : Nat} {T : Nat → Nat} {I : Nat → Nat → Int32} {v1 : Int32} (hT : MTp l T I) (h4 : I 65 4 = Int32.ofInt (j : Nat)) : ∀ (f c : Nat) (J : Nat → Nat → Int64), j + c + f = l → (∀ I2 J2, fm I I2 J J2 → I2 65 7 = I 65 7 → I2 65 8 = I 65 8 → I2 65 10 = Int32.ofInt ((rn tL l T f (j + c) - j : Nat) : Int) → I2 65 6 = (if rn tL l T f (j + c) - j ≤ 8 then Int32.ofInt 1 else Int32.ofInt 3) → (rn tL l T f (j + c) - j ≤ 8 → I2 65 4 = Int32.ofInt (rn tL l T f (j + c) : Nat) ∧ J2 65 9 = mFw T (rn tL l T f (j + c) - (j + c)) (j + c) (J 65 9)) → Q none (hp p s q I2 J2)) → w_X11_token_78 SL xs d p s q Q v1 (Int32.ofInt (c : Nat)) I J
  | f, c, J, hf, kq => by
    have hl := hT.1
    refine sg_X11_token_78 ?_
    refine m_here hT h4 (by omega) ⟨_, _, _, rfl, rfl, ?_⟩
    rw [hL hT, z_le (by omega), z_le (by omega), z_p1]
    have hsub : j + c - j = c := by omega
    refine ⟨fun hn => ?_, fun hn => ?_⟩
    · have e : rn tL l T f (j + c) = j + c := by
        match f, hf with
        | 0, _ => rfl
        | f + 1, hf => exact rn_f (fun z => hn ⟨by omega, z⟩)
      rw [e, hsub, Nat.sub_self] at kq
      refine ⟨fun h => ?_, fun h => ?_⟩
      · refine kq _ J (fm_t (fm_I (k := 10) (by omega)) (fm_t (fm_I (k := 6) (by omega)) (fm_I (k := 4) (by omega)))) (by rw [mu_ne (by omega), mu_ne (by omega), mu_ne (by omega)]) (by rw [mu_ne (by omega), mu_ne (by omega), mu_ne (by omega)]) (by rw [mu_ne (by omega), mu_ne (by omega), mu_at]) (by rw [mu_ne (by omega), mu_at, if_pos (by omega)]) (fun _ => ⟨?_, rfl⟩)
        rw [mu_at, h4, z_add]; rfl
      · exact kq _ J (fm_t (fm_I (k := 10) (by omega)) (fm_I (k := 6) (by omega))) (by rw [mu_ne (by omega), mu_ne (by omega)]) (by rw [mu_ne (by omega), mu_ne (by omega)]) (by rw [mu_ne (by omega), mu_at]) (by rw [mu_at, if_neg (by omega)]) (fun z => absurd z (by omega))
    · have hn := Classical.not_not.mp hn
      match f, hf, kq with
      | 0, hf, kq => omega
      | f + 1, hf, kq =>
        rw [rn_t hn.1 hn.2] at kq
        have hr := rn_ge (P := tL) (l := l) (T := T) f (j + c + 1)
        have hr2 := rn_ge (P := tL) (l := l) (T := T) f (j + (c + 1))
        have ej : j + c + 1 = j + (c + 1) := by omega
        rw [ej] at kq
        refine ⟨fun h => m_word_l hT h4 f (c + 1) J (by omega) (fun I2 J2 g1 g2 g3 g4 g5 g6 => kq I2 J2 g1 g2 g3 g4 g5 (fun z => absurd z (by omega))), fun h => ?_⟩
        refine m_here hT h4 (by omega) ⟨_, _, _, rfl, rfl, ?_⟩
        refine m_word_l hT h4 f (c + 1) _ (by omega) (fun I2 J2 g1 g2 g3 g4 g5 g6 => kq I2 J2 (fm_t fm_J g1) g2 g3 g4 g5 (fun z => ⟨(g6 z).1, ?_⟩))
        have g7 := (g6 z).2
        rw [mu_at] at g7
        rw [show rn tL l T f (j + (c + 1)) - (j + c) = (rn tL l T f (j + (c + 1)) - (j + (c + 1))) + 1 by omega, mFw, ej, g7]
        unfold hv
        rw [if_pos hn.1]
end
