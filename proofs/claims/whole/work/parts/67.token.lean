/-! tokens: the reference's, whole -/
def tkM (l : Nat) (T : Nat → Nat) (j : Nat) : Nat := if l ≤ j then 0 else if tL (T j) = true then (if tkW l T j - j ≤ 8 then 1 else 3) else if tD (T j) = true then (if 4 < tkE l T j - j then 3 else if tL (if tkE l T j < l then T (tkE l T j) else 0) = true then 3 else 2) else if tS (T j) = true then T j else 3
def TKm (l : Nat) (T : Nat → Nat) (j : Nat) (I : Nat → Nat → Int32) (J : Nat → Nat → Int64) : Prop := I 65 7 = Int32.ofInt (j : Nat) ∧ I 65 6 = Int32.ofInt (tkM l T j : Nat) ∧ (tkM l T j ≠ 3 → I 65 4 = Int32.ofInt (tkN l T j : Nat)) ∧ (j < l → tD (T j) = true → tkE l T j - j ≤ 4 → I 65 8 = vF T (tkE l T j - j) j (Int32.ofInt 0)) ∧ (j < l → tL (T j) = true → tkW l T j - j ≤ 8 → J 65 9 = mFw T (tkW l T j - j) j (Int64.ofInt 0) ∧ I 65 10 = Int32.ofInt ((tkW l T j - j : Nat) : Int))
theorem hLz {l i : Nat} {T : Nat → Nat} : (i < l ∧ tL (T i) = true) ↔ tL (if i < l then T i else 0) = true := by
  by_cases h : i < l
  · rw [if_pos h]; exact ⟨fun z => z.2, fun z => ⟨h, z⟩⟩
  · rw [if_neg h]; exact ⟨fun z => absurd z.1 h, fun z => absurd z (by decide)⟩
theorem hE {l i v : Nat} {T : Nat → Nat} {I : Nat → Nat → Int32} (hT : MTp l T I) (hv2 : v < 256) : (Int32.ofInt (hv l T i) = Int32.ofInt (v : Nat)) = (i < l ∧ T i = v) := by
  unfold hv
  by_cases h : i < l
  · have := (hT.2.2 i h).1
    rw [if_pos h, z_eq (by omega)]; exact propext ⟨fun z => ⟨h, by omega⟩, fun z => by rw [z.2]⟩
  · rw [if_neg h, z_eq (by omega)]; exact propext ⟨fun z => by omega, fun z => absurd z.1 h⟩
section
variable {SL : Nat} {xs : Nat → Int32} {d : Nat} {p s q : Nat} {Q : Option Value → mm_H → Prop}
theorem m_num_l {l j : Nat} {T : Nat → Nat} {J : Nat → Nat → Int64} {v1 : Int32} : ∀ (f c : Nat) (I : Nat → Nat → Int32), j + c + f = l → MTp l T I → I 65 4 = Int32.ofInt (j : Nat) → (∀ I2, fm I I2 J J → I2 65 7 = I 65 7 → I2 65 6 = (if 4 < rn tD l T f (j + c) - j then Int32.ofInt 3 else if tL (if rn tD l T f (j + c) < l then T (rn tD l T f (j + c)) else 0) = true then Int32.ofInt 3 else Int32.ofInt 2) → (¬ 4 < rn tD l T f (j + c) - j → I2 65 8 = vF T (rn tD l T f (j + c) - (j + c)) (j + c) (I 65 8)) → (¬ 4 < rn tD l T f (j + c) - j → ¬ tL (if rn tD l T f (j + c) < l then T (rn tD l T f (j + c)) else 0) = true → I2 65 4 = Int32.ofInt (rn tD l T f (j + c) : Nat)) → Q none (hp p s q I2 J)) → w_X11_token_149 SL xs d p s q Q v1 (Int32.ofInt (c : Nat)) I J
  | f, c, I, hf, hT, h4, kq => by
    have hl := hT.1
    refine sg_X11_token_149 ?_
    refine m_here hT h4 (by omega) ⟨_, _, _, rfl, rfl, ?_⟩
    rw [hD hT, z_lt (by omega), z_le (by omega), z_p1]
    have hsub : j + c - j = c := by omega
    refine ⟨fun hn => ?_, fun hn => ?_⟩
    · have e : rn tD l T f (j + c) = j + c := by
        match f, hf with
        | 0, _ => rfl
        | f + 1, hf => exact rn_f (fun z => hn ⟨by omega, z⟩)
      rw [e, hsub, Nat.sub_self] at kq
      refine ⟨fun h => ?_, fun h => ?_⟩
      · exact kq _ (fm_I (k := 6) (by omega)) (mu_ne (by omega)) (by rw [mu_at, if_pos (by omega)]) (fun z => absurd (by omega) z) (fun z => absurd (by omega) z)
      · refine m_here hT h4 (by omega) ⟨_, _, _, rfl, rfl, ?_⟩
        rw [hL hT, hLz]
        refine ⟨fun z => ?_, fun z => ?_⟩
        · refine kq _ (fm_t (fm_I (k := 6) (by omega)) (fm_I (k := 4) (by omega))) (by rw [mu_ne (by omega), mu_ne (by omega)]) (by rw [mu_ne (by omega), mu_at, if_neg (by omega), if_neg z]) (fun _ => by rw [mu_ne (by omega), mu_ne (by omega)]; rfl) (fun _ _ => ?_)
          rw [mu_at, h4, z_add]; rfl
        · have z := Classical.not_not.mp z
          exact kq _ (fm_I (k := 6) (by omega)) (mu_ne (by omega)) (by rw [mu_at, if_neg (by omega), if_pos z]) (fun _ => by rw [mu_ne (by omega)]; rfl) (fun _ z2 => absurd z z2)
    · have hn := Classical.not_not.mp hn
      match f, hf, kq with
      | 0, hf, kq => omega
      | f + 1, hf, kq =>
        rw [rn_t hn.1 hn.2] at kq
        have hr2 := rn_ge (P := tD) (l := l) (T := T) f (j + (c + 1))
        have ej : j + c + 1 = j + (c + 1) := by omega
        rw [ej] at kq
        refine ⟨fun h => m_num_l f (c + 1) I (by omega) hT h4 (fun I2 g1 g2 g3 g4 g5 => kq I2 g1 g2 g3 (fun z => absurd (by omega) z) g5), fun h => ?_⟩
        refine m_here hT h4 (by omega) ⟨_, _, _, rfl, rfl, ?_⟩
        have f8 : fm I (mm_u I 65 8 ((Int32.ofInt 10 * I 65 8 + Int32.ofInt (hv l T (j + c))) - Int32.ofInt 48)) J J := fm_I (k := 8) (by omega)
        refine m_num_l f (c + 1) _ (by omega) (MTp_f f8 hT) (by rw [mu_ne (by omega)]; exact h4) (fun I2 g1 g2 g3 g4 g5 => kq I2 (fm_t f8 g1) (by rw [g2, mu_ne (by omega)]) g3 (fun z => ?_) g5)
        have g7 := g4 z
        rw [mu_at] at g7
        rw [show rn tD l T f (j + (c + 1)) - (j + c) = (rn tD l T f (j + (c + 1)) - (j + (c + 1))) + 1 by omega, vF, ej, g7]
        unfold hv
        rw [if_pos hn.1, Int32.mul_comm]
theorem m_token {l : Nat} {T : Nat → Nat} : ∀ (f i : Nat) (I : Nat → Nat → Int32) (J : Nat → Nat → Int64), i + f = l → MTp l T I → I 65 4 = Int32.ofInt (i : Nat) → (∀ I2 J2, fm I I2 J J2 → TKm l T (rn tB l T f i) I2 J2 → Q none (hp p s q I2 J2)) → w_X11_token_0 SL xs d p s q Q I J
  | f, i, I, J, hf, hT, h4, kq => by
    have hl := hT.1
    have z0 : hv l T (i + 0) = hv l T i := rfl
    have adv : i < l → tB (T i) = true → w_X11_token_0 SL xs d p s q Q (mm_u I 65 4 (Int32.ofInt (i : Nat) + Int32.ofInt 1)) J := fun h1 h2 => by
      rw [z_p1]
      match f, hf, kq with
      | 0, hf, kq => omega
      | f + 1, hf, kq =>
        rw [rn_t h1 h2] at kq
        have f4 : fm I (mm_u I 65 4 (Int32.ofInt ((i + 1 : Nat) : Int))) J J := fm_I (by omega)
        exact m_token f (i + 1) _ J (by omega) (MTp_f f4 hT) mu_at (fun I2 J2 g1 g2 => kq I2 J2 (fm_t f4 g1) g2)
    refine sg_X11_token_0 ?_
    refine m_here (c := 0) hT h4 (by omega) ⟨_, _, _, rfl, rfl, ?_⟩
    rw [z0, show Int32.ofInt 32 = Int32.ofInt ((32 : Nat) : Int) from rfl, hE hT (by omega), h4]
    refine ⟨fun h => adv h.1 (by rw [h.2]; decide), fun h32 => ?_⟩
    refine m_here (c := 0) hT h4 (by omega) ⟨_, _, _, rfl, rfl, ?_⟩
    rw [z0, show Int32.ofInt 10 = Int32.ofInt ((10 : Nat) : Int) from rfl, hE hT (by omega), h4]
    refine ⟨fun h => adv h.1 (by rw [h.2]; decide), fun h10 => ?_⟩
    have e : rn tB l T f i = i := by
      match f, hf with
      | 0, _ => rfl
      | f + 1, hf => exact rn_f (fun z => by
          have z := of_decide_eq_true z
          rcases z with z | z
          · exact h32 ⟨by omega, z⟩
          · exact h10 ⟨by omega, z⟩)
    rw [e] at kq
    have f7 : fm I (mm_u I 65 7 (Int32.ofInt (i : Nat))) J J := fm_I (by omega)
    have hT7 := MTp_f f7 hT
    have e4 : mm_u I 65 7 (Int32.ofInt (i : Nat)) 65 4 = Int32.ofInt (i : Nat) := by rw [mu_ne (by omega)]; exact h4
    have e7 : mm_u I 65 7 (Int32.ofInt (i : Nat)) 65 7 = Int32.ofInt (i : Nat) := mu_at
    generalize mm_u I 65 7 (Int32.ofInt (i : Nat)) = I1 at f7 hT7 e4 e7 ⊢
    refine m_here (c := 0) hT7 e4 (by omega) ⟨_, _, _, rfl, rfl, ?_⟩
    rw [z0]
    have f8 : fm I1 (mm_u I1 65 8 (Int32.ofInt 0)) J (mm_u J 65 9 (Int64.ofInt 0)) := fm_t (fm_I (by omega)) fm_J
    refine ⟨fun h => ?_, fun h => ?_⟩
    · have hi : i < l := by
        rcases Nat.lt_or_ge i l with z | z
        · exact z
        · exfalso
          unfold hv at h
          rw [if_neg (by omega), z_le (by omega)] at h; omega
      have t1 := (hT.2.2 i hi).1
      rw [hL hT7, hD hT7, show hv l T i = ((T i : Nat) : Int) from if_pos hi, tS_m ⟨T i, by omega⟩, zB_0]
      refine ⟨fun a => ⟨fun b => ⟨fun c => ?_, fun c => ?_⟩, fun b => ?_⟩, fun a => ?_⟩
      · have a' : ¬ tL (T i) = true := fun z => a ⟨hi, z⟩
        have b' : ¬ tD (T i) = true := fun z => b ⟨hi, z⟩
        have c' : ¬ tS (T i) = true := by rw [show tS (T i) = false from c]; decide
        have ek : tkM l T i = 3 := by rw [tkM, if_neg (by omega), if_neg a', if_neg b', if_neg c']
        exact kq _ _ (fm_t f7 (fm_t f8 (fm_I (k := 6) (by omega)))) ⟨by rw [mu_ne (by omega), mu_ne (by omega)]; exact e7, by rw [mu_at, ek]; rfl, fun z => absurd ek z, fun _ z => absurd z b', fun _ z => absurd z a'⟩
      · have a' : ¬ tL (T i) = true := fun z => a ⟨hi, z⟩
        have b' : ¬ tD (T i) = true := fun z => b ⟨hi, z⟩
        have c' : tS (T i) = true := by simpa using c
        have ek : tkM l T i = T i := by rw [tkM, if_neg (by omega), if_neg a', if_neg b', if_pos c']
        have en : tkN l T i = i + 1 := by rw [tkN, if_neg (by omega), if_neg a', if_neg b']
        refine ⟨fun z => ?_, fun _ => ?_⟩
        · exfalso
          rw [z_eq (by omega)] at z
          have c2 := of_decide_eq_true c'
          omega
        · exact kq _ _ (fm_t f7 (fm_t f8 (fm_t (fm_I (k := 6) (by omega)) (fm_I (k := 4) (by omega))))) ⟨by rw [mu_ne (by omega), mu_ne (by omega), mu_ne (by omega)]; exact e7, by rw [mu_ne (by omega), mu_at, ek], fun z => by rw [mu_at, e4, z_p1, en], fun _ z => absurd z b', fun _ z => absurd z a'⟩
      · have a' : ¬ tL (T i) = true := fun z => a ⟨hi, z⟩
        have b' := (Classical.not_not.mp b).2
        have ek : tkM l T i = (if 4 < tkE l T i - i then 3 else if tL (if tkE l T i < l then T (tkE l T i) else 0) = true then 3 else 2) := by rw [tkM, if_neg (by omega), if_neg a', if_pos b']
        have en : tkN l T i = tkE l T i := by rw [tkN, if_neg (by omega), if_neg a', if_pos b']
        have ee : rn tD l T (l - i) (i + 0) = tkE l T i := rfl
        refine m_num_l (j := i) (l - i) 0 _ (by omega) (MTp_f f8 hT7) (by rw [mu_ne (by omega)]; exact e4) (fun I2 g1 g2 g3 g4 g5 => ?_)
        rw [ee] at g3 g4 g5
        refine kq I2 _ (fm_t f7 (fm_t f8 g1)) ⟨by rw [g2, mu_ne (by omega)]; exact e7, ?_, fun z => ?_, fun _ _ z => ?_, fun _ z => absurd z a'⟩
        · rw [g3, ek]
          by_cases c1 : 4 < tkE l T i - i
          · rw [if_pos c1, if_pos c1]; rfl
          · rw [if_neg c1, if_neg c1]
            by_cases c2 : tL (if tkE l T i < l then T (tkE l T i) else 0) = true
            · rw [if_pos c2, if_pos c2]; rfl
            · rw [if_neg c2, if_neg c2]; rfl
        · have c1 : ¬ 4 < tkE l T i - i := fun q => z (by rw [ek, if_pos q])
          have c2 : ¬ tL (if tkE l T i < l then T (tkE l T i) else 0) = true := fun q => z (by rw [ek, if_neg c1, if_pos q])
          rw [g5 c1 c2, en]
        · have := g4 (by omega)
          rw [mu_at] at this
          exact this
      · have a' := (Classical.not_not.mp a).2
        have b' : ¬ tD (T i) = true := fun z => by
          have a2 := of_decide_eq_true a'
          have z2 := of_decide_eq_true z
          omega
        have ek : tkM l T i = (if tkW l T i - i ≤ 8 then 1 else 3) := by rw [tkM, if_neg (by omega), if_pos a']
        have en : tkN l T i = tkW l T i := by rw [tkN, if_neg (by omega), if_pos a']
        have ee : rn tL l T (l - i) (i + 0) = tkW l T i := rfl
        refine m_word_l (j := i) (MTp_f f8 hT7) (by rw [mu_ne (by omega)]; exact e4) (l - i) 0 _ (by omega) (fun I2 J2 g1 g2 g3 g4 g5 g6 => ?_)
        rw [ee] at g4 g5 g6
        refine kq I2 J2 (fm_t f7 (fm_t f8 g1)) ⟨by rw [g2, mu_ne (by omega)]; exact e7, ?_, fun z => ?_, fun _ z => absurd z b', fun _ _ z => ⟨?_, g4⟩⟩
        · rw [g5, ek]
          by_cases c1 : tkW l T i - i ≤ 8
          · rw [if_pos c1, if_pos c1]; rfl
          · rw [if_neg c1, if_neg c1]; rfl
        · have c1 : tkW l T i - i ≤ 8 := by
            rcases Nat.lt_or_ge 8 (tkW l T i - i) with q | q
            · exact absurd (by rw [ek, if_neg (by omega)]) z
            · exact q
          rw [(g6 c1).1, en]
        · have := (g6 z).2
          rw [mu_at] at this
          exact this
    · have hi : ¬ i < l := fun z => h (by
        have t1 := (hT.2.2 i z).1
        rw [show hv l T i = ((T i : Nat) : Int) from if_pos z, z_le (by omega)]; omega)
      have ek : tkM l T i = 0 := by rw [tkM, if_pos (by omega)]
      have en : tkN l T i = i := by rw [tkN, if_pos (by omega)]
      refine kq _ _ (fm_t f7 (fm_t f8 (fm_t (fm_I (k := 6) (by omega)) (fm_I (k := 4) (by omega))))) ⟨by rw [mu_ne (by omega), mu_ne (by omega), mu_ne (by omega)]; exact e7, by rw [mu_ne (by omega), mu_at, ek]; rfl, fun z => ?_, fun z _ => absurd z hi, fun z _ => absurd z hi⟩
      rw [mu_at, e4, en, z_add]; congr 1
end
