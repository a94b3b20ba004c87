/-! tokens: the class's, whole -/
section
variable {SL : Nat} {xs : Nat → Int32} {d : Nat} {p s q : Nat} {Q : Option Value → mm_H → Prop}
theorem c_num_l {l : Nat} {T : Nat → Nat} : ∀ (f j c : Nat) (I : Nat → Nat → Int32) (J : Nat → Nat → Int64), j + f = l → TP l T I → I 4 7 = Int32.ofInt (j : Nat) → c + f ≤ 1200 → (∀ I2, fr4 I I2 J J → I2 4 3 = I 4 3 → I2 4 7 = Int32.ofInt (rn tD l T f j : Nat) → I2 4 4 = vF T (rn tD l T f j - j) j (I 4 4) → I2 4 2 = (if 4 < c + (rn tD l T f j - j) then Int32.ofInt 1 else if tL (if rn tD l T f j < l then T (rn tD l T f j) else 0) = true then Int32.ofInt 1 else Int32.ofInt 2) → Q none (hp p s q I2 J)) → w_X9_takeNumber_7 SL xs d p s q Q (Int32.ofInt (c : Nat)) I J
  | f, j, c, I, J, hf, hT, h7, hc, kq => by
    have hl := hT.1
    have stop : rn tD l T f j = j → (((Int32.ofInt 4) < Int32.ofInt (c : Nat) → Q none (hp p s q (mm_u I 4 2 (Int32.ofInt 1)) J)) ∧ (¬ ((Int32.ofInt 4) < Int32.ofInt (c : Nat)) → (mm_s SL xs (d + 1) 109 [.ref 4, .int (I 4 7)] (hp p s q I J) (fun r_ h_ => ∃ x1 I1 J1, r_ = some (.int x1) ∧ h_ = hp p s q I1 J1 ∧ (((sx_X9_isLetter x1) = Int32.ofInt 0 → Q none (hp p s q (mm_u I1 4 2 (Int32.ofInt 2)) J1)) ∧ (¬ ((sx_X9_isLetter x1) = Int32.ofInt 0) → Q none (hp p s q (mm_u I1 4 2 (Int32.ofInt 1)) J1))))))) := fun e => by
      rw [e, Nat.sub_self, Nat.add_zero] at kq
      have go : ∀ v : Int32, v = (if 4 < c then Int32.ofInt 1 else if tL (if j < l then T j else 0) = true then Int32.ofInt 1 else Int32.ofInt 2) → Q none (hp p s q (mm_u I 4 2 v) J) := fun v hv => kq _ ⟨fun r h => mu_row h, mu_ne (by omega), fun _ _ => rfl⟩ (mu_ne (by omega)) (by rw [mu_ne (by omega)]; exact h7) (by rw [mu_ne (by omega)]; rfl) (by rw [mu_at]; exact hv)
      have hb : (if j < l then T j else 0) < 256 := by
        by_cases z : j < l
        · rw [if_pos z]; have := (hT.2.2 j z).1; omega
        · rw [if_neg z]; omega
      rw [z_lt (by omega)]
      refine ⟨fun h => go _ (by rw [if_pos (by omega)]), fun h => ?_⟩
      rw [h7]
      refine c_byteAt hT (by omega) ⟨_, _, _, rfl, rfl, ?_⟩
      rw [tL_t ⟨_, hb⟩, zB_0]
      refine ⟨fun z => go _ ?_, fun z => go _ ?_⟩
      · rw [if_neg (by omega), if_neg (by rw [show tL (if j < l then T j else 0) = false from z]; decide)]
      · rw [if_neg (by omega), if_pos (by simpa using z)]
    refine sg_X9_takeNumber_7 ⟨fun h => ?_, fun h => ?_⟩
    · rw [hT.2.1, h7, z_le (by omega)] at h
      obtain rfl : f = 0 := by omega
      exact stop rfl
    · rw [hT.2.1, h7, z_le (by omega)] at h
      rw [h7]
      obtain ⟨t1, _⟩ := hT.2.2 j (by omega)
      refine c_byteAt hT (by omega) ⟨_, _, _, rfl, rfl, ?_⟩
      rw [if_pos (by omega), tD_t ⟨T j, by omega⟩, zB_0]
      match f, hf, hc, kq, stop with
      | 0, hf, hc, kq, stop => omega
      | f + 1, hf, hc, kq, stop =>
        refine ⟨fun hn => stop (rn_f (by show ¬ tD (T j) = true; rw [show tD (T j) = false from hn]; decide)), fun hn => ?_⟩
        have hn : tD (T j) = true := by simpa using hn
        rw [h7]
        refine c_byteAt hT (by omega) ⟨_, _, _, rfl, rfl, ?_⟩
        rw [if_pos (by omega), h7, z_p1, z_p1]
        rw [rn_t (by omega) hn] at kq
        have hr := rn_ge (P := tD) (l := l) (T := T) f (j + 1)
        have fr : fr4 I (mm_u (mm_u I 4 4 ((I 4 4) * Int32.ofInt 10 + Int32.ofInt (T j : Nat) - Int32.ofInt 48)) 4 7 (Int32.ofInt ((j + 1 : Nat) : Int))) J J := ⟨fun r h => by rw [mu_row h, mu_row h], by rw [mu_ne (by omega), mu_ne (by omega)], fun _ _ => rfl⟩
        refine c_num_l f (j + 1) (c + 1) _ J (by omega) (TP_f fr hT) mu_at (by omega) (fun I2 g1 g2 g3 g4 g5 => ?_)
        rw [mu_ne (by omega), mu_at] at g4
        have en : rn tD l T f (j + 1) - j = (rn tD l T f (j + 1) - (j + 1)) + 1 := by omega
        refine kq I2 (fr4_t fr g1) (by rw [g2, mu_ne (by omega), mu_ne (by omega)]) g3 (by rw [en, vF]; exact g4) ?_
        rw [g5, en, show c + 1 + (rn tD l T f (j + 1) - (j + 1)) = c + (rn tD l T f (j + 1) - (j + 1) + 1) by omega]
end
def tkW (l : Nat) (T : Nat → Nat) (j : Nat) : Nat := rn tL l T (l - j) j
def tkE (l : Nat) (T : Nat → Nat) (j : Nat) : Nat := rn tD l T (l - j) j
/-- the class's kind of the token at j, and where the next begins -/
def tkK (l : Nat) (T : Nat → Nat) (j : Nat) : Nat := if l ≤ j then 0 else if tL (T j) = true then (if tkW l T j - j ≤ 8 then kO (wF T (tkW l T j - j) j 0) 22 0 else 1) else if tD (T j) = true then (if 4 < tkE l T j - j then 1 else if tL (if tkE l T j < l then T (tkE l T j) else 0) = true then 1 else 2) else if tS (T j) = true then T j else 1
def tkN (l : Nat) (T : Nat → Nat) (j : Nat) : Nat := if l ≤ j then j else if tL (T j) = true then tkW l T j else if tD (T j) = true then tkE l T j else j + 1
def TKc (l : Nat) (T : Nat → Nat) (j : Nat) (I : Nat → Nat → Int32) (J : Nat → Nat → Int64) : Prop := I 4 3 = Int32.ofInt (j : Nat) ∧ I 4 2 = Int32.ofInt (tkK l T j : Nat) ∧ I 4 7 = Int32.ofInt (tkN l T j : Nat) ∧ (j < l → tD (T j) = true → I 4 4 = vF T (tkE l T j - j) j (Int32.ofInt 0)) ∧ (j < l → tL (T j) = true → J 4 5 = wF T (tkW l T j - j) j 0 ∧ I 4 6 = Int32.ofInt ((tkW l T j - j : Nat) : Int))
section
variable {SL : Nat} {xs : Nat → Int32} {d : Nat} {p s q : Nat} {Q : Option Value → mm_H → Prop}
theorem c_tok {l j : Nat} {T : Nat → Nat} {I : Nat → Nat → Int32} {J : Nat → Nat → Int64} (hj : j ≤ l) (hT : TP l T I) (ho : v_own (J 6)) (h7 : I 4 7 = Int32.ofInt (j : Nat)) (kq : ∀ I2 J2, fr4 I I2 J J2 → TKc l T j I2 J2 → Q none (hp p s q I2 J2)) : (mm_s SL xs (d + 2) 109 [.ref 4, .int (I 4 7)] (hp p s q (mm_u I 4 3 (I 4 7)) J) (fun r_ h_ => ∃ x1 I1 J1, r_ = some (.int x1) ∧ h_ = hp p s q I1 J1 ∧ (((I1 4 7) < (I1 4 1) → (((sx_X9_isLetter x1) = Int32.ofInt 0 → (((sx_X9_isDigit x1) = Int32.ofInt 0 → (((sy_X9_isSign x1 I1 J1) = Int32.ofInt 0 → Q none (hp p s q (mm_u (mm_u I1 4 2 (Int32.ofInt 1)) 4 7 ((I1 4 7) + (Int32.ofInt 1))) J1)) ∧ (¬ ((sy_X9_isSign x1 I1 J1) = Int32.ofInt 0) → Q none (hp p s q (mm_u (mm_u I1 4 2 x1) 4 7 ((I1 4 7) + (Int32.ofInt 1))) J1)))) ∧ (¬ ((sx_X9_isDigit x1) = Int32.ofInt 0) → (mm_s SL xs (d + 2) 107 [.ref 4] (hp p s q I1 J1) (fun r_ h_ => ∃ I2 J2, r_ = none ∧ h_ = hp p s q I2 J2 ∧ Q none (hp p s q I2 J2)))))) ∧ (¬ ((sx_X9_isLetter x1) = Int32.ofInt 0) → (mm_s SL xs (d + 2) 106 [.ref 4] (hp p s q I1 J1) (fun r_ h_ => ∃ I3 J3, r_ = none ∧ h_ = hp p s q I3 J3 ∧ Q none (hp p s q I3 J3)))))) ∧ (¬ ((I1 4 7) < (I1 4 1)) → Q none (hp p s q (mm_u I1 4 2 (Int32.ofInt 0)) J1))))) := by
  have hl := hT.1
  rw [h7]
  have f0 : fr4 I (mm_u I 4 3 (Int32.ofInt (j : Nat))) J J := ⟨fun r h => mu_row h, mu_ne (by omega), fun _ _ => rfl⟩
  have hT0 := TP_f f0 hT
  refine c_byteAt hT0 (by omega) ⟨_, _, _, rfl, rfl, ?_⟩
  have e7 : mm_u I 4 3 (Int32.ofInt (j : Nat)) 4 7 = Int32.ofInt (j : Nat) := by rw [mu_ne (by omega)]; exact h7
  have e3 : mm_u I 4 3 (Int32.ofInt (j : Nat)) 4 3 = Int32.ofInt (j : Nat) := mu_at
  generalize hI1 : mm_u I 4 3 (Int32.ofInt (j : Nat)) = I1 at f0 hT0 e7 e3 ⊢
  rw [e7, hT0.2.1, z_lt (by omega)]
  refine ⟨fun h => ?_, fun h => ?_⟩
  · have t1 := (hT.2.2 j (by omega)).1
    rw [if_pos (by omega), tL_t ⟨T j, by omega⟩, zB_0, tD_t ⟨T j, by omega⟩, zB_0, show sy_X9_isSign (Int32.ofInt (T j : Nat)) I1 J = zB (tS (T j)) from tS_t ⟨T j, by omega⟩, zB_0, z_p1]
    refine ⟨fun a => ⟨fun b => ⟨fun c => ?_, fun c => ?_⟩, fun b => ?_⟩, fun a => ?_⟩
    · refine kq _ J (fr4_t f0 ⟨fun r h => by rw [mu_row h, mu_row h], by rw [mu_ne (by omega), mu_ne (by omega)], fun _ _ => rfl⟩) ⟨by rw [mu_ne (by omega), mu_ne (by omega)]; exact e3, ?_, ?_, fun _ z => absurd z (by rw [b]; decide), fun _ z => absurd z (by rw [a]; decide)⟩
      · rw [mu_ne (by omega), mu_at, tkK, if_neg (by omega), if_neg (by rw [a]; decide), if_neg (by rw [b]; decide), if_neg (by rw [c]; decide)]; rfl
      · rw [mu_at, tkN, if_neg (by omega), if_neg (by rw [a]; decide), if_neg (by rw [b]; decide)]
    · have c : tS (T j) = true := by simpa using c
      refine kq _ J (fr4_t f0 ⟨fun r h => by rw [mu_row h, mu_row h], by rw [mu_ne (by omega), mu_ne (by omega)], fun _ _ => rfl⟩) ⟨by rw [mu_ne (by omega), mu_ne (by omega)]; exact e3, ?_, ?_, fun _ z => absurd z (by rw [b]; decide), fun _ z => absurd z (by rw [a]; decide)⟩
      · rw [mu_ne (by omega), mu_at, tkK, if_neg (by omega), if_neg (by rw [a]; decide), if_neg (by rw [b]; decide), if_pos c]
      · rw [mu_at, tkN, if_neg (by omega), if_neg (by rw [a]; decide), if_neg (by rw [b]; decide)]
    · have b : tD (T j) = true := by simpa using b
      refine sg_X9_takeNumber ?_
      have f1 : fr4 I1 (mm_u I1 4 4 (Int32.ofInt 0)) J J := ⟨fun r h => mu_row h, mu_ne (by omega), fun _ _ => rfl⟩
      refine c_num_l (l - j) j 0 _ J (by omega) (TP_f f1 hT0) (by rw [mu_ne (by omega)]; exact e7) (by omega) (fun I2 g1 g2 g3 g4 g5 => ⟨_, _, rfl, rfl, ?_⟩)
      refine kq I2 J (fr4_t f0 (fr4_t f1 g1)) ⟨by rw [g2, mu_ne (by omega)]; exact e3, ?_, ?_, fun _ _ => ?_, fun _ z => absurd z (by rw [a]; decide)⟩
      · have ek : tkK l T j = (if 4 < tkE l T j - j then 1 else if tL (if tkE l T j < l then T (tkE l T j) else 0) = true then 1 else 2) := by rw [tkK, if_neg (by omega), if_neg (by rw [a]; decide), if_pos b]
        rw [g5, Nat.zero_add, ek]
        show (if 4 < tkE l T j - j then Int32.ofInt 1 else if tL (if tkE l T j < l then T (tkE l T j) else 0) = true then Int32.ofInt 1 else Int32.ofInt 2) = _
        by_cases c1 : 4 < tkE l T j - j
        · rw [if_pos c1, if_pos c1]; rfl
        · rw [if_neg c1, if_neg c1]
          by_cases c2 : tL (if tkE l T j < l then T (tkE l T j) else 0) = true
          · rw [if_pos c2, if_pos c2]; rfl
          · rw [if_neg c2, if_neg c2]; rfl
      · rw [g3, tkN, if_neg (by omega), if_neg (by rw [a]; decide), if_pos b]; rfl
      · rw [g4, mu_at]; rfl
    · have a : tL (T j) = true := by simpa using a
      refine sg_X9_takeWord ?_
      have f1 : fr4 I1 (mm_u I1 4 6 (Int32.ofInt 0)) J (mm_u J 4 5 (Int64.ofInt 0)) := ⟨fun r h => mu_row h, mu_ne (by omega), fun r h => mu_row h⟩
      refine c_word_l (l - j) j 0 _ _ (by omega) (TP_f f1 hT0) (by rw [f1.2.2 6 (by omega)]; exact ho) (by rw [mu_ne (by omega)]; exact e7) mu_at (by omega) (fun I2 J2 g1 g2 g3 g4 g5 g6 => ⟨_, _, rfl, rfl, ?_⟩)
      rw [mu_at] at g5 g6
      refine kq I2 J2 (fr4_t f0 (fr4_t f1 g1)) ⟨by rw [g2, mu_ne (by omega)]; exact e3, ?_, ?_, fun _ z => ?_, fun _ _ => ⟨g5, ?_⟩⟩
      · have ek : tkK l T j = (if tkW l T j - j ≤ 8 then kO (wF T (tkW l T j - j) j 0) 22 0 else 1) := by rw [tkK, if_neg (by omega), if_pos a]
        rw [g6, Nat.zero_add, ek]
        show (if tkW l T j - j ≤ 8 then Int32.ofInt (kO (wF T (tkW l T j - j) j 0) 22 0 : Nat) else Int32.ofInt 1) = _
        by_cases c1 : tkW l T j - j ≤ 8
        · rw [if_pos c1, if_pos c1]
        · rw [if_neg c1, if_neg c1]; rfl
      · rw [g3, tkN, if_neg (by omega), if_pos a]; rfl
      · exfalso
        unfold tL at a
        unfold tD at z
        have a := of_decide_eq_true a
        have z := of_decide_eq_true z
        omega
      · rw [g4, Nat.zero_add]; rfl
  · have : j = l := by omega
    refine kq _ J (fr4_t f0 ⟨fun r h => mu_row h, mu_ne (by omega), fun _ _ => rfl⟩) ⟨by rw [mu_ne (by omega)]; exact e3, ?_, ?_, fun z _ => absurd z (by omega), fun z _ => absurd z (by omega)⟩
    · rw [mu_at, tkK, if_pos (by omega)]; rfl
    · rw [mu_ne (by omega), e7, tkN, if_pos (by omega)]
theorem c_advance {l : Nat} {T : Nat → Nat} : ∀ (f i : Nat) (I : Nat → Nat → Int32) (J : Nat → Nat → Int64), i + f = l → TP l T I → v_own (J 6) → I 4 7 = Int32.ofInt (i : Nat) → (∀ I2 J2, fr4 I I2 J J2 → TKc l T (rn tB l T f i) I2 J2 → Q none (hp p s q I2 J2)) → w_X9_advance_0 SL xs d p s q Q I J
  | f, i, I, J, hf, hT, ho, h7, kq => by
    have hl := hT.1
    refine sg_X9_advance_0 ⟨fun h => ?_, fun h => ?_⟩
    · rw [hT.2.1, h7, z_le (by omega)] at h
      obtain rfl : f = 0 := by omega
      exact c_tok (by omega) hT ho h7 kq
    · rw [hT.2.1, h7, z_le (by omega)] at h
      obtain ⟨t1, _⟩ := hT.2.2 i (by omega)
      rw [h7]
      refine c_byteAt hT (by omega) ⟨_, _, _, rfl, rfl, ?_⟩
      rw [if_pos (by omega), tB_t ⟨T i, by omega⟩, zB_0]
      match f, hf, kq with
      | 0, hf, kq => omega
      | f + 1, hf, kq =>
        refine ⟨fun hn => ?_, fun hn => ?_⟩
        · rw [rn_f (by show ¬ tB (T i) = true; rw [show tB (T i) = false from hn]; decide)] at kq
          exact c_tok (by omega) hT ho h7 kq
        · have hn : tB (T i) = true := by simpa using hn
          rw [rn_t (by omega) hn] at kq
          rw [h7, z_p1]
          have fr : fr4 I (mm_u I 4 7 (Int32.ofInt ((i + 1 : Nat) : Int))) J J := ⟨fun r h => mu_row h, mu_ne (by omega), fun _ _ => rfl⟩
          exact c_advance f (i + 1) _ J (by omega) (TP_f fr hT) ho mu_at (fun I2 J2 g1 g2 => kq I2 J2 (fr4_t fr g1) g2)
end
