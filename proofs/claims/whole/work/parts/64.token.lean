/-! tokens: what both readers see, and the class's -/
def tL (b : Nat) : Bool := decide (97 ≤ b ∧ b ≤ 122)
def tD (b : Nat) : Bool := decide (48 ≤ b ∧ b ≤ 57)
def tB (b : Nat) : Bool := decide (b = 32 ∨ b = 10)
def tS (b : Nat) : Bool := decide (b = 40 ∨ b = 41 ∨ b = 42 ∨ b = 43 ∨ b = 45 ∨ b = 47 ∨ b = 59 ∨ b = 60 ∨ b = 61 ∨ b = 62)
theorem tL_t : ∀ b : Fin 256, sx_X9_isLetter (Int32.ofInt (b.val : Nat)) = zB (tL b.val) := by decide +kernel
theorem tD_t : ∀ b : Fin 256, sx_X9_isDigit (Int32.ofInt (b.val : Nat)) = zB (tD b.val) := by decide +kernel
theorem tB_t : ∀ b : Fin 256, sx_X9_isBlank (Int32.ofInt (b.val : Nat)) = zB (tB b.val) := by decide +kernel
theorem tS_t : ∀ b : Fin 256, sy_X9_isSign (Int32.ofInt (b.val : Nat)) (fun _ _ => 0) (fun _ _ => 0) = zB (tS b.val) := by decide +kernel
theorem tL_m : ∀ b : Fin 256, sx_X11_isLetter (Int32.ofInt (b.val : Nat)) = zB (tL b.val) := by decide +kernel
theorem tD_m : ∀ b : Fin 256, sx_X11_isDigit (Int32.ofInt (b.val : Nat)) = zB (tD b.val) := by decide +kernel
theorem tS_m : ∀ b : Fin 256, sx_X11_isSign (Int32.ofInt (b.val : Nat)) = zB (tS b.val) := by decide +kernel
/-- where a run of signs ends -/
def rn (P : Nat → Bool) (l : Nat) (T : Nat → Nat) : Nat → Nat → Nat
  | 0, j => j
  | f + 1, j => if j < l ∧ P (T j) = true then rn P l T f (j + 1) else j
theorem rn_t {P : Nat → Bool} {l f j : Nat} {T : Nat → Nat} (h : j < l) (h2 : P (T j) = true) : rn P l T (f + 1) j = rn P l T f (j + 1) := by rw [rn, if_pos ⟨h, h2⟩]
theorem rn_f {P : Nat → Bool} {l f j : Nat} {T : Nat → Nat} (h2 : ¬ P (T j) = true) : rn P l T (f + 1) j = j := by rw [rn, if_neg (fun z => h2 z.2)]
theorem rn_ge {P : Nat → Bool} {l : Nat} {T : Nat → Nat} : ∀ f j, j ≤ rn P l T f j ∧ rn P l T f j ≤ j + f
  | 0, j => ⟨Nat.le_refl j, Nat.le_refl j⟩
  | f + 1, j => by
    rw [rn]
    split
    · have := rn_ge (P := P) (l := l) (T := T) f (j + 1); omega
    · omega
/-- the letters of a word, packed as the class packs them -/
def wF (T : Nat → Nat) : Nat → Nat → Int64 → Int64
  | 0, _, w => w
  | n + 1, j, w => wF T n (j + 1) (sx_X9_withLetter w (Int32.ofInt (T j : Nat)))
def vF (T : Nat → Nat) : Nat → Nat → Int32 → Int32
  | 0, _, v => v
  | n + 1, j, v => vF T n (j + 1) (v * Int32.ofInt 10 + Int32.ofInt (T j : Nat) - Int32.ofInt 48)
def kO (w : Int64) : Nat → Nat → Nat
  | 0, _ => 3
  | f + 1, i => if Int64.ofInt (ownL.getD i 0) = w then 128 + i else kO w f (i + 1)
def TP (l : Nat) (T : Nat → Nat) (I : Nat → Nat → Int32) : Prop := l ≤ 1200 ∧ I 4 1 = Int32.ofInt (l : Nat) ∧ ∀ i, i < l → T i ≤ 255 ∧ I 5 i &&& Int32.ofInt 255 = Int32.ofInt (T i : Nat)
def fr4 (I I2 : Nat → Nat → Int32) (J J2 : Nat → Nat → Int64) : Prop := (∀ r, r ≠ 4 → I2 r = I r) ∧ I2 4 1 = I 4 1 ∧ ∀ r, r ≠ 4 → J2 r = J r
theorem fr4_r {I : Nat → Nat → Int32} {J : Nat → Nat → Int64} : fr4 I I J J := ⟨fun _ _ => rfl, rfl, fun _ _ => rfl⟩
theorem fr4_t {I I2 I3 : Nat → Nat → Int32} {J J2 J3 : Nat → Nat → Int64} (a : fr4 I I2 J J2) (b : fr4 I2 I3 J2 J3) : fr4 I I3 J J3 := ⟨fun r h => by rw [b.1 r h, a.1 r h], by rw [b.2.1, a.2.1], fun r h => by rw [b.2.2 r h, a.2.2 r h]⟩
theorem TP_f {l : Nat} {T : Nat → Nat} {I I2 : Nat → Nat → Int32} {J J2 : Nat → Nat → Int64} (f : fr4 I I2 J J2) (h : TP l T I) : TP l T I2 := ⟨h.1, by rw [f.2.1]; exact h.2.1, fun i hi => by rw [f.1 5 (by omega)]; exact h.2.2 i hi⟩
section
variable {SL : Nat} {xs : Nat → Int32} {d : Nat} {p s q : Nat} {Q : Option Value → mm_H → Prop}
theorem c_byteAt {l j : Nat} {T : Nat → Nat} {I : Nat → Nat → Int32} {J : Nat → Nat → Int64} (hT : TP l T I) (hj : j ≤ 1200) (k : Q (some (.int (Int32.ofInt ((if j < l then T j else 0 : Nat) : Int)))) (hp p s q I J)) : mm_s SL xs (d + 1) 109 [.ref 4, .int (Int32.ofInt (j : Nat))] (hp p s q I J) Q := by
  obtain ⟨h1, h2, h3⟩ := hT
  refine sg_X9_byteAt ⟨fun h => ?_, fun _ => ⟨fun h => ?_, fun h => ⟨fun h4 => ?_, fun h4 => ⟨z_inN ?_ (by omega), ?_⟩⟩⟩⟩
  · rw [z_lt (by omega)] at h; omega
  · rw [h2, z_le (by omega)] at h
    rw [if_neg (by omega)] at k; exact k
  · rw [h2, z_le (by omega)] at h
    rw [z_le (by omega)] at h4; omega
  · rw [z_le (by omega)] at h4; omega
  · rw [h2, z_le (by omega)] at h
    rw [if_pos (by omega)] at k
    rw [z_ixN (by omega), (h3 j (by omega)).2]; exact k
theorem c_kindOf {I : Nat → Nat → Int32} {J : Nat → Nat → Int64} {w : Int64} (ho : v_own (J 6)) : ∀ f i, i + f = 22 → Q (some (.int (Int32.ofInt (kO w f i : Nat)))) (hp p s q I J) → w_X9_kindOf_2 SL xs d p s q Q w (Int32.ofInt (i : Nat)) I J
  | 0, i, hf, k => by
    refine sg_X9_kindOf_2 ⟨fun _ => k, fun h => absurd (by rw [z_le (by omega)]; omega) h⟩
  | f + 1, i, hf, k => by
    refine sg_X9_kindOf_2 ⟨fun h => ?_, fun _ => ⟨z_inN (by omega) (by omega), ?_⟩⟩
    · rw [z_le (by omega)] at h; omega
    · rw [z_ixN (by omega), ho i (by omega), z_p1, z_add]
      refine ⟨fun h => ?_, fun h => ?_⟩
      · rw [kO, if_pos h] at k; exact k
      · rw [kO, if_neg h] at k
        exact c_kindOf ho f (i + 1) (by omega) k
theorem c_word_l {l : Nat} {T : Nat → Nat} : ∀ (f j c : Nat) (I : Nat → Nat → Int32) (J : Nat → Nat → Int64), j + f = l → TP l T I → v_own (J 6) → I 4 7 = Int32.ofInt (j : Nat) → I 4 6 = Int32.ofInt (c : Nat) → c + f ≤ 1200 → (∀ I2 J2, fr4 I I2 J J2 → I2 4 3 = I 4 3 → I2 4 7 = Int32.ofInt (rn tL l T f j : Nat) → I2 4 6 = Int32.ofInt ((c + (rn tL l T f j - j) : Nat) : Int) → J2 4 5 = wF T (rn tL l T f j - j) j (J 4 5) → I2 4 2 = (if c + (rn tL l T f j - j) ≤ 8 then Int32.ofInt (kO (wF T (rn tL l T f j - j) j (J 4 5)) 22 0 : Nat) else Int32.ofInt 1) → Q none (hp p s q I2 J2)) → w_X9_takeWord_10 SL xs d p s q Q I J
  | f, j, c, I, J, hf, hT, ho, h7, h6, hc, kq => by
    have stop : rn tL l T f j = j → (((I 4 6) ≤ (Int32.ofInt 8) → (mm_s SL xs (d + 1) 108 [.ref 4, .long (J 4 5)] (hp p s q I J) (fun r_ h_ => ∃ x1 I1 J1, r_ = some (.int x1) ∧ h_ = hp p s q I1 J1 ∧ Q none (hp p s q (mm_u I1 4 2 x1) J1)))) ∧ (¬ ((I 4 6) ≤ (Int32.ofInt 8)) → Q none (hp p s q (mm_u I 4 2 (Int32.ofInt 1)) J))) := fun e => by
      rw [e, Nat.sub_self, Nat.add_zero] at kq
      have fr : ∀ v : Int32, fr4 I (mm_u I 4 2 v) J J := fun v => ⟨fun r h => mu_row h, mu_ne (by omega), fun _ _ => rfl⟩
      have go : ∀ v : Int32, v = (if c ≤ 8 then Int32.ofInt (kO (wF T 0 j (J 4 5)) 22 0 : Nat) else Int32.ofInt 1) → Q none (hp p s q (mm_u I 4 2 v) J) := fun v hv => kq _ J (fr v) (mu_ne (by omega)) (by rw [mu_ne (by omega)]; exact h7) (by rw [mu_ne (by omega)]; exact h6) rfl (by rw [mu_at]; exact hv)
      refine ⟨fun h => ?_, fun h => ?_⟩
      · rw [h6, z_le (by omega)] at h
        exact sg_X9_kindOf (c_kindOf ho 22 0 rfl ⟨_, _, _, rfl, rfl, go _ (by rw [if_pos (by omega)]; rfl)⟩)
      · rw [h6, z_le (by omega)] at h
        exact go _ (by rw [if_neg (by omega)])
    refine sg_X9_takeWord_10 ⟨fun h => ?_, fun h => ?_⟩
    · rw [hT.2.1, h7, z_le (by have := hT.1; omega)] at h
      obtain rfl : f = 0 := by omega
      exact stop rfl
    · rw [hT.2.1, h7, z_le (by have := hT.1; omega)] at h
      rw [h7]
      have hl := hT.1
      obtain ⟨t1, _⟩ := hT.2.2 j (by omega)
      refine c_byteAt hT (by omega) ⟨_, _, _, rfl, rfl, ?_⟩
      rw [if_pos (by omega), tL_t ⟨T j, by omega⟩, zB_0]
      match f, hf, hc, kq, stop with
      | 0, hf, hc, kq, stop => omega
      | f + 1, hf, hc, kq, stop =>
        refine ⟨fun hn => stop (rn_f (by show ¬ tL (T j) = true; rw [show tL (T j) = false from hn]; decide)), fun hn => ?_⟩
        have hn : tL (T j) = true := by simpa using hn
        rw [h7]
        refine c_byteAt hT (by omega) ⟨_, _, _, rfl, rfl, ?_⟩
        rw [if_pos (by omega), h6, h7, z_p1, z_p1]
        rw [rn_t (by omega) hn] at kq
        have hr := rn_ge (P := tL) (l := l) (T := T) f (j + 1)
        have fr : fr4 I (mm_u (mm_u I 4 6 (Int32.ofInt ((c + 1 : Nat) : Int))) 4 7 (Int32.ofInt ((j + 1 : Nat) : Int))) J (mm_u J 4 5 (sx_X9_withLetter (J 4 5) (Int32.ofInt (T j : Nat)))) := ⟨fun r h => by rw [mu_row h, mu_row h], by rw [mu_ne (by omega), mu_ne (by omega)], fun r h => mu_row h⟩
        refine c_word_l f (j + 1) (c + 1) _ _ (by omega) (TP_f fr hT) (by rw [fr.2.2 6 (by omega)]; exact ho) mu_at (by rw [mu_ne (by omega), mu_at]) (by omega) (fun I2 J2 g1 g2 g3 g4 g5 g6 => ?_)
        rw [mu_at] at g5 g6
        have en : rn tL l T f (j + 1) - j = (rn tL l T f (j + 1) - (j + 1)) + 1 := by omega
        refine kq I2 J2 (fr4_t fr g1) (by rw [g2, mu_ne (by omega), mu_ne (by omega)]) g3 (by rw [g4]; congr 2; omega) (by rw [en, wF]; exact g5) ?_
        rw [g6, en, wF, show c + 1 + (rn tL l T f (j + 1) - (j + 1)) = c + (rn tL l T f (j + 1) - (j + 1) + 1) by omega]
end
