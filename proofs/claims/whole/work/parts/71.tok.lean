/-! tokens, as both readers see them -/
def vN (T : Nat → Nat) : Nat → Nat → Nat → Nat
  | 0, _, v => v
  | n + 1, j, v => vN T n (j + 1) (v * 10 + (T j - 48))
theorem vF_p {T : Nat → Nat} : ∀ n j v, (∀ i, j ≤ i → i < j + n → tD (T i) = true) → vF T n j (Int32.ofInt (v : Nat)) = Int32.ofInt (vN T n j v : Nat)
  | 0, _, _, _ => rfl
  | n + 1, j, v, h => by
    have hb := of_decide_eq_true (h j (Nat.le_refl j) (by omega))
    have e : Int32.ofInt (v : Nat) * Int32.ofInt 10 + Int32.ofInt (T j : Nat) - Int32.ofInt 48 = Int32.ofInt ((v * 10 + (T j - 48) : Nat) : Int) := by
      rw [z_mul, z_add, z_sub]; congr 1; omega
    rw [vF, vN, e]
    exact vF_p n (j + 1) _ (fun i a b => h i (by omega) (by omega))
theorem vN_lt {T : Nat → Nat} : ∀ n j v, (∀ i, j ≤ i → i < j + n → tD (T i) = true) → vN T n j v < (v + 1) * 10 ^ n
  | 0, _, v, _ => by rw [vN, Nat.pow_zero, Nat.mul_one]; omega
  | n + 1, j, v, h => by
    have hb := of_decide_eq_true (h j (Nat.le_refl j) (by omega))
    have h1 := vN_lt n (j + 1) (v * 10 + (T j - 48)) (fun i a b => h i (by omega) (by omega))
    have h2 : (v * 10 + (T j - 48) + 1) * 10 ^ n ≤ (v + 1) * 10 * 10 ^ n := Nat.mul_le_mul_right _ (by omega)
    rw [vN, Nat.pow_succ, Nat.mul_comm (10 ^ n) 10, ← Nat.mul_assoc]
    omega
def tv (l : Nat) (T : Nat → Nat) (j : Nat) : Nat := vN T (tkE l T j - j) j 0
theorem tv_ok {l : Nat} {T : Nat → Nat} {j : Nat} (h4 : tkE l T j - j ≤ 4) : vF T (tkE l T j - j) j (Int32.ofInt 0) = Int32.ofInt (tv l T j : Nat) ∧ tv l T j ≤ 9999 := by
  have hl : ∀ i, j ≤ i → i < j + (tkE l T j - j) → tD (T i) = true := fun i a b => rn_in (P := tD) (l := l) (T := T) (l - j) j i a (by
    have : tkE l T j = rn tD l T (l - j) j := rfl
    omega)
  refine ⟨vF_p (tkE l T j - j) j 0 hl, ?_⟩
  have b1 := vN_lt (tkE l T j - j) j 0 hl
  have b4 : 10 ^ (tkE l T j - j) ≤ 10 ^ 4 := Nat.pow_le_pow_right (by omega) h4
  show vN T (tkE l T j - j) j 0 ≤ 9999
  omega
def tlen (l : Nat) (T : Nat → Nat) (j : Nat) : Nat := tkW l T j - j
theorem kc (l : Nat) (T : Nat → Nat) (j : Nat) : (tkK l T j = 0 ∧ l ≤ j ∧ tkM l T j = 0) ∨ (j < l ∧ tkK l T j = 1 ∧ tkM l T j = 3) ∨ (j < l ∧ tkK l T j = 2 ∧ tkM l T j = 2 ∧ tD (T j) = true ∧ tkE l T j - j ≤ 4) ∨ (j < l ∧ tL (T j) = true ∧ tkW l T j - j ≤ 8 ∧ tkK l T j = kO (lN (tw_ l T j)) 22 0 ∧ tkM l T j = 1) ∨ (j < l ∧ tS (T j) = true ∧ tkK l T j = T j ∧ tkM l T j = T j) := by
  unfold tkK tkM
  by_cases h0 : l ≤ j
  · rw [if_pos h0, if_pos h0]; exact Or.inl ⟨rfl, h0, rfl⟩
  · rw [if_neg h0, if_neg h0]
    have h0 : j < l := by omega
    by_cases h1 : tL (T j) = true
    · rw [if_pos h1, if_pos h1]
      by_cases h2 : tkW l T j - j ≤ 8
      · rw [if_pos h2, if_pos h2, (tw_ok h2).1]
        exact Or.inr (Or.inr (Or.inr (Or.inl ⟨h0, h1, h2, rfl, rfl⟩)))
      · rw [if_neg h2, if_neg h2]; exact Or.inr (Or.inl ⟨h0, rfl, rfl⟩)
    · rw [if_neg h1, if_neg h1]
      by_cases h2 : tD (T j) = true
      · rw [if_pos h2, if_pos h2]
        by_cases h3 : 4 < tkE l T j - j
        · rw [if_pos h3, if_pos h3]; exact Or.inr (Or.inl ⟨h0, rfl, rfl⟩)
        · rw [if_neg h3, if_neg h3]
          by_cases h4 : tL (if tkE l T j < l then T (tkE l T j) else 0) = true
          · rw [if_pos h4, if_pos h4]; exact Or.inr (Or.inl ⟨h0, rfl, rfl⟩)
          · rw [if_neg h4, if_neg h4]; exact Or.inr (Or.inr (Or.inl ⟨h0, rfl, rfl, h2, by omega⟩))
      · rw [if_neg h2, if_neg h2]
        by_cases h3 : tS (T j) = true
        · rw [if_pos h3, if_pos h3]; exact Or.inr (Or.inr (Or.inr (Or.inr ⟨h0, h3, rfl, rfl⟩)))
        · rw [if_neg h3, if_neg h3]; exact Or.inr (Or.inl ⟨h0, rfl, rfl⟩)
def mk_ (k : Nat) : Nat := if k = 1 then 3 else if k = 3 ∨ 128 ≤ k then 1 else k
theorem kO_r (w : Int64) : kO w 22 0 = 3 ∨ (128 ≤ kO w 22 0 ∧ kO w 22 0 ≤ 149) := by
  rcases kO_sp (w := w) 22 0 rfl with ⟨e, _⟩ | ⟨i, _, b, e, _⟩
  · exact Or.inl e
  · right; rw [e]; omega
theorem KR (l : Nat) (T : Nat → Nat) (j : Nat) : (tkK l T j ≤ 3 ∨ (40 ≤ tkK l T j ∧ tkK l T j ≤ 62) ∨ (128 ≤ tkK l T j ∧ tkK l T j ≤ 149)) ∧ tkM l T j = mk_ (tkK l T j) := by
  unfold mk_
  rcases kc l T j with ⟨a, b, c⟩ | ⟨a, b, c⟩ | ⟨a, b, c, _⟩ | ⟨a, b, c, e, f⟩ | ⟨a, b, c, e⟩
  · rw [a, c]; exact ⟨by omega, rfl⟩
  · rw [b, c]; exact ⟨by omega, rfl⟩
  · rw [b, c]; exact ⟨by omega, rfl⟩
  · have := kO_r (lN (tw_ l T j))
    rw [e, f]; exact ⟨by omega, by rw [if_neg (by omega), if_pos (by omega)]⟩
  · have b := of_decide_eq_true b
    rw [c, e]; exact ⟨by omega, by rw [if_neg (by omega), if_neg (by omega)]⟩
def nX (l : Nat) (T : Nat → Nat) (j : Nat) : Nat := rn tB l T (l - tkN l T j) (tkN l T j)
theorem tkN_b {l : Nat} {T : Nat → Nat} {j : Nat} (h : j ≤ l) : tkN l T j ≤ l ∧ (j < l → j < tkN l T j) := by
  unfold tkN
  by_cases h0 : l ≤ j
  · rw [if_pos h0]; exact ⟨by omega, by omega⟩
  · rw [if_neg h0]
    by_cases h1 : tL (T j) = true
    · rw [if_pos h1]
      have e : tkW l T j = rn tL l T (l - j - 1) (j + 1) := by
        unfold tkW
        rw [show l - j = (l - j - 1) + 1 by omega, rn_t (by omega) h1]; rfl
      have := rn_ge (P := tL) (l := l) (T := T) (l - j - 1) (j + 1)
      omega
    · rw [if_neg h1]
      by_cases h2 : tD (T j) = true
      · rw [if_pos h2]
        have e : tkE l T j = rn tD l T (l - j - 1) (j + 1) := by
          unfold tkE
          rw [show l - j = (l - j - 1) + 1 by omega, rn_t (by omega) h2]; rfl
        have := rn_ge (P := tD) (l := l) (T := T) (l - j - 1) (j + 1)
        omega
      · rw [if_neg h2]; omega
theorem nX_b {l : Nat} {T : Nat → Nat} {j : Nat} (h : j ≤ l) : nX l T j ≤ l ∧ (j < l → j < nX l T j) := by
  have h1 := tkN_b (T := T) h
  have h2 := rn_ge (P := tB) (l := l) (T := T) (l - tkN l T j) (tkN l T j)
  unfold nX
  omega
def Cc (l : Nat) (T : Nat → Nat) (j : Nat) (I : Nat → Nat → Int32) (J : Nat → Nat → Int64) : Prop := j ≤ l ∧ TP l T I ∧ v_own (J 6) ∧ TKc l T j I J
def Mm (l : Nat) (T : Nat → Nat) (j : Nat) (I : Nat → Nat → Int32) (J : Nat → Nat → Int64) : Prop := j ≤ l ∧ MTp l T I ∧ TKm l T j I J
theorem Cc_c {l j : Nat} {T : Nat → Nat} {I I2 : Nat → Nat → Int32} {J J2 : Nat → Nat → Int64} (a : I2 4 = I 4) (b : I2 5 = I 5) (c : J2 4 = J 4) (e : J2 6 = J 6) (h : Cc l T j I J) : Cc l T j I2 J2 := by
  unfold Cc TP TKc at h ⊢
  rw [a, b, c, e]; exact h
theorem Mm_c {l j : Nat} {T : Nat → Nat} {I I2 : Nat → Nat → Int32} {J J2 : Nat → Nat → Int64} (a : ∀ k, 4 ≤ k → k ≤ 10 → I2 65 k = I 65 k) (b : I2 66 = I 66) (c : J2 65 9 = J 65 9) (h : Mm l T j I J) : Mm l T j I2 J2 := by
  unfold Mm MTp TKm at h ⊢
  rw [a 4 (by omega) (by omega), a 5 (by omega) (by omega), a 6 (by omega) (by omega), a 7 (by omega) (by omega), a 8 (by omega) (by omega), a 10 (by omega) (by omega), b, c]; exact h
theorem Cc_k {l j c : Nat} {T : Nat → Nat} {I : Nat → Nat → Int32} {J : Nat → Nat → Int64} (h : Cc l T j I J) (hc : c < 1000) : (I 4 2 = Int32.ofInt (c : Nat)) = (tkK l T j = c) := by
  have hb : tkK l T j ≤ 149 := by have := (KR l T j).1; omega
  rw [h.2.2.2.2.1]
  exact (z_eq (a := ((tkK l T j : Nat) : Int)) (b := (c : Int)) (by omega)).trans (propext (by omega))
theorem Cc_v {l j : Nat} {T : Nat → Nat} {I : Nat → Nat → Int32} {J : Nat → Nat → Int64} (h : Cc l T j I J) (hk : tkK l T j = 2) : I 4 4 = Int32.ofInt (tv l T j : Nat) ∧ tv l T j ≤ 9999 := by
  rcases kc l T j with ⟨a, _⟩ | ⟨_, b, _⟩ | ⟨a, _, _, d4, e⟩ | ⟨_, _, _, e, _⟩ | ⟨_, b, c, _⟩
  · omega
  · omega
  · exact ⟨by rw [h.2.2.2.2.2.2.1 a d4]; exact (tv_ok e).1, (tv_ok e).2⟩
  · have := kO_r (lN (tw_ l T j)); omega
  · have b := of_decide_eq_true b; omega
theorem Mm_v {l j : Nat} {T : Nat → Nat} {I : Nat → Nat → Int32} {J : Nat → Nat → Int64} (h : Mm l T j I J) (hk : tkK l T j = 2) : I 65 8 = Int32.ofInt (tv l T j : Nat) ∧ tv l T j ≤ 9999 := by
  rcases kc l T j with ⟨a, _⟩ | ⟨_, b, _⟩ | ⟨a, _, _, d4, e⟩ | ⟨_, _, _, e, _⟩ | ⟨_, b, c, _⟩
  · omega
  · omega
  · exact ⟨by rw [h.2.2.2.2.2.1 a d4 e]; exact (tv_ok e).1, (tv_ok e).2⟩
  · have := kO_r (lN (tw_ l T j)); omega
  · have b := of_decide_eq_true b; omega
theorem Cc_n {l j : Nat} {T : Nat → Nat} {I : Nat → Nat → Int32} {J : Nat → Nat → Int64} (h : Cc l T j I J) (hk : tkK l T j = 3) : J 4 5 = lN (tw_ l T j) ∧ I 4 6 = Int32.ofInt (tlen l T j : Nat) ∧ tlen l T j ≤ 8 ∧ tw_ l T j < 2 ^ 40 ∧ g8 8 (tw_ l T j) < 2 ^ 63 ∧ g5 8 (g8 8 (tw_ l T j)) = tw_ l T j := by
  rcases kc l T j with ⟨a, _⟩ | ⟨_, b, _⟩ | ⟨a, b, _, d4, e⟩ | ⟨a, b, c, e, _⟩ | ⟨_, b, c, _⟩
  · omega
  · omega
  · omega
  · have t := tw_ok c
    have g := h.2.2.2.2.2.2.2 a b
    exact ⟨by rw [g.1]; exact t.1, g.2, c, t.2.2⟩
  · have b := of_decide_eq_true b; omega
theorem Mm_n {l j : Nat} {T : Nat → Nat} {I : Nat → Nat → Int32} {J : Nat → Nat → Int64} (h : Mm l T j I J) (hk : tkK l T j = 3) : J 65 9 = lN (g8 8 (tw_ l T j)) ∧ I 65 10 = Int32.ofInt (tlen l T j : Nat) := by
  rcases kc l T j with ⟨a, _⟩ | ⟨_, b, _⟩ | ⟨a, b, _, d4, e⟩ | ⟨a, b, c, e, _⟩ | ⟨_, b, c, _⟩
  · omega
  · omega
  · omega
  · have t := tw_ok c
    have g := h.2.2.2.2.2.2 a b c
    exact ⟨by rw [g.1]; exact t.2.1, g.2⟩
  · have b := of_decide_eq_true b; omega
theorem Mm_s {l j : Nat} {T : Nat → Nat} {I : Nat → Nat → Int32} {J : Nat → Nat → Int64} (h : Mm l T j I J) : I 65 6 = Int32.ofInt (mk_ (tkK l T j) : Nat) := by
  rw [h.2.2.2.1, (KR l T j).2]
theorem mk_b (l : Nat) (T : Nat → Nat) (j : Nat) : mk_ (tkK l T j) ≤ 62 := by
  have := (KR l T j).1
  unfold mk_; split
  · omega
  · split <;> omega
/-- the reference's sort against the class's kind -/
theorem Mm_k {l j c : Nat} {T : Nat → Nat} {I : Nat → Nat → Int32} {J : Nat → Nat → Int64} (h : Mm l T j I J) (hc : c = 0 ∨ c = 2 ∨ (40 ≤ c ∧ c ≤ 62)) : (I 65 6 = Int32.ofInt (c : Nat)) = (tkK l T j = c) := by
  have := (KR l T j).1
  have := mk_b l T j
  rw [Mm_s h, z_eq (by omega)]
  unfold mk_
  refine propext ?_
  split
  · omega
  · split <;> omega
theorem Mm_bad {l j : Nat} {T : Nat → Nat} {I : Nat → Nat → Int32} {J : Nat → Nat → Int64} (h : Mm l T j I J) : (I 65 6 = Int32.ofInt 3) = (tkK l T j = 1) := by
  have := (KR l T j).1
  have := mk_b l T j
  rw [Mm_s h, z_eq (by omega)]
  unfold mk_
  refine propext ?_
  split
  · omega
  · split <;> omega
theorem Mm_w {l j : Nat} {T : Nat → Nat} {I : Nat → Nat → Int32} {J : Nat → Nat → Int64} (h : Mm l T j I J) : (I 65 6 = Int32.ofInt 1) = (tkK l T j = 3 ∨ 128 ≤ tkK l T j) := by
  have := (KR l T j).1
  have := mk_b l T j
  rw [Mm_s h, z_eq (by omega)]
  unfold mk_
  refine propext ?_
  split
  · omega
  · split <;> omega
theorem Mm_wk {l j k : Nat} {T : Nat → Nat} {I : Nat → Nat → Int32} {J : Nat → Nat → Int64} (h : Mm l T j I J) (hk : k < 22) (hw : tkK l T j = 3 ∨ 128 ≤ tkK l T j) : (J 65 9 = Int64.ofInt (ownM.getD k 0)) = (tkK l T j = 128 + k) := by
  rcases kc l T j with ⟨a, _⟩ | ⟨_, b, _⟩ | ⟨a, b, _, d4, e⟩ | ⟨a, b, c, e, _⟩ | ⟨_, b, c, _⟩
  · omega
  · omega
  · omega
  · have t := tw_ok c
    have g := h.2.2.2.2.2.2 a b c
    rw [g.1, t.2.1, isW hk t.2.2.1 t.2.2.2.1 t.2.2.2.2, e]
  · have b := of_decide_eq_true b; omega
theorem Mm_isW {l j : Nat} {T : Nat → Nat} {I : Nat → Nat → Int32} {J : Nat → Nat → Int64} (h : Mm l T j I J) (k : Nat) (hk : k < 22) : sy_X11_isWord (Int64.ofInt (ownM.getD k 0)) I J = zB (decide (tkK l T j = 128 + k)) := by
  unfold sy_X11_isWord
  by_cases c : tkK l T j = 3 ∨ 128 ≤ tkK l T j
  · rw [if_pos ((Mm_w h).mpr c)]
    by_cases e : tkK l T j = 128 + k
    · rw [if_pos ((Mm_wk h hk c).mpr e), decide_eq_true e]; rfl
    · rw [if_neg (fun z => e ((Mm_wk h hk c).mp z)), decide_eq_false e]; rfl
  · rw [if_neg (fun z => c ((Mm_w h).mp z)), decide_eq_false (by omega)]; rfl
def flt (k n : Nat) : Nat := if k = 1 then 1 else n
section
variable {SL : Nat} {xs : Nat → Int32} {d : Nat} {p s q : Nat} {Q : Option Value → mm_H → Prop} {I : Nat → Nat → Int32} {J : Nat → Nat → Int64} {l j : Nat} {T : Nat → Nat}
theorem c_adv (h : Cc l T j I J) (kq : ∀ I2 J2, fr4 I I2 J J2 → Cc l T (nX l T j) I2 J2 → Q none (hp p s q I2 J2)) : mm_s SL xs (d + 3) 105 [.ref 4] (hp p s q I J) Q := by
  have b := tkN_b (T := T) h.1
  exact e_X9_advance rfl (c_advance (l - tkN l T j) (tkN l T j) I J (by omega) h.2.1 h.2.2.1 h.2.2.2.2.2.1 (fun I2 J2 f g => kq I2 J2 f ⟨(nX_b h.1).1, TP_f f h.2.1, by rw [f.2.2 6 (by omega)]; exact h.2.2.1, g⟩))
theorem m_adv (h : Mm l T j I J) (hk : tkK l T j ≠ 1) (kq : ∀ I2 J2, fm I I2 J J2 → Mm l T (nX l T j) I2 J2 → Q none (hp p s q I2 J2)) : mm_s SL xs (d + 2) 172 [.ref 65] (hp p s q I J) Q := by
  have b := tkN_b (T := T) h.1
  have e4 : I 65 4 = Int32.ofInt (tkN l T j : Nat) := h.2.2.2.2.1 (by
    rw [(KR l T j).2]
    have := (KR l T j).1
    unfold mk_
    split
    · omega
    · split <;> omega)
  exact e_X11_token rfl (m_token (l - tkN l T j) (tkN l T j) I J (by omega) h.2.1 e4 (fun I2 J2 f g => kq I2 J2 f ⟨(nX_b h.1).1, MTp_f f h.2.1, g⟩))
theorem c_fail {n : Nat} (h : Cc l T j I J) (kq : Q (some (.int (Int32.ofInt 0))) (hp p s q (mm_u (mm_u I 3 1 (Int32.ofInt (flt (tkK l T j) n : Nat))) 3 2 (Int32.ofInt (j : Nat))) J)) : mm_s SL xs (d + 1) 74 [.ref 3, .int (Int32.ofInt (n : Nat))] (hp p s q I J) Q := by
  refine sg_X7_fail ?_
  rw [show (I 4 2 = Int32.ofInt 1) = (tkK l T j = 1) from Cc_k (c := 1) h (by omega), h.2.2.2.1]
  refine ⟨fun e => ?_, fun e => ?_⟩
  · rw [flt, if_pos e] at kq; exact kq
  · rw [flt, if_neg e] at kq; exact kq
theorem m_wrong {n : Nat} (h : Mm l T j I J) (h2 : I 65 2 = Int32.ofInt 0) (kq : Q none (hp p s q (mm_u (mm_u I 65 2 (Int32.ofInt (flt (tkK l T j) n : Nat))) 65 3 (Int32.ofInt (j : Nat))) J)) : mm_s SL xs (d + 1) 173 [.ref 65, .int (Int32.ofInt (n : Nat))] (hp p s q I J) Q := by
  refine sg_X11_wrong ?_
  rw [h2, Mm_bad h, h.2.2.1]
  refine ⟨fun _ => ⟨fun e => ?_, fun e => ?_⟩, fun z => absurd (by decide) z⟩
  · rw [flt, if_pos e] at kq; exact kq
  · rw [flt, if_neg e] at kq; exact kq
theorem m_wrong0 {n : Int32} (h2 : ¬ I 65 2 ≤ Int32.ofInt 0) (kq : Q none (hp p s q I J)) : mm_s SL xs (d + 1) 173 [.ref 65, .int n] (hp p s q I J) Q :=
  sg_X11_wrong ⟨fun z => absurd z h2, fun _ => kq⟩
end
