theorem z_eq0 {a : Int} (h : -2147483648 ≤ a ∧ a < 2147483648) : (Int32.ofInt a = 0) = (a = 0) := by rw [z_0, z_eq (by omega)]
theorem z_rem {a b : Int} (h : 0 ≤ a ∧ a < 2147483648 ∧ 0 < b ∧ b < 2147483648) : Int32.ofInt a - Int32.ofInt a / Int32.ofInt b * Int32.ofInt b = Int32.ofInt (a % b) := by
  obtain ⟨m, rfl⟩ := Int.eq_ofNat_of_zero_le h.1
  obtain ⟨n, rfl⟩ := Int.eq_ofNat_of_zero_le (show 0 ≤ b by omega)
  rw [← z_nI, ← z_nI, pk_rem (by omega) (by omega) (by omega), z_nI]
  congr 1
theorem z_div {a b : Int} (h : 0 ≤ a ∧ a < 2147483648 ∧ 0 < b ∧ b < 2147483648) : Int32.ofInt a / Int32.ofInt b = Int32.ofInt (a / b) := by
  obtain ⟨m, rfl⟩ := Int.eq_ofNat_of_zero_le h.1
  obtain ⟨n, rfl⟩ := Int.eq_ofNat_of_zero_le (show 0 ≤ b by omega)
  rw [← z_nI, ← z_nI, pk_div (by omega) (by omega) (by omega), z_nI]
  congr 1
theorem z_remN {a b : Nat} (ha : a < 2147483648) (hb : 0 < b) (hb2 : b < 2147483648) : Int32.ofInt (a : Int) - Int32.ofInt (a : Int) / Int32.ofInt (b : Int) * Int32.ofInt (b : Int) = Int32.ofInt ((a % b : Nat) : Int) := by
  rw [← z_nI, ← z_nI, pk_rem (by omega) (by omega) (by omega), z_nI]
/-! who goes as the m-th of a plain ring -/
def jo (k r : Nat) : Nat → Nat
  | 0 => (k - 1) % r
  | j + 1 => (jo k r j + k) % (r + j + 1)
theorem jo_lt {k r : Nat} (hr : 1 ≤ r) : ∀ j, jo k r j < r + j
  | 0 => Nat.mod_lt _ hr
  | j + 1 => Nat.mod_lt _ (by omega)
theorem fa_lin {n k : Nat} (hn : 1 ≤ n) (hk : 2 ≤ k) : ∀ (f x : Nat), 1 ≤ x → x ≤ f → x ≤ n + k - 1 → fa n k f x = (x - 1) % n + 1
  | 0, x, h1, h2, _ => by omega
  | f + 1, x, h1, h2, h3 => by
    rcases Nat.lt_or_ge n x with q | q
    · rw [fa_go (by omega), Nat.div_eq_of_lt (by omega), Nat.add_zero, fa_lin hn hk f (x - n) (by omega) (by omega) (by omega)]
      congr 1
      rw [show x - 1 = (x - n - 1) + n by omega, Nat.add_mod_right]
    · rw [fa_stop _ _ q, Nat.mod_eq_of_lt (by omega)]; omega
theorem fa_shift {n k : Nat} (hk : 2 ≤ k) : ∀ (f y : Nat), 1 ≤ y → fa n k f y ≤ n → fa (n + 1) k (f + (n + 1 + k)) (y + k) = (fa n k f y + k - 1) % (n + 1) + 1
  | f, y, h1, h2 => by
    rcases Nat.lt_or_ge n y with q | q
    · match f, h2 with
      | 0, h2 => exact absurd (show y ≤ n from h2) (by omega)
      | f + 1, h2 =>
        rw [fa_go (show ¬ y ≤ n by omega)] at h2 ⊢
        rw [show f + 1 + (n + 1 + k) = (f + (n + 1 + k)) + 1 by omega, fa_go (show ¬ y + k ≤ n + 1 by omega)]
        have e : (y + k - (n + 1)) + (y + k - (n + 1) - 1) / (k - 1) = ((y - n) + (y - n - 1) / (k - 1)) + k := by
          rw [show y + k - (n + 1) - 1 = (y - n - 1) + (k - 1) by omega, Nat.add_div_right _ (by omega)]
          generalize (y - n - 1) / (k - 1) = w
          omega
        rw [e]
        exact fa_shift hk f _ (Nat.le_trans (by omega : 1 ≤ y - n) (Nat.le_add_right _ _)) h2
    · rw [fa_stop _ _ q, fa_lin (by omega) hk _ _ (by omega) (by omega) (by omega)]
theorem jo_1 {r : Nat} (hr : 1 ≤ r) : ∀ j, jo 1 r j = j
  | 0 => Nat.zero_mod r
  | j + 1 => by rw [jo, jo_1 hr j, Nat.mod_eq_of_lt (by omega)]
theorem jo_fa {k r : Nat} (hk : 2 ≤ k) (hr : 1 ≤ r) : ∀ j, fa (r + j) k (k * (j + 1)) (k * (j + 1)) = jo k r j + 1
  | 0 => by
    rw [Nat.zero_add, Nat.mul_one, Nat.add_zero]
    exact fa_lin hr hk k k (by omega) (Nat.le_refl _) (by omega)
  | j + 1 => by
    have ih := jo_fa hk hr j
    have hb := jo_lt (k := k) hr j
    have hs := fa_shift (n := r + j) hk (k * (j + 1)) (k * (j + 1)) (Nat.mul_pos (by omega) (by omega)) (by rw [ih]; omega)
    rw [ih] at hs
    have e : k * (j + 1) + k = k * (j + 1 + 1) := by rw [Nat.mul_add k (j + 1) 1, Nat.mul_one]
    rw [e] at hs
    have hin : fa (r + (j + 1)) k (k * (j + 1 + 1)) (k * (j + 1 + 1)) ≤ r + (j + 1) := fa_in hk _ _ (Nat.mul_le_mul_left k (by omega)) (Nat.le_refl _)
    have hlt : (jo k r j + 1 + k - 1) % (r + j + 1) < r + j + 1 := Nat.mod_lt _ (by omega)
    have := fa_same hin (show fa (r + (j + 1)) k (k * (j + 1) + (r + j + 1 + k)) (k * (j + 1 + 1)) ≤ r + (j + 1) by
      show fa (r + j + 1) k _ _ ≤ r + j + 1
      rw [hs]; omega)
    rw [this]
    show fa (r + j + 1) k _ _ = _
    rw [hs, jo, show jo k r j + 1 + k - 1 = jo k r j + k by omega]
theorem fr_jo {k r : Nat} (hk : 1 ≤ k) (hr : 1 ≤ r) (j : Nat) : fr (r + j) k (j + 1) = jo k r j := by
  unfold fr
  by_cases q : k = 1
  · rw [if_pos q, q, jo_1 hr]; omega
  · rw [if_neg q, jo_fa (by omega) hr]; omega
theorem fr_jo2 {n k m : Nat} (hk : 1 ≤ k) (hm : 1 ≤ m) (hn : m ≤ n) : fr n k m = jo k (n - m + 1) (m - 1) := by
  have := fr_jo (k := k) (r := n - m + 1) hk (by omega) (m - 1)
  rw [show n - m + 1 + (m - 1) = n by omega, show m - 1 + 1 = m by omega] at this
  exact this
section
variable {SL : Nat} {xs : Nat → Int32} {d : Nat} {p s q : Nat} {Q : Option Value → mm_H → Prop} {I : Nat → Nat → Int32} {J : Nat → Nat → Int64}
theorem goer_loop {n k r : Nat} {v2 v3 : Int32} (hr : 1 ≤ r) (hn : n ≤ 60) (hk : k ≤ 3000) : ∀ (f j : Nat), n = r + j + f → Q (some (.int (Int32.ofInt (jo k r (j + f) : Nat)))) (hp p s q I J) → w_X4_goer_25 SL xs d p s q Q (Int32.ofInt (n : Nat)) (Int32.ofInt (k : Nat)) v2 v3 (Int32.ofInt (jo k r j : Nat)) (Int32.ofInt ((r + j + 1 : Nat) : Int)) I J
  | f, j, hf, kq => by
    have hb := jo_lt (k := k) hr j
    refine sg_X4_goer_25 ⟨fun h => ?_, fun h => ⟨?_, ?_⟩⟩
    · rw [z_lt (by omega)] at h
      obtain rfl : f = 0 := by omega
      exact kq
    · rw [z_eq0 (by omega)]; omega
    · rw [z_lt (by omega)] at h
      obtain ⟨g, rfl⟩ : ∃ g, f = g + 1 := ⟨f - 1, by omega⟩
      have e1 : Int32.ofInt (jo k r j : Nat) + Int32.ofInt (k : Nat) = Int32.ofInt ((jo k r j + k : Nat) : Int) := by rw [z_add]; congr 1
      have e2 : Int32.ofInt ((r + j + 1 : Nat) : Int) + Int32.ofInt 1 = Int32.ofInt ((r + (j + 1) + 1 : Nat) : Int) := by rw [z_add]; congr 1
      rw [e1, z_remN (by omega) (by omega) (by omega), e2]
      exact goer_loop hr hn hk g (j + 1) (by omega) (by rw [show j + 1 + g = j + (g + 1) by omega]; exact kq)
theorem c_goer {n k i : Nat} (hi : 1 ≤ i) (hin : i ≤ n) (hn : n ≤ 60) (hk1 : 1 ≤ k) (hk : k ≤ 3000) (kq : Q (some (.int (Int32.ofInt (jo k (n - i + 1) (i - 1) : Nat)))) (hp p s q I J)) : mm_s SL xs (d + 1) 40 [.int (Int32.ofInt (n : Nat)), .int (Int32.ofInt (k : Nat)), .int (Int32.ofInt (i : Nat))] (hp p s q I J) Q := by
  have e1 : Int32.ofInt (n : Nat) - Int32.ofInt (i : Nat) + Int32.ofInt 1 = Int32.ofInt ((n - i + 1 : Nat) : Int) := by rw [z_sub, z_add]; congr 1; omega
  have e2 : Int32.ofInt (k : Nat) - Int32.ofInt 1 = Int32.ofInt ((k - 1 : Nat) : Int) := by rw [z_sub]; congr 1; omega
  have e3 : Int32.ofInt ((n - i + 1 : Nat) : Int) + Int32.ofInt 1 = Int32.ofInt ((n - i + 1 + 0 + 1 : Nat) : Int) := by rw [z_add]; congr 1
  refine sg_X4_goer ⟨fun h => ⟨?_, ?_⟩, fun h => ?_⟩
  · rw [e1, z_eq0 (by omega)]; omega
  · rw [e1, e2, z_remN (by omega) (by omega) (by omega), e3]
    exact goer_loop (r := n - i + 1) (by omega) hn hk (i - 1) 0 (by omega) (by rw [Nat.zero_add]; exact kq)
  · rw [e1, z_le (by omega)] at h; omega
theorem lastOf_loop {n k : Nat} (hn : n ≤ 60) (hk : k ≤ 3000) : ∀ (f j : Nat), n = 1 + j + f → Q (some (.int (Int32.ofInt (jo k 1 (j + f) : Nat)))) (hp p s q I J) → w_X11_lastOf_4 SL xs d p s q Q (Int32.ofInt (n : Nat)) (Int32.ofInt (k : Nat)) (Int32.ofInt (jo k 1 j : Nat)) (Int32.ofInt ((1 + j + 1 : Nat) : Int)) I J
  | f, j, hf, kq => by
    have hb := jo_lt (k := k) (Nat.le_refl 1) j
    refine sg_X11_lastOf_4 ⟨fun h => ?_, fun h => ⟨?_, ?_⟩⟩
    · rw [z_lt (by omega)] at h
      obtain rfl : f = 0 := by omega
      exact kq
    · rw [z_eq0 (by omega)]; omega
    · rw [z_lt (by omega)] at h
      obtain ⟨g, rfl⟩ : ∃ g, f = g + 1 := ⟨f - 1, by omega⟩
      have e1 : Int32.ofInt (jo k 1 j : Nat) + Int32.ofInt (k : Nat) = Int32.ofInt ((jo k 1 j + k : Nat) : Int) := by rw [z_add]; congr 1
      have e2 : Int32.ofInt ((1 + j + 1 : Nat) : Int) + Int32.ofInt 1 = Int32.ofInt ((1 + (j + 1) + 1 : Nat) : Int) := by rw [z_add]; congr 1
      rw [e1, z_remN (by omega) (by omega) (by omega), e2]
      exact lastOf_loop hn hk g (j + 1) (by omega) (by rw [show j + 1 + g = j + (g + 1) by omega]; exact kq)
theorem c_lastOf {n k : Nat} (hn1 : 1 ≤ n) (hn : n ≤ 60) (hk : k ≤ 3000) (kq : Q (some (.int (Int32.ofInt (jo k 1 (n - 1) : Nat)))) (hp p s q I J)) : mm_s SL xs (d + 1) 248 [.int (Int32.ofInt (n : Nat)), .int (Int32.ofInt (k : Nat))] (hp p s q I J) Q := by
  refine sg_X11_lastOf ?_
  have e0 : Int32.ofInt 0 = Int32.ofInt (jo k 1 0 : Nat) := by rw [jo, Nat.mod_one]; rfl
  have := lastOf_loop (SL := SL) (xs := xs) (d := d) (p := p) (s := s) (q := q) (Q := Q) (I := I) (J := J) hn hk (n - 1) 0 (by omega) (by rw [Nat.zero_add]; exact kq)
  rw [← e0] at this
  exact this
end
