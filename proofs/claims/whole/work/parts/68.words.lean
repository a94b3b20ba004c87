/-! own words: the class's packing, as a number -/
def p32 (T : Nat → Nat) : Nat → Nat → Nat → Nat
  | 0, _, a => a
  | n + 1, j, a => p32 T n (j + 1) (a * 32 + (T j - 96))
theorem wl_p {a b : Nat} (h : 97 ≤ b) (h2 : b < 256) : sx_X9_withLetter (lN a) (Int32.ofInt (b : Nat)) = lN (a * 32 + (b - 96)) := by
  unfold sx_X9_withLetter
  rw [zl (by omega), show Int64.ofInt 32 = lN 32 from rfl, show Int64.ofInt 97 = lN 97 from rfl, show Int64.ofNat 1 = lN 1 from rfl, lN_mul, lN_add, lN_sub (by omega), lN_add]
  congr 1; omega
theorem wF_p {T : Nat → Nat} : ∀ n j a, (∀ i, j ≤ i → i < j + n → tL (T i) = true) → wF T n j (lN a) = lN (p32 T n j a)
  | 0, _, _, _ => rfl
  | n + 1, j, a, h => by
    have hb := of_decide_eq_true (h j (Nat.le_refl j) (by omega))
    rw [wF, p32, wl_p hb.1 (by omega)]
    exact wF_p n (j + 1) _ (fun i a b => h i (by omega) (by omega))
