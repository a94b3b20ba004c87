/-! FAR: the rounds of a plain ring, undone -/
def fa (n k : Nat) : Nat → Nat → Nat
  | 0, x => x
  | f + 1, x => if x ≤ n then x else fa n k f ((x - n) + (x - n - 1) / (k - 1))
theorem fa_stop {n k : Nat} : ∀ (f x : Nat), x ≤ n → fa n k f x = x
  | 0, _, _ => rfl
  | f + 1, x, h => by rw [fa, if_pos h]
theorem fa_go {n k f x : Nat} (h : ¬ x ≤ n) : fa n k (f + 1) x = fa n k f ((x - n) + (x - n - 1) / (k - 1)) := by rw [fa, if_neg h]
theorem fa_add {n k : Nat} : ∀ (a b x : Nat), fa n k (a + b) x = fa n k b (fa n k a x)
  | 0, b, x => by rw [Nat.zero_add]; rfl
  | a + 1, b, x => by
    by_cases h : x ≤ n
    · rw [fa_stop _ _ h, fa_stop _ _ h, fa_stop _ _ h]
    · rw [show a + 1 + b = (a + b) + 1 by omega, fa_go h, fa_go h]
      exact fa_add a b _
theorem fa_stable {n k a b x : Nat} (h : fa n k a x ≤ n) : fa n k (a + b) x = fa n k a x := by rw [fa_add, fa_stop _ _ h]
theorem fa_same {n k a b x : Nat} (ha : fa n k a x ≤ n) (hb : fa n k b x ≤ n) : fa n k a x = fa n k b x := by
  rw [← fa_stable (b := b) ha, Nat.add_comm, fa_stable hb]
/-- one round: it stays within k * n, falls, and comes nearer by a k-th -/
theorem fa_step {n k x : Nat} (hk : 2 ≤ k) (h : n < x) (hx : x ≤ k * n) : (x - n) + (x - n - 1) / (k - 1) < x ∧ (x - n) + (x - n - 1) / (k - 1) ≤ k * n ∧ (k - 1) * (k * n - x) + (k * n - x) + 1 ≤ (k - 1) * (k * n - ((x - n) + (x - n - 1) / (k - 1))) ∧ 1 ≤ (x - n) + (x - n - 1) / (k - 1) := by
  obtain ⟨D, rfl⟩ : ∃ D, k = D + 1 := ⟨k - 1, by omega⟩
  have hD : 1 ≤ D := by omega
  rw [Nat.add_sub_cancel]
  obtain ⟨t, rfl⟩ : ∃ t, x = n + t := ⟨x - n, by omega⟩
  have ht : 1 ≤ t := by omega
  rw [Nat.add_sub_cancel_left]
  have e1 : (D + 1) * n = D * n + n := by rw [Nat.add_mul, Nat.one_mul]
  rw [e1] at hx ⊢
  have htn : t ≤ D * n := by omega
  generalize hq : (t - 1) / D = q
  have hqm : D * q ≤ t - 1 := by rw [← hq]; exact Nat.mul_div_le _ _
  have hqn : q < n := by
    rw [← hq]
    exact Nat.div_lt_of_lt_mul (by omega)
  have hy : D * n + n - (n + t) = D * n - t := by omega
  have hy2 : D * n + n - (t + q) = (D * n - t) + (n - q) := by omega
  rw [hy, hy2, Nat.mul_add]
  have hm : D * (n - q) = D * n - D * q := Nat.mul_sub ..
  refine ⟨by omega, by omega, ?_, by omega⟩
  rw [hm]
  omega
theorem fa_in {n k : Nat} (hk : 2 ≤ k) : ∀ (f x : Nat), x ≤ k * n → x ≤ f → fa n k f x ≤ n
  | 0, x, _, hf => by
    have : x = 0 := by omega
    subst this
    exact Nat.zero_le n
  | f + 1, x, hx, hf => by
    by_cases h : x ≤ n
    · rw [fa_stop _ _ h]; exact h
    · rw [fa_go h]
      obtain ⟨h1, h2, -, -⟩ := fa_step hk (Nat.lt_of_not_le h) hx
      exact fa_in hk f _ h2 (by omega)
theorem fa_bd {n k : Nat} (hk : 2 ≤ k) : ∀ (f x : Nat), x ≤ k * n → fa n k f x ≤ k * n
  | 0, x, hx => hx
  | f + 1, x, hx => by
    by_cases h : x ≤ n
    · rw [fa_stop _ _ h]; exact hx
    · rw [fa_go h]
      exact fa_bd hk f _ (fa_step hk (Nat.lt_of_not_le h) hx).2.1
theorem fa_near {n k : Nat} (hk : 2 ≤ k) : ∀ (i x : Nat), x ≤ k * n → n < fa n k i x → (k - 1) * (k * n - x) + i * (k * n - x + 1) ≤ (k - 1) * (k * n - fa n k i x)
  | 0, x, _, _ => by rw [Nat.zero_mul]; exact Nat.le_refl _
  | i + 1, x, hx, h => by
    by_cases hn : x ≤ n
    · rw [fa_stop _ _ hn] at h; omega
    · rw [fa_go hn] at h ⊢
      obtain ⟨h1, h2, h3, -⟩ := fa_step hk (Nat.lt_of_not_le hn) hx
      have ih := fa_near hk i _ h2 h
      generalize (x - n) + (x - n - 1) / (k - 1) = x2 at *
      have hle : k * n - x + 1 ≤ k * n - x2 + 1 := by omega
      have hmul := Nat.mul_le_mul_left i hle
      rw [Nat.add_mul, Nat.one_mul]
      omega
theorem fa_twice {n k : Nat} (hk : 2 ≤ k) : ∀ (j x : Nat), x ≤ k * n → n < fa n k (j * (k - 1)) x → 2 ^ j ≤ k * n - fa n k (j * (k - 1)) x + 1
  | 0, x, _, _ => by rw [Nat.pow_zero]; omega
  | j + 1, x, hx, h => by
    have e : (j + 1) * (k - 1) = j * (k - 1) + (k - 1) := by rw [Nat.add_mul, Nat.one_mul]
    rw [e, fa_add] at h ⊢
    have hx2 := fa_bd hk (j * (k - 1)) x hx
    have h2 : n < fa n k (j * (k - 1)) x := by
      rcases Nat.lt_or_ge n (fa n k (j * (k - 1)) x) with q | q
      · exact q
      · rw [fa_stop _ _ q] at h; omega
    have ih := fa_twice hk j x hx h2
    have hn := fa_near hk (k - 1) _ hx2 h
    generalize fa n k (j * (k - 1)) x = y at *
    generalize hz : fa n k (k - 1) y = z at *
    rw [← Nat.mul_add] at hn
    have hle := Nat.le_of_mul_le_mul_left hn (by omega)
    rw [Nat.pow_succ]
    omega
/-- within 50000 rounds every ring of the law is through -/
theorem fa_fast {n k x : Nat} (hk : 2 ≤ k) (hk2 : k ≤ 1000) (hn : n ≤ 1000000000000) (hx : x ≤ k * n) : fa n k 50000 x ≤ n := by
  rcases Nat.lt_or_ge n (fa n k 50000 x) with q | q
  · exfalso
    have hD : 50 * (k - 1) ≤ 50000 := by omega
    have e : 50000 = 50 * (k - 1) + (50000 - 50 * (k - 1)) := by omega
    have q2 : n < fa n k (50 * (k - 1)) x := by
      rcases Nat.lt_or_ge n (fa n k (50 * (k - 1)) x) with q9 | q9
      · exact q9
      · rw [e, fa_add, fa_stop _ _ q9] at q; omega
    have h := fa_twice hk 50 x hx q2
    have hkn : k * n ≤ 1000 * 1000000000000 := Nat.mul_le_mul hk2 hn
    omega
  · exact q
