/-! words: both packings say the same -/
def p256 (T : Nat → Nat) : Nat → Nat → Nat → Nat
  | 0, _, a => a
  | n + 1, j, a => p256 T n (j + 1) (a * 256 + T j)
theorem mFw_p {T : Nat → Nat} : ∀ n j a, (∀ i, j ≤ i → i < j + n → tL (T i) = true) → mFw T n j (lN a) = lN (p256 T n j a)
  | 0, _, _, _ => rfl
  | n + 1, j, a, h => by
    have hb := of_decide_eq_true (h j (Nat.le_refl j) (by omega))
    have e : (lN a <<< ((Int32.ofInt 8).toInt64 &&& 63)) ||| (Int32.ofInt (T j : Nat)).toInt64 = lN (a * 256 + T j) := by
      rw [zl (by omega), show (Int32.ofInt 8).toInt64 = (nI 8).toInt64 from rfl, wb_shl a (k := 8) (by omega), show a * 2 ^ 8 = 2 ^ 8 * a from Nat.mul_comm _ _, fb_or_sumL a (by omega), show 2 ^ 8 * a + T j = a * 256 + T j by omega]
    rw [mFw, p256, e]
    exact mFw_p n (j + 1) _ (fun i a b => h i (by omega) (by omega))
def g8 : Nat → Nat → Nat
  | 0, _ => 0
  | f + 1, a => if a = 0 then 0 else g8 f (a / 32) * 256 + (a % 32 + 96)
def g5 : Nat → Nat → Nat
  | 0, _ => 0
  | f + 1, a => if a = 0 then 0 else g5 f (a / 256) * 32 + (a % 256 - 96)
theorem g8_s {f a c : Nat} (h1 : 1 ≤ c) (h2 : c < 32) : g8 (f + 1) (a * 32 + c) = g8 f a * 256 + (c + 96) := by
  rw [g8, if_neg (by omega), show (a * 32 + c) / 32 = a by omega, show (a * 32 + c) % 32 = c by omega]
theorem g5_s {f a c : Nat} (h1 : 1 ≤ c) (h2 : c < 256) : g5 (f + 1) (a * 256 + c) = g5 f a * 32 + (c - 96) := by
  rw [g5, if_neg (by omega), show (a * 256 + c) / 256 = a by omega, show (a * 256 + c) % 256 = c by omega]
theorem g8_p {T : Nat → Nat} : ∀ n j a f, (∀ i, j ≤ i → i < j + n → tL (T i) = true) → p256 T n j (g8 f a) = g8 (f + n) (p32 T n j a)
  | 0, _, _, _, _ => rfl
  | n + 1, j, a, f, h => by
    have hb := of_decide_eq_true (h j (Nat.le_refl j) (by omega))
    have e : g8 f a * 256 + T j = g8 (f + 1) (a * 32 + (T j - 96)) := by
      rw [g8_s (by omega) (by omega)]; omega
    rw [p256, p32, e, g8_p n (j + 1) _ (f + 1) (fun i a b => h i (by omega) (by omega)), show f + 1 + n = f + (n + 1) by omega]
theorem g5_p {T : Nat → Nat} : ∀ n j a f, (∀ i, j ≤ i → i < j + n → tL (T i) = true) → p32 T n j (g5 f a) = g5 (f + n) (p256 T n j a)
  | 0, _, _, _, _ => rfl
  | n + 1, j, a, f, h => by
    have hb := of_decide_eq_true (h j (Nat.le_refl j) (by omega))
    have e : g5 f a * 32 + (T j - 96) = g5 (f + 1) (a * 256 + T j) := by
      rw [g5_s (by omega) (by omega)]
    rw [p256, p32, e, g5_p n (j + 1) _ (f + 1) (fun i a b => h i (by omega) (by omega)), show f + 1 + n = f + (n + 1) by omega]
theorem p32_lt {T : Nat → Nat} : ∀ n j a, (∀ i, j ≤ i → i < j + n → tL (T i) = true) → p32 T n j a < (a + 1) * 32 ^ n
  | 0, _, a, _ => by rw [p32, Nat.pow_zero, Nat.mul_one]; omega
  | n + 1, j, a, h => by
    have hb := of_decide_eq_true (h j (Nat.le_refl j) (by omega))
    have h1 := p32_lt n (j + 1) (a * 32 + (T j - 96)) (fun i a b => h i (by omega) (by omega))
    have h2 : (a * 32 + (T j - 96) + 1) * 32 ^ n ≤ (a + 1) * 32 * 32 ^ n := Nat.mul_le_mul_right _ (by omega)
    rw [p32, Nat.pow_succ, Nat.mul_comm (32 ^ n) 32, ← Nat.mul_assoc]
    omega
theorem p256_lt {T : Nat → Nat} : ∀ n j a, (∀ i, j ≤ i → i < j + n → tL (T i) = true) → p256 T n j a < (a + 1) * 256 ^ n
  | 0, _, a, _ => by rw [p256, Nat.pow_zero, Nat.mul_one]; omega
  | n + 1, j, a, h => by
    have hb := of_decide_eq_true (h j (Nat.le_refl j) (by omega))
    have h1 := p256_lt n (j + 1) (a * 256 + T j) (fun i a b => h i (by omega) (by omega))
    have h2 : (a * 256 + T j + 1) * 256 ^ n ≤ (a + 1) * 256 * 256 ^ n := Nat.mul_le_mul_right _ (by omega)
    rw [p256, Nat.pow_succ, Nat.mul_comm (256 ^ n) 256, ← Nat.mul_assoc]
    omega
theorem g8_0 : ∀ m, g8 m 0 = 0
  | 0 => rfl
  | m + 1 => by rw [g8, if_pos rfl]
theorem g5_0 : ∀ m, g5 m 0 = 0
  | 0 => rfl
  | m + 1 => by rw [g5, if_pos rfl]
theorem g8_m : ∀ n m v, n ≤ m → v < 32 ^ n → g8 m v = g8 n v
  | 0, m, v, _, h => by
    have : v = 0 := by rw [Nat.pow_zero] at h; omega
    rw [this, g8_0, g8_0]
  | n + 1, m, v, hm, h => by
    obtain ⟨m, rfl⟩ : ∃ k, m = k + 1 := ⟨m - 1, by omega⟩
    rw [Nat.pow_succ] at h
    rw [g8, g8, g8_m n m (v / 32) (by omega) (by omega)]
theorem g5_m : ∀ n m v, n ≤ m → v < 256 ^ n → g5 m v = g5 n v
  | 0, m, v, _, h => by
    have : v = 0 := by rw [Nat.pow_zero] at h; omega
    rw [this, g5_0, g5_0]
  | n + 1, m, v, hm, h => by
    obtain ⟨m, rfl⟩ : ∃ k, m = k + 1 := ⟨m - 1, by omega⟩
    rw [Nat.pow_succ] at h
    rw [g5, g5, g5_m n m (v / 256) (by omega) (by omega)]
theorem rn_in {P : Nat → Bool} {l : Nat} {T : Nat → Nat} : ∀ f j i, j ≤ i → i < rn P l T f j → P (T i) = true
  | 0, j, i, h1, h2 => by rw [rn] at h2; omega
  | f + 1, j, i, h1, h2 => by
    rw [rn] at h2
    by_cases c : j < l ∧ P (T j) = true
    · rw [if_pos c] at h2
      rcases Nat.eq_or_lt_of_le h1 with e | e
      · rw [← e]; exact c.2
      · exact rn_in f (j + 1) i e h2
    · rw [if_neg c] at h2; omega
/-- a word's own number -/
def tw_ (l : Nat) (T : Nat → Nat) (j : Nat) : Nat := p32 T (tkW l T j - j) j 0
theorem tw_ok {l : Nat} {T : Nat → Nat} {j : Nat} (h8 : tkW l T j - j ≤ 8) : wF T (tkW l T j - j) j 0 = lN (tw_ l T j) ∧ mFw T (tkW l T j - j) j (Int64.ofInt 0) = lN (g8 8 (tw_ l T j)) ∧ tw_ l T j < 2 ^ 40 ∧ g8 8 (tw_ l T j) < 2 ^ 63 ∧ g5 8 (g8 8 (tw_ l T j)) = tw_ l T j := by
  have hl : ∀ i, j ≤ i → i < j + (tkW l T j - j) → tL (T i) = true := fun i a b => rn_in (P := tL) (l := l) (T := T) (l - j) j i a (by
    have : tkW l T j = rn tL l T (l - j) j := rfl
    omega)
  have e1 := wF_p (tkW l T j - j) j 0 hl
  have e2 := mFw_p (tkW l T j - j) j 0 hl
  have b1 := p32_lt (tkW l T j - j) j 0 hl
  have b2 := p256_lt (tkW l T j - j) j 0 hl
  have q1 := g8_p (tkW l T j - j) j 0 0 hl
  have q2 := g5_p (tkW l T j - j) j 0 0 hl
  rw [g8_0, Nat.zero_add] at q1
  rw [g5_0, Nat.zero_add] at q2
  rw [Nat.zero_add, Nat.one_mul] at b1 b2
  have e3 : g8 8 (tw_ l T j) = p256 T (tkW l T j - j) j 0 := by rw [q1]; exact g8_m _ _ _ h8 b1
  have b3 : p256 T (tkW l T j - j) j 0 < 2 ^ 63 := by
    match hn : tkW l T j - j with
    | 0 => rw [p256]; omega
    | n + 1 =>
      rw [hn] at hl h8
      have hb := of_decide_eq_true (hl j (Nat.le_refl j) (by omega))
      rw [p256, Nat.zero_mul, Nat.zero_add]
      have h1 := p256_lt n (j + 1) (T j) (fun i a b => hl i (by omega) (by omega))
      have h2 : (T j + 1) * 256 ^ n ≤ 123 * 256 ^ 7 := Nat.mul_le_mul (by omega) (Nat.pow_le_pow_right (by omega) (by omega))
      omega
  have b4 : 32 ^ (tkW l T j - j) ≤ 32 ^ 8 := Nat.pow_le_pow_right (by omega) h8
  refine ⟨e1, ?_, ?_, by rw [e3]; exact b3, ?_⟩
  · rw [e3]; exact e2
  · show p32 T (tkW l T j - j) j 0 < 2 ^ 40
    omega
  · rw [e3, g5_m _ _ _ h8 b2, ← q2]; rfl
def ownM : List Int := [495873781348, 422608071022, 1818584692, 427071729268, 1953854062, 418346264942, 6451065, 444350952036, 491379060069, 123581014175598, 431415719790, 29807, 512970880104, 131277443786868, 28530, 6385252, 7237492, 444250812007, 1751478885, 1818325876, 512970876019, 495689625203]
theorem own_g : ∀ k : Fin 22, (ownL.getD k.val 0).toNat < 2 ^ 40 ∧ Int64.ofInt (ownL.getD k.val 0) = lN (ownL.getD k.val 0).toNat ∧ g8 8 (ownL.getD k.val 0).toNat = (ownM.getD k.val 0).toNat ∧ g5 8 (ownM.getD k.val 0).toNat = (ownL.getD k.val 0).toNat ∧ (ownM.getD k.val 0).toNat < 2 ^ 63 ∧ Int64.ofInt (ownM.getD k.val 0) = lN (ownM.getD k.val 0).toNat := by decide +kernel
theorem own_g2 {k : Nat} (hk : k < 22) : (ownL.getD k 0).toNat < 2 ^ 40 ∧ Int64.ofInt (ownL.getD k 0) = lN (ownL.getD k 0).toNat ∧ g8 8 (ownL.getD k 0).toNat = (ownM.getD k 0).toNat ∧ g5 8 (ownM.getD k 0).toNat = (ownL.getD k 0).toNat ∧ (ownM.getD k 0).toNat < 2 ^ 63 ∧ Int64.ofInt (ownM.getD k 0) = lN (ownM.getD k 0).toNat := own_g ⟨k, hk⟩
theorem own_d : ∀ i k : Fin 22, (ownL.getD i.val 0).toNat = (ownL.getD k.val 0).toNat → i = k := by decide +kernel
theorem kO_sp {w : Int64} : ∀ f i0, i0 + f = 22 → (kO w f i0 = 3 ∧ ∀ i, i0 ≤ i → i < 22 → ¬ Int64.ofInt (ownL.getD i 0) = w) ∨ ∃ i, i0 ≤ i ∧ i < 22 ∧ kO w f i0 = 128 + i ∧ Int64.ofInt (ownL.getD i 0) = w
  | 0, i0, h => Or.inl ⟨rfl, fun i a b => by omega⟩
  | f + 1, i0, h => by
    by_cases c : Int64.ofInt (ownL.getD i0 0) = w
    · exact Or.inr ⟨i0, Nat.le_refl _, by omega, by rw [kO, if_pos c], c⟩
    · rcases kO_sp (w := w) f (i0 + 1) (by omega) with ⟨a, b⟩ | ⟨i, a, b, e, g⟩
      · refine Or.inl ⟨by rw [kO, if_neg c]; exact a, fun i h1 h2 => ?_⟩
        rcases Nat.eq_or_lt_of_le h1 with e | e
        · rw [← e]; exact c
        · exact b i e h2
      · exact Or.inr ⟨i, by omega, b, by rw [kO, if_neg c]; exact e, g⟩
theorem isW {a k : Nat} (hk : k < 22) (ha : a < 2 ^ 40) (hb : g8 8 a < 2 ^ 63) (h5 : g5 8 (g8 8 a) = a) : (lN (g8 8 a) = Int64.ofInt (ownM.getD k 0)) = (kO (lN a) 22 0 = 128 + k) := by
  obtain ⟨k1, k2, k3, k4, k5, k6⟩ := own_g2 hk
  refine propext ⟨fun h => ?_, fun h => ?_⟩
  · rw [k6, fb_lN_inj hb k5] at h
    have ea : a = (ownL.getD k 0).toNat := by rw [← h5, h]; exact k4
    have ew : Int64.ofInt (ownL.getD k 0) = lN a := by rw [ea]; exact k2
    rcases kO_sp (w := lN a) 22 0 rfl with ⟨_, b⟩ | ⟨i, _, b, e, g⟩
    · exact absurd ew (b k (Nat.zero_le k) hk)
    · obtain ⟨i1, i2, _⟩ := own_g2 b
      have : (ownL.getD i 0).toNat = (ownL.getD k 0).toNat := by
        rw [← ea]
        exact (fb_lN_inj (by omega) (by omega)).1 (by rw [← g]; exact i2.symm)
      have := congrArg Fin.val (own_d ⟨i, b⟩ ⟨k, hk⟩ this)
      rw [e]; show 128 + i = 128 + k; rw [show i = k from this]
  · rcases kO_sp (w := lN a) 22 0 rfl with ⟨e, b⟩ | ⟨i, _, b, e, g⟩
    · rw [e] at h; omega
    · have : i = k := by omega
      subst this
      have ea : (ownL.getD i 0).toNat = a := (fb_lN_inj (by omega) (by omega)).1 (by rw [← g]; exact k2.symm)
      rw [k6, ← k3]
      show lN (g8 8 a) = lN (g8 8 (ownL.getD i 0).toNat)
      rw [ea]
