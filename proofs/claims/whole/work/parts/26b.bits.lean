/-! sets of posts: a predicate, and the long that has its bits -/
def bn (p : Nat → Bool) : Nat → Nat
  | 0 => 0
  | n + 1 => bn p n + (if p n then 2 ^ n else 0)
theorem bn_lt (p : Nat → Bool) : ∀ n, bn p n < 2 ^ n
  | 0 => Nat.zero_lt_one
  | n + 1 => by
    have h := bn_lt p n
    rw [bn, Nat.pow_succ]
    by_cases q : p n = true
    · rw [if_pos q]; omega
    · rw [if_neg q]; omega
theorem bn_test (p : Nat → Bool) : ∀ (n i : Nat), (bn p n).testBit i = (decide (i < n) && p i)
  | 0, i => by simp [bn]
  | n + 1, i => by
    have h := bn_lt p n
    rw [bn]
    by_cases q : p n = true
    · rw [if_pos q, Nat.add_comm]
      rcases Nat.lt_trichotomy i n with z | z | z
      · rw [Nat.testBit_two_pow_add_gt z, bn_test p n i]
        simp [z, Nat.lt_succ_of_lt z]
      · subst z
        rw [Nat.testBit_two_pow_add_eq, bn_test p i i]
        simp [q]
      · rw [Nat.testBit_lt_two_pow]
        · simp [show ¬ i < n + 1 by omega]
        · have : 2 ^ (n + 1) ≤ 2 ^ i := Nat.pow_le_pow_right (by decide) z
          rw [Nat.pow_succ] at this
          omega
    · rw [if_neg q, Nat.add_zero, bn_test p n i]
      rcases Nat.lt_trichotomy i n with z | z | z
      · simp [z, Nat.lt_succ_of_lt z]
      · subst z; simp [q]
      · simp [show ¬ i < n + 1 by omega, show ¬ i < n by omega]
theorem bn_of {b n : Nat} (h : b < 2 ^ n) : b = bn (fun i => b.testBit i) n := by
  apply Nat.eq_of_testBit_eq
  intro i
  rw [bn_test]
  by_cases q : i < n
  · simp [q]
  · rw [Nat.testBit_lt_two_pow (Nat.lt_of_lt_of_le h (Nat.pow_le_pow_right (by decide) (by omega)))]
    simp [q]
theorem bn_cong {p q : Nat → Bool} : ∀ {n : Nat}, (∀ i, i < n → p i = q i) → bn p n = bn q n
  | 0, _ => rfl
  | n + 1, h => by rw [bn, bn, h n (Nat.lt_succ_self n), bn_cong (fun i hi => h i (Nat.lt_succ_of_lt hi))]
/-- the long of a set of posts -/
def bs (p : Nat → Bool) : Int64 := lN (bn p 60)
theorem bs_lt (p : Nat → Bool) : bn p 60 < 2 ^ 60 := bn_lt p 60
theorem bs_bit (p : Nat → Bool) (i : Nat) : (bs p).toBitVec.getLsbD i = (decide (i < 60) && p i) := by
  unfold bs
  rw [wb_tb, BitVec.getLsbD_ofNat, bn_test]
  by_cases h : i < 60
  · simp [h, show i < 64 by omega]
  · simp [h]
theorem bs_ext {x y : Int64} (h : ∀ i, i < 64 → x.toBitVec.getLsbD i = y.toBitVec.getLsbD i) : x = y := Int64.toBitVec_inj.mp (BitVec.eq_of_getLsbD_eq (fun i hi => h i hi))
theorem bs_cong {p q : Nat → Bool} (h : ∀ i, i < 60 → p i = q i) : bs p = bs q := by unfold bs; rw [bn_cong h]
theorem bs_inj {p q : Nat → Bool} (h : bs p = bs q) {i : Nat} (hi : i < 60) : p i = q i := by
  have := bs_bit p i
  rw [h, bs_bit] at this
  simpa [hi] using this.symm
theorem bs_and (p q : Nat → Bool) : bs p &&& bs q = bs (fun i => p i && q i) := by
  apply bs_ext
  intro i _
  rw [Int64.toBitVec_and, BitVec.getLsbD_and, bs_bit, bs_bit, bs_bit]
  cases decide (i < 60) <;> simp
theorem bs_or (p q : Nat → Bool) : bs p ||| bs q = bs (fun i => p i || q i) := by
  apply bs_ext
  intro i _
  rw [Int64.toBitVec_or, BitVec.getLsbD_or, bs_bit, bs_bit, bs_bit]
  cases decide (i < 60) <;> simp
theorem bs_m1 {i : Nat} (hi : i < 64) : (Int64.ofInt (-1)).toBitVec.getLsbD i = true := by
  have : (Int64.ofInt (-1)).toBitVec = BitVec.allOnes 64 := by decide
  rw [this, BitVec.getLsbD_allOnes]
  simp [hi]
theorem bs_not (p q : Nat → Bool) : bs p &&& (bs q ^^^ Int64.ofInt (-1)) = bs (fun i => p i && !q i) := by
  apply bs_ext
  intro i hi
  rw [Int64.toBitVec_and, BitVec.getLsbD_and, Int64.toBitVec_xor, BitVec.getLsbD_xor, bs_m1 hi, bs_bit, bs_bit, bs_bit]
  cases decide (i < 60) <;> simp
theorem bs_0 : bs (fun _ => false) = Int64.ofInt 0 := by decide
theorem bs_eq0 (p : Nat → Bool) : bs p = Int64.ofInt 0 ↔ ∀ i, i < 60 → p i = false := by
  rw [← bs_0]
  exact ⟨fun h i hi => bs_inj h hi, fun h => bs_cong h⟩
theorem bn_all : ∀ n, bn (fun _ => true) n = 2 ^ n - 1
  | 0 => rfl
  | n + 1 => by
    have h : 0 < 2 ^ n := Nat.two_pow_pos n
    rw [bn, bn_all n, Nat.pow_succ, if_pos rfl]
    omega
theorem bn_up (p : Nat → Bool) {n : Nat} (h : ∀ i, n ≤ i → p i = false) : ∀ m, bn p (n + m) = bn p n
  | 0 => rfl
  | m + 1 => by rw [← Nat.add_assoc, bn, bn_up p h m, h (n + m) (by omega)]; simp
theorem bs_all {n : Nat} (hn : n ≤ 60) : sx_X6_all (Int32.ofInt (n : Int)) = bs (fun i => decide (i < n)) := by
  have h : ∀ n : Fin 61, sx_X6_all (Int32.ofInt (n.val : Int)) = bs (fun i => decide (i < n.val)) := by decide +kernel
  exact h ⟨n, by omega⟩
theorem bs_one {n : Nat} (hn : n < 60) : sx_X6_bit (Int32.ofInt (n : Int)) = bs (fun i => decide (i = n)) := by
  have h : ∀ n : Fin 60, sx_X6_bit (Int32.ofInt (n.val : Int)) = bs (fun i => decide (i = n.val)) := by decide +kernel
  exact h ⟨n, by omega⟩
theorem bs_shr (p : Nat → Bool) {n : Nat} (hn : n < 60) : (((bs p).toUInt64 >>> ((Int32.ofInt (n : Int)).toInt64.toUInt64 &&& Int64.toUInt64 63)).toInt64 &&& Int64.ofNat 1) = if p n then 1 else 0 := by
  rw [← z_nI]
  have h := bs_lt p
  show (((lN (bn p 60)).toUInt64 >>> ((nI n).toInt64.toUInt64 &&& Int64.toUInt64 63)).toInt64 &&& 1) = _
  rw [wb_bit (by omega) (by omega)]
  have e : bn p 60 / 2 ^ n % 2 = if p n then 1 else 0 := by
    have := bn_test p 60 n
    rw [Nat.testBit_eq_decide_div_mod_eq] at this
    have h2 : bn p 60 / 2 ^ n % 2 < 2 := Nat.mod_lt _ (by decide)
    cases hq : p n
    · rw [hq] at this; simp at this; simp; omega
    · rw [hq] at this; simp [hn] at this; simp; omega
  rw [e]
  cases p n <;> rfl
theorem bs_has (p : Nat → Bool) {n : Nat} (hn : n < 60) : sx_X6_has (bs p) (Int32.ofInt (n : Int)) = if p n then Int32.ofInt 1 else Int32.ofInt 0 := by
  unfold sx_X6_has
  have h1 : ¬ Int32.ofInt (n : Int) < 0 := by rw [z_0, z_lt (by omega)]; omega
  have h2 : ¬ (Int8.ofInt 60).toInt32 ≤ Int32.ofInt (n : Int) := by
    show ¬ Int32.ofInt 60 ≤ Int32.ofInt (n : Int)
    rw [z_le (by omega)]; omega
  rw [if_neg h1, if_neg h2, bs_shr p hn]
  cases p n <;> rfl
