/-! Long.bitCount counts -/
theorem pc_and {A M l m : Nat} (hl : l < 256) (hm : m < 256) : (256 * A + l) &&& (256 * M + m) = 256 * (A &&& M) + (l &&& m) := by
  have h1 : ((256 * A + l) &&& (256 * M + m)) / 2 ^ 8 = A &&& M := by
    rw [Nat.and_div_two_pow]; congr 1 <;> omega
  have h2 : ((256 * A + l) &&& (256 * M + m)) % 2 ^ 8 = l &&& m := by
    rw [Nat.and_mod_two_pow]; congr 1 <;> omega
  have := Nat.div_add_mod ((256 * A + l) &&& (256 * M + m)) (2 ^ 8)
  rw [h1, h2] at this
  omega
def pm5 : Nat → Nat
  | 0 => 0
  | n + 1 => 256 * pm5 n + 85
def pm3 : Nat → Nat
  | 0 => 0
  | n + 1 => 256 * pm3 n + 51
def pmf : Nat → Nat
  | 0 => 0
  | n + 1 => 256 * pmf n + 15
def pt1 (n X : Nat) : Nat := X - ((X / 2) &&& pm5 n)
def pt2 (n X : Nat) : Nat := (X &&& pm3 n) + ((X / 4) &&& pm3 n)
def pt3 (n X : Nat) : Nat := (X + X / 16) &&& pmf n
def pu1 (b : Nat) : Nat := b - ((b / 2) &&& 85)
def pu2 (a : Nat) : Nat := (a &&& 51) + ((a / 4) &&& 51)
def pu3 (a : Nat) : Nat := (a + a / 16) % 16
def pu (b : Nat) : Nat := pu3 (pu2 (pu1 b))
theorem pf1 : ∀ (e : Fin 2) (b : Fin 256), (128 * e.val + b.val / 2) &&& 85 = (b.val / 2) &&& 85 := by decide +kernel
theorem pf2 : ∀ (e : Fin 4) (b : Fin 256), (64 * e.val + b.val / 4) &&& 51 = (b.val / 4) &&& 51 := by decide +kernel
theorem pf3 : ∀ b : Fin 256, pu1 b.val < 256 ∧ pu2 (pu1 b.val) ≤ 68 ∧ pu2 (pu1 b.val) % 16 ≤ 4 ∧ pu b.val = fb_ct (fun i => b.val.testBit i) 8 := by decide +kernel
theorem pt1_s (n Y b : Nat) (hb : b < 256) : pt1 (n + 1) (256 * Y + b) = 256 * pt1 n Y + pu1 b := by
  have e : (256 * Y + b) / 2 = 256 * (Y / 2) + (128 * (Y % 2) + b / 2) := by omega
  have f := pf1 ⟨Y % 2, by omega⟩ ⟨b, hb⟩
  unfold pt1 pu1
  rw [e, pm5, pc_and (by omega) (by decide)]
  simp only at f
  rw [f]
  have g1 : (Y / 2) &&& pm5 n ≤ Y / 2 := Nat.and_le_left
  have g2 : (b / 2) &&& 85 ≤ b / 2 := Nat.and_le_left
  omega
theorem pt2_s (n A a : Nat) (ha : a < 256) : pt2 (n + 1) (256 * A + a) = 256 * pt2 n A + pu2 a := by
  have e : (256 * A + a) / 4 = 256 * (A / 4) + (64 * (A % 4) + a / 4) := by omega
  have f := pf2 ⟨A % 4, by omega⟩ ⟨a, ha⟩
  unfold pt2 pu2
  rw [e, pm3, pc_and ha (by decide), pc_and (by omega) (by decide)]
  simp only at f
  rw [f]
  omega
theorem pt3_s (n A a : Nat) (ha : a ≤ 68) (hA : A % 16 ≤ 4) : pt3 (n + 1) (256 * A + a) = 256 * pt3 n A + pu3 a := by
  have e : 256 * A + a + (256 * A + a) / 16 = 256 * (A + A / 16) + (a + 16 * (A % 16) + a / 16) := by omega
  unfold pt3 pu3
  rw [e, pmf, pc_and (by omega) (by decide)]
  have g : (a + 16 * (A % 16) + a / 16) &&& 15 = (a + 16 * (A % 16) + a / 16) % 16 := Nat.and_two_pow_sub_one_eq_mod _ 4
  rw [g]
  omega
theorem pt_low : ∀ (n X : Nat), pt2 n (pt1 n X) % 16 ≤ 4
  | 0, X => by simp [pt2, pm3]
  | n + 1, X => by
    have h := pf3 ⟨X % 256, by omega⟩
    simp only at h
    rw [show X = 256 * (X / 256) + X % 256 by omega, pt1_s n _ _ (by omega), pt2_s n _ _ h.1]
    omega
def pT (n X : Nat) : Nat := pt3 n (pt2 n (pt1 n X))
theorem pT_s (n X : Nat) : pT (n + 1) X = 256 * pT n (X / 256) + pu (X % 256) := by
  have h := pf3 ⟨X % 256, by omega⟩
  simp only at h
  unfold pT pu
  rw [show X = 256 * (X / 256) + X % 256 by omega, pt1_s n _ _ (by omega), show (256 * (X / 256) + X % 256) % 256 = X % 256 by omega, show (256 * (X / 256) + X % 256) / 256 = X / 256 by omega, pt2_s n _ _ h.1, pt3_s n _ _ h.2.1 (pt_low n _)]
theorem pT_0 (X : Nat) : pT 0 X = 0 := by simp [pT, pt3, pmf]
theorem pu_le (X : Nat) : pu (X % 256) ≤ 8 := by
  have h := pf3 ⟨X % 256, by omega⟩
  simp only at h
  rw [h.2.2.2]
  exact fb_ct_le _ 8
theorem pu_ct (X n : Nat) : fb_ct (fun i => X.testBit i) (8 + n) = pu (X % 256) + fb_ct (fun i => (X / 256).testBit i) n := by
  have h := pf3 ⟨X % 256, by omega⟩
  simp only at h
  rw [h.2.2.2, fb_ct_split]
  congr 1
  · apply fb_ct_cong
    intro k hk
    show X.testBit k = (X % 2 ^ 8).testBit k
    rw [Nat.testBit_mod_two_pow]
    simp [hk]
  · apply fb_ct_cong
    intro k hk
    show X.testBit (8 + k) = (X / 2 ^ 8).testBit k
    rw [Nat.testBit_div_two_pow, Nat.add_comm]
def pfold (z : Nat) : Nat := ((z + z / 256) + (z + z / 256) / 65536 + ((z + z / 256) + (z + z / 256) / 65536) / 4294967296) % 128
def pS : Nat → Nat → Nat
  | 0, _ => 0
  | n + 1, X => pu (X % 256) + pS n (X / 256)
theorem pS_ct : ∀ (n X : Nat), fb_ct (fun i => X.testBit i) (8 * n) = pS n X
  | 0, _ => rfl
  | n + 1, X => by rw [show 8 * (n + 1) = 8 + 8 * n by omega, pu_ct, pS_ct n, pS]
theorem pfold_sum {c0 c1 c2 c3 c4 c5 c6 c7 : Nat} (h0 : c0 ≤ 8) (h1 : c1 ≤ 8) (h2 : c2 ≤ 8) (h3 : c3 ≤ 8) (h4 : c4 ≤ 8) (h5 : c5 ≤ 8) (h6 : c6 ≤ 8) (h7 : c7 ≤ 8) : pfold (c0 + 256 * c1 + 65536 * c2 + 16777216 * c3 + 4294967296 * c4 + 1099511627776 * c5 + 281474976710656 * c6 + 72057594037927936 * c7) = c0 + c1 + c2 + c3 + c4 + c5 + c6 + c7 := by
  have e1 : (c0 + 256 * c1 + 65536 * c2 + 16777216 * c3 + 4294967296 * c4 + 1099511627776 * c5 + 281474976710656 * c6 + 72057594037927936 * c7) / 256 = c1 + 256 * c2 + 65536 * c3 + 16777216 * c4 + 4294967296 * c5 + 1099511627776 * c6 + 281474976710656 * c7 := by omega
  have e2 : (c0 + 256 * c1 + 65536 * c2 + 16777216 * c3 + 4294967296 * c4 + 1099511627776 * c5 + 281474976710656 * c6 + 72057594037927936 * c7 + (c1 + 256 * c2 + 65536 * c3 + 16777216 * c4 + 4294967296 * c5 + 1099511627776 * c6 + 281474976710656 * c7)) / 65536 = (c2 + c3) + 256 * (c3 + c4) + 65536 * (c4 + c5) + 16777216 * (c5 + c6) + 4294967296 * (c6 + c7) + 1099511627776 * c7 := by omega
  have e3 : (c0 + 256 * c1 + 65536 * c2 + 16777216 * c3 + 4294967296 * c4 + 1099511627776 * c5 + 281474976710656 * c6 + 72057594037927936 * c7 + (c1 + 256 * c2 + 65536 * c3 + 16777216 * c4 + 4294967296 * c5 + 1099511627776 * c6 + 281474976710656 * c7) + ((c2 + c3) + 256 * (c3 + c4) + 65536 * (c4 + c5) + 16777216 * (c5 + c6) + 4294967296 * (c6 + c7) + 1099511627776 * c7)) / 4294967296 = (c4 + c5 + c6 + c7) + 256 * (c5 + c6 + c7) + 65536 * (c6 + c7) + 16777216 * c7 := by omega
  unfold pfold
  rw [e1, e2, e3]
  omega
theorem pT_sum : ∀ (X : Nat), ∃ c0 c1 c2 c3 c4 c5 c6 c7 : Nat, c0 ≤ 8 ∧ c1 ≤ 8 ∧ c2 ≤ 8 ∧ c3 ≤ 8 ∧ c4 ≤ 8 ∧ c5 ≤ 8 ∧ c6 ≤ 8 ∧ c7 ≤ 8 ∧ pT 8 X = c0 + 256 * c1 + 65536 * c2 + 16777216 * c3 + 4294967296 * c4 + 1099511627776 * c5 + 281474976710656 * c6 + 72057594037927936 * c7 ∧ pS 8 X = c0 + c1 + c2 + c3 + c4 + c5 + c6 + c7 := fun X => by
  refine ⟨_, _, _, _, _, _, _, _, pu_le X, pu_le (X / 256), pu_le (X / 256 / 256), pu_le (X / 256 / 256 / 256), pu_le (X / 256 / 256 / 256 / 256), pu_le (X / 256 / 256 / 256 / 256 / 256), pu_le (X / 256 / 256 / 256 / 256 / 256 / 256), pu_le (X / 256 / 256 / 256 / 256 / 256 / 256 / 256), ?_, ?_⟩
  · rw [pT_s, pT_s, pT_s, pT_s, pT_s, pT_s, pT_s, pT_s, pT_0]
    omega
  · rw [pS, pS, pS, pS, pS, pS, pS, pS, pS]
    omega
theorem pc_nat (X : Nat) : pfold (pT 8 X) = fb_ct (fun i => X.testBit i) 64 := by
  obtain ⟨c0, c1, c2, c3, c4, c5, c6, c7, h0, h1, h2, h3, h4, h5, h6, h7, e, f⟩ := pT_sum X
  rw [e, pfold_sum h0 h1 h2 h3 h4 h5 h6 h7, ← f]
  exact (pS_ct 8 X).symm
def bq1 (x : Int64) : Int64 := x - ((x.toUInt64 >>> ((nI 1).toInt64.toUInt64 &&& Int64.toUInt64 63)).toInt64 &&& lN 6148914691236517205)
def bq2 (x : Int64) : Int64 := (x &&& lN 3689348814741910323) + ((x.toUInt64 >>> ((nI 2).toInt64.toUInt64 &&& Int64.toUInt64 63)).toInt64 &&& lN 3689348814741910323)
def bq3 (x : Int64) : Int64 := (x + (x.toUInt64 >>> ((nI 4).toInt64.toUInt64 &&& Int64.toUInt64 63)).toInt64) &&& lN 1085102592571150095
def bq4 (k : Nat) (x : Int64) : Int64 := x + (x.toUInt64 >>> ((nI k).toInt64.toUInt64 &&& Int64.toUInt64 63)).toInt64
theorem bq_sx (x : Int64) : sx_J13_bitCount_95d88 x = ((bq4 32 (bq4 16 (bq4 8 (bq3 (bq2 (bq1 x)))))).toInt32 &&& nI 127) := rfl
theorem pc_bits (X : Nat) (hX : X < 2 ^ 64) : sx_J13_bitCount_95d88 (lN X) = Int32.ofInt (fb_ct (fun i => X.testBit i) 64 : Nat) := by
  have f1 : bq1 (lN X) = lN (pt1 8 X) := by
    unfold bq1
    rw [wb_shr hX (by decide), fb_andL, lN_sub (Nat.le_trans Nat.and_le_left (Nat.div_le_self _ _))]
    rfl
  have b1 : pt1 8 X < 2 ^ 64 := Nat.lt_of_le_of_lt (Nat.sub_le _ _) hX
  have f2 : bq2 (lN (pt1 8 X)) = lN (pt2 8 (pt1 8 X)) := by
    unfold bq2
    rw [wb_shr b1 (by decide), fb_andL, fb_andL, lN_add]
    rfl
  have m3 : pm3 8 = 3689348814741910323 := by decide
  have b2 : pt2 8 (pt1 8 X) < 2 ^ 63 := by
    have g1 : (pt1 8 X) &&& pm3 8 ≤ pm3 8 := Nat.and_le_right
    have g2 : (pt1 8 X / 4) &&& pm3 8 ≤ pm3 8 := Nat.and_le_right
    unfold pt2
    omega
  have f3 : bq3 (lN (pt2 8 (pt1 8 X))) = lN (pT 8 X) := by
    unfold bq3
    rw [wb_shr (by omega) (by decide), lN_add, fb_andL]
    rfl
  have mf : pmf 8 = 1085102592571150095 := by decide
  have b3 : pT 8 X ≤ 1085102592571150095 := by
    rw [← mf]; exact Nat.and_le_right
  have f4 : ∀ (k z : Nat), k < 64 → z < 2 ^ 64 → bq4 k (lN z) = lN (z + z / 2 ^ k) := by
    intro k z hk hz
    unfold bq4
    rw [wb_shr hz hk, lN_add]
  rw [bq_sx, f1, f2, f3, f4 8 _ (by decide) (by omega), f4 16 _ (by decide) (by omega), f4 32 _ (by decide) (by omega), lN_i, nx_and, show (127 : Nat) = 2 ^ 7 - 1 from rfl, Nat.and_two_pow_sub_one_eq_mod, ← pc_nat X, z_nI]
  rfl
theorem bs_count (p : Nat → Bool) : sx_J13_bitCount_95d88 (bs p) = Int32.ofInt (fb_ct p 60 : Nat) := by
  have h := bs_lt p
  unfold bs
  rw [pc_bits _ (by omega)]
  congr 2
  have e : fb_ct (fun i => (bn p 60).testBit i) 64 = fb_ct (fun i => (bn p 60).testBit i) 60 := by
    rw [show (64 : Nat) = 60 + 4 from rfl, fb_ct_split]
    have : fb_ct (fun k => (bn p 60).testBit (60 + k)) 4 = 0 := by
      rw [fb_ct_zero]
      intro k _
      rw [bn_test]
      simp [show ¬ 60 + k < 60 by omega]
    omega
  rw [e]
  apply fb_ct_cong
  intro k hk
  rw [bn_test]
  simp [hk]
theorem bs_below (p : Nat → Bool) {n : Nat} (hn : n ≤ 60) : sx_X6_below (bs p) (Int32.ofInt (n : Int)) = Int32.ofInt (fb_ct p n : Nat) := by
  show sx_J13_bitCount_95d88 (bs p &&& sx_X6_all (Int32.ofInt (n : Int))) = _
  rw [bs_all hn, bs_and, bs_count]
  congr 2
  have e : (60 : Nat) = n + (60 - n) := by omega
  rw [e, fb_ct_split]
  have h1 : fb_ct (fun k => p (n + k) && decide (n + k < n)) (60 - n) = 0 := by
    rw [fb_ct_zero]
    intro k _
    simp
  have h2 : fb_ct (fun i => p i && decide (i < n)) n = fb_ct p n := by
    apply fb_ct_cong
    intro k hk
    simp [hk]
  rw [h1, h2, Nat.add_zero]
/-! the lowest bit -/
theorem tw_f : ∀ t : Fin 32, (if Int32.ofInt 0 < nI (2 ^ t.val - 1) then tf_17 (nI (2 ^ t.val - 1)) else nI (2 ^ t.val - 1) &&& Int32.ofInt 32) = Int32.ofInt (t.val : Int) := by decide +kernel
theorem tw_bits {m t u i : Nat} (hm : m = 2 ^ t * (2 * u + 1)) : m.testBit i = if i < t then false else if i = t then true else u.testBit (i - t - 1) := by
  subst hm
  rw [Nat.testBit_two_pow_mul]
  rcases Nat.lt_trichotomy i t with z | z | z
  · simp [z, show ¬ t ≤ i by omega]
  · subst z
    simp [Nat.testBit_zero]
  · obtain ⟨j, rfl⟩ : ∃ j, i = t + 1 + j := ⟨i - t - 1, by omega⟩
    rw [if_neg (by omega), if_neg (by omega), show t + 1 + j - t = j + 1 by omega, Nat.add_sub_cancel, Nat.testBit_succ]
    simp [show t ≤ t + 1 + j by omega, show (2 * u + 1) / 2 = u by omega]
theorem tw_pred {m t u i : Nat} (hm : m = 2 ^ t * (2 * u + 1)) : (m - 1).testBit i = if i < t then true else if i = t then false else u.testBit (i - t - 1) := by
  have hp : 0 < 2 ^ t := Nat.two_pow_pos t
  have e : m - 1 = 2 ^ t * (2 * u) + (2 ^ t - 1) := by
    rw [hm, Nat.mul_add, Nat.mul_one]; omega
  rw [e, Nat.testBit_two_pow_mul_add _ (by omega)]
  rcases Nat.lt_trichotomy i t with z | z | z
  · rw [if_pos z, if_pos z, Nat.testBit_two_pow_sub_one]
    simp [z]
  · subst z
    rw [if_neg (by omega), if_neg (by omega), if_pos rfl, Nat.sub_self]
    simp [Nat.testBit_zero]
  · obtain ⟨j, rfl⟩ : ∃ j, i = t + 1 + j := ⟨i - t - 1, by omega⟩
    rw [if_neg (by omega), if_neg (by omega), if_neg (by omega), show t + 1 + j - t = j + 1 by omega, Nat.add_sub_cancel, Nat.testBit_succ]
    simp
theorem tw_32 {m t u : Nat} (hm : m = 2 ^ t * (2 * u + 1)) (ht : t < 32) : tz32 (nI m) = Int32.ofInt (t : Int) := by
  have h1 : 1 ≤ m := by rw [hm]; exact Nat.mul_pos (Nat.two_pow_pos t) (by omega)
  have e : ((nI m ^^^ (Int32.ofInt (-1))) &&& (nI m - (Int32.ofInt 1))) = nI (2 ^ t - 1) := by
    have e1 : nI m - Int32.ofInt 1 = nI (m - 1) := pk_sub (a := m) (b := 1) h1
    rw [e1]
    apply Int32.toBitVec_inj.1
    apply BitVec.eq_of_getLsbD_eq
    intro i hi
    have ea : (Int32.ofInt (-1)).toBitVec = BitVec.allOnes 32 := by decide
    rw [Int32.toBitVec_and, Int32.toBitVec_xor, BitVec.getLsbD_and, BitVec.getLsbD_xor, ea, BitVec.getLsbD_allOnes]
    show (((BitVec.ofNat 32 m).getLsbD i ^^ decide (i < 32)) && (BitVec.ofNat 32 (m - 1)).getLsbD i) = (BitVec.ofNat 32 (2 ^ t - 1)).getLsbD i
    rw [BitVec.getLsbD_ofNat, BitVec.getLsbD_ofNat, BitVec.getLsbD_ofNat, tw_bits hm, tw_pred hm, Nat.testBit_two_pow_sub_one]
    rcases Nat.lt_trichotomy i t with z | z | z
    · simp [hi, z]
    · subst z; simp [hi]
    · simp [hi, show ¬ i < t by omega, show ¬ i = t by omega]
  unfold tz32
  rw [e]
  exact tw_f ⟨t, ht⟩
theorem tw_64 {m t u : Nat} (hm : m = 2 ^ t * (2 * u + 1)) (h : m < 2 ^ 64) (ht : t < 64) : tz64 (lN m) = Int32.ofInt (t : Int) := by
  unfold tz64
  rw [lN_i]
  by_cases q : t < 32
  · have hne : ¬ nI m = Int32.ofInt 0 := by
      intro z
      have z2 : (nI m).toBitVec.getLsbD t = (Int32.ofInt 0).toBitVec.getLsbD t := by rw [z]
      have z3 : (BitVec.ofNat 32 m).getLsbD t = (BitVec.ofNat 32 0).getLsbD t := z2
      rw [BitVec.getLsbD_ofNat, tw_bits hm] at z3
      simp [q] at z3
    rw [if_neg hne]
    exact tw_32 hm q
  · have e : nI m = Int32.ofInt 0 := by
      apply Int32.toBitVec_inj.1
      apply BitVec.eq_of_getLsbD_eq
      intro i hi
      show (BitVec.ofNat 32 m).getLsbD i = (BitVec.ofNat 32 0).getLsbD i
      rw [BitVec.getLsbD_ofNat, tw_bits hm, if_pos (by omega)]
      simp
    rw [if_pos e]
    have e2 : ((lN m).toUInt64 >>> ((Int32.ofInt 32).toInt64.toUInt64 &&& Int64.toUInt64 63)).toInt64 = lN (m / 2 ^ 32) := wb_shr (k := 32) h (by decide)
    have e3 : m / 2 ^ 32 = 2 ^ (t - 32) * (2 * u + 1) := by
      rw [hm, show t = 32 + (t - 32) by omega, Nat.pow_add, Nat.mul_assoc, Nat.mul_div_cancel_left _ (by decide), show 32 + (t - 32) - 32 = t - 32 by omega]
    rw [e2, lN_i, tw_32 e3 (by omega), z_add]
    congr 1
    omega
theorem bn_tz (p : Nat → Bool) {t : Nat} (ht : t < 60) (hp : p t = true) (hl : ∀ i, i < t → p i = false) : ∃ u, bn p 60 = 2 ^ t * (2 * u + 1) := by
  refine ⟨bn p 60 / 2 ^ (t + 1), ?_⟩
  apply Nat.eq_of_testBit_eq
  intro i
  rw [tw_bits (m := 2 ^ t * (2 * (bn p 60 / 2 ^ (t + 1)) + 1)) rfl, bn_test]
  rcases Nat.lt_trichotomy i t with z | z | z
  · simp [z, hl i z]
  · subst z; simp [ht, hp]
  · rw [if_neg (by omega), if_neg (by omega), Nat.testBit_div_two_pow, bn_test, show i - t - 1 + (t + 1) = i by omega]
theorem bs_tz (p : Nat → Bool) {t : Nat} (ht : t < 60) (hp : p t = true) (hl : ∀ i, i < t → p i = false) : tz64 (bs p) = Int32.ofInt (t : Int) := by
  obtain ⟨u, hu⟩ := bn_tz p ht hp hl
  have h := bs_lt p
  exact tw_64 hu (by omega) (by omega)
/-- the lowest one taken away -/
theorem bs_drop (p : Nat → Bool) {t : Nat} (ht : t < 60) (hp : p t = true) (hl : ∀ i, i < t → p i = false) : bs p &&& (bs p - Int64.ofInt 1) = bs (fun i => p i && !decide (i = t)) := by
  obtain ⟨u, hu⟩ := bn_tz p ht hp hl
  have h1 : 1 ≤ bn p 60 := by rw [hu]; exact Nat.mul_pos (Nat.two_pow_pos t) (by omega)
  have e : bs p - Int64.ofInt 1 = lN (bn p 60 - 1) := lN_sub (a := bn p 60) (b := 1) h1
  have hlt := bs_lt p
  rw [e]
  unfold bs
  rw [fb_andL]
  congr 1
  apply Nat.eq_of_testBit_eq
  intro i
  rw [Nat.testBit_and, tw_pred hu, tw_bits hu, bn_test]
  have hb := bn_test p 60 i
  rw [tw_bits hu] at hb
  rcases Nat.lt_trichotomy i t with z | z | z
  · simp [z, hl i z]
  · subst z; simp
  · rw [if_neg (by omega), if_neg (by omega)] at hb ⊢
    rw [if_neg (by omega), if_neg (by omega), hb]
    simp [show ¬ i = t by omega]
