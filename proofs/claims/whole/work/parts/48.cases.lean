/-! EVER, CHANCE, CHOICE, EXPECTED -/
theorem bs_sar {T : Nat → Bool} {j : Nat} (hj : j < 60) : ((bs T >>> ((Int32.ofInt (j : Int)).toInt64 &&& 63)) &&& Int64.ofInt 1) = if T j then Int64.ofInt 1 else Int64.ofInt 0 := by
  have hl := bs_lt T
  have hd : bn T 60 / 2 ^ j ≤ bn T 60 := Nat.div_le_self _ _
  unfold bs
  rw [sh63n (by omega) (by omega)]
  show lN (bn T 60 / 2 ^ j) &&& 1 = _
  rw [wb_a1 (by omega)]
  have ht := bn_test T 60 j
  rw [decide_eq_true hj, Bool.true_and, Nat.testBit_eq_decide_div_mod_eq] at ht
  cases h : T j with
  | true => rw [h] at ht; rw [of_decide_eq_true ht]; rfl
  | false =>
    rw [h] at ht
    have h2 := of_decide_eq_false ht
    have : bn T 60 / 2 ^ j % 2 = 0 := by omega
    rw [this]; rfl
section
variable {SL : Nat} {xs : Nat → Int32} {d : Nat} {p s q : Nat} {Q : Option Value → mm_H → Prop} {I : Nat → Nat → Int32} {J : Nat → Nat → Int64}
theorem ones_loop {T : Nat → Bool} (kq : Q (some (.int (Int32.ofInt (fb_ct T 60 : Nat)))) (hp p s q I J)) : ∀ (f j : Nat), j + f = 60 → w_X11_ones_4 SL xs d p s q Q (bs T) (Int32.ofInt (fb_ct T j : Nat)) (Int32.ofInt (j : Nat)) I J
  | 0, j, hf => by
    obtain rfl : j = 60 := by omega
    refine sg_X11_ones_4 ⟨fun _ => kq, fun h => ?_⟩
    rw [z_le (by omega)] at h; omega
  | f + 1, j, hf => by
    refine sg_X11_ones_4 ⟨fun h => ?_, fun _ => ?_⟩
    · rw [z_le (by omega)] at h; omega
    · rw [bs_sar (by omega), z_p1]
      have e : Int32.ofInt (fb_ct T j : Nat) + (if T j then Int64.ofInt 1 else Int64.ofInt 0).toInt32 = Int32.ofInt (fb_ct T (j + 1) : Nat) := by
        cases h : T j with
        | true => rw [ct_S1 h]; exact z_p1
        | false => rw [ct_S0 (by rw [h]; decide)]; show _ + Int32.ofInt 0 = _; rw [z_add, Int.add_zero]
      rw [e]
      exact ones_loop kq f (j + 1) (by omega)
theorem m_ones {T : Nat → Bool} (kq : Q (some (.int (Int32.ofInt (fb_ct T 60 : Nat)))) (hp p s q I J)) : mm_s SL xs (d + 1) 239 [.long (bs T)] (hp p s q I J) Q := sg_X11_ones (ones_loop kq 60 0 rfl)
def evr (n : Nat) : Nat → Nat → Int
  | 0, _ => -1
  | f + 1, j => if bs (nvF n (j + 1)) = Int64.ofInt 0 then ((j + 1 : Nat) : Int) else evr n f (j + 1)
theorem ever_c {n : Nat} (hn1 : 1 ≤ n) (hn : n ≤ 60) : ∀ (f j : Nat), j + f = 3000 → Q (some (.int (Int32.ofInt (evr n f j)))) (hp p s q I J) → w_X4_leastForAll_7 SL xs d p s q Q (Int32.ofInt (n : Nat)) (bs (nvF n j)) (Int32.ofInt ((j + 1 : Nat) : Int)) I J
  | 0, j, hf, kq => by
    refine sg_X4_leastForAll_7 ⟨fun _ => kq, fun h => ?_⟩
    rw [z_lt (by omega)] at h; omega
  | f + 1, j, hf, kq => by
    rw [evr] at kq
    refine sg_X4_leastForAll_7 ⟨fun h => ?_, fun _ => ?_⟩
    · rw [z_lt (by omega)] at h; omega
    · refine c_goerN hn1 hn (by omega) (by omega) ⟨_, _, _, rfl, rfl, ?_⟩
      rw [nv_s hn1 hn, z_p1]
      refine ⟨fun h => ?_, fun h => ?_⟩
      · rw [if_pos h] at kq; exact kq
      · rw [if_neg h] at kq; exact ever_c hn1 hn f (j + 1) (by omega) kq
def hdF (n j b : Nat) : Bool := decide (b < n) && decide (tl n b j ≠ 0)
theorem hd_s {n j : Nat} (hn : 1 ≤ n) (hn2 : n ≤ 60) : bs (hdF n j) ||| (Int64.ofInt 1 <<< ((Int32.ofInt (jo (j + 1) 1 (n - 1) : Nat)).toInt64 &&& 63)) = bs (hdF n (j + 1)) := by
  have := jo_n hn (j + 1)
  rw [bs_sh (by omega), bs_or]
  refine bs_cong (fun i _ => ?_)
  unfold hdF
  rw [tl_s]
  by_cases e : i = jo (j + 1) 1 (n - 1)
  · rw [if_pos e.symm, decide_eq_true e]; simp; omega
  · rw [if_neg (fun z => e z.symm), decide_eq_false e]; simp
theorem hd_ct {n j : Nat} (hn2 : n ≤ 60) : fb_ct (hdF n j) 60 = n ↔ bs (nvF n j) = Int64.ofInt 0 := by
  have e1 : fb_ct (hdF n j) 60 = fb_ct (hdF n j) n := ct_sup2 (fun i hi => by unfold hdF at hi; simp at hi; exact hi.1) hn2
  rw [e1, fb_ct_all, bs_eq0]
  constructor
  · intro h i hi
    unfold nvF
    rcases Nat.lt_or_ge i n with q | q
    · have := h i q
      unfold hdF at this
      simp only [Bool.and_eq_true, decide_eq_true_eq] at this
      rw [decide_eq_false this.2, Bool.and_false]
    · rw [decide_eq_false (by omega), Bool.false_and]
  · intro h i hi
    have := h i (by omega)
    unfold nvF at this
    unfold hdF
    rw [decide_eq_true hi, Bool.true_and] at this ⊢
    exact decide_eq_true (of_decide_eq_false this)
theorem ever_m {n : Nat} (hn1 : 1 ≤ n) (hn : n ≤ 60) : ∀ (f j : Nat), j + f = 3000 → Q (some (.int (Int32.ofInt (evr n f j)))) (hp p s q I J) → w_X11_ever_14 SL xs d p s q Q (Int32.ofInt (n : Nat)) (bs (hdF n j)) (Int32.ofInt ((j + 1 : Nat) : Int)) I J
  | 0, j, hf, kq => by
    refine sg_X11_ever_14 ⟨fun _ => kq, fun h => ?_⟩
    rw [z_lt (by omega)] at h; omega
  | f + 1, j, hf, kq => by
    rw [evr] at kq
    refine sg_X11_ever_14 ⟨fun h => ?_, fun _ => ?_⟩
    · rw [z_lt (by omega)] at h; omega
    · refine c_lastOf hn1 hn (by omega) ⟨_, _, _, rfl, rfl, ?_⟩
      rw [hd_s hn1 hn]
      have hcl : fb_ct (hdF n (j + 1)) 60 ≤ 60 := fb_ct_le _ _
      refine m_ones ⟨_, _, _, rfl, rfl, ?_⟩
      rw [z_eq (by omega), z_p1]
      refine ⟨fun h => ?_, fun h => ?_⟩
      · rw [if_pos ((hd_ct hn).mp (by omega))] at kq; exact kq
      · rw [if_neg (fun z => h (by have := (hd_ct hn).mpr z; omega))] at kq; exact ever_m hn1 hn f (j + 1) (by omega) kq
end
theorem ca_ever {SL : Nat} {xs : Nat → Int32} {d : Nat} {h : mm_H} {Q : Option Value → mm_H → Prop} {a0 : Int32} (hd : 150 ≤ d) (hiv : iv h) (k : ∀ (r : Int32) (h1 : mm_H), h1.2.1 65 = .inr 9 → (∀ Q2 : Option Value → mm_H → Prop, (∀ h2, iv h2 → Q2 (some (.int r)) h2) → mm_s SL xs d 253 [.ref 65, .int a0] h1 Q2) → Q (some (.int r)) h1) : mm_s SL xs d 143 [.ref 2, .int a0] h Q := by
  obtain ⟨e, rfl⟩ : ∃ e, d = e + 20 := ⟨d - 20, by omega⟩
  obtain ⟨_, _, p, s, q, I, J, rfl, P, bg, x, hR, hM⟩ := hiv
  have hS : QS p s q P bg x I J := ⟨hR, hM⟩
  refine sg_X10_ever ⟨fun h => k _ _ rfl (fun Q2 k2 => sg_X11_ever ⟨fun _ => k2 _ (QS_iv hS), fun h2 => absurd h h2⟩), fun h => ?_⟩
  have h' := h
  rw [pl_z, Classical.not_not] at h'
  obtain ⟨n, n1, n2, rfl⟩ := h'
  refine sg_X4_leastForAll ?_
  have e0 : sx_X6_all (Int32.ofInt (n : Nat)) = bs (nvF n 0) := by
    rw [bs_all n2]
    exact bs_cong (fun i _ => by unfold nvF; simp [tl, fb_ct])
  have e1 : Int64.ofInt 0 = bs (hdF n 0) := by
    rw [← bs_0]
    exact bs_cong (fun i _ => by unfold hdF; simp [tl, fb_ct])
  rw [e0]
  refine ever_c n1 n2 3000 0 rfl ⟨_, _, _, rfl, rfl, k _ _ rfl (fun Q2 k2 => sg_X11_ever ⟨fun z => absurd z h, fun _ => ?_⟩)⟩
  rw [e1]
  exact ever_m n1 n2 3000 0 rfl (k2 _ (QS_iv hS))
/-! fractions -/
theorem gcd_st (x y : Nat) : Nat.gcd x y = Nat.gcd y (x % y) := by rw [Nat.gcd_comm x y, Nat.gcd_rec y x, Nat.gcd_comm]
theorem rem_half {y r : Nat} (hr : 0 < r) (hry : r < y) : 2 * (y % r) < y := by
  have h1 := Nat.mod_lt y hr
  have h2 : r + y % r ≤ y := by
    have e := Nat.div_add_mod y r
    have h3 : 1 ≤ y / r := (Nat.one_le_div_iff hr).mpr (by omega)
    have h4 : r * 1 ≤ r * (y / r) := Nat.mul_le_mul_left r h3
    omega
  omega
section
variable {SL : Nat} {xs : Nat → Int32} {d : Nat} {p s q : Nat} {Q : Option Value → mm_H → Prop} {I : Nat → Nat → Int32} {J : Nat → Nat → Int64}
theorem lN_0 {y : Nat} (h : y < 2 ^ 63) : (lN y = Int64.ofInt 0) = (y = 0) := propext (pk_lEQ (b := 0) h (by decide))
theorem gcd_c {v0 v2 : Int64} : ∀ (k x y i : Nat), y < 2 ^ k → x < 2 ^ 62 → i + 2 * k ≤ 100 → Q (some (.long (lN (Nat.gcd x y)))) (hp p s q I J) → w_X4_greatestCommon_9 SL xs d p s q Q v0 v2 (lN x) (lN y) (Int32.ofInt (i : Nat)) I J
  | k, x, y, i, hy, hx, hi, kq => by
    have hk : k ≤ 50 := by omega
    have h2k : (2 : Nat) ^ k ≤ 2 ^ 50 := Nat.pow_le_pow_right (by decide) hk
    by_cases y0 : y = 0
    · subst y0
      rw [Nat.gcd_zero_right] at kq
      exact sg_X4_greatestCommon_9 ⟨fun _ => kq, fun _ => ⟨fun _ => kq, fun h => absurd rfl h⟩⟩
    · match k, hy, hi with
      | 0, hy, _ => exact absurd hy (by omega)
      | k + 1, hy, hi =>
        have hr := Nat.mod_lt x (show 0 < y by omega)
        refine sg_X4_greatestCommon_9 ?_
        rw [z_le (by omega), lN_0 (by omega)]
        refine ⟨fun h => absurd h (by omega), fun _ => ⟨fun h => absurd h y0, fun _ => ⟨fun h => y0 ((pk_lEQ (b := 0) (by omega) (by decide)).mp h), ?_⟩⟩⟩
        rw [pk_lRem (by omega) (by omega) (by omega), z_p1]
        rw [gcd_st] at kq
        by_cases r0 : x % y = 0
        · rw [r0, Nat.gcd_zero_right] at kq
          rw [r0]
          exact sg_X4_greatestCommon_9 ⟨fun _ => kq, fun _ => ⟨fun _ => kq, fun h => absurd rfl h⟩⟩
        · have hh := rem_half (show 0 < x % y by omega) hr
          refine sg_X4_greatestCommon_9 ?_
          rw [z_le (by omega), lN_0 (by omega)]
          refine ⟨fun h => absurd h (by omega), fun _ => ⟨fun h => absurd h r0, fun _ => ⟨fun h => r0 ((pk_lEQ (b := 0) (by omega) (by decide)).mp h), ?_⟩⟩⟩
          rw [pk_lRem (by omega) (by omega) (by omega), z_p1]
          rw [gcd_st] at kq
          exact gcd_c k (x % y) (y % (x % y)) (i + 1 + 1) (by rw [Nat.pow_succ] at hy; omega) (by omega) (by omega) kq
theorem gcd_m {v0 v2 : Int64} : ∀ (f x y : Nat), y ≤ f → x < 2 ^ 62 → y < 2 ^ 62 → Q (some (.long (lN (Nat.gcd x y)))) (hp p s q I J) → w_X11_common_6 SL xs d p s q Q v0 v2 (lN x) (lN y) I J
  | f, x, y, hf, hx, hy, kq => by
    have hle : (lN y ≤ Int64.ofInt 0) = (y = 0) := propext ((pk_lLE (b := 0) (by omega) (by decide)).trans Nat.le_zero)
    refine sg_X11_common_6 ?_
    rw [hle]
    refine ⟨fun h => ?_, fun h => ⟨fun z => h ((pk_lEQ (b := 0) (by omega) (by decide)).mp z), ?_⟩⟩
    · rw [h, Nat.gcd_zero_right] at kq; exact kq
    · have hr := Nat.mod_lt x (show 0 < y by omega)
      rw [pk_lRem (by omega) (by omega) (by omega)]
      rw [gcd_st] at kq
      match f, hf with
      | 0, hf => omega
      | f + 1, hf => exact gcd_m f y (x % y) (by omega) (by omega) (by omega) kq
def prt (u l : Nat) (a : Int32) : Int32 := if a = Int32.ofInt 0 then Int32.ofInt ((u / Nat.gcd u l : Nat) : Int) else Int32.ofInt ((l / Nat.gcd u l : Nat) : Int)
theorem zl {n : Nat} (h : n < 2 ^ 31) : (Int32.ofInt (n : Nat)).toInt64 = lN n := by rw [← z_nI, nI_l h]
theorem li {n : Nat} : (lN n).toInt32 = Int32.ofInt (n : Nat) := by rw [lN_i, z_nI]
theorem z_divN {a b : Nat} (ha : a < 2147483648) (hb : 0 < b) (hb2 : b < 2147483648) : Int32.ofInt (a : Nat) / Int32.ofInt (b : Nat) = Int32.ofInt ((a / b : Nat) : Int) := by rw [z_div (by omega)]; rfl
theorem c_partOf {u l : Nat} {a : Int32} (hu : u < 2 ^ 30) (hl1 : 1 ≤ l) (hl : l < 4096) (kq : Q (some (.int (prt u l a))) (hp p s q I J)) : mm_s SL xs (d + 2) 32 [.int (Int32.ofInt (u : Nat)), .int (Int32.ofInt (l : Nat)), .int a] (hp p s q I J) Q := by
  have hg1 : 1 ≤ Nat.gcd u l := Nat.gcd_pos_of_pos_right u hl1
  have hg2 : Nat.gcd u l ≤ l := Nat.gcd_le_right u hl1
  unfold prt at kq
  refine sg_X2_partOf ?_
  rw [zl (by omega), zl (by omega)]
  refine sg_X4_greatestCommon (gcd_c 12 u l 0 hl (by omega) (by omega) ⟨_, _, _, rfl, rfl, ?_⟩)
  rw [li, z_le (by omega), z_divN (by omega) (by omega) (by omega), z_divN (by omega) (by omega) (by omega)]
  have hne : ¬ Int32.ofInt (Nat.gcd u l : Nat) = 0 := by rw [z_eq0 (by omega)]; omega
  refine ⟨fun _ => ⟨fun h => ⟨hne, ?_⟩, fun h => ⟨hne, ?_⟩⟩, fun h => absurd (by omega) h⟩
  · rw [if_pos h] at kq; exact kq
  · rw [if_neg h] at kq; exact kq
theorem m_partOf {u l : Nat} {a : Int32} (hu : u < 2 ^ 30) (hl1 : 1 ≤ l) (hl : l < 4096) (kq : Q (some (.int (prt u l a))) (hp p s q I J)) : mm_s SL xs (d + 2) 256 [.int (Int32.ofInt (u : Nat)), .int (Int32.ofInt (l : Nat)), .int a] (hp p s q I J) Q := by
  have hg1 : 1 ≤ Nat.gcd u l := Nat.gcd_pos_of_pos_right u hl1
  have hg2 : Nat.gcd u l ≤ l := Nat.gcd_le_right u hl1
  unfold prt at kq
  refine sg_X11_partOf ?_
  rw [zl (by omega), zl (by omega)]
  refine sg_X11_common (gcd_m u l u (Nat.le_refl u) (by omega) (by omega) ⟨_, _, _, rfl, rfl, ?_⟩)
  rw [Nat.gcd_comm l u, li, z_divN (by omega) (by omega) (by omega), z_divN (by omega) (by omega) (by omega)]
  have hne : ¬ Int32.ofInt (Nat.gcd u l : Nat) = 0 := by rw [z_eq0 (by omega)]; omega
  refine ⟨fun h => ⟨hne, ?_⟩, fun h => ⟨hne, ?_⟩⟩
  · rw [if_pos h] at kq; exact kq
  · rw [if_neg h] at kq; exact kq
end
/-! drawn with weights -/
def wd (V W : Nat → Nat) (n l b : Nat) : Nat := fb_sm (fun i => if jo (V i) 1 (n - 1) = b then W i else 0) l
def DR (p l : Nat) (V W : Nat → Nat) (I : Nat → Nat → Int32) : Prop := l ≤ 12 ∧ I p 11 = Int32.ofInt (l : Nat) ∧ I 65 44 = Int32.ofInt (l : Nat) ∧ ∀ i, i < l → 1 ≤ V i ∧ V i ≤ 999 ∧ 1 ≤ W i ∧ W i ≤ 99 ∧ I (p + 3) i = Int32.ofInt (V i : Nat) ∧ I 83 i = Int32.ofInt (V i : Nat) ∧ I (p + 4) i = Int32.ofInt (W i : Nat) ∧ I 84 i = Int32.ofInt (W i : Nat)
theorem DR_of {p : Nat} {I : Nat → Nat → Int32} (h : v_draw (I p 11) (I 65 44) (I (p + 3)) (I (p + 4)) (I 83) (I 84)) : ∃ l V W, DR p l V W I := by
  obtain ⟨l, l1, l2, l3, l4⟩ := h
  refine ⟨l, fun i => (I (p + 3) i).toInt.toNat, fun i => (I (p + 4) i).toInt.toNat, l1, l2, l3, fun i hi => ?_⟩
  obtain ⟨v, w, v1, v2, w1, w2, b1, b2, b3, b4⟩ := l4 i hi
  have e1 : (I (p + 3) i).toInt.toNat = v := by rw [b1, z_to (by omega) (by omega)]; exact Int.toNat_natCast v
  have e2 : (I (p + 4) i).toInt.toNat = w := by rw [b3, z_to (by omega) (by omega)]; exact Int.toNat_natCast w
  simp only [e1, e2]
  exact ⟨v1, v2, w1, w2, b1, b2, b3, b4⟩
theorem DR_c {p l : Nat} {V W : Nat → Nat} {I I2 : Nat → Nat → Int32} (h : ∀ r, r = p ∨ r = 65 ∨ r = p + 3 ∨ r = p + 4 ∨ r = 83 ∨ r = 84 → I2 r = I r) (t : DR p l V W I) : DR p l V W I2 := by
  unfold DR at t ⊢
  rw [h p (by omega), h 65 (by omega), h (p + 3) (by omega), h (p + 4) (by omega), h 83 (by omega), h 84 (by omega)]; exact t
theorem wd_le {p n l b : Nat} {V W : Nat → Nat} {I : Nat → Nat → Int32} (h : DR p l V W I) : ∀ m, m ≤ l → wd V W n m b ≤ 1188 := by
  intro m hm
  have := fb_sm_bound (f := fun i => if jo (V i) 1 (n - 1) = b then W i else 0) (c := 99) (n := m) (fun i hi => by
    have := (h.2.2.2 i (by omega)).2.2.2.1
    show (if jo (V i) 1 (n - 1) = b then W i else 0) ≤ 99
    split <;> omega)
  have h1 := h.1
  unfold wd
  omega
theorem ws_le {p l : Nat} {V W : Nat → Nat} {I : Nat → Nat → Int32} (h : DR p l V W I) : ∀ m, m ≤ l → fb_sm W m ≤ 1188 := by
  intro m hm
  have := fb_sm_bound (f := W) (c := 99) (n := m) (fun i hi => (h.2.2.2 i (by omega)).2.2.2.1)
  have h1 := h.1
  omega
theorem ws_pos {p l : Nat} {V W : Nat → Nat} {I : Nat → Nat → Int32} (h : DR p l V W I) (hl : 1 ≤ l) : 1 ≤ fb_sm W l := by
  have h1 := (h.2.2.2 0 (by omega)).2.2.1
  have := fb_sm_part W (show 0 < l by omega)
  omega
section
variable {SL : Nat} {xs : Nat → Int32} {d : Nat} {p s q : Nat} {Q : Option Value → mm_H → Prop} {J : Nat → Nat → Int64}
theorem tallyD_c {n l : Nat} {V W : Nat → Nat} (hip : isP p) (hpp : p = 39 ∨ p = 46) (hn1 : 1 ≤ n) (hn : n ≤ 60) : ∀ (f j : Nat) (I : Nat → Nat → Int32), DR p l V W I → j + f = l → (∀ i, i < 60 → I 32 i = Int32.ofInt (wd V W n j i : Nat)) → I 31 1 = Int32.ofInt (fb_sm W j : Nat) → (∀ I2 : Nat → Nat → Int32, (∀ r, r ≠ 31 → r ≠ 32 → I2 r = I r) → (∀ i, i < 60 → I2 32 i = Int32.ofInt (wd V W n l i : Nat)) → I2 31 1 = Int32.ofInt (fb_sm W l : Nat) → Q none (hp p s q I2 J)) → w_X2_tallyDrawn_6 SL xs d p s q Q (Int32.ofInt (n : Nat)) p (Int32.ofInt (j : Nat)) I J
  | 0, j, I, hD, hf, h32, h31, kq => by
    have hl := hD.1
    obtain rfl : j = l := by omega
    refine sg_X2_tallyDrawn_6 hip ⟨fun _ => kq I (fun _ _ _ => rfl) h32 h31, fun h => ?_⟩
    rw [hD.2.1, z_le (by omega)] at h; omega
  | f + 1, j, I, hD, hf, h32, h31, kq => by
    have hl := hD.1
    obtain ⟨v1, v2, w1, w2, b1, b2, b3, b4⟩ := hD.2.2.2 j (by omega)
    have hj := jo_n hn1 (V j)
    refine sg_X2_tallyDrawn_6 hip ?_
    rw [hD.2.1, z_le (by omega), z_le (by omega), z_ixN (by omega), b1]
    refine ⟨fun h => absurd h (by omega), fun _ => ⟨fun h => absurd h (by omega), fun _ => ⟨z_inN (by omega) (by omega), ?_⟩⟩⟩
    refine c_goerN hn1 hn v1 (by omega) ⟨_, _, _, rfl, rfl, ?_⟩
    rw [b3]
    refine c_add (w := fun i => wd V W n j i) (v := W j) (by omega) h32 h31 (fun I2 g1 g2 g3 => ⟨_, _, rfl, rfl, ?_⟩)
    rw [z_p1]
    exact tallyD_c hip hpp hn1 hn f (j + 1) I2 (DR_c (fun r hr => g1 r (by omega) (by omega)) hD) (by omega) (fun i hi => by rw [g2 i hi]; rfl) g3 (fun I3 g4 g5 g6 => kq I3 (fun r a b => by rw [g4 r a b, g1 r a b]) g5 g6)
theorem c_tallyD {n l : Nat} {V W : Nat → Nat} {I : Nat → Nat → Int32} (hip : isP p) (hpp : p = 39 ∨ p = 46) (hn1 : 1 ≤ n) (hn : n ≤ 60) (hD : DR p l V W I) (kq : ∀ I2 : Nat → Nat → Int32, (∀ r, r ≠ 31 → r ≠ 32 → I2 r = I r) → (∀ i, i < 60 → I2 32 i = Int32.ofInt (wd V W n l i : Nat)) → I2 31 1 = Int32.ofInt (fb_sm W l : Nat) → Q none (hp p s q I2 J)) : mm_s SL xs (d + 3) 28 [.ref 31, .int (Int32.ofInt (n : Nat)), .ref p] (hp p s q I J) Q := by
  refine sg_X2_tallyDrawn ?_
  refine c_clear (fun I1 g1 g2 g3 => ⟨_, _, rfl, rfl, ?_⟩)
  exact tallyD_c hip hpp hn1 hn l 0 I1 (DR_c (fun r hr => g1 r (by omega) (by omega)) hD) (Nat.zero_add l) g2 g3 (fun I2 g4 g5 g6 => kq I2 (fun r a b => by rw [g4 r a b, g1 r a b]) g5 g6)
theorem weightOf_m {n l b : Nat} {V W : Nat → Nat} {I : Nat → Nat → Int32} (hn1 : 1 ≤ n) (hn : n ≤ 60) (hb : b < 60) (hD : DR p l V W I) (kq : Q (some (.int (Int32.ofInt (wd V W n l b : Nat)))) (hp p s q I J)) : ∀ (f j : Nat), j + f = l → w_X11_weightOf_5 SL xs d p s q Q (Int32.ofInt (n : Nat)) (Int32.ofInt (b : Nat)) (Int32.ofInt (wd V W n j b : Nat)) (Int32.ofInt (j : Nat)) I J
  | 0, j, hf => by
    have hl := hD.1
    obtain rfl : j = l := by omega
    refine sg_X11_weightOf_5 ⟨fun _ => kq, fun h => ?_⟩
    rw [hD.2.2.1, z_le (by omega)] at h; omega
  | f + 1, j, hf => by
    have hl := hD.1
    obtain ⟨v1, v2, w1, w2, b1, b2, b3, b4⟩ := hD.2.2.2 j (by omega)
    have hj := jo_n hn1 (V j)
    have za : Int32.ofInt (wd V W n j b : Nat) + Int32.ofInt (W j : Nat) = Int32.ofInt ((wd V W n j b + W j : Nat) : Int) := by rw [z_add]; rfl
    have z0 : Int32.ofInt (wd V W n j b : Nat) + Int32.ofInt 0 = Int32.ofInt ((wd V W n j b + 0 : Nat) : Int) := by rw [z_add]; rfl
    refine sg_X11_weightOf_5 ⟨fun h => ?_, fun _ => ⟨z_inN (by omega) (by omega), ?_⟩⟩
    · rw [hD.2.2.1, z_le (by omega)] at h; omega
    · rw [z_ixN (by omega), b2]
      refine c_lastOf hn1 hn (by omega) ⟨_, _, _, rfl, rfl, ?_⟩
      have es : wd V W n (j + 1) b = wd V W n j b + (if jo (V j) 1 (n - 1) = b then W j else 0) := rfl
      rw [z_eq (by omega), b4, za, z0, z_p1]
      refine ⟨fun h => ?_, fun h => ?_⟩
      · rw [if_pos (by omega)] at es
        rw [← es]; exact weightOf_m hn1 hn hb hD kq f (j + 1) (by omega)
      · rw [if_neg (by omega)] at es
        rw [← es]; exact weightOf_m hn1 hn hb hD kq f (j + 1) (by omega)
theorem m_weightOf {n l b : Nat} {V W : Nat → Nat} {I : Nat → Nat → Int32} (hn1 : 1 ≤ n) (hn : n ≤ 60) (hb : b < 60) (hD : DR p l V W I) (kq : Q (some (.int (Int32.ofInt (wd V W n l b : Nat)))) (hp p s q I J)) : mm_s SL xs (d + 2) 255 [.ref 65, .int (Int32.ofInt (n : Nat)), .int (Int32.ofInt (b : Nat))] (hp p s q I J) Q := sg_X11_weightOf (weightOf_m hn1 hn hb hD kq l 0 (Nat.zero_add l))
theorem allWeight_m {l : Nat} {V W : Nat → Nat} {I : Nat → Nat → Int32} (hD : DR p l V W I) (kq : Q (some (.int (Int32.ofInt (fb_sm W l : Nat)))) (hp p s q I J)) : ∀ (f j : Nat), j + f = l → w_X11_allWeight_4 SL xs d p s q Q (Int32.ofInt (fb_sm W j : Nat)) (Int32.ofInt (j : Nat)) I J
  | 0, j, hf => by
    have hl := hD.1
    obtain rfl : j = l := by omega
    refine sg_X11_allWeight_4 ⟨fun _ => kq, fun h => ?_⟩
    rw [hD.2.2.1, z_le (by omega)] at h; omega
  | f + 1, j, hf => by
    have hl := hD.1
    obtain ⟨v1, v2, w1, w2, b1, b2, b3, b4⟩ := hD.2.2.2 j (by omega)
    have za : Int32.ofInt (fb_sm W j : Nat) + Int32.ofInt (W j : Nat) = Int32.ofInt (fb_sm W (j + 1) : Nat) := by rw [z_add]; rfl
    refine sg_X11_allWeight_4 ⟨fun h => ?_, fun _ => ⟨z_inN (by omega) (by omega), ?_⟩⟩
    · rw [hD.2.2.1, z_le (by omega)] at h; omega
    · rw [z_ixN (by omega), b4, za, z_p1]
      exact allWeight_m hD kq f (j + 1) (by omega)
theorem m_allWeight {l : Nat} {V W : Nat → Nat} {I : Nat → Nat → Int32} (hD : DR p l V W I) (kq : Q (some (.int (Int32.ofInt (fb_sm W l : Nat)))) (hp p s q I J)) : mm_s SL xs (d + 1) 254 [.ref 65] (hp p s q I J) Q := sg_X11_allWeight (allWeight_m hD kq l 0 (Nat.zero_add l))
end
theorem ca_chance {SL : Nat} {xs : Nat → Int32} {d : Nat} {h : mm_H} {Q : Option Value → mm_H → Prop} {a0 : Int32} {a1 : Int32} {a2 : Int32} (hd : 150 ≤ d) (hiv : iv h) (k : ∀ (r : Int32) (h1 : mm_H), h1.2.1 65 = .inr 9 → (∀ Q2 : Option Value → mm_H → Prop, (∀ h2, iv h2 → Q2 (some (.int r)) h2) → mm_s SL xs d 258 [.ref 65, .int a0, .int a1, .int a2] h1 Q2) → Q (some (.int r)) h1) : mm_s SL xs d 144 [.ref 2, .int a0, .int a1, .int a2] h Q := by
  obtain ⟨e, rfl⟩ : ∃ e, d = e + 20 := ⟨d - 20, by omega⟩
  obtain ⟨_, _, p, s, q, I, J, rfl, P, bg, x, hR, hM⟩ := hiv
  have hS : QS p s q P bg x I J := ⟨hR, hM⟩
  obtain ⟨hpp, hip⟩ := RX_p hR
  obtain ⟨l, V, W, hD⟩ := DR_of (RX_pl hR).2.2.2.2.2.2.2.2
  have hl := hD.1
  refine sg_X10_chance hip ⟨fun h => k _ _ rfl (fun Q2 k2 => sg_X11_chance ⟨fun _ => k2 _ (QS_iv hS), fun h2 => absurd h h2⟩), fun h => ⟨fun h2 => k _ _ rfl (fun Q2 k2 => sg_X11_chance ⟨fun z => absurd z h, fun _ => ⟨fun _ => k2 _ (QS_iv hS), fun z => absurd h2 z⟩⟩), fun h2 => ⟨fun h3 => k _ _ rfl (fun Q2 k2 => sg_X11_chance ⟨fun z => absurd z h, fun _ => ⟨fun z => absurd z h2, fun _ => ⟨fun _ => k2 _ (QS_iv hS), fun z => absurd h3 z⟩⟩⟩), fun h3 => ⟨fun h4 => k _ _ rfl (fun Q2 k2 => sg_X11_chance ⟨fun z => absurd z h, fun _ => ⟨fun z => absurd z h2, fun _ => ⟨fun z => absurd z h3, fun _ => ⟨fun _ => k2 _ (QS_iv hS), fun z => absurd h4 z⟩⟩⟩⟩), fun h4 => ⟨fun h5 => k _ _ rfl (fun Q2 k2 => sg_X11_chance ⟨fun z => absurd z h, fun _ => ⟨fun z => absurd z h2, fun _ => ⟨fun z => absurd z h3, fun _ => ⟨fun z => absurd z h4, fun _ => ⟨fun _ => k2 _ (QS_iv hS), fun z => absurd ?_ z⟩⟩⟩⟩⟩), fun h5 => ?_⟩⟩⟩⟩⟩
  · rw [hD.2.1, z_eq (by omega)] at h5
    rw [hD.2.2.1, z_le (by omega)]; omega
  · have h5' := h5
    rw [hD.2.1, z_eq (by omega)] at h5'
    have h' := h
    rw [pl_z, Classical.not_not] at h'
    obtain ⟨n, n1, n2, rfl⟩ := h'
    obtain ⟨z, z1, z2, rfl⟩ := z_of a1
    have h2' := h2
    have h3' := h3
    rw [z_lt (by omega)] at h2'
    rw [z_le (by omega)] at h3'
    obtain ⟨b, rfl⟩ : ∃ b : Nat, z = (b : Int) := ⟨z.toNat, by omega⟩
    have hwl := wd_le (n := n) (b := b) hD l (Nat.le_refl l)
    have hsl := ws_le hD l (Nat.le_refl l)
    have hsp := ws_pos hD (by omega)
    refine c_tallyD hip hpp n1 n2 hD (fun I1 g1 g2 g3 => ⟨_, _, rfl, rfl, ?_⟩)
    have hS1 : QS p s q P bg x I1 J := QS_s (fun r a b _ _ _ _ _ => g1 r a b) (fun _ _ => rfl) hS
    refine c_weightAt (w := fun i => wd V W n l i) (by omega) g2 ⟨_, _, _, rfl, rfl, ?_⟩
    rw [g3]
    refine c_partOf (by omega) hsp (by omega) ⟨_, _, _, rfl, rfl, k _ _ rfl (fun Q2 k2 => sg_X11_chance ⟨fun z => absurd z h, fun _ => ⟨fun z => absurd z h2, fun _ => ⟨fun z => absurd z h3, fun _ => ⟨fun z => absurd z h4, fun _ => ⟨fun z => ?_, fun _ => ?_⟩⟩⟩⟩⟩)⟩
    · rw [g1 65 (by omega) (by omega), hD.2.2.1, z_le (by omega)] at z; omega
    · have hD1 : DR p l V W I1 := DR_c (fun r hr => g1 r (by omega) (by omega)) hD
      refine m_weightOf n1 n2 (by omega) hD1 ⟨_, _, _, rfl, rfl, ?_⟩
      refine m_allWeight hD1 ⟨_, _, _, rfl, rfl, ?_⟩
      exact m_partOf (by omega) hsp (by omega) ⟨_, _, _, rfl, rfl, k2 _ (QS_iv hS1)⟩
/-! CHOICE -/
def tks (w : Nat → Nat) (n : Nat) : Nat → Nat → Bool
  | 0 => fun _ => false
  | j + 1 => fun i => tks w n j i || decide (i = (hvy w (tks w n j) n 0 (-1)).toNat)
theorem tks_ct {w : Nat → Nat} {n : Nat} : ∀ j, j ≤ n → fb_ct (tks w n j) n = j ∧ (j < n → 0 ≤ hvy w (tks w n j) n 0 (-1) ∧ hvy w (tks w n j) n 0 (-1) < n)
  | 0, _ => ⟨by
      have : fb_ct (tks w n 0) n = 0 := fb_ct_zero.mpr (fun i _ => rfl)
      exact this, fun h => ⟨hvy_0 n 0 (-1) (Or.inr ⟨0, by omega, by omega, rfl⟩) (by omega), by have := (hvy_r (w := w) (tk := tks w n 0) n 0 (-1) (by omega) (by omega)).2; omega⟩⟩
  | j + 1, hj => by
    obtain ⟨c1, c2⟩ := tks_ct (w := w) (n := n) j (by omega)
    obtain ⟨h0, hn⟩ := c2 (by omega)
    have hfr := hvy_free (w := w) (tk := tks w n j) n 0 (-1) (fun z => by omega) (by omega) h0
    have e : fb_ct (tks w n (j + 1)) n = j + 1 := by
      have hu := fb_ct_upd (tks w n j) true (i := (hvy w (tks w n j) n 0 (-1)).toNat) (n := n) (by omega)
      rw [hfr, c1] at hu
      have e2 : fb_ct (tks w n (j + 1)) n = fb_ct (fun k => if k = (hvy w (tks w n j) n 0 (-1)).toNat then true else tks w n j k) n := fb_ct_cong (fun k _ => by
        show (tks w n j k || decide (k = (hvy w (tks w n j) n 0 (-1)).toNat)) = _
        by_cases q : k = (hvy w (tks w n j) n 0 (-1)).toNat
        · rw [if_pos q, decide_eq_true q, Bool.or_true]
        · rw [if_neg q, decide_eq_false q, Bool.or_false])
      rw [e2]
      simpa using hu
    refine ⟨e, fun hlt => ?_⟩
    have hex : ∃ i, 0 ≤ i ∧ i < 0 + n ∧ tks w n (j + 1) i = false := by
      refine Classical.byContradiction fun hx => ?_
      have : fb_ct (tks w n (j + 1)) n = n := fb_ct_all.mpr (fun i hi => by
        cases hc : tks w n (j + 1) i with
        | true => rfl
        | false => exact absurd ⟨i, by omega, by omega, hc⟩ hx)
      omega
    exact ⟨hvy_0 n 0 (-1) (Or.inr hex) (by omega), by have := (hvy_r (w := w) (tk := tks w n (j + 1)) n 0 (-1) (by omega) (by omega)).2; omega⟩
theorem tks_s {w : Nat → Nat} {n j c : Nat} (hc : c < 60) (hv : hvy w (tks w n j) n 0 (-1) = (c : Int)) : bs (tks w n j) ||| bs (fun i => decide (i = c)) = bs (tks w n (j + 1)) := by
  rw [bs_or]
  refine bs_cong (fun i _ => ?_)
  show _ = (tks w n j i || decide (i = (hvy w (tks w n j) n 0 (-1)).toNat))
  rw [hv, Int.toNat_natCast]
section
variable {SL : Nat} {xs : Nat → Int32} {d : Nat} {p s q : Nat} {Q : Option Value → mm_H → Prop} {J : Nat → Nat → Int64}
theorem chosen_c {w : Nat → Nat} {n pe : Nat} {I : Nat → Nat → Int32} (hn : n ≤ 60) (hpe : pe < n) (hp9 : pe < 9) (hw : ∀ i, w i ≤ 1000000) (h32 : ∀ i, i < 60 → I 32 i = Int32.ofInt (w i : Nat)) (kq : Q (some (.int (Int32.ofInt (hvy w (tks w n pe) n 0 (-1))))) (hp p s q I J)) : ∀ (f j : Nat), j + f = pe → w_X2_chosenBy_12 SL xs d p s q Q (Int32.ofInt (n : Nat)) p (Int32.ofInt (pe : Nat)) (bs (tks w n j)) (Int32.ofInt (j : Nat)) I J
  | 0, j, hf => by
    obtain rfl : j = pe := by omega
    refine sg_X2_chosenBy_12 ⟨fun _ => c_heaviest hn hw h32 ⟨_, _, _, rfl, rfl, kq⟩, fun h => ?_⟩
    rw [z_le (by omega)] at h; omega
  | f + 1, j, hf => by
    obtain ⟨h0, h1⟩ := (tks_ct (w := w) (n := n) j (by omega)).2 (by omega)
    obtain ⟨c, hc⟩ : ∃ c : Nat, hvy w (tks w n j) n 0 (-1) = (c : Int) := ⟨(hvy w (tks w n j) n 0 (-1)).toNat, by omega⟩
    refine sg_X2_chosenBy_12 ⟨fun h => ?_, fun _ => ⟨fun h => ?_, fun _ => ?_⟩⟩
    · rw [z_le (by omega)] at h; omega
    · rw [z_le (by omega)] at h; omega
    · refine c_heaviest hn hw h32 ⟨_, _, _, rfl, rfl, ?_⟩
      rw [hc, bs_one (by omega), tks_s (by omega) hc, z_p1]
      exact chosen_c hn hpe hp9 hw h32 kq f (j + 1) (by omega)
theorem chosen_in {n l : Nat} {V W : Nat → Nat} {tk : Nat → Bool} {v2 v6 : Int32} {I : Nat → Nat → Int32} (hn1 : 1 ≤ n) (hn : n ≤ 60) (hD : DR p l V W I) : ∀ (f i : Nat) (b : Int), i + f = n → -1 ≤ b → b < i → w_X11_chosen_41 SL xs d p s q Q (Int32.ofInt (n : Nat)) v2 (bs tk ||| (Int64.ofInt 1 <<< ((Int32.ofInt (hvy (wd V W n l) tk f i b)).toInt64 &&& 63))) (Int32.ofInt (hvy (wd V W n l) tk f i b)) (v6 + Int32.ofInt 1) I J → w_X11_chosen_53 SL xs d p s q Q (Int32.ofInt (n : Nat)) v2 (bs tk) (Int32.ofInt b) v6 (Int32.ofInt (i : Nat)) I J
  | 0, i, b, hf, h1, h2, kq => by
    refine sg_X11_chosen_53 ⟨fun _ => kq, fun h => ?_⟩
    rw [z_le (by omega)] at h; omega
  | f + 1, i, b, hf, h1, h2, kq => by
    have hwi := wd_le (n := n) (b := i) hD l (Nat.le_refl l)
    have hwb := wd_le (n := n) (b := b.toNat) hD l (Nat.le_refl l)
    rw [hvy] at kq
    refine sg_X11_chosen_53 ?_
    rw [z_le (by omega), bs_sar (by omega), z_lt (by omega), z_p1]
    refine ⟨fun h => absurd h (by omega), fun _ => ⟨fun h => ?_, fun h => ?_⟩⟩
    · have ht : ¬ tk i = true := fun z => by rw [if_pos z] at h; exact absurd h (by decide)
      rw [if_neg ht] at kq
      refine ⟨fun hb => ?_, fun hb => ?_⟩
      · rw [if_pos (by omega)] at kq; exact chosen_in hn1 hn hD f (i + 1) _ (by omega) (by omega) (by omega) kq
      · rw [if_neg (by omega)] at kq
        have eb : Int32.ofInt b = Int32.ofInt ((b.toNat : Nat) : Int) := by congr 1; omega
        refine m_weightOf hn1 hn (by omega) hD ⟨_, _, _, rfl, rfl, ?_⟩
        rw [eb]
        refine m_weightOf hn1 hn (by omega) hD ⟨_, _, _, rfl, rfl, ?_⟩
        rw [z_le (by omega), ← eb]
        refine ⟨fun hc => ?_, fun hc => ?_⟩
        · rw [if_pos (by omega)] at kq; exact chosen_in hn1 hn hD f (i + 1) _ (by omega) h1 (by omega) kq
        · rw [if_neg (by omega)] at kq; exact chosen_in hn1 hn hD f (i + 1) _ (by omega) (by omega) (by omega) kq
    · have ht : tk i = true := by cases ht : tk i with | true => rfl | false => rw [ht] at h; exact absurd rfl h
      rw [if_pos ht] at kq
      exact chosen_in hn1 hn hD f (i + 1) b (by omega) h1 (by omega) kq
theorem chosen_m {n l pe : Nat} {V W : Nat → Nat} {I : Nat → Nat → Int32} (hn1 : 1 ≤ n) (hn : n ≤ 60) (hpe : pe < n) (hD : DR p l V W I) (kq : Q (some (.int (Int32.ofInt (hvy (wd V W n l) (tks (wd V W n l) n pe) n 0 (-1))))) (hp p s q I J)) : ∀ (f j : Nat) (v5 : Int32), j + f = pe → w_X11_chosen_41 SL xs d p s q Q (Int32.ofInt (n : Nat)) (Int32.ofInt (pe : Nat)) (bs (tks (wd V W n l) n j)) v5 (Int32.ofInt (j : Nat)) I J
  | f, j, v5, hf => by
    obtain ⟨h0, h1⟩ := (tks_ct (w := wd V W n l) (n := n) j (by omega)).2 (by omega)
    obtain ⟨c, hc⟩ : ∃ c : Nat, hvy (wd V W n l) (tks (wd V W n l) n j) n 0 (-1) = (c : Int) := ⟨(hvy (wd V W n l) (tks (wd V W n l) n j) n 0 (-1)).toNat, by omega⟩
    refine sg_X11_chosen_41 ⟨fun h => ?_, fun _ => ?_⟩
    · rw [z_lt (by omega)] at h; omega
    · refine chosen_in hn1 hn hD n 0 (-1) (Nat.zero_add n) (by omega) (by omega) ?_
      rw [hc, bs_sh (by omega), tks_s (by omega) hc, z_p1]
      match f, hf with
      | 0, hf =>
        obtain rfl : j = pe := by omega
        refine sg_X11_chosen_41 ⟨fun _ => ?_, fun h => ?_⟩
        · rw [hc] at kq; exact kq
        · rw [z_lt (by omega)] at h; omega
      | f + 1, hf => exact chosen_m hn1 hn hpe hD kq f (j + 1) _ (by omega)
/-- who may choose, in the class and in the reference -/
def chO (np l : Nat) (a0 a1 : Int32) : Prop := ∃ n pe : Nat, 1 ≤ n ∧ n ≤ 60 ∧ a0 = Int32.ofInt (n : Nat) ∧ a1 = Int32.ofInt (pe : Nat) ∧ pe < np ∧ pe < n ∧ 1 ≤ l
theorem isChooser_c {np l : Nat} {a0 a1 : Int32} {I : Nat → Nat → Int32} (hip : isP p) (hnp : np ≤ 9) (hl : l ≤ 12) (h10 : I p 10 = Int32.ofInt (np : Nat)) (h11 : I p 11 = Int32.ofInt (l : Nat)) (k1 : chO np l a0 a1 → Q (some (.int (Int32.ofInt 1))) (hp p s q I J)) (k0 : ¬ chO np l a0 a1 → Q (some (.int (Int32.ofInt 0))) (hp p s q I J)) : mm_s SL xs (d + 2) 158 [.ref 2, .int a0, .int a1] (hp p s q I J) Q := by
  obtain ⟨z, z1, z2, rfl⟩ := z_of a1
  refine sg_X10_isChooser hip ⟨fun h => k0 (fun ⟨n, pe, n1, n2, n3, _⟩ => ?_), fun h => ?_⟩
  · rw [pl_z] at h; exact h ⟨n, n1, n2, n3⟩
  · rw [pl_z, Classical.not_not] at h
    obtain ⟨n, n1, n2, rfl⟩ := h
    have key : chO np l (Int32.ofInt (n : Nat)) (Int32.ofInt z) ↔ (0 ≤ z ∧ z < np ∧ z < n ∧ 1 ≤ l) := ⟨fun ⟨n', pe, m1, m2, m3, m4, m5, m6, m7⟩ => by
      rw [z_eq (by omega)] at m3
      have m4' := congrArg Int32.toInt m4
      rw [z_to z1 z2, z_to (by omega) (by omega)] at m4'
      have hge : (0 : Int) ≤ ((pe : Nat) : Int) := Int.natCast_nonneg pe
      omega, fun h => ⟨n, z.toNat, n1, n2, rfl, by congr 1; omega, by omega, by omega, by omega⟩⟩
    rw [key] at k1 k0
    rw [h10, h11, z_lt (by omega), z_le (by omega), z_le (by omega), z_le (by omega), z_le (by omega)]
    exact ⟨fun h => k0 (by omega), fun h => ⟨fun h2 => k0 (by omega), fun h2 => ⟨fun h3 => k0 (by omega), fun h3 => ⟨fun h4 => k0 (by omega), fun h4 => ⟨fun h5 => k0 (by omega), fun h5 => k1 (by omega)⟩⟩⟩⟩⟩
theorem chooser_m {np l : Nat} {V W : Nat → Nat} {a0 a1 : Int32} {I : Nat → Nat → Int32} (hnp : np ≤ 9) (hD : DR p l V W I) (h43 : I 65 43 = Int32.ofInt (np : Nat)) (k1 : ∀ n pe : Nat, 1 ≤ n → n ≤ 60 → a0 = Int32.ofInt (n : Nat) → a1 = Int32.ofInt (pe : Nat) → pe < np → pe < n → 1 ≤ l → Q (some (.int (Int32.ofInt (hvy (wd V W n l) (tks (wd V W n l) n pe) n 0 (-1))))) (hp p s q I J)) (k0 : ¬ chO np l a0 a1 → Q (some (.int (Int32.ofInt (-1)))) (hp p s q I J)) : mm_s SL xs (d + 3) 259 [.ref 65, .int a0, .int a1] (hp p s q I J) Q := by
  have hl := hD.1
  obtain ⟨z, z1, z2, rfl⟩ := z_of a1
  refine sg_X11_chosen ⟨fun h => k0 (fun ⟨n, pe, n1, n2, n3, _⟩ => ?_), fun h => ?_⟩
  · have h : sx_X10_isPlain a0 = Int32.ofInt 0 := h
    rw [pl_z] at h; exact h ⟨n, n1, n2, n3⟩
  · have h : ¬ sx_X10_isPlain a0 = Int32.ofInt 0 := h
    rw [pl_z, Classical.not_not] at h
    obtain ⟨n, n1, n2, rfl⟩ := h
    have key : chO np l (Int32.ofInt (n : Nat)) (Int32.ofInt z) ↔ (0 ≤ z ∧ z < np ∧ z < n ∧ 1 ≤ l) := ⟨fun ⟨n', pe, m1, m2, m3, m4, m5, m6, m7⟩ => by
      rw [z_eq (by omega)] at m3
      have m4' := congrArg Int32.toInt m4
      rw [z_to z1 z2, z_to (by omega) (by omega)] at m4'
      have hge : (0 : Int) ≤ ((pe : Nat) : Int) := Int.natCast_nonneg pe
      omega, fun h => ⟨n, z.toNat, n1, n2, rfl, by congr 1; omega, by omega, by omega, by omega⟩⟩
    rw [key] at k0
    rw [h43, hD.2.2.1, z_lt (by omega), z_le (by omega), z_eq (by omega), z_lt (by omega)]
    refine ⟨fun h => k0 (by omega), fun h => ⟨fun h2 => k0 (by omega), fun h2 => ⟨fun h3 => k0 (by omega), fun h3 => ⟨fun h4 => ?_, fun h4 => k0 (by omega)⟩⟩⟩⟩
    obtain ⟨pe, rfl⟩ : ∃ pe : Nat, z = (pe : Int) := ⟨z.toNat, by omega⟩
    rw [← bs_0]
    exact chosen_m (V := V) (W := W) (l := l) n1 n2 (by omega) hD (k1 n pe n1 n2 rfl rfl (by omega) (by omega) (by omega)) pe 0 _ (Nat.zero_add pe)
end
theorem ca_choice {SL : Nat} {xs : Nat → Int32} {d : Nat} {h : mm_H} {Q : Option Value → mm_H → Prop} {a0 : Int32} {a1 : Int32} (hd : 150 ≤ d) (hiv : iv h) (k : ∀ (r : Int32) (h1 : mm_H), h1.2.1 65 = .inr 9 → (∀ Q2 : Option Value → mm_H → Prop, (∀ h2, iv h2 → Q2 (some (.int r)) h2) → mm_s SL xs d 260 [.ref 65, .int a0, .int a1] h1 Q2) → Q (some (.int r)) h1) : mm_s SL xs d 145 [.ref 2, .int a0, .int a1] h Q := by
  obtain ⟨e, rfl⟩ : ∃ e, d = e + 20 := ⟨d - 20, by omega⟩
  obtain ⟨_, _, p, s, q, I, J, rfl, P, bg, x, hR, hM⟩ := hiv
  have hS : QS p s q P bg x I J := ⟨hR, hM⟩
  obtain ⟨hpp, hip⟩ := RX_p hR
  obtain ⟨l, V, W, hD⟩ := DR_of (RX_pl hR).2.2.2.2.2.2.2.2
  obtain ⟨np, p1, p2, p3, _⟩ := (RX_pl hR).2.2.2.2.2.2.2.1
  have hl := hD.1
  refine sg_X10_choice ?_
  refine isChooser_c hip p1 hl p2 hD.2.1 (fun hc => ⟨_, _, _, rfl, rfl, fun z => absurd z (by decide), fun _ => ?_⟩) (fun hc => ⟨_, _, _, rfl, rfl, fun _ => k _ _ rfl (fun Q2 k2 => sg_X11_choice ?_), fun z => absurd rfl z⟩)
  · obtain ⟨n, pe, n1, n2, rfl, rfl, m5, m6, m7⟩ := hc
    refine sg_X2_chosenBy ?_
    refine c_tallyD hip hpp n1 n2 hD (fun I1 g1 g2 g3 => ⟨_, _, rfl, rfl, ?_⟩)
    have hS1 : QS p s q P bg x I1 J := QS_s (fun r a b _ _ _ _ _ => g1 r a b) (fun _ _ => rfl) hS
    have hD1 : DR p l V W I1 := DR_c (fun r hr => g1 r (by omega) (by omega)) hD
    rw [← bs_0]
    refine chosen_c (w := wd V W n l) n2 m6 (by omega) (fun i => by have := wd_le (n := n) (b := i) hD l (Nat.le_refl l); omega) g2 ⟨_, _, _, rfl, rfl, k _ _ rfl (fun Q2 k2 => sg_X11_choice ?_)⟩ pe 0 (Nat.zero_add pe)
    refine chooser_m p1 hD1 (by rw [g1 65 (by omega) (by omega)]; exact p3) (fun n' pe' a1 a2 a3 a4 a5 a6 a7 => ⟨_, _, _, rfl, rfl, ?_⟩) (fun z => absurd ⟨n, pe, n1, n2, rfl, rfl, m5, m6, m7⟩ z)
    rw [z_eq (by omega)] at a3 a4
    obtain rfl : n = n' := by omega
    obtain rfl : pe = pe' := by omega
    exact k2 _ (QS_iv hS1)
  · exact chooser_m p1 hD p3 (fun n' pe' a1 a2 a3 a4 a5 a6 a7 => absurd ⟨n', pe', a1, a2, a3, a4, a5, a6, a7⟩ hc) (fun _ => ⟨_, _, _, rfl, rfl, k2 _ (QS_iv hS)⟩)
theorem ca_expected {SL : Nat} {xs : Nat → Int32} {d : Nat} {h : mm_H} {Q : Option Value → mm_H → Prop} {a0 : Int32} {a1 : Int32} {a2 : Int32} (hd : 150 ≤ d) (hiv : iv h) (k : ∀ (r : Int32) (h1 : mm_H), h1.2.1 65 = .inr 9 → (∀ Q2 : Option Value → mm_H → Prop, (∀ h2, iv h2 → Q2 (some (.int r)) h2) → mm_s SL xs d 261 [.ref 65, .int a0, .int a1, .int a2] h1 Q2) → Q (some (.int r)) h1) : mm_s SL xs d 146 [.ref 2, .int a0, .int a1, .int a2] h Q := by
  obtain ⟨e, rfl⟩ : ∃ e, d = e + 20 := ⟨d - 20, by omega⟩
  obtain ⟨_, _, p, s, q, I, J, rfl, P, bg, x, hR, hM⟩ := hiv
  have hS : QS p s q P bg x I J := ⟨hR, hM⟩
  obtain ⟨hpp, hip⟩ := RX_p hR
  obtain ⟨l, V, W, hD⟩ := DR_of (RX_pl hR).2.2.2.2.2.2.2.2
  obtain ⟨np, p1, p2, p3, p4⟩ := (RX_pl hR).2.2.2.2.2.2.2.1
  have hl := hD.1
  have no : ∀ I2 : Nat → Nat → Int32, QS p s q P bg x I2 J → DR p l V W I2 → I2 65 43 = Int32.ofInt (np : Nat) → (¬ chO np l a0 a1 ∨ sx_X11_isPart a2 = Int32.ofInt 0) → ∀ Q2 : Option Value → mm_H → Prop, (∀ h2, iv h2 → Q2 (some (.int (Int32.ofInt (-1)))) h2) → mm_s SL xs (e + 20) 261 [.ref 65, .int a0, .int a1, .int a2] (hp p s q I2 J) Q2 := by
    intro I2 h2 hD2 h43 hno Q2 k2
    refine sg_X11_expected ⟨fun _ => k2 _ (QS_iv h2), fun hp_ => ?_⟩
    have hc : ¬ chO np l a0 a1 := hno.elim (fun z => z) (fun z => absurd z hp_)
    exact chooser_m p1 hD2 h43 (fun n' pe' a1 a2 a3 a4 a5 a6 a7 => absurd ⟨n', pe', a1, a2, a3, a4, a5, a6, a7⟩ hc) (fun _ => ⟨_, _, _, rfl, rfl, fun z => absurd z (by decide), fun _ => k2 _ (QS_iv h2)⟩)
  refine sg_X10_expected hip ?_
  refine isChooser_c hip p1 hl p2 hD.2.1 (fun hc => ⟨_, _, _, rfl, rfl, fun z => absurd z (by decide), fun _ => ⟨fun hz => k _ _ rfl (no I hS hD p3 (Or.inr hz)), fun hz => ?_⟩⟩) (fun hc => ⟨_, _, _, rfl, rfl, fun _ => k _ _ rfl (no I hS hD p3 (Or.inl hc)), fun z => absurd rfl z⟩)
  obtain ⟨n, pe, n1, n2, rfl, rfl, m5, m6, m7⟩ := hc
  have hsl := ws_le hD l (Nat.le_refl l)
  have hsp := ws_pos hD m7
  obtain ⟨wo, w1, w2, w3⟩ := p4 pe m5
  refine sg_X2_chosenBy ?_
  refine c_tallyD hip hpp n1 n2 hD (fun I1 g1 g2 g3 => ⟨_, _, rfl, rfl, ?_⟩)
  have hS1 : QS p s q P bg x I1 J := QS_s (fun r a b _ _ _ _ _ => g1 r a b) (fun _ _ => rfl) hS
  have hD1 : DR p l V W I1 := DR_c (fun r hr => g1 r (by omega) (by omega)) hD
  obtain ⟨h0, h1⟩ := (tks_ct (w := wd V W n l) (n := n) pe (by omega)).2 m6
  obtain ⟨c, hc⟩ : ∃ c : Nat, hvy (wd V W n l) (tks (wd V W n l) n pe) n 0 (-1) = (c : Int) := ⟨(hvy (wd V W n l) (tks (wd V W n l) n pe) n 0 (-1)).toNat, by omega⟩
  have hwc := wd_le (n := n) (b := c) hD l (Nat.le_refl l)
  have hmul : wo * wd V W n l c ≤ 999 * 1188 := Nat.mul_le_mul w1 hwc
  rw [← bs_0]
  refine chosen_c (w := wd V W n l) n2 m6 (by omega) (fun i => by have := wd_le (n := n) (b := i) hD l (Nat.le_refl l); omega) g2 ⟨_, _, _, rfl, rfl, z_inN (by omega) (by omega), ?_⟩ pe 0 (Nat.zero_add pe)
  rw [hc]
  refine c_weightAt (w := wd V W n l) (by omega) g2 ⟨_, _, _, rfl, rfl, ?_⟩
  have zm : Int32.ofInt (wo : Nat) * Int32.ofInt (wd V W n l c : Nat) = Int32.ofInt ((wo * wd V W n l c : Nat) : Int) := by rw [z_mul]; rfl
  rw [z_ixN (by omega), g1 (p + 2) (by omega) (by omega), w2, g3, zm]
  refine c_partOf (by omega) hsp (by omega) ⟨_, _, _, rfl, rfl, k _ _ rfl (fun Q2 k2 => sg_X11_expected ⟨fun z => absurd z hz, fun _ => ?_⟩)⟩
  refine chooser_m p1 hD1 (by rw [g1 65 (by omega) (by omega)]; exact p3) (fun n' pe' a1 a2 a3 a4 a5 a6 a7 => ⟨_, _, _, rfl, rfl, ?_⟩) (fun z => absurd ⟨n, pe, n1, n2, rfl, rfl, m5, m6, m7⟩ z)
  rw [z_eq (by omega)] at a3 a4
  obtain rfl : n = n' := by omega
  obtain rfl : pe = pe' := by omega
  rw [hc, z_le (by omega)]
  refine ⟨fun _ => ⟨z_inN (by omega) (by omega), ?_⟩, fun z => absurd (by omega) z⟩
  refine m_weightOf n1 n2 (by omega) hD1 ⟨_, _, _, rfl, rfl, ?_⟩
  refine m_allWeight hD1 ⟨_, _, _, rfl, rfl, ?_⟩
  rw [z_ixN (by omega), g1 82 (by omega) (by omega), w3, zm]
  exact m_partOf (by omega) hsp (by omega) ⟨_, _, _, rfl, rfl, k2 _ (QS_iv hS1)⟩
