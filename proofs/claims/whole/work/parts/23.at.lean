/-! AT: as the how manieth -/
def ga (n k : Nat) : Nat → Nat → Nat
  | 0, x => x
  | f + 1, x => if x % k = 0 then x else ga n k f (x + n - x / k)
theorem ga_stop {n k : Nat} : ∀ (f x : Nat), x % k = 0 → ga n k f x = x
  | 0, _, _ => rfl
  | f + 1, x, h => by rw [ga, if_pos h]
theorem ga_go {n k f x : Nat} (h : ¬ x % k = 0) : ga n k (f + 1) x = ga n k f (x + n - x / k) := by rw [ga, if_neg h]
theorem ga_add {n k : Nat} : ∀ (a b x : Nat), ga n k (a + b) x = ga n k b (ga n k a x)
  | 0, b, x => by rw [Nat.zero_add]; rfl
  | a + 1, b, x => by
    by_cases h : x % k = 0
    · rw [ga_stop _ _ h, ga_stop _ _ h, ga_stop _ _ h]
    · rw [show a + 1 + b = (a + b) + 1 by omega, ga_go h, ga_go h]
      exact ga_add a b _
theorem ga_step {n k x : Nat} (hk : 1 ≤ k) (hx : x ≤ k * n) : x ≤ x + n - x / k ∧ x + n - x / k ≤ k * n ∧ k * n - x ≤ k * ((x + n - x / k) - x) ∧ x / k ≤ n := by
  have h1 : x / k ≤ n := Nat.div_le_of_le_mul hx
  have h2 : k * (x / k) ≤ x := Nat.mul_div_le x k
  have h3 : x < k * (x / k) + k := by
    have := Nat.div_add_mod x k
    have := Nat.mod_lt x (show 0 < k by omega)
    omega
  generalize x / k = q at *
  obtain ⟨u, rfl⟩ : ∃ u, n = q + u := ⟨n - q, by omega⟩
  have e : k * (q + u) = k * q + k * u := Nat.mul_add ..
  have hu : u ≤ k * u := Nat.le_mul_of_pos_left u (by omega)
  rw [e] at hx ⊢
  have e2 : x + (q + u) - q - x = u := by omega
  refine ⟨by omega, ?_, by rw [e2]; omega, h1⟩
  rcases Nat.eq_zero_or_pos u with z | z
  · subst z; omega
  · obtain ⟨w, rfl⟩ : ∃ w, u = w + 1 := ⟨u - 1, by omega⟩
    have e3 : k * (w + 1) = k * w + k := by rw [Nat.mul_add, Nat.mul_one]
    have hw : w ≤ k * w := Nat.le_mul_of_pos_left w (by omega)
    rw [e3] at hx ⊢
    omega
theorem ga_bd {n k : Nat} (hk : 1 ≤ k) : ∀ (f x : Nat), x ≤ k * n → ga n k f x ≤ k * n ∧ x ≤ ga n k f x
  | 0, x, hx => ⟨hx, Nat.le_refl _⟩
  | f + 1, x, hx => by
    by_cases h : x % k = 0
    · rw [ga_stop _ _ h]; exact ⟨hx, Nat.le_refl _⟩
    · rw [ga_go h]
      obtain ⟨g1, g2, -, -⟩ := ga_step hk hx
      obtain ⟨g3, g4⟩ := ga_bd hk f _ g2
      exact ⟨g3, by omega⟩
theorem ga_near {n k : Nat} (hk : 1 ≤ k) : ∀ (i x : Nat), x ≤ k * n → ¬ ga n k i x % k = 0 → i * (k * n - ga n k i x) ≤ k * (ga n k i x - x)
  | 0, x, _, _ => by rw [Nat.zero_mul]; exact Nat.zero_le _
  | i + 1, x, hx, h => by
    by_cases hz : x % k = 0
    · rw [ga_stop _ _ hz] at h; exact absurd hz h
    · rw [ga_go hz] at h ⊢
      obtain ⟨g1, g2, g3, -⟩ := ga_step hk hx
      have ih := ga_near hk i _ g2 h
      obtain ⟨b1, b2⟩ := ga_bd hk i _ g2
      generalize x + n - x / k = x2 at *
      generalize ga n k i x2 = z at *
      have e : k * (z - x) = k * (z - x2) + k * (x2 - x) := by rw [← Nat.mul_add]; congr 1; omega
      rw [e, Nat.add_mul, Nat.one_mul]
      omega
theorem ga_half {n k : Nat} (hk : 1 ≤ k) : ∀ (j x : Nat), x ≤ k * n → ¬ ga n k (j * k) x % k = 0 → 2 ^ j * (k * n - ga n k (j * k) x) ≤ k * n - x
  | 0, x, _, _ => by rw [Nat.pow_zero, Nat.one_mul, Nat.zero_mul]; exact Nat.le_refl _
  | j + 1, x, hx, h => by
    have e : (j + 1) * k = j * k + k := by rw [Nat.add_mul, Nat.one_mul]
    rw [e, ga_add] at h ⊢
    obtain ⟨b1, b2⟩ := ga_bd hk (j * k) x hx
    have h2 : ¬ ga n k (j * k) x % k = 0 := fun z => h (by rw [ga_stop _ _ z]; exact z)
    have ih := ga_half hk j x hx h2
    have hn := ga_near hk k _ b1 h
    obtain ⟨b3, b4⟩ := ga_bd hk k _ b1
    generalize ga n k (j * k) x = y at *
    generalize ga n k k y = z at *
    have hle := Nat.le_of_mul_le_mul_left hn (by omega)
    have h3 : 2 * (k * n - z) ≤ k * n - y := by omega
    have h4 := Nat.mul_le_mul_left (2 ^ j) h3
    rw [Nat.pow_succ, Nat.mul_assoc]
    omega
theorem ga_fast {n k x : Nat} (hk : 1 ≤ k) (hk2 : k ≤ 1000) (hn : n ≤ 1000000000000) (hx : x ≤ k * n) : ga n k (50 * k) x % k = 0 := by
  by_cases h : ga n k (50 * k) x % k = 0
  · exact h
  · exfalso
    have h1 := ga_half hk 50 x hx h
    obtain ⟨b1, -⟩ := ga_bd hk (50 * k) x hx
    have hkn : k * n ≤ 1000 * 1000000000000 := Nat.mul_le_mul hk2 hn
    have h2 : k * n - ga n k (50 * k) x = 0 := by
      rcases Nat.eq_zero_or_pos (k * n - ga n k (50 * k) x) with z | z
      · exact z
      · have := Nat.mul_le_mul_left (2 ^ 50) z
        omega
    have h3 : ga n k (50 * k) x = k * n := by omega
    rw [h3, Nat.mul_mod_right] at h
    exact h rfl
def at_n (a b p : Nat) : Nat := ga a b (50 * b) (p + 1) / b
theorem lN_rem0 {x b : Nat} (hx : x < 2 ^ 63) (hb : 1 ≤ b) (hb2 : b < 2 ^ 63) : lg_cmp (lN x - lN x / lN b * lN b) 0 = 0 ↔ x % b = 0 := by
  rw [lg_cmp_eq, pk_lRem hx (by omega) hb2]
  exact pk_lEQ (a := x % b) (b := 0) (Nat.lt_of_le_of_lt (Nat.mod_le x b) hx) (by decide)
theorem lN_ne0 {b : Nat} (hb : 1 ≤ b) (hb2 : b < 2 ^ 63) : ¬ lN b = 0 := fun z => by
  have := (pk_lEQ (a := b) (b := 0) hb2 (by decide)).mp z
  omega
theorem at_loopM {SL : Nat} {xs : Nat → Int32} {cs : mm_Cs} {h : mm_H} {Q : Option Value → mm_H → Prop} {o a b : Nat} {p : Int64} (hb : 1 ≤ b) (hb2 : b ≤ 1000) (ha : a ≤ 1000000000000) : ∀ (f x : Nat), ga a b f x % b = 0 → x ≤ b * a → Q (some (.long (lN (ga a b f x / b)))) h → mm_w SL xs cs mm_am kX11_at 0 0 (some .long) Q 32 [some (.ref o), some (.long (lN a)), none, some (.int (nI b)), some (.long p), none, some (.long (lN x)), none] [] h 0 0
  | f, x, hf, hx, k => by
    have hba : b * a ≤ 1000 * 1000000000000 := Nat.mul_le_mul hb2 ha
    have eb : (nI b).toInt64 = lN b := nI_l (by omega)
    have ebne : ¬ (nI b).toInt64 = 0 := by rw [eb]; exact lN_ne0 hb (by omega)
    refine sp_lload 34 rfl rfl rfl ?_
    refine sp_iload_n 35 rfl rfl rfl ?_
    refine sp_i2l 36 rfl rfl ?_
    refine sp_lrem 37 rfl ebne rfl ?_
    refine sp_lconst 38 rfl rfl ?_
    refine sp_lcmp 39 rfl rfl ?_
    refine sp_if_eq 42 rfl rfl (fun q => ?_) (fun q => ?_)
    · have q : lg_cmp (lN x - lN x / (nI b).toInt64 * (nI b).toInt64) 0 = 0 := q
      rw [eb] at q
      have hz := (lN_rem0 (by omega) hb (by omega)).mp q
      rw [ga_stop _ _ hz] at k
      refine sp_lload 59 rfl rfl rfl ?_
      refine sp_iload_n 60 rfl rfl rfl ?_
      refine sp_i2l 61 rfl rfl ?_
      refine sp_ldiv 62 rfl ebne rfl ?_
      refine sp_J (y := lN (x / b)) (by rw [eb, pk_lDiv (by omega) (by omega) (by omega)]) ?_
      exact st_lret rfl rfl (Nat.le_refl _) (Nat.le_refl _) k
    · have q : ¬ lg_cmp (lN x - lN x / (nI b).toInt64 * (nI b).toInt64) 0 = 0 := q
      rw [eb] at q
      have hz : ¬ x % b = 0 := fun z => q ((lN_rem0 (by omega) hb (by omega)).mpr z)
      match f, hf, k with
      | 0, hf, _ => exact absurd hf hz
      | f + 1, hf, k =>
        rw [ga_go hz] at hf k
        obtain ⟨g1, g2, -, g4⟩ := ga_step hb hx
        refine sp_lload 44 rfl rfl rfl ?_
        refine sp_lload_n 45 rfl rfl rfl ?_
        refine sp_ladd 46 rfl rfl ?_
        refine sp_lload 48 rfl rfl rfl ?_
        refine sp_iload_n 49 rfl rfl rfl ?_
        refine sp_i2l 50 rfl rfl ?_
        refine sp_ldiv 51 rfl ebne rfl ?_
        refine sp_lsub 52 rfl rfl ?_
        refine sp_J (y := lN (x + a - x / b)) (by rw [eb, pk_lDiv (by omega) (by omega) (by omega), lN_add, lN_sub (by omega)]) ?_
        refine sp_lstore 54 rfl rfl rfl ?_
        refine sp_goto rfl ?_
        exact at_loopM hb hb2 ha f _ hf g2 k
theorem at_loopX {SL : Nat} {xs : Nat → Int32} {cs : mm_Cs} {h : mm_H} {Q : Option Value → mm_H → Prop} {a b : Nat} {p : Int64} (hb : 1 ≤ b) (hb2 : b ≤ 1000) (ha : a ≤ 1000000000000) : ∀ (f x j : Nat), ga a b f x % b = 0 → j + f < 1000000 → x ≤ b * a → Q (some (.long (lN (ga a b f x / b)))) h → mm_w SL xs cs mm_am kX4_placeOf 0 0 (some .long) Q 17 [some (.long (lN a)), none, some (.int (nI b)), some (.long p), none, some (.long (lN x)), none, some (.int (nI j))] [] h 0 0
  | f, x, j, hf, hj, hx, k => by
    have hba : b * a ≤ 1000 * 1000000000000 := Nat.mul_le_mul hb2 ha
    have eb : (nI b).toInt64 = lN b := nI_l (by omega)
    have ebne : ¬ (nI b).toInt64 = 0 := by rw [eb]; exact lN_ne0 hb (by omega)
    refine sp_iload 19 rfl rfl rfl ?_
    refine sp_ldc 21 rfl rfl ?_
    refine sp_ic_ge 24 rfl rfl (fun q => absurd q (nI_ge (a := j) (b := 1000000) (by omega) (by decide))) (fun _ => ?_)
    refine sp_lload 26 rfl rfl rfl ?_
    refine sp_iload_n 27 rfl rfl rfl ?_
    refine sp_i2l 28 rfl rfl ?_
    refine sp_lrem 29 rfl ebne rfl ?_
    refine sp_lconst 30 rfl rfl ?_
    refine sp_lcmp 31 rfl rfl ?_
    refine sp_if_eq 34 rfl rfl (fun q => ?_) (fun q => ?_)
    · have q : lg_cmp (lN x - lN x / (nI b).toInt64 * (nI b).toInt64) 0 = 0 := q
      rw [eb] at q
      have hz := (lN_rem0 (by omega) hb (by omega)).mp q
      rw [ga_stop _ _ hz] at k
      refine sp_lload 54 rfl rfl rfl ?_
      refine sp_iload_n 55 rfl rfl rfl ?_
      refine sp_i2l 56 rfl rfl ?_
      refine sp_ldiv 57 rfl ebne rfl ?_
      refine sp_J (y := lN (x / b)) (by rw [eb, pk_lDiv (by omega) (by omega) (by omega)]) ?_
      exact st_lret rfl rfl (Nat.le_refl _) (Nat.le_refl _) k
    · have q : ¬ lg_cmp (lN x - lN x / (nI b).toInt64 * (nI b).toInt64) 0 = 0 := q
      rw [eb] at q
      have hz : ¬ x % b = 0 := fun z => q ((lN_rem0 (by omega) hb (by omega)).mpr z)
      match f, hf, hj, k with
      | 0, hf, _, _ => exact absurd hf hz
      | f + 1, hf, hj, k =>
        rw [ga_go hz] at hf k
        obtain ⟨g1, g2, -, g4⟩ := ga_step hb hx
        refine sp_lload_n 35 rfl rfl rfl ?_
        refine sp_lload 37 rfl rfl rfl ?_
        refine sp_ladd 38 rfl rfl ?_
        refine sp_lload 40 rfl rfl rfl ?_
        refine sp_iload_n 41 rfl rfl rfl ?_
        refine sp_i2l 42 rfl rfl ?_
        refine sp_ldiv 43 rfl ebne rfl ?_
        refine sp_lsub 44 rfl rfl ?_
        refine sp_J (y := lN (x + a - x / b)) (by rw [eb, pk_lDiv (by omega) (by omega) (by omega), lN_add, Nat.add_comm a x, lN_sub (by omega)]) ?_
        refine sp_lstore 46 rfl rfl rfl ?_
        refine sp_iinc 49 rfl rfl rfl rfl ?_
        refine sp_goto rfl ?_
        have e : nI j + Int32.ofInt 1 = nI (j + 1) := nI_add j 1
        show mm_w SL xs cs mm_am kX4_placeOf 0 0 (some .long) Q 17 [some (.long (lN a)), none, some (.int (nI b)), some (.long p), none, some (.long (lN (x + a - x / b))), none, some (.int (nI j + Int32.ofInt 1))] [] h 0 0
        rw [e]
        exact at_loopX hb hb2 ha f _ (j + 1) hf (by omega) g2 k
theorem at_start {a b p : Nat} (hb : 1 ≤ b) (hp : p < a) : p + 1 ≤ b * a := by
  have := Nat.le_mul_of_pos_left a (show 0 < b by omega)
  omega
theorem c_X4_placeOf {SL : Nat} {xs : Nat → Int32} {d : Nat} {h : mm_H} {Q : Option Value → mm_H → Prop} {a b p : Nat} (ha : a ≤ 1000000000000) (hb : 1 ≤ b) (hb2 : b ≤ 1000) (hp : p < a) (k : Q (some (.long (lN (at_n a b p)))) h) : mm_s SL xs (d + 1) 42 [.long (lN a), .int (nI b), .long (lN p)] h Q := by
  refine e_X4_placeOf rfl ?_
  refine sp_iload_n 1 rfl rfl rfl ?_
  refine sp_iconst 2 rfl rfl ?_
  refine sp_ic_ge 5 rfl rfl (fun _ => ?_) (fun q => absurd (show nI 1 ≤ nI b from nI_le hb (by omega)) q)
  refine sp_lload_n 10 rfl rfl rfl ?_
  refine sp_lconst 11 rfl rfl ?_
  refine sp_ladd 12 rfl rfl ?_
  refine sp_J (y := lN (p + 1)) (lN_1 p) ?_
  refine sp_lstore 14 rfl rfl rfl ?_
  refine sp_iconst 15 rfl rfl ?_
  refine sp_istore 17 rfl rfl rfl ?_
  exact at_loopX hb hb2 ha (50 * b) (p + 1) 0 (ga_fast hb hb2 ha (at_start hb hp)) (by omega) (at_start hb hp) k
def at_r (n : Int64) (k : Int32) (p : Int64) : Int64 := if sx_X10_isLarge n k = 0 then Int64.ofInt (-1) else if lg_cmp p (Int64.ofNat 0) < 0 then Int64.ofInt (-1) else if lg_cmp p n < 0 then lN (at_n n.toInt.toNat k.toInt.toNat p.toInt.toNat) else Int64.ofInt (-1)
theorem at_args {n : Int64} {k : Int32} {p : Int64} (h1 : ¬ sx_X10_isLarge n k = 0) (h2 : ¬ lg_cmp p (Int64.ofNat 0) < 0) (h3 : lg_cmp p n < 0) : ∃ a b c : Nat, n = lN a ∧ k = nI b ∧ p = lN c ∧ a ≤ 1000000000000 ∧ 1 ≤ b ∧ b ≤ 1000 ∧ c < a := by
  have hn1 : ¬ lg_cmp n (Int64.ofNat 1) < 0 := fun z => h1 (by rw [sx_X10_isLarge, if_pos z]; rfl)
  obtain ⟨a, b, c, e1, e2, -, g1, g2, g3, -, -⟩ := fr_args (m := n) h1 hn1 ((lg_cmp_le _ _).mpr (Int64.le_refl n))
  have h0 : ¬ p < 0 := fun z => h2 ((lg_cmp_lt _ _).mpr z)
  obtain ⟨q, hq, rfl⟩ := pk_lOf h0
  subst e1
  refine ⟨a, b, q, rfl, e2, rfl, g1, g2, g3, (pk_lLT hq (by omega)).mp ((lg_cmp_lt _ _).mp h3)⟩
theorem c_X10_at {SL : Nat} {xs : Nat → Int32} {d : Nat} {h : mm_H} {Q : Option Value → mm_H → Prop} {o : Nat} {n : Int64} {kk : Int32} {m : Int64} (k : Q (some (.long (at_r n kk m))) h) : mm_s SL xs (d + 2) 135 [.ref o, .long n, .int kk, .long m] h Q := by
  unfold at_r at k
  refine e_X10_at rfl ?_
  refine sp_lload_n 1 rfl rfl rfl ?_
  refine sp_iload_n 2 rfl rfl rfl ?_
  refine sc_S 5 rfl rfl rfl rfl (Nat.le_refl _) (Nat.le_refl _) rfl ?_
  refine cx_X10_isLarge ?_
  refine sp_if_eq 8 rfl rfl (fun q => ?_) (fun q => ?_)
  · rw [if_pos q] at k
    refine sp_ldc2 25 rfl rfl ?_
    exact st_lret rfl rfl (Nat.le_refl _) (Nat.le_refl _) k
  · rw [if_neg q] at k
    refine sp_lload 10 rfl rfl rfl ?_
    refine sp_lconst 11 rfl rfl ?_
    refine sp_lcmp 12 rfl rfl ?_
    refine sp_if_lt 15 rfl rfl (fun q2 => ?_) (fun q2 => ?_)
    · rw [if_pos (show lg_cmp m (Int64.ofNat 0) < 0 from q2)] at k
      refine sp_ldc2 25 rfl rfl ?_
      exact st_lret rfl rfl (Nat.le_refl _) (Nat.le_refl _) k
    · have q2 : ¬ lg_cmp m (Int64.ofNat 0) < 0 := q2
      rw [if_neg q2] at k
      refine sp_lload 17 rfl rfl rfl ?_
      refine sp_lload_n 18 rfl rfl rfl ?_
      refine sp_lcmp 19 rfl rfl ?_
      refine sp_if_lt 22 rfl rfl (fun q3 => ?_) (fun q3 => ?_)
      · rw [if_pos q3] at k
        obtain ⟨a, b, c, rfl, rfl, rfl, ha, hb, hb2, hca⟩ := at_args q q2 q3
        rw [lN_nat (by omega), nI_nat (by omega), lN_nat (by omega)] at k
        refine sp_lload_n 27 rfl rfl rfl ?_
        refine sp_iload_n 28 rfl rfl rfl ?_
        refine sp_lload 30 rfl rfl rfl ?_
        refine sc_S 33 rfl rfl rfl rfl (Nat.le_refl _) (Nat.le_refl _) rfl ?_
        refine c_X4_placeOf ha hb hb2 hca ?_
        exact st_lret rfl rfl (Nat.le_refl _) (Nat.le_refl _) k
      · rw [if_neg q3] at k
        refine sp_ldc2 25 rfl rfl ?_
        exact st_lret rfl rfl (Nat.le_refl _) (Nat.le_refl _) k
theorem c_X11_at {SL : Nat} {xs : Nat → Int32} {d : Nat} {h : mm_H} {Q : Option Value → mm_H → Prop} {o : Nat} {n : Int64} {kk : Int32} {m : Int64} (k : Q (some (.long (at_r n kk m))) h) : mm_s SL xs (d + 2) 236 [.ref o, .long n, .int kk, .long m] h Q := by
  unfold at_r at k
  refine e_X11_at rfl ?_
  refine sp_lload_n 1 rfl rfl rfl ?_
  refine sp_iload_n 2 rfl rfl rfl ?_
  refine sc_S 5 rfl rfl rfl rfl (Nat.le_refl _) (Nat.le_refl _) rfl ?_
  refine cx_X11_isPlain ?_
  refine sp_if_eq 8 rfl rfl (fun q => ?_) (fun q => ?_)
  · rw [if_pos (show sx_X10_isLarge n kk = 0 from q)] at k
    refine sp_ldc2 25 rfl rfl ?_
    exact st_lret rfl rfl (Nat.le_refl _) (Nat.le_refl _) k
  · have q : ¬ sx_X10_isLarge n kk = 0 := q
    rw [if_neg q] at k
    refine sp_lload 10 rfl rfl rfl ?_
    refine sp_lconst 11 rfl rfl ?_
    refine sp_lcmp 12 rfl rfl ?_
    refine sp_if_lt 15 rfl rfl (fun q2 => ?_) (fun q2 => ?_)
    · rw [if_pos (show lg_cmp m (Int64.ofNat 0) < 0 from q2)] at k
      refine sp_ldc2 25 rfl rfl ?_
      exact st_lret rfl rfl (Nat.le_refl _) (Nat.le_refl _) k
    · have q2 : ¬ lg_cmp m (Int64.ofNat 0) < 0 := q2
      rw [if_neg q2] at k
      refine sp_lload 17 rfl rfl rfl ?_
      refine sp_lload_n 18 rfl rfl rfl ?_
      refine sp_lcmp 19 rfl rfl ?_
      refine sp_if_lt 22 rfl rfl (fun q3 => ?_) (fun q3 => ?_)
      · rw [if_pos q3] at k
        obtain ⟨a, b, c, rfl, rfl, rfl, ha, hb, hb2, hca⟩ := at_args q q2 q3
        rw [lN_nat (by omega), nI_nat (by omega), lN_nat (by omega)] at k
        refine sp_lload 28 rfl rfl rfl ?_
        refine sp_lconst 29 rfl rfl ?_
        refine sp_ladd 30 rfl rfl ?_
        refine sp_J (y := lN (c + 1)) (lN_1 c) ?_
        refine sp_lstore 32 rfl rfl rfl ?_
        exact at_loopM hb hb2 ha (50 * b) (c + 1) (ga_fast hb hb2 ha (at_start hb hca)) (at_start hb hca) k
      · rw [if_neg q3] at k
        refine sp_ldc2 25 rfl rfl ?_
        exact st_lret rfl rfl (Nat.le_refl _) (Nat.le_refl _) k
