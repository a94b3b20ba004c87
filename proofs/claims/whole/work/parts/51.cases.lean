/-! ASK -/
def mxf (f : Nat → Nat) : Nat → Nat
  | 0 => 0
  | n + 1 => if mxf f n < f n then f n else mxf f n
theorem mxf_c {f g : Nat → Nat} : ∀ n, (∀ i, i < n → f i = g i) → mxf f n = mxf g n
  | 0, _ => rfl
  | n + 1, h => by rw [mxf, mxf, h n (by omega), mxf_c n (fun i hi => h i (by omega))]
theorem mxf_ge {f : Nat → Nat} {i : Nat} : ∀ n, i < n → f i ≤ mxf f n
  | 0, h => absurd h (Nat.not_lt_zero i)
  | n + 1, h => by
    rw [mxf]
    by_cases e : i = n
    · subst e; split <;> omega
    · have := mxf_ge (f := f) n (show i < n by omega)
      split <;> omega
theorem mxf_up {f : Nat → Nat} {i : Nat} : ∀ n, i < n → mxf (fun j => f j + (if i = j then 1 else 0)) n = if mxf f n < f i + 1 then f i + 1 else mxf f n
  | 0, h => absurd h (Nat.not_lt_zero i)
  | n + 1, h => by
    rw [mxf, mxf]
    by_cases e : i = n
    · subst e
      have e2 : mxf (fun j => f j + (if i = j then 1 else 0)) i = mxf f i := mxf_c i (fun j hj => by rw [if_neg (by omega)]; rfl)
      rw [e2]
      show (if mxf f i < f i + (if i = i then 1 else 0) then f i + (if i = i then 1 else 0) else mxf f i) = _
      rw [if_pos rfl]
      repeat' split
      all_goals omega
    · have ih := mxf_up (f := f) (i := i) n (by omega)
      rw [ih]
      show (if (if mxf f n < f i + 1 then f i + 1 else mxf f n) < f n + (if i = n then 1 else 0) then f n + (if i = n then 1 else 0) else (if mxf f n < f i + 1 then f i + 1 else mxf f n)) = _
      rw [if_neg e]
      repeat' split
      all_goals omega
theorem mxf_0 : ∀ n, mxf (fun _ => 0) n = 0
  | 0 => rfl
  | n + 1 => by rw [mxf, mxf_0 n]; rfl
/-- of how many that fit the i-th (from 0) is at a post -/
def tc (F : Nat → Bool) (n i b : Nat) (m : Nat) : Nat := fb_ct (fun v => F (v + 1) && decide (ps (v + 1) n i = b)) m
theorem tc_s (F : Nat → Bool) (n i b m : Nat) : tc F n i b (m + 1) = tc F n i b m + (if F (m + 1) = true then (if ps (m + 1) n i = b then 1 else 0) else 0) := by
  unfold tc
  rw [fb_ct_succ]
  congr 1
  cases hF : F (m + 1) with
  | true =>
    by_cases e : ps (m + 1) n i = b
    · rw [decide_eq_true e, if_pos e]; rfl
    · rw [decide_eq_false e, if_neg e]; rfl
  | false => rfl
theorem tc_le (F : Nat → Bool) (n i b m : Nat) : tc F n i b m ≤ m := fb_ct_le _ _
theorem mxf_le {f : Nat → Nat} {c : Nat} (h : ∀ i, f i ≤ c) : ∀ n, mxf f n ≤ c
  | 0 => Nat.zero_le c
  | n + 1 => by rw [mxf]; split; exact h n; exact mxf_le h n
def bq_ (G : Nat → Nat) : Nat → Nat → Nat → Nat
  | 0, _, b => b
  | f + 1, i, b => if G b ≤ G i then bq_ G f (i + 1) b else bq_ G f (i + 1) i
theorem bq_r {G : Nat → Nat} : ∀ (f i b : Nat), 1 ≤ b → b < i → 1 ≤ bq_ G f i b ∧ bq_ G f i b < i + f
  | 0, i, b, h1, h2 => ⟨h1, h2⟩
  | f + 1, i, b, h1, h2 => by
    have a := bq_r (G := G) f (i + 1) b h1 (by omega)
    have c := bq_r (G := G) f (i + 1) i (by omega) (by omega)
    rw [bq_]
    split <;> omega
section
variable {SL : Nat} {xs : Nat → Int32} {d : Nat} {p s q : Nat} {Q : Option Value → mm_H → Prop} {J : Nat → Nat → Int64}
theorem tallyO_c {A : Nat → Nat → Nat} {v n : Nat} (hv : 1 ≤ v) (hv2 : v ≤ 200) (hn : n ≤ 60) : ∀ (f i : Nat) (I : Nat → Nat → Int32), i + f = n → (∀ a b, a < 60 → b < 60 → I 38 (60 * a + b) = Int32.ofInt ((A a b + (if a < i then (if ps v n a = b then 1 else 0) else 0) : Nat) : Int)) → (∀ I2 : Nat → Nat → Int32, (∀ r, r ≠ 38 → I2 r = I r) → (∀ a b, a < n → b < 60 → I2 38 (60 * a + b) = Int32.ofInt ((A a b + (if ps v n a = b then 1 else 0) : Nat) : Int)) → (∀ a b, a < 60 → b < 60 → n ≤ a → I2 38 (60 * a + b) = Int32.ofInt (A a b : Nat)) → Q none (hp p s q I2 J)) → w_X8_tallyOrder_11 SL xs d p s q Q (Int32.ofInt (n : Nat)) (Int32.ofInt (v : Nat)) (bs (SS v n i)) (Int32.ofInt (rkk v n i : Nat)) (Int32.ofInt (i : Nat)) I J
  | 0, i, I, hf, hA, kq => by
    obtain rfl : i = n := by omega
    refine sg_X8_tallyOrder_11 ⟨fun _ => kq I (fun _ _ => rfl) (fun a b ha hb => by rw [hA a b (by omega) hb, if_pos ha]) (fun a b ha hb hna => by rw [hA a b ha hb, if_neg (by omega)]; rfl), fun h => ?_⟩
    rw [z_le (by omega)] at h; omega
  | f + 1, i, I, hf, hA, kq => by
    have hin := ps_in (k := v) (n := n) (i := i) hv (by omega)
    have e2 : Int32.ofInt (n : Nat) - Int32.ofInt (i : Nat) = Int32.ofInt ((n - i : Nat) : Int) := by rw [z_sub]; congr 1; omega
    refine sg_X8_tallyOrder_11 ⟨fun h => ?_, fun _ => ⟨fun h => ?_, fun _ => ⟨?_, ?_⟩⟩⟩
    · rw [z_le (by omega)] at h; omega
    · rw [z_le (by omega)] at h; omega
    · rw [e2, z_eq0 (by omega)]; omega
    · rw [rk_z hv (by omega) hn (by omega)]
      refine c_ranked (by omega) hin.2.1 hin.2.2 ⟨_, _, _, rfl, rfl, ?_⟩
      have e3 : Int32.ofInt (i : Nat) * Int32.ofInt 60 + Int32.ofInt (ps v n i : Nat) = Int32.ofInt ((60 * i + ps v n i : Nat) : Int) := by rw [z_mul, z_add]; congr 1; omega
      rw [z_lt (by omega), z_le (by omega), e3, SS_s (by omega), z_p1]
      refine ⟨fun h => absurd h (by omega), fun _ => ⟨fun h => absurd h (by omega), fun _ => ⟨z_inN (by omega) (by omega), ?_⟩⟩⟩
      rw [z_ixN (by omega), hA i _ (by omega) (by omega), if_neg (Nat.lt_irrefl i), Nat.add_zero, z_p1]
      refine tallyO_c hv hv2 hn f (i + 1) _ (by omega) (fun a b ha hb => ?_) (fun I2 g1 g2 g3 => kq I2 (fun r hr => by rw [g1 r hr, mu_row hr]) g2 g3)
      rw [mu_if]
      by_cases ea : a = i
      · subst ea
        rw [if_pos (Nat.lt_succ_self a)]
        by_cases eb : ps v n a = b
        · rw [if_pos (by rw [eb]), if_pos eb, eb]
        · rw [if_neg (by omega), if_neg eb, hA a b ha hb, if_neg (Nat.lt_irrefl a)]
      · rw [if_neg (by omega), hA a b ha hb]
        have e4 : (if a < i + 1 then (if ps v n a = b then 1 else 0) else 0) = (if a < i then (if ps v n a = b then 1 else 0) else 0) := by
          by_cases q1 : a < i
          · rw [if_pos q1, if_pos (by omega)]
          · rw [if_neg q1, if_neg (by omega)]
        rw [e4]
theorem best1_c {F : Nat → Bool} {n : Nat} (hn : n ≤ 60) (hF : ∀ v, v ≤ 200 → gbit J 37 (v / 64) (v % 64) = F v) : ∀ (f j : Nat) (I : Nat → Nat → Int32), j + f = 200 → (∀ a b, a < 60 → b < 60 → I 38 (60 * a + b) = Int32.ofInt ((if a < n then tc F n a b j else 0 : Nat) : Int)) → (∀ I2 : Nat → Nat → Int32, (∀ r, r ≠ 38 → I2 r = I r) → (∀ a b, a < n → b < 60 → I2 38 (60 * a + b) = Int32.ofInt (tc F n a b 200 : Nat)) → w_X8_bestQuestion_41 SL xs d p s q Q (Int32.ofInt (n : Nat)) (Int32.ofInt 1) (Int32.ofInt 2) I2 J) → w_X8_bestQuestion_10 SL xs d p s q Q (Int32.ofInt (n : Nat)) (Int32.ofInt ((j + 1 : Nat) : Int)) I J
  | 0, j, I, hf, hA, kq => by
    obtain rfl : j = 200 := by omega
    refine sg_X8_bestQuestion_10 ⟨fun _ => kq I (fun _ _ => rfl) (fun a b ha hb => by rw [hA a b (by omega) hb, if_pos ha]), fun h => ?_⟩
    rw [z_lt (by omega)] at h; omega
  | f + 1, j, I, hf, hA, kq => by
    refine sg_X8_bestQuestion_10 ⟨fun h => ?_, fun _ => ?_⟩
    · rw [z_lt (by omega)] at h; omega
    · refine c_isFit (F := F) (by omega) (by omega) hF ⟨_, _, _, rfl, rfl, ?_⟩
      rw [zB_0, z_p1]
      refine ⟨fun h => ?_, fun h => ?_⟩
      · refine best1_c hn hF f (j + 1) I (by omega) (fun a b ha hb => ?_) kq
        have e : tc F n a b (j + 1) = tc F n a b j := by rw [tc_s, h, if_neg (by decide), Nat.add_zero]
        rw [hA a b ha hb, e]
      · have h := (Bool.not_eq_false _).mp h
        refine sg_X8_tallyOrder ?_
        rw [bs_all hn]
        refine tallyO_c (A := fun a b => if a < n then tc F n a b j else 0) (v := j + 1) (n := n) (by omega) (by omega) hn n 0 I (Nat.zero_add n) (fun a b ha hb => by rw [hA a b ha hb, if_neg (Nat.not_lt_zero a), Nat.add_zero]) (fun I2 g1 g2 g3 => ⟨_, _, rfl, rfl, ?_⟩)
        refine best1_c hn hF f (j + 1) I2 (by omega) (fun a b ha hb => ?_) (fun I3 g4 g5 => kq I3 (fun r hr => by rw [g4 r hr, g1 r hr]) g5)
        by_cases q : a < n
        · rw [g2 a b q hb, if_pos q, if_pos q, tc_s, h, if_pos rfl]
        · rw [g3 a b ha hb (by omega), if_neg q, if_neg q]
theorem great_c {A : Nat → Nat → Nat} {n i : Nat} {I : Nat → Nat → Int32} (hn : n ≤ 60) (hi : 1 ≤ i) (hin : i ≤ n) (hA2 : ∀ b, A (i - 1) b ≤ 200) (hA : ∀ a b, a < n → b < 60 → I 38 (60 * a + b) = Int32.ofInt (A a b : Nat)) (kq : Q (some (.int (Int32.ofInt (mxf (A (i - 1)) n : Nat)))) (hp p s q I J)) : ∀ (f j : Nat), j + f = n → w_X8_greatestAt_18 SL xs d p s q Q (Int32.ofInt (n : Nat)) (Int32.ofInt (i : Nat)) (Int32.ofInt (mxf (A (i - 1)) j : Nat)) (Int32.ofInt (j : Nat)) I J
  | 0, j, hf => by
    obtain rfl : j = n := by omega
    refine sg_X8_greatestAt_18 ⟨fun _ => kq, fun h => ?_⟩
    rw [z_le (by omega)] at h; omega
  | f + 1, j, hf => by
    have e3 : (Int32.ofInt (i : Nat) - Int32.ofInt 1) * Int32.ofInt 60 + Int32.ofInt (j : Nat) = Int32.ofInt ((60 * (i - 1) + j : Nat) : Int) := by rw [z_sub, z_mul, z_add]; congr 1; omega
    have hm := mxf_le hA2 j
    have hAj := hA2 j
    refine sg_X8_greatestAt_18 ⟨fun h => ?_, fun _ => ⟨fun h => ?_, fun _ => ⟨?_, ?_⟩⟩⟩
    · rw [z_le (by omega)] at h; omega
    · rw [z_le (by omega)] at h; omega
    · rw [e3]; exact z_inN (by omega) (by omega)
    · rw [e3, z_ixN (by omega), hA (i - 1) j (by omega) (by omega), z_p1]
      have em : sx_J9_max_7cf53 (Int32.ofInt (mxf (A (i - 1)) j : Nat)) (Int32.ofInt (A (i - 1) j : Nat)) = Int32.ofInt (mxf (A (i - 1)) (j + 1) : Nat) := by
        unfold sx_J9_max_7cf53
        rw [mxf]
        by_cases q : mxf (A (i - 1)) j < A (i - 1) j
        · rw [if_pos (by rw [z_lt (by omega)]; omega), if_pos q]
        · rw [if_neg (by rw [z_lt (by omega)]; omega), if_neg q]
      rw [em]
      exact great_c hn hi hin hA2 hA kq f (j + 1) (by omega)
theorem c_great {A : Nat → Nat → Nat} {n i : Nat} {I : Nat → Nat → Int32} (hn : n ≤ 60) (hi : 1 ≤ i) (hin : i ≤ n) (hA2 : ∀ b, A (i - 1) b ≤ 200) (hA : ∀ a b, a < n → b < 60 → I 38 (60 * a + b) = Int32.ofInt (A a b : Nat)) (kq : Q (some (.int (Int32.ofInt (mxf (A (i - 1)) n : Nat)))) (hp p s q I J)) : mm_s SL xs (d + 2) 101 [.ref 33, .int (Int32.ofInt (n : Nat)), .int (Int32.ofInt (i : Nat))] (hp p s q I J) Q := by
  refine sg_X8_greatestAt ?_
  rw [z_lt (by omega), z_le (by omega)]
  exact ⟨fun h => absurd h (by omega), fun _ => ⟨fun _ => great_c hn hi hin hA2 hA kq n 0 (Nat.zero_add n), fun h => absurd (by omega) h⟩⟩
theorem best2_c {A : Nat → Nat → Nat} {n : Nat} {I : Nat → Nat → Int32} (hn : n ≤ 60) (hA2 : ∀ a b, A a b ≤ 200) (hA : ∀ a b, a < n → b < 60 → I 38 (60 * a + b) = Int32.ofInt (A a b : Nat)) : ∀ (f i b : Nat), i + f = n + 1 → 1 ≤ b → b < i → Q (some (.int (Int32.ofInt (bq_ (fun i => mxf (A (i - 1)) n) f i b : Nat)))) (hp p s q I J) → w_X8_bestQuestion_41 SL xs d p s q Q (Int32.ofInt (n : Nat)) (Int32.ofInt (b : Nat)) (Int32.ofInt (i : Nat)) I J
  | 0, i, b, hf, h1, h2, kq => by
    refine sg_X8_bestQuestion_41 ⟨fun _ => kq, fun h => ?_⟩
    rw [z_lt (by omega)] at h; omega
  | f + 1, i, b, hf, h1, h2, kq => by
    have m1 := mxf_le (hA2 (i - 1)) n
    have m2 := mxf_le (hA2 (b - 1)) n
    rw [bq_] at kq
    refine sg_X8_bestQuestion_41 ⟨fun h => ?_, fun _ => ?_⟩
    · rw [z_lt (by omega)] at h; omega
    · refine c_great (A := A) hn (by omega) (by omega) (hA2 _) hA ⟨_, _, _, rfl, rfl, ?_⟩
      refine c_great (A := A) hn h1 (by omega) (hA2 _) hA ⟨_, _, _, rfl, rfl, ?_⟩
      rw [z_le (by omega), z_p1]
      refine ⟨fun h => ?_, fun h => ?_⟩
      · rw [if_pos (by omega)] at kq; exact best2_c hn hA2 hA f (i + 1) b (by omega) h1 (by omega) kq
      · rw [if_neg (by omega)] at kq; exact best2_c hn hA2 hA f (i + 1) i (by omega) (by omega) (by omega) kq
theorem part0_m {v1 v2 : Int32} : ∀ (f j : Nat) (I : Nat → Nat → Int32), j + f = 60 → (∀ b, b < j → I 106 b = Int32.ofInt 0) → (∀ I2 : Nat → Nat → Int32, (∀ r, r ≠ 106 → I2 r = I r) → (∀ b, b < 60 → I2 106 b = Int32.ofInt 0) → w_X11_greatestPart_29 SL xs d p s q Q v1 v2 (Int32.ofInt 0) (Int32.ofInt 1) I2 J) → w_X11_greatestPart_5 SL xs d p s q Q v1 v2 (Int32.ofInt 0) (Int32.ofInt (j : Nat)) I J
  | 0, j, I, hf, h0, kq => by
    obtain rfl : j = 60 := by omega
    refine sg_X11_greatestPart_5 ⟨fun _ => kq I (fun _ _ => rfl) h0, fun h => ?_⟩
    rw [z_le (by omega)] at h; omega
  | f + 1, j, I, hf, h0, kq => by
    refine sg_X11_greatestPart_5 ⟨fun h => ?_, fun _ => ⟨z_inN (by omega) (by omega), ?_⟩⟩
    · rw [z_le (by omega)] at h; omega
    · rw [z_ixN (by omega), z_p1]
      refine part0_m f (j + 1) _ (by omega) (fun b hb => ?_) (fun I2 g1 g2 => kq I2 (fun r hr => by rw [g1 r hr, mu_row hr]) g2)
      rw [mu_if]
      by_cases e : b = j
      · rw [if_pos e]
      · rw [if_neg e]; exact h0 b (by omega)
theorem part1_m {F : Nat → Bool} {n i : Nat} (hn : n ≤ 60) (hi : 1 ≤ i) (hin : i ≤ n) : ∀ (f j : Nat) (I : Nat → Nat → Int32), j + f = 200 → (∀ v, 1 ≤ v → v ≤ 200 → I 105 v = zB (F v)) → (∀ b, b < 60 → I 106 b = Int32.ofInt (tc F n (i - 1) b j : Nat)) → (∀ I2 : Nat → Nat → Int32, (∀ r, r ≠ 106 → I2 r = I r) → Q (some (.int (Int32.ofInt (mxf (fun b => tc F n (i - 1) b 200) n : Nat)))) (hp p s q I2 J)) → w_X11_greatestPart_29 SL xs d p s q Q (Int32.ofInt (n : Nat)) (Int32.ofInt (i : Nat)) (Int32.ofInt (mxf (fun b => tc F n (i - 1) b j) n : Nat)) (Int32.ofInt ((j + 1 : Nat) : Int)) I J
  | 0, j, I, hf, h105, h106, kq => by
    obtain rfl : j = 200 := by omega
    refine sg_X11_greatestPart_29 ⟨fun _ => kq I (fun _ _ => rfl), fun h => ?_⟩
    rw [z_lt (by omega)] at h; omega
  | f + 1, j, I, hf, h105, h106, kq => by
    have hpi := ps_in (k := j + 1) (n := n) (i := i - 1) (by omega) (by omega)
    have hml := mxf_le (f := fun b => tc F n (i - 1) b j) (c := 200) (fun b => by have := tc_le F n (i - 1) b j; show tc F n (i - 1) b j ≤ 200; omega) n
    have htl := tc_le F n (i - 1) (ps (j + 1) n (i - 1)) j
    refine sg_X11_greatestPart_29 ⟨fun h => ?_, fun _ => ⟨z_inN (by omega) (by omega), ?_⟩⟩
    · rw [z_lt (by omega)] at h; omega
    · rw [z_ixN (by omega), h105 (j + 1) (by omega) (by omega), zB_0, z_p1]
      refine ⟨fun h => ?_, fun h => ?_⟩
      · have e : ∀ b, tc F n (i - 1) b (j + 1) = tc F n (i - 1) b j := fun b => by rw [tc_s, h, if_neg (by decide), Nat.add_zero]
        rw [← mxf_c (f := fun b => tc F n (i - 1) b (j + 1)) n (fun b _ => e b)]
        exact part1_m hn hi hin f (j + 1) I (by omega) h105 (fun b hb => by rw [e b]; exact h106 b hb) kq
      · have h := (Bool.not_eq_false _).mp h
        have e : ∀ b, tc F n (i - 1) b (j + 1) = tc F n (i - 1) b j + (if ps (j + 1) n (i - 1) = b then 1 else 0) := fun b => by rw [tc_s, h, if_pos rfl]
        have em : mxf (fun b => tc F n (i - 1) b (j + 1)) n = if mxf (fun b => tc F n (i - 1) b j) n < tc F n (i - 1) (ps (j + 1) n (i - 1)) j + 1 then tc F n (i - 1) (ps (j + 1) n (i - 1)) j + 1 else mxf (fun b => tc F n (i - 1) b j) n := by
          rw [mxf_c n (fun b _ => e b)]
          exact mxf_up (f := fun b => tc F n (i - 1) b j) n hpi.1
        refine m_farOf (by omega) (by omega) hi hin hn ⟨_, _, _, rfl, rfl, ?_⟩
        rw [li]
        refine ⟨z_inN (by omega) (by omega), ?_⟩
        rw [z_ixN (by omega), h106 _ (by omega), z_p1, z_le (by omega)]
        have nx2 : ∀ v : Int32, v = Int32.ofInt (mxf (fun b => tc F n (i - 1) b (j + 1)) n : Nat) → w_X11_greatestPart_29 SL xs d p s q Q (Int32.ofInt (n : Nat)) (Int32.ofInt (i : Nat)) v (Int32.ofInt ((j + 1 + 1 : Nat) : Int)) (mm_u I 106 (ps (j + 1) n (i - 1)) (Int32.ofInt ((tc F n (i - 1) (ps (j + 1) n (i - 1)) j + 1 : Nat) : Int))) J := by
          intro v hv
          rw [hv]
          refine part1_m hn hi hin f (j + 1) _ (by omega) (fun v a b => by rw [mu_row (by omega)]; exact h105 v a b) (fun b hb => ?_) (fun I2 g1 => kq I2 (fun r hr => by rw [g1 r hr, mu_row hr]))
          rw [mu_if, e b]
          by_cases eb : b = ps (j + 1) n (i - 1)
          · rw [if_pos eb, if_pos eb.symm, eb]
          · rw [if_neg eb, if_neg (fun z => eb z.symm)]; exact h106 b hb
        refine ⟨fun hc => nx2 _ ?_, fun hc => nx2 _ ?_⟩
        · rw [em, if_neg (by omega)]
        · rw [em, if_pos (by omega)]
theorem m_greatP {F : Nat → Bool} {n i : Nat} {I : Nat → Nat → Int32} (hn : n ≤ 60) (hi : 1 ≤ i) (hin : i ≤ n) (h105 : ∀ v, 1 ≤ v → v ≤ 200 → I 105 v = zB (F v)) (kq : ∀ I2 : Nat → Nat → Int32, (∀ r, r ≠ 106 → I2 r = I r) → Q (some (.int (Int32.ofInt (mxf (fun b => tc F n (i - 1) b 200) n : Nat)))) (hp p s q I2 J)) : mm_s SL xs (d + 2) 268 [.ref 65, .int (Int32.ofInt (n : Nat)), .int (Int32.ofInt (i : Nat))] (hp p s q I J) Q := by
  refine sg_X11_greatestPart (part0_m 60 0 I rfl (fun b hb => absurd hb (Nat.not_lt_zero b)) (fun I2 g1 g2 => ?_))
  have h0 : mxf (fun b => tc F n (i - 1) b 0) n = 0 := mxf_0 n
  have := part1_m (SL := SL) (xs := xs) (d := d) (p := p) (s := s) (q := q) (Q := Q) (J := J) (F := F) hn hi hin 200 0 I2 rfl (fun v a b => by rw [g1 105 (by omega)]; exact h105 v a b) g2 (fun I3 g3 => kq I3 (fun r hr => by rw [g3 r hr, g1 r hr]))
  rw [h0] at this
  exact this
theorem ask2_m {F : Nat → Bool} {n : Nat} {v2 v3 v4 : Int32} (hn : n ≤ 60) : ∀ (f i b : Nat) (I : Nat → Nat → Int32), i + f = n + 1 → 1 ≤ b → b < i → (∀ v, 1 ≤ v → v ≤ 200 → I 105 v = zB (F v)) → (∀ I2 : Nat → Nat → Int32, (∀ r, r ≠ 106 → I2 r = I r) → (v2 = Int32.ofInt 0 → Q (some (.int (Int32.ofInt (bq_ (fun i => mxf (fun b => tc F n (i - 1) b 200) n) f i b : Nat)))) (hp p s q I2 J)) ∧ (¬ v2 = Int32.ofInt 0 → Q (some (.int (Int32.ofInt (mxf (fun c => tc F n (bq_ (fun i => mxf (fun b => tc F n (i - 1) b 200) n) f i b - 1) c 200) n : Nat)))) (hp p s q I2 J))) → w_X11_ask_90 SL xs d p s q Q (Int32.ofInt (n : Nat)) v2 v3 v4 (Int32.ofInt (b : Nat)) (Int32.ofInt (mxf (fun c => tc F n (b - 1) c 200) n : Nat)) (Int32.ofInt (i : Nat)) I J
  | 0, i, b, I, hf, h1, h2, h105, kq => by
    obtain ⟨k0, k1⟩ := kq I (fun _ _ => rfl)
    refine sg_X11_ask_90 ⟨fun _ => ⟨k0, k1⟩, fun h => ?_⟩
    rw [z_lt (by omega)] at h; omega
  | f + 1, i, b, I, hf, h1, h2, h105, kq => by
    have m1 := mxf_le (f := fun c => tc F n (i - 1) c 200) (fun c => tc_le F n (i - 1) c 200) n
    have m2 := mxf_le (f := fun c => tc F n (b - 1) c 200) (fun c => tc_le F n (b - 1) c 200) n
    rw [bq_] at kq
    refine sg_X11_ask_90 ⟨fun h => ?_, fun _ => ?_⟩
    · rw [z_lt (by omega)] at h; omega
    · refine m_greatP (F := F) hn (by omega) (by omega) h105 (fun I2 g1 => ⟨_, _, _, rfl, rfl, ?_⟩)
      have h105' : ∀ v, 1 ≤ v → v ≤ 200 → I2 105 v = zB (F v) := fun v a b => by rw [g1 105 (by omega)]; exact h105 v a b
      rw [z_lt (by omega), z_lt (by omega), z_p1]
      refine ⟨fun h => absurd h (by omega), fun _ => ⟨fun h => ?_, fun h => ?_⟩⟩
      · rw [if_neg (show ¬ (mxf (fun c => tc F n (b - 1) c 200) n ≤ mxf (fun c => tc F n (i - 1) c 200) n) by omega)] at kq
        exact ask2_m hn f (i + 1) i I2 (by omega) (by omega) (by omega) h105' (fun I3 g3 => kq I3 (fun r hr => by rw [g3 r hr, g1 r hr]))
      · rw [if_pos (show mxf (fun c => tc F n (b - 1) c 200) n ≤ mxf (fun c => tc F n (i - 1) c 200) n by omega)] at kq
        exact ask2_m hn f (i + 1) b I2 (by omega) h1 (by omega) h105' (fun I3 g3 => kq I3 (fun r hr => by rw [g3 r hr, g1 r hr]))
end
theorem ftB_ci {t : Int32} {l v : Nat} {I I2 : Nat → Nat → Int32} {J : Nat → Nat → Int64} (h : I2 34 = I 34) (h2 : I2 35 = I 35) : ftB t I2 J l v = ftB t I J l v := by
  unfold ftB sgG sgC; rw [h, h2]
section
variable {SL : Nat} {xs : Nat → Int32} {d : Nat} {p s q : Nat} {Q : Option Value → mm_H → Prop} {J : Nat → Nat → Int64} {P : plT} {bg : Nat} {x : trT}
theorem ask1_m {F : Nat → Bool} {t v1 v2 : Int32} {l : Nat} (hl : l ≤ 40) : ∀ (f j : Nat) (I : Nat → Nat → Int32), j + f = 200 → QS p s q P bg x I J → I 33 0 = Int32.ofInt (l : Nat) → (∀ v, ftB t I J l v = F v) → (∀ v, 1 ≤ v → v ≤ j → I 105 v = zB (F v)) → (∀ I2 : Nat → Nat → Int32, QS p s q P bg x I2 J → (∀ v, 1 ≤ v → v ≤ 200 → I2 105 v = zB (F v)) → (fb_ct (fun v => F (v + 1)) 200 = 0 → Q (some (.int (Int32.ofInt (-1)))) (hp p s q I2 J)) ∧ (¬ fb_ct (fun v => F (v + 1)) 200 = 0 → ∀ v4, w_X11_ask_90 SL xs d p s q Q v1 v2 t v4 (Int32.ofInt (-1)) (Int32.ofInt 0) (Int32.ofInt 1) I2 J)) → w_X11_ask_24 SL xs d p s q Q v1 v2 t (zB (decide (¬ fb_ct (fun v => F (v + 1)) j = 0))) (Int32.ofInt ((j + 1 : Nat) : Int)) I J
  | 0, j, I, hf, hS, h33, hF, h105, kq => by
    obtain rfl : j = 200 := by omega
    obtain ⟨k0, k1⟩ := kq I hS h105
    refine sg_X11_ask_24 ⟨fun _ => ?_, fun h => ?_⟩
    · rw [zB_0, decide_eq_false_iff_not, Classical.not_not]
      exact ⟨k0, fun h => k1 h _⟩
    · rw [z_lt (by omega)] at h; omega
  | f + 1, j, I, hf, hS, h33, hF, h105, kq => by
    have nxt : ∀ v4 : Int32, v4 = zB (decide (¬ fb_ct (fun v => F (v + 1)) (j + 1) = 0)) → w_X11_ask_24 SL xs d p s q Q v1 v2 t v4 (Int32.ofInt ((j + 1 + 1 : Nat) : Int)) (mm_u I 105 (j + 1) (zB (F (j + 1)))) J := by
      intro v4 hv4
      rw [hv4]
      refine ask1_m hl f (j + 1) _ (by omega) (QS_s (fun r _ _ _ _ _ a _ => mu_row a) (fun _ _ => rfl) hS) (by rw [mu_row (by omega)]; exact h33) (fun v => by rw [ftB_ci (I := I) (mu_row (by omega)) (mu_row (by omega))]; exact hF v) (fun v a b => ?_) (fun I2 h2 h3 => kq I2 h2 h3)
      rw [mu_if]
      by_cases e : v = j + 1
      · rw [if_pos e, e]
      · rw [if_neg e]; exact h105 v a (by omega)
    refine sg_X11_ask_24 ⟨fun h => ?_, fun _ => ?_⟩
    · rw [z_lt (by omega)] at h; omega
    · refine m_doesFit hS.1.2.2.2.2.2.2.2.1 h33 hl (by omega) (by omega) ⟨_, _, _, rfl, rfl, z_inN (by omega) (by omega), zB_z _, ?_⟩
      have es := fb_ct_succ (fun v => F (v + 1)) j
      rw [hF, zB_0, zB_0, z_p1, z_ixN (by omega)]
      refine ⟨fun h => ⟨fun h2 => nxt _ ?_, fun h2 => nxt _ ?_⟩, fun h => nxt _ ?_⟩
      · have h0 := of_decide_eq_false h
        rw [h2, if_neg (by decide)] at es
        rw [decide_eq_false (by omega)]; rfl
      · rw [(Bool.not_eq_false _).mp h2, if_pos rfl] at es
        rw [decide_eq_true (by omega)]; rfl
      · have h0 := of_decide_eq_true ((Bool.not_eq_false _).mp h)
        rw [decide_eq_true (by omega)]; rfl
end
theorem ca_ask {SL : Nat} {xs : Nat → Int32} {d : Nat} {h : mm_H} {Q : Option Value → mm_H → Prop} {a0 : Int32} {a1 : Int32} {a2 : Int32} (hd : 150 ≤ d) (hiv : iv h) (k : ∀ (r : Int32) (h1 : mm_H), h1.2.1 65 = .inr 9 → (∀ Q2 : Option Value → mm_H → Prop, (∀ h2, iv h2 → Q2 (some (.int r)) h2) → mm_s SL xs d 269 [.ref 65, .int a0, .int a1, .int a2] h1 Q2) → Q (some (.int r)) h1) : mm_s SL xs d 151 [.ref 2, .int a0, .int a1, .int a2] h Q := by
  obtain ⟨e, rfl⟩ : ∃ e, d = e + 20 := ⟨d - 20, by omega⟩
  obtain ⟨_, _, p, s, q, I, J, rfl, P, bg, x, hR, hM⟩ := hiv
  have hS : QS p s q P bg x I J := ⟨hR, hM⟩
  obtain ⟨l, l1, l2, l3, _⟩ := hR.2.2.2.2.2.2.2.1
  refine sg_X10_ask ⟨fun h => k _ _ rfl (fun Q2 k2 => sg_X11_ask ⟨fun _ => k2 _ (QS_iv hS), fun h2 => absurd h h2⟩), fun h => ?_⟩
  rw [zo_z]
  refine ⟨fun h2 => k _ _ rfl (fun Q2 k2 => sg_X11_ask ⟨fun z => absurd z h, fun _ => ⟨fun _ => k2 _ (QS_iv hS), fun h3 => ⟨fun h4 => absurd (zo_m.mpr ⟨h3, h4⟩) h2, fun _ => k2 _ (QS_iv hS)⟩⟩⟩), fun h2 => ?_⟩
  have h2 := Classical.not_not.mp h2
  obtain ⟨hlt, hle⟩ := zo_m.mp h2
  have h' := h
  rw [pl_z, Classical.not_not] at h'
  obtain ⟨n, n1, n2, rfl⟩ := h'
  have hbq := bq_r (G := fun i => mxf (fun b => tc (ftB a2 I J l) n (i - 1) b 200) n) (n - 1) 2 1 (by omega) (by omega)
  refine c_sift l1 l2 (fun J2 g1 g2 => ⟨_, _, rfl, rfl, ?_⟩)
  have hS2 : QS p s q P bg x I J2 := QS_s (fun _ _ _ _ _ _ _ _ => rfl) g1 hS
  -- the reference's answer
  have mod : ∀ (I2 : Nat → Nat → Int32), QS p s q P bg x I2 J2 → I2 33 0 = Int32.ofInt (l : Nat) → I2 34 = I 34 → I2 35 = I 35 → ∀ r : Int32, (fb_ct (fun v => ftB a2 I J l (v + 1)) 200 = 0 → r = Int32.ofInt (-1)) → (¬ fb_ct (fun v => ftB a2 I J l (v + 1)) 200 = 0 → (a1 = Int32.ofInt 0 → r = Int32.ofInt (bq_ (fun i => mxf (fun b => tc (ftB a2 I J l) n (i - 1) b 200) n) (n - 1) 2 1 : Nat)) ∧ (¬ a1 = Int32.ofInt 0 → r = Int32.ofInt (mxf (fun c => tc (ftB a2 I J l) n (bq_ (fun i => mxf (fun b => tc (ftB a2 I J l) n (i - 1) b 200) n) (n - 1) 2 1 - 1) c 200) n : Nat))) → ∀ Q2 : Option Value → mm_H → Prop, (∀ h2, iv h2 → Q2 (some (.int r)) h2) → mm_s SL xs (e + 20) 269 [.ref 65, .int (Int32.ofInt (n : Nat)), .int a1, .int a2] (hp p s q I2 J2) Q2 := by
    intro I2 hI2 h33 h34 h35 r r0 r1 Q2 k2
    refine sg_X11_ask ⟨fun z => absurd z h, fun _ => ⟨fun z => absurd z hlt, fun _ => ⟨fun _ => ?_, fun z => absurd hle z⟩⟩⟩
    refine ask1_m (F := ftB a2 I J l) (l := l) l1 200 0 I2 rfl hI2 h33 (fun v => by rw [ftB_ci h34 h35, ftB_c (g1 36 (by omega))]) (fun v a b => absurd b (by omega)) (fun I3 h3 h105 => ⟨fun hz => by rw [← r0 hz]; exact k2 _ (QS_iv h3), fun hz v4 => ?_⟩)
    obtain ⟨q0, q1⟩ := r1 hz
    refine sg_X11_ask_90 ⟨fun z => ?_, fun _ => ?_⟩
    · rw [show Int32.ofInt 1 = Int32.ofInt ((1 : Nat) : Int) from rfl, z_lt (by omega)] at z; omega
    · refine m_greatP (F := ftB a2 I J l) (i := 1) n2 (by omega) (by omega) h105 (fun I4 g4 => ⟨_, _, _, rfl, rfl, fun _ => ?_, fun z => absurd (by decide) z⟩)
      refine ask2_m (F := ftB a2 I J l) n2 (n - 1) 2 1 I4 (by omega) (by omega) (by omega) (fun v a b => by rw [g4 105 (by omega)]; exact h105 v a b) (fun I5 g5 => ?_)
      have hS5 : QS p s q P bg x I5 J2 := QS_s (fun r _ _ _ _ _ _ a => by rw [g5 r a, g4 r a]) (fun _ _ => rfl) h3
      exact ⟨fun z => by rw [← q0 z]; exact k2 _ (QS_iv hS5), fun z => by rw [← q1 z]; exact k2 _ (QS_iv hS5)⟩
  refine sg_X8_fitCount (fitCount_c (F := ftB a2 I J l) g2 ⟨_, _, _, rfl, rfl, ?_⟩ 200 0 rfl)
  have hcl : fb_ct (fun v => ftB a2 I J l (v + 1)) 200 ≤ 200 := fb_ct_le _ _
  rw [z_eq (by omega)]
  refine ⟨fun hz => k _ _ rfl (mod I hS2 l2 rfl rfl _ (fun _ => rfl) (fun z => absurd (by omega) z)), fun hz => ?_⟩
  refine sg_X8_bestQuestion ?_
  refine c_fill (n := 3600) rfl (by omega) (fun I3 g3 g4 => ⟨_, _, rfl, rfl, ?_⟩)
  refine best1_c (F := ftB a2 I J l) (n := n) n2 g2 200 0 I3 rfl (fun a b ha hb => ?_) (fun I4 g5 g6 => ?_)
  · rw [g4 _ (by omega)]
    have : tc (ftB a2 I J l) n a b 0 = 0 := rfl
    rw [this]; split <;> rfl
  · have hS4 : QS p s q P bg x I4 J2 := QS_s (fun r _ _ a _ _ _ _ => by rw [g5 r a, g3 r a]) (fun _ _ => rfl) hS2
    have r4 : ∀ r, r ≠ 38 → I4 r = I r := fun r hr => by rw [g5 r hr, g3 r hr]
    refine best2_c (A := fun a b => tc (ftB a2 I J l) n a b 200) n2 (fun a b => tc_le _ _ _ _ _) g6 (n - 1) 2 1 (by omega) (by omega) (by omega) ⟨_, _, _, rfl, rfl, ?_⟩
    refine ⟨fun ha => k _ _ rfl (mod I4 hS4 (by rw [r4 33 (by omega)]; exact l2) (r4 34 (by omega)) (r4 35 (by omega)) _ (fun z => absurd (by omega) hz) (fun _ => ⟨fun _ => rfl, fun z => absurd ha z⟩)), fun ha => ?_⟩
    refine c_great (A := fun a b => tc (ftB a2 I J l) n a b 200) n2 hbq.1 (by omega) (fun b => tc_le _ _ _ _ _) g6 ⟨_, _, _, rfl, rfl, k _ _ rfl (mod I4 hS4 (by rw [r4 33 (by omega)]; exact l2) (r4 34 (by omega)) (r4 35 (by omega)) _ (fun z => absurd (by omega) hz) (fun _ => ⟨fun z => absurd z ha, fun _ => rfl⟩))⟩
