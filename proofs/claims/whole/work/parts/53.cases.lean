/-! the tape -/
def bt (x : Int32) (i : Nat) : Bool := x.toBitVec.getLsbD i
theorem b_ext {x y : Int32} (h : ∀ i, i < 32 → bt x i = bt y i) : x = y := Int32.toBitVec_inj.mp (BitVec.eq_of_getLsbD_eq (fun i hi => h i hi))
theorem b_or (x y : Int32) (i : Nat) : bt (x ||| y) i = (bt x i || bt y i) := by unfold bt; rw [Int32.toBitVec_or, BitVec.getLsbD_or]
theorem b_and (x y : Int32) (i : Nat) : bt (x &&& y) i = (bt x i && bt y i) := by unfold bt; rw [Int32.toBitVec_and, BitVec.getLsbD_and]
theorem b_xor (x y : Int32) (i : Nat) : bt (x ^^^ y) i = (bt x i ^^ bt y i) := by unfold bt; rw [Int32.toBitVec_xor, BitVec.getLsbD_xor]
theorem b_big {x : Int32} {i : Nat} (h : 32 ≤ i) : bt x i = false := BitVec.getLsbD_of_ge _ _ h
theorem b_255 (i : Nat) : bt 255 i = decide (i < 8) := by
  rcases Nat.lt_or_ge i 32 with h | h
  · exact (by decide +kernel : ∀ i, i < 32 → bt 255 i = decide (i < 8)) i h
  · rw [b_big h, decide_eq_false (by omega)]
theorem b_65535 (i : Nat) : bt 65535 i = decide (i < 16) := by
  rcases Nat.lt_or_ge i 32 with h | h
  · exact (by decide +kernel : ∀ i, i < 32 → bt 65535 i = decide (i < 16)) i h
  · rw [b_big h, decide_eq_false (by omega)]
theorem b_m1 : ∀ i, i < 32 → bt (-1) i = true := by decide +kernel
theorem b_0 (i : Nat) : bt 0 i = false := BitVec.getLsbD_zero
theorem s_l : ∀ n, n < 32 → ((nI n &&& 31).toBitVec.smod 32).toNat = n := by decide +kernel
theorem s_u : ∀ n, n < 32 → (((nI n).toUInt32 &&& Int32.toUInt32 31).toBitVec % 32).toNat = n := by decide +kernel
theorem b_shl (n : Nat) (hn : n < 32) (x : Int32) {i : Nat} (hi : i < 32) : bt (x <<< (nI n &&& 31)) i = (decide (n ≤ i) && bt x (i - n)) := by
  unfold bt
  rw [Int32.toBitVec_shiftLeft]
  show (x.toBitVec <<< ((nI n &&& 31).toBitVec.smod 32).toNat).getLsbD i = _
  rw [s_l n hn, BitVec.getLsbD_shiftLeft]
  rcases Nat.lt_or_ge i n with h | h
  · simp [h, Nat.not_le.mpr h]
  · simp [hi, h, Nat.not_lt.mpr h]
theorem b_ushr (n : Nat) (hn : n < 32) (x : Int32) (i : Nat) : bt ((x.toUInt32 >>> ((nI n).toUInt32 &&& Int32.toUInt32 31)).toInt32) i = bt x (n + i) := by
  show (x.toUInt32 >>> ((nI n).toUInt32 &&& Int32.toUInt32 31)).toBitVec.getLsbD i = x.toUInt32.toBitVec.getLsbD (n + i)
  rw [UInt32.toBitVec_shiftRight]
  show (x.toUInt32.toBitVec >>> (((nI n).toUInt32 &&& Int32.toUInt32 31).toBitVec % 32).toNat).getLsbD i = _
  rw [s_u n hn, BitVec.getLsbD_ushiftRight]
theorem b_sshr (n : Nat) (hn : n < 32) (x : Int32) {i : Nat} (hi : i < 32) : bt (x >>> (nI n &&& 31)) i = if n + i < 32 then bt x (n + i) else bt x 31 := by
  unfold bt
  rw [Int32.toBitVec_shiftRight]
  show (x.toBitVec.sshiftRight ((nI n &&& 31).toBitVec.smod 32).toNat).getLsbD i = _
  rw [s_l n hn, BitVec.getLsbD_sshiftRight, BitVec.msb_eq_getLsbD_last]
  simp [hi]

def cby (v : Int32) (n : Nat) : Int32 := ((((v).toUInt32 >>> ((nI n).toUInt32 &&& Int32.toUInt32 31)).toInt32).toInt8.toInt32).toInt8.toInt32
def mby (v : Int32) (n : Nat) : Int32 := (v >>> (nI n &&& 31)) &&& Int32.ofInt 255
theorem b_i8 (x : Int32) (i : Nat) (hi : i < 8) : bt (x.toInt8.toInt32) i = bt x i := by
  unfold bt
  rw [Int8.toBitVec_toInt32, BitVec.getLsbD_signExtend, Int32.toBitVec_toInt8, BitVec.getLsbD_signExtend]
  simp [hi, show i < 32 by omega]
theorem by_eq (v : Int32) (n : Nat) (hn : n + 8 ≤ 32) : mby v n = cby v n &&& Int32.ofInt 255 := by
  refine b_ext (fun i hi => ?_)
  unfold mby cby
  rw [b_and, b_and, show Int32.ofInt 255 = 255 from rfl, b_255]
  by_cases h : i < 8
  · rw [b_i8 _ i h, b_i8 _ i h, b_ushr n (by omega), b_sshr n (by omega) v hi, if_pos (by omega)]
  · rw [decide_eq_false h, Bool.and_false, Bool.and_false]
def gB (f : Int32 → Nat → Int32) (A : Nat → Int32) (m : Nat) : Int32 := f (A (m / 4)) (24 - 8 * (m % 4))
theorem gB_at {f : Int32 → Nat → Int32} {A : Nat → Int32} {j t : Nat} (ht : t < 4) : gB f A (4 * j + t) = f (A j) (24 - 8 * t) := by
  unfold gB
  rw [show (4 * j + t) / 4 = j by omega, show (4 * j + t) % 4 = t by omega]
section
variable {SL : Nat} {xs : Nat → Int32} {d : Nat} {p s q : Nat} {Q : Option Value → mm_H → Prop} {J : Nat → Nat → Int64}
theorem c_four_l {A : Nat → Int32} {l j : Nat} (hl : l + 4 * j + 4 ≤ 1200) : ∀ (f t : Nat) (I : Nat → Nat → Int32), t + f = 4 → I 4 1 = Int32.ofInt ((l + 4 * j + t : Nat) : Int) → (∀ m, m < 4 * j + t → I 5 (l + m) = gB cby A m) → (∀ I2 : Nat → Nat → Int32, (∀ r, r ≠ 4 → r ≠ 5 → I2 r = I r) → I2 4 1 = Int32.ofInt ((l + 4 * (j + 1) : Nat) : Int) → (∀ m, m < 4 * (j + 1) → I2 5 (l + m) = gB cby A m) → (∀ i, i < l → I2 5 i = I 5 i) → Q none (hp p s q I2 J)) → w_X9_addFour_3 SL xs d p s q Q (A j) (Int32.ofInt (24 - 8 * (t : Int))) I J
  | 0, t, I, hf, h1, h2, kq => by
    obtain rfl : t = 4 := by omega
    refine sg_X9_addFour_3 ⟨fun _ => kq I (fun _ _ _ => rfl) h1 (fun m hm => h2 m hm) (fun _ _ => rfl), fun h => ?_⟩
    rw [z_lt (by omega)] at h; omega
  | f + 1, t, I, hf, h1, h2, kq => by
    refine sg_X9_addFour_3 ⟨fun h => ?_, fun _ => ⟨fun h => ?_, fun _ => ⟨?_, ?_⟩⟩⟩
    · rw [z_lt (by omega)] at h; omega
    · rw [h1, z_le (by omega)] at h; omega
    · rw [h1]; exact z_inN (by omega) (by omega)
    · rw [h1, z_ixN (by omega), z_p1, show Int32.ofInt (24 - 8 * (t : Int)) + Int32.ofInt (-8) = Int32.ofInt (24 - 8 * ((t + 1 : Nat) : Int)) by rw [z_add]; congr 1; omega, show Int32.ofInt (24 - 8 * (t : Int)) = nI (24 - 8 * t) by rw [z_nI]; congr 1; omega]
      refine c_four_l hl f (t + 1) _ (by omega) (mu_at) (fun m hm => ?_) (fun I2 g1 g2 g3 g4 => kq I2 (fun r a b => ?_) g2 g3 (fun i hi => ?_))
      · rw [mu_row (by omega), mu_if]
        by_cases e : m = 4 * j + t
        · rw [if_pos (by omega), e, gB_at (by omega)]; rfl
        · rw [if_neg (by omega)]; exact h2 m (by omega)
      · rw [g1 r a b, mu_row a, mu_row b]
      · rw [g4 i hi, mu_row (by omega), mu_ne (by omega)]
theorem m_four_l {A : Nat → Int32} {l j : Nat} (hl : l + 4 * j + 4 ≤ 1200) : ∀ (f t : Nat) (I : Nat → Nat → Int32), t + f = 4 → I 65 1 = Int32.ofInt ((l + 4 * j + t : Nat) : Int) → (∀ m, m < 4 * j + t → I 66 (l + m) = gB mby A m) → (∀ I2 : Nat → Nat → Int32, (∀ r, r ≠ 65 → r ≠ 66 → I2 r = I r) → (∀ k, k ≠ 1 → I2 65 k = I 65 k) → I2 65 1 = Int32.ofInt ((l + 4 * (j + 1) : Nat) : Int) → (∀ m, m < 4 * (j + 1) → I2 66 (l + m) = gB mby A m) → (∀ i, i < l → I2 66 i = I 66 i) → Q none (hp p s q I2 J)) → w_X11_four_3 SL xs d p s q Q (A j) (Int32.ofInt (24 - 8 * (t : Int))) I J
  | 0, t, I, hf, h1, h2, kq => by
    obtain rfl : t = 4 := by omega
    refine sg_X11_four_3 ⟨fun _ => kq I (fun _ _ _ => rfl) (fun _ _ => rfl) h1 (fun m hm => h2 m hm) (fun _ _ => rfl), fun h => ?_⟩
    rw [z_lt (by omega)] at h; omega
  | f + 1, t, I, hf, h1, h2, kq => by
    refine sg_X11_four_3 ⟨fun h => ?_, fun _ => ⟨?_, ?_⟩⟩
    · rw [z_lt (by omega)] at h; omega
    · rw [h1]; exact z_inN (by omega) (by omega)
    · rw [h1, z_ixN (by omega), z_p1, show Int32.ofInt (24 - 8 * (t : Int)) + Int32.ofInt (-8) = Int32.ofInt (24 - 8 * ((t + 1 : Nat) : Int)) by rw [z_add]; congr 1; omega, show Int32.ofInt (24 - 8 * (t : Int)) = nI (24 - 8 * t) by rw [z_nI]; congr 1; omega]
      refine m_four_l hl f (t + 1) _ (by omega) (mu_at) (fun m hm => ?_) (fun I2 g1 g0 g2 g3 g4 => kq I2 (fun r a b => ?_) (fun k hk => ?_) g2 g3 (fun i hi => ?_))
      · rw [mu_row (by omega), mu_if]
        by_cases e : m = 4 * j + t
        · rw [if_pos (by omega), e, gB_at (by omega)]; rfl
        · rw [if_neg (by omega)]; exact h2 m (by omega)
      · rw [g1 r a b, mu_row a, mu_row b]
      · rw [g0 k hk, mu_ne hk, mu_row (by omega)]
      · rw [g4 i hi, mu_row (by omega), mu_ne (by omega)]
def cF (l j : Nat) (A : Nat → Int32) (I0 I : Nat → Nat → Int32) : Prop := (∀ r, r ≠ 4 → r ≠ 5 → I r = I0 r) ∧ I 4 1 = Int32.ofInt ((l + 4 * j : Nat) : Int) ∧ (∀ m, m < 4 * j → I 5 (l + m) = gB cby A m) ∧ ∀ i, i < l → I 5 i = I0 5 i
def mF (l j : Nat) (A : Nat → Int32) (I0 I : Nat → Nat → Int32) : Prop := (∀ r, r ≠ 65 → r ≠ 66 → I r = I0 r) ∧ (∀ k, k ≠ 1 → I 65 k = I0 65 k) ∧ I 65 1 = Int32.ofInt ((l + 4 * j : Nat) : Int) ∧ (∀ m, m < 4 * j → I 66 (l + m) = gB mby A m) ∧ ∀ i, i < l → I 66 i = I0 66 i
theorem c_four {A : Nat → Int32} {l j : Nat} {I0 I : Nat → Nat → Int32} (hl : l + 4 * j + 4 ≤ 1200) (h : cF l j A I0 I) (kq : ∀ I2, cF l (j + 1) A I0 I2 → Q none (hp p s q I2 J)) : mm_s SL xs (d + 1) 103 [.ref 4, .int (A j)] (hp p s q I J) Q := by
  obtain ⟨h1, h2, h3, h4⟩ := h
  exact sg_X9_addFour (c_four_l hl 4 0 I rfl h2 h3 (fun I2 g1 g2 g3 g4 => kq I2 ⟨fun r a b => by rw [g1 r a b, h1 r a b], g2, g3, fun i hi => by rw [g4 i hi, h4 i hi]⟩))
theorem m_four {A : Nat → Int32} {l j : Nat} {I0 I : Nat → Nat → Int32} (hl : l + 4 * j + 4 ≤ 1200) (h : mF l j A I0 I) (kq : ∀ I2, mF l (j + 1) A I0 I2 → Q none (hp p s q I2 J)) : mm_s SL xs (d + 1) 166 [.ref 65, .int (A j)] (hp p s q I J) Q := by
  obtain ⟨h1, h0, h2, h3, h4⟩ := h
  exact sg_X11_four (m_four_l hl 4 0 I rfl h2 h3 (fun I2 g1 g0 g2 g3 g4 => kq I2 ⟨fun r a b => by rw [g1 r a b, h1 r a b], fun k hk => by rw [g0 k hk, h0 k hk], g2, g3, fun i hi => by rw [g4 i hi, h4 i hi]⟩))
end
def arg5 (a0 a1 a2 a3 a4 : Int32) : Nat → Int32
  | 0 => a0
  | 1 => a1
  | 2 => a2
  | 3 => a3
  | _ => a4
theorem ca_feed {SL : Nat} {xs : Nat → Int32} {d : Nat} {h : mm_H} {Q : Option Value → mm_H → Prop} {a0 : Int32} {a1 : Int32} {a2 : Int32} {a3 : Int32} {a4 : Int32} (hd : 150 ≤ d) (hiv : iv h) (k : ∀ (r : Int32) (h1 : mm_H), h1.2.1 65 = .inr 9 → (∀ Q2 : Option Value → mm_H → Prop, (∀ h2, iv h2 → Q2 (some (.int r)) h2) → mm_s SL xs d 165 [.ref 65, .int a0, .int a1, .int a2, .int a3, .int a4] h1 Q2) → Q (some (.int r)) h1) : mm_s SL xs d 116 [.ref 2, .int a0, .int a1, .int a2, .int a3, .int a4] h Q := by
  obtain ⟨e, rfl⟩ : ∃ e, d = e + 2 := ⟨d - 2, by omega⟩
  obtain ⟨_, _, p, s, q, I, J, rfl, P, bg, x, hR, hM⟩ := hiv
  obtain ⟨l, l1, l2, l3, l4⟩ := hR.2.2.1
  refine sg_X10_feed ⟨fun h => ?_, fun h => ?_⟩
  · rw [l2, z_le (by omega)] at h
    refine c_four (A := arg5 a0 a1 a2 a3 a4) (l := l) (j := 0) (I0 := I) (by omega) ⟨fun _ _ _ => rfl, l2, fun m hm => absurd hm (by omega), fun _ _ => rfl⟩ (fun I1 f1 => ⟨I1, J, rfl, rfl, ?_⟩)
    refine c_four (A := arg5 a0 a1 a2 a3 a4) (j := 1) (by omega) f1 (fun I2 f2 => ⟨I2, J, rfl, rfl, ?_⟩)
    refine c_four (A := arg5 a0 a1 a2 a3 a4) (j := 2) (by omega) f2 (fun I3 f3 => ⟨I3, J, rfl, rfl, ?_⟩)
    refine c_four (A := arg5 a0 a1 a2 a3 a4) (j := 3) (by omega) f3 (fun I4 f4 => ⟨I4, J, rfl, rfl, ?_⟩)
    refine c_four (A := arg5 a0 a1 a2 a3 a4) (j := 4) (by omega) f4 (fun I5 f5 => ⟨I5, J, rfl, rfl, ?_⟩)
    obtain ⟨c1, c2, c3, c4⟩ := f5
    rw [c2]
    refine k _ _ rfl (fun Q2 k2 => sg_X11_feed ⟨fun _ => ?_, fun h' => ?_⟩)
    · refine m_four (A := arg5 a0 a1 a2 a3 a4) (l := l) (j := 0) (I0 := I5) (by omega) ⟨fun _ _ _ => rfl, fun _ _ => rfl, by rw [c1 65 (by omega) (by omega)]; exact l3, fun m hm => absurd hm (by omega), fun _ _ => rfl⟩ (fun I6 f1 => ⟨I6, J, rfl, rfl, ?_⟩)
      refine m_four (A := arg5 a0 a1 a2 a3 a4) (j := 1) (by omega) f1 (fun I7 f2 => ⟨I7, J, rfl, rfl, ?_⟩)
      refine m_four (A := arg5 a0 a1 a2 a3 a4) (j := 2) (by omega) f2 (fun I8 f3 => ⟨I8, J, rfl, rfl, ?_⟩)
      refine m_four (A := arg5 a0 a1 a2 a3 a4) (j := 3) (by omega) f3 (fun I9 f4 => ⟨I9, J, rfl, rfl, ?_⟩)
      refine m_four (A := arg5 a0 a1 a2 a3 a4) (j := 4) (by omega) f4 (fun I10 f5 => ⟨I10, J, rfl, rfl, ?_⟩)
      obtain ⟨m1, m0, m2, m3, m4⟩ := f5
      rw [m2]
      have rr : ∀ r, r ≠ 4 → r ≠ 5 → r ≠ 65 → r ≠ 66 → I10 r = I r := fun r a b c d => by rw [m1 r c d, c1 r a b]
      have r65 : ∀ k, k ≠ 1 → I10 65 k = I 65 k := fun k hk => by rw [m0 k hk, c1 65 (by omega) (by omega)]
      refine k2 _ (iv_mk ⟨P, bg, x, RX_u hR (fun r hr => rr r (by omega) (by omega) (by omega) (by omega)) (fun k a b => r65 k (by omega)) (fun _ _ => rfl) ⟨l + 20, by omega, ?_, m2, fun i hi => ?_⟩ ?_ ?_ ?_ ?_ ?_, ?_⟩)
      · rw [m1 4 (by omega) (by omega)]; exact c2
      · rw [m1 5 (by omega) (by omega)]
        by_cases e : i < l
        · rw [c4 i e, m4 i e, c1 66 (by omega) (by omega)]; exact l4 i e
        · obtain ⟨m, rfl⟩ : ∃ m, i = l + m := ⟨i - l, by omega⟩
          rw [c3 m (by omega), m3 m (by omega)]
          exact by_eq _ _ (by omega)
      · rw [rr 3 (by omega) (by omega) (by omega) (by omega), r65 2 (by omega)]; exact hR.2.2.2.1
      · rw [rr 3 (by omega) (by omega) (by omega) (by omega), r65 3 (by omega)]; exact hR.2.2.2.2.1
      · rw [rr 29 (by omega) (by omega) (by omega) (by omega), rr 30 (by omega) (by omega) (by omega) (by omega), rr 97 (by omega) (by omega) (by omega) (by omega), r65 80 (by omega)]; exact hR.2.2.2.2.2.1
      · rw [rr 2 (by omega) (by omega) (by omega) (by omega), r65 89 (by omega)]; exact hR.2.2.2.2.2.2.1
      · rw [rr 33 (by omega) (by omega) (by omega) (by omega), r65 88 (by omega), rr 34 (by omega) (by omega) (by omega) (by omega), rr 35 (by omega) (by omega) (by omega) (by omega), rr 100 (by omega) (by omega) (by omega) (by omega), rr 101 (by omega) (by omega) (by omega) (by omega), rr 102 (by omega) (by omega) (by omega) (by omega), rr 103 (by omega) (by omega) (by omega) (by omega), rr 104 (by omega) (by omega) (by omega) (by omega)]; exact hR.2.2.2.2.2.2.2.1
      · obtain ⟨t1, t2, t3, t4⟩ := hM
        refine ⟨MT_c (fun r a b => rr r (by omega) (by omega) (by omega) (by omega)) (fun k a b => r65 k (by omega)) t1, ?_, ?_, ?_⟩
        · rw [r65 76 (by omega)]; exact t2
        · rw [r65 77 (by omega)]; exact t3
        · rw [r65 78 (by omega), r65 49 (by omega)]; exact t4
    · refine absurd ?_ h'
      rw [c1 65 (by omega) (by omega), l3, z_add, z_le (by omega)]; omega
  · refine k _ _ rfl (fun Q2 k2 => sg_X11_feed ⟨fun h' => ?_, fun _ => k2 _ (iv_mk ⟨P, bg, x, hR, hM⟩)⟩)
    rw [l2, z_le (by omega)] at h
    rw [l3, z_add, z_le (by omega)] at h'
    omega
