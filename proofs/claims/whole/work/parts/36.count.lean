/-! what is counted: the code of a count, worked out -/
def jn (u : Int) : Bool := decide (u = -142 ∨ u = -143 ∨ (u < 0 ∧ -128 < u))
def vlo (u : Int) (x y z w g : Int32) : Int32 := if u = -145 then x else if u = -146 then y else if u = -147 then z else if u = -148 then w else if u = -149 then g else Int32.ofInt u
def jo2 (u : Int) (a b : Int32) : Int32 := if u = -42 then a * b else if u = -43 then a + b else if u = -45 then a - b else if u = -47 then (if b = Int32.ofInt 0 then Int32.ofInt 0 else a / b) else if u = -60 then (if b ≤ a then Int32.ofInt 0 else Int32.ofInt 1) else if u = -61 then (if a = b then Int32.ofInt 1 else Int32.ofInt 0) else if u = -62 then (if a ≤ b then Int32.ofInt 0 else Int32.ofInt 1) else if u = -142 then (if a = Int32.ofInt 0 then (if b = Int32.ofInt 0 then Int32.ofInt 0 else Int32.ofInt 1) else Int32.ofInt 1) else (if a = Int32.ofInt 0 then Int32.ofInt 0 else (if b = Int32.ofInt 0 then Int32.ofInt 0 else Int32.ofInt 1))
def vc (u : Int) : Prop := (0 ≤ u ∧ u ≤ 9999) ∨ (-149 ≤ u ∧ u ≤ -142) ∨ u = -42 ∨ u = -43 ∨ u = -45 ∨ u = -47 ∨ u = -60 ∨ u = -61 ∨ u = -62
def dpt (u : Nat → Int) : Nat → Nat
  | 0 => 0
  | i + 1 => if u i = -144 then dpt u i else if jn (u i) then dpt u i - 1 else dpt u i + 1
def est (x y z w g : Int32) (u : Nat → Int) : Nat → Nat → Int32
  | 0 => fun _ => 0
  | i + 1 => if u i = -144 then (fun j => if j = dpt u i - 1 then (if est x y z w g u i (dpt u i - 1) = Int32.ofInt 0 then Int32.ofInt 1 else Int32.ofInt 0) else est x y z w g u i j) else if jn (u i) then (fun j => if j = dpt u i - 2 then jo2 (u i) (est x y z w g u i (dpt u i - 2)) (est x y z w g u i (dpt u i - 1)) else est x y z w g u i j) else (fun j => if j = dpt u i then vlo (u i) x y z w g else est x y z w g u i j)
def clp (v : Int32) : Nat := if v.toInt < 1 then 1 else if 999 < v.toInt then 999 else v.toInt.toNat
def wfo (u : Nat → Int) (m : Nat) : Prop := 1 ≤ dpt u m ∧ ∀ i, i < m → vc (u i) ∧ dpt u i ≤ 40 ∧ (u i = -144 → 1 ≤ dpt u i) ∧ (¬ u i = -144 → jn (u i) = true → 2 ≤ dpt u i) ∧ (¬ u i = -144 → jn (u i) = false → dpt u i < 40)
def CNT (a : Nat) (P : plT) (I : Nat → Nat → Int32) : Prop := ∃ (u : Nat → Int) (m : Nat) (w g : Int32), m ≤ 360 ∧ I a 17 = Int32.ofInt (m : Nat) ∧ (∀ i, i < m → I (a + 5) i = Int32.ofInt (u i)) ∧ I a 7 = w ∧ I a 8 = g ∧ wfo u m ∧ ∀ x y z : Nat, p_c P x y z = clp (est (Int32.ofInt (x : Nat)) (Int32.ofInt (y : Nat)) (Int32.ofInt (z : Nat)) w g u m 0)
theorem vc_r {u : Int} (h : vc u) : -150 ≤ u ∧ u ≤ 9999 := by unfold vc at h; omega
theorem jn_z {u : Int} (h : vc u) : sx_X5_isJoint (Int32.ofInt u) = zB (jn u) := by
  have hr := vc_r h
  unfold sx_X5_isJoint jn
  show (if Int32.ofInt u = Int32.ofInt (-142) then _ else if Int32.ofInt u = Int32.ofInt (-143) then _ else if Int32.ofInt 0 ≤ Int32.ofInt u then _ else if Int32.ofInt u ≤ Int32.ofInt (-128) then _ else _) = _
  by_cases a : u = -142
  · rw [if_pos (by rw [a]), decide_eq_true (by omega)]; rfl
  · rw [if_neg (by rw [z_eq (by omega)]; exact a)]
    by_cases b : u = -143
    · rw [if_pos (by rw [b]), decide_eq_true (by omega)]; rfl
    · rw [if_neg (by rw [z_eq (by omega)]; exact b)]
      by_cases c : 0 ≤ u
      · rw [if_pos (by rw [z_le (by omega)]; exact c), decide_eq_false (by omega)]; rfl
      · rw [if_neg (by rw [z_le (by omega)]; exact c)]
        by_cases e : u ≤ -128
        · rw [if_pos (by rw [z_le (by omega)]; exact e), decide_eq_false (by omega)]; rfl
        · rw [if_neg (by rw [z_le (by omega)]; exact e), decide_eq_true (by omega)]; rfl
theorem vl_z {a : Nat} {u : Int} {x y z : Int32} {I : Nat → Nat → Int32} {J : Nat → Nat → Int64} (h : vc u) : sy_X5_valueOf a (Int32.ofInt u) x y z I J = vlo u x y z (I a 7) (I a 8) := by
  have hr := vc_r h
  unfold sy_X5_valueOf vlo
  have e : ∀ k : Int, -1000 ≤ k → k ≤ 1000 → ((-Int32.ofInt u = Int32.ofInt k) = (u = -k)) := fun k h1 h2 => by
    rw [z_neg, z_eq (by omega)]; exact propext (by omega)
  simp only [e 145 (by omega) (by omega), e 146 (by omega) (by omega), e 147 (by omega) (by omega), e 148 (by omega) (by omega), e 149 (by omega) (by omega)]
theorem clp_c {v : Int32} : sx_J9_max_7cf53 (Int32.ofInt 1) (sx_J9_min_7cf53 (Int32.ofInt 999) v) = Int32.ofInt (clp v : Nat) := by
  obtain ⟨t, h1, h2, rfl⟩ := z_of v
  have e : sx_J9_min_7cf53 (Int32.ofInt 999) (Int32.ofInt t) = Int32.ofInt (if t < 999 then t else 999) := by
    unfold sx_J9_min_7cf53
    by_cases q : t < 999
    · rw [if_pos (by rw [z_lt (by omega)]; exact q), if_pos q]
    · rw [if_neg (by rw [z_lt (by omega)]; exact q), if_neg q]
  rw [e]
  unfold clp sx_J9_max_7cf53
  rw [z_to h1 h2]
  by_cases a : t < 999
  · rw [if_pos a]
    by_cases b : t < 1
    · rw [if_neg (by rw [z_lt (by omega)]; omega), if_pos b]; rfl
    · rw [if_neg b, if_neg (show ¬ 999 < t by omega)]
      by_cases c : 1 < t
      · rw [if_pos (by rw [z_lt (by omega)]; exact c)]; congr 1; omega
      · rw [if_neg (by rw [z_lt (by omega)]; exact c)]; congr 1; omega
  · rw [if_neg a, if_pos (by decide), if_neg (by omega)]
    by_cases c : 999 < t
    · rw [if_pos c]; rfl
    · rw [if_neg c]; congr 1; omega
theorem clp_ok (v : Int32) : 1 ≤ clp v ∧ clp v ≤ 999 := by
  unfold clp
  repeat' split
  all_goals omega
theorem est_not {x y z w g : Int32} {u : Nat → Int} {i : Nat} (h : u i = -144) (j : Nat) : est x y z w g u (i + 1) j = if j = dpt u i - 1 then (if est x y z w g u i (dpt u i - 1) = Int32.ofInt 0 then Int32.ofInt 1 else Int32.ofInt 0) else est x y z w g u i j := by rw [est, if_pos h]
theorem est_jn {x y z w g : Int32} {u : Nat → Int} {i : Nat} (h : ¬ u i = -144) (h2 : jn (u i) = true) (j : Nat) : est x y z w g u (i + 1) j = if j = dpt u i - 2 then jo2 (u i) (est x y z w g u i (dpt u i - 2)) (est x y z w g u i (dpt u i - 1)) else est x y z w g u i j := by rw [est, if_neg h, if_pos h2]
theorem est_vl {x y z w g : Int32} {u : Nat → Int} {i : Nat} (h : ¬ u i = -144) (h2 : jn (u i) = false) (j : Nat) : est x y z w g u (i + 1) j = if j = dpt u i then vlo (u i) x y z w g else est x y z w g u i j := by rw [est, if_neg h, if_neg (by rw [h2]; decide)]
theorem dpt_not {u : Nat → Int} {i : Nat} (h : u i = -144) : dpt u (i + 1) = dpt u i := by rw [dpt, if_pos h]
theorem dpt_jn {u : Nat → Int} {i : Nat} (h : ¬ u i = -144) (h2 : jn (u i) = true) : dpt u (i + 1) = dpt u i - 1 := by rw [dpt, if_neg h, if_pos h2]
theorem dpt_vl {u : Nat → Int} {i : Nat} (h : ¬ u i = -144) (h2 : jn (u i) = false) : dpt u (i + 1) = dpt u i + 1 := by rw [dpt, if_neg h, if_neg (by rw [h2]; decide)]
section
variable {SL : Nat} {xs : Nat → Int32} {d : Nat} {p s q : Nat} {Q : Option Value → mm_H → Prop} {I : Nat → Nat → Int32} {J : Nat → Nat → Int64}
theorem c_joined {u : Int} {a b : Int32} (hv : vc u) (hj : jn u = true) (k : Q (some (.int (jo2 u a b))) (hp p s q I J)) : mm_s SL xs (d + 1) 63 [.int (-(Int32.ofInt u)), .int a, .int b] (hp p s q I J) Q := by
  have hr := vc_r hv
  have hj2 := of_decide_eq_true hj
  unfold jo2 at k
  refine sg_X5_joined ?_
  rw [z_neg, z_eq (by omega), z_eq (by omega), z_eq (by omega), z_eq (by omega), z_eq (by omega), z_eq (by omega), z_eq (by omega), z_eq (by omega), z_eq (by omega)]
  refine ⟨fun h => ?_, fun h => ?_, fun h => ?_, fun h => ⟨fun h0 => ?_, fun h0 => ⟨h0, ?_⟩⟩, fun h => ⟨fun h0 => ?_, fun h0 => ?_⟩, fun h => ⟨fun h0 => ?_, fun h0 => ?_⟩, fun h => ⟨fun h0 => ?_, fun h0 => ?_⟩, fun h => ⟨fun h0 => ⟨fun h1 => ?_, fun h1 => ?_⟩, fun h0 => ?_⟩, fun h => ⟨fun h0 => ?_, fun h0 => ⟨fun h1 => ?_, fun h1 => ?_⟩⟩, fun g1 g2 g3 g4 g5 g6 g7 g8 g9 => ?_⟩
  · rw [if_pos (by omega)] at k; exact k
  · rw [if_neg (by omega), if_pos (by omega)] at k; exact k
  · rw [if_neg (by omega), if_neg (by omega), if_pos (by omega)] at k; exact k
  · rw [if_neg (by omega), if_neg (by omega), if_neg (by omega), if_pos (by omega), if_pos h0] at k; exact k
  · rw [if_neg (by omega), if_neg (by omega), if_neg (by omega), if_pos (by omega), if_neg h0] at k; exact k
  · rw [if_neg (by omega), if_neg (by omega), if_neg (by omega), if_neg (by omega), if_pos (by omega), if_pos h0] at k; exact k
  · rw [if_neg (by omega), if_neg (by omega), if_neg (by omega), if_neg (by omega), if_pos (by omega), if_neg h0] at k; exact k
  · rw [if_neg (by omega), if_neg (by omega), if_neg (by omega), if_neg (by omega), if_neg (by omega), if_pos (by omega), if_pos h0] at k; exact k
  · rw [if_neg (by omega), if_neg (by omega), if_neg (by omega), if_neg (by omega), if_neg (by omega), if_pos (by omega), if_neg h0] at k; exact k
  · rw [if_neg (by omega), if_neg (by omega), if_neg (by omega), if_neg (by omega), if_neg (by omega), if_neg (by omega), if_pos (by omega), if_pos h0] at k; exact k
  · rw [if_neg (by omega), if_neg (by omega), if_neg (by omega), if_neg (by omega), if_neg (by omega), if_neg (by omega), if_pos (by omega), if_neg h0] at k; exact k
  · rw [if_neg (by omega), if_neg (by omega), if_neg (by omega), if_neg (by omega), if_neg (by omega), if_neg (by omega), if_neg (by omega), if_pos (by omega), if_pos h0, if_pos h1] at k; exact k
  · rw [if_neg (by omega), if_neg (by omega), if_neg (by omega), if_neg (by omega), if_neg (by omega), if_neg (by omega), if_neg (by omega), if_pos (by omega), if_pos h0, if_neg h1] at k; exact k
  · rw [if_neg (by omega), if_neg (by omega), if_neg (by omega), if_neg (by omega), if_neg (by omega), if_neg (by omega), if_neg (by omega), if_pos (by omega), if_neg h0] at k; exact k
  · rw [if_neg (by omega), if_neg (by omega), if_neg (by omega), if_neg (by omega), if_neg (by omega), if_neg (by omega), if_neg (by omega), if_neg (by omega), if_pos h0] at k; exact k
  · rw [if_neg (by omega), if_neg (by omega), if_neg (by omega), if_neg (by omega), if_neg (by omega), if_neg (by omega), if_neg (by omega), if_neg (by omega), if_neg h0, if_pos h1] at k; exact k
  · rw [if_neg (by omega), if_neg (by omega), if_neg (by omega), if_neg (by omega), if_neg (by omega), if_neg (by omega), if_neg (by omega), if_neg (by omega), if_neg h0, if_neg h1] at k; exact k
  · exfalso; unfold vc at hv; omega
theorem countOf_loop {a m : Nat} {u : Nat → Int} {w g x y z : Int32} (ha : isP a) (hm : m ≤ 360) (hw : wfo u m) : ∀ (f i : Nat) (I : Nat → Nat → Int32), i + f = m → I a 17 = Int32.ofInt (m : Nat) → (∀ i, i < m → I (a + 5) i = Int32.ofInt (u i)) → I a 7 = w → I a 8 = g → (∀ j, j < dpt u i → I (a + 6) j = est x y z w g u i j) → (∀ I2 : Nat → Nat → Int32, (∀ r, r ≠ a + 6 → I2 r = I r) → Q (some (.int (Int32.ofInt (clp (est x y z w g u m 0) : Nat)))) (hp p s q I2 J)) → w_X5_countOf_6 SL xs d p s q Q a x y z (Int32.ofInt (dpt u i : Nat)) (Int32.ofInt (i : Nat)) I J
  | 0, i, I, hf, h17, hu, h7, h8, hst, kq => by
    obtain rfl : i = m := by omega
    have hz : (Int32.ofInt 0).toNatClampNeg = 0 := z_ixN (t := 0) (by omega)
    refine sg_X5_countOf_6 ha ⟨fun _ => ⟨z_inN (t := 0) (by omega) (by omega), ?_⟩, fun h => ?_⟩
    · rw [hz, hst 0 hw.1, clp_c]; exact kq I (fun r _ => rfl)
    · rw [h17, z_le (by omega)] at h; omega
  | f + 1, i, I, hf, h17, hu, h7, h8, hst, kq => by
    obtain ⟨v1, v2, v3, v4, v5⟩ := hw.2 i (by omega)
    have hr := vc_r v1
    refine sg_X5_countOf_6 ha ⟨fun h => ?_, fun _ => ⟨fun h => ?_, fun _ => ⟨z_inN (by omega) (by omega), ?_⟩⟩⟩
    · rw [h17, z_le (by omega)] at h; omega
    · rw [z_le (by omega)] at h; omega
    · rw [z_ixN (by omega), hu i (by omega), z_p1, z_eq (by omega), jn_z v1, zB_0]
      refine ⟨fun h => ⟨fun h0 => ?_, fun _ => ?_⟩, fun h => ⟨fun hj => ⟨fun h4 => ?_, fun h4 => ?_⟩, fun hj => ⟨fun h1 => ?_, fun h1 => ?_⟩⟩⟩
      · rw [z_le (by omega)] at h0; have := v3 h; omega
      · have h1 := v3 h
        rw [z_m1 h1]
        refine ⟨z_inN (by omega) (by omega), ?_⟩
        rw [z_ixN (by omega), hst _ (by omega)]
        have ed := dpt_not h
        refine ⟨fun h0 => ?_, fun h0 => ?_⟩
        · rw [← ed]
          refine countOf_loop ha hm hw f (i + 1) _ (by omega) (by rw [mu_row (by omega)]; exact h17) (fun i hi => by rw [mu_row (by omega)]; exact hu i hi) (by rw [mu_row (by omega)]; exact h7) (by rw [mu_row (by omega)]; exact h8) (fun j hj => ?_) (fun I2 h2 => kq I2 (fun r hr => by rw [h2 r hr, mu_row hr]))
          rw [ed] at hj
          rw [mu_if, est_not h, if_pos h0, ed, hst j hj]
        · rw [← ed]
          refine countOf_loop ha hm hw f (i + 1) _ (by omega) (by rw [mu_row (by omega)]; exact h17) (fun i hi => by rw [mu_row (by omega)]; exact hu i hi) (by rw [mu_row (by omega)]; exact h7) (by rw [mu_row (by omega)]; exact h8) (fun j hj => ?_) (fun I2 h2 => kq I2 (fun r hr => by rw [h2 r hr, mu_row hr]))
          rw [ed] at hj
          rw [mu_if, est_not h, if_neg h0, ed, hst j hj]
      · rw [z_le (by omega)] at h4; have := v5 h hj; omega
      · have h5 := v5 h hj
        refine ⟨z_inN (by omega) (by omega), ?_⟩
        rw [z_ixN (by omega), vl_z v1, h7, h8, z_p1, ← dpt_vl h hj]
        refine countOf_loop ha hm hw f (i + 1) _ (by omega) (by rw [mu_row (by omega)]; exact h17) (fun i hi => by rw [mu_row (by omega)]; exact hu i hi) (by rw [mu_row (by omega)]; exact h7) (by rw [mu_row (by omega)]; exact h8) (fun j hj2 => ?_) (fun I2 h2 => kq I2 (fun r hr => by rw [h2 r hr, mu_row hr]))
        rw [dpt_vl h hj] at hj2
        rw [mu_if, est_vl h hj]
        by_cases e : j = dpt u i
        · rw [if_pos e, if_pos e]
        · rw [if_neg e, if_neg e, hst j (by omega)]
      · rw [z_le (by omega)] at h1; have := v4 h (by simpa using hj); omega
      · have hj : jn (u i) = true := by simpa using hj
        have h5 := v4 h hj
        have e1 : Int32.ofInt (dpt u i : Nat) + Int32.ofInt (-1) = Int32.ofInt ((dpt u i - 1 : Nat) : Int) := by rw [z_add]; congr 1; omega
        rw [e1, z_m1 (by omega)]
        refine ⟨z_inN (by omega) (by omega), z_inN (by omega) (by omega), ?_⟩
        rw [z_ixN (by omega), z_ixN (by omega), hst _ (by omega), hst _ (by omega)]
        refine c_joined v1 hj ⟨_, _, _, rfl, rfl, ?_⟩
        rw [← dpt_jn h hj]
        refine countOf_loop ha hm hw f (i + 1) _ (by omega) (by rw [mu_row (by omega)]; exact h17) (fun i hi => by rw [mu_row (by omega)]; exact hu i hi) (by rw [mu_row (by omega)]; exact h7) (by rw [mu_row (by omega)]; exact h8) (fun j hj2 => ?_) (fun I2 h2 => kq I2 (fun r hr => by rw [h2 r hr, mu_row hr]))
        rw [dpt_jn h hj] at hj2 ⊢
        rw [mu_if, est_jn h hj, show dpt u i - 1 - 1 = dpt u i - 2 by omega]
        by_cases e : j = dpt u i - 2
        · rw [if_pos e, if_pos e]
        · rw [if_neg e, if_neg e, hst j (by omega)]
theorem c_nextCount {o a M : Nat} {P : plT} {c : crT} (ho : isC o) (ha : isP a) (hP : pw P) (hc : cw P c M) (hcn : CNT a P I) (hcr : CR o c I J) (kq : ∀ I2 : Nat → Nat → Int32, (∀ r, r ≠ a + 6 → I2 r = I r) → Q (some (.int (Int32.ofInt (ncn P c : Nat)))) (hp p s q I2 J)) : mm_s SL xs (d + 3) 20 [.ref o, .ref a] (hp p s q I J) Q := by
  obtain ⟨u, m, w, g, h1, h2, h3, h4, h5, h6, h7⟩ := hcn
  refine sg_X1_nextCount ha ho ?_
  have es : sy_X1_standing o I J = Int32.ofInt (sta P c : Nat) := by
    unfold sy_X1_standing sta
    rw [hcr.1, bs_count, ct_sup2 hc.1 hP.2.1]
  rw [es, hcr.2.2.1, hcr.2.2.2.2.2.2, z_p1]
  refine sg_X5_countOf ?_
  refine countOf_loop (u := u) (w := w) (g := g) ha h1 h6 m 0 I (Nat.zero_add m) h2 h3 h4 h5 (fun j hj => absurd hj (Nat.not_lt_zero j)) (fun I2 hr => ⟨_, _, _, rfl, rfl, ?_⟩)
  rw [← h7]
  exact kq I2 hr
end
