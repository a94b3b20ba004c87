/-! PLAIN rings: which post goes last, by how many numbers -/
theorem pl_z {a : Int32} : (sx_X10_isPlain a = Int32.ofInt 0) = ¬ ∃ n : Nat, 1 ≤ n ∧ n ≤ 60 ∧ a = Int32.ofInt (n : Nat) := by
  obtain ⟨z, z1, z2, rfl⟩ := z_of a
  have key : (∃ n : Nat, 1 ≤ n ∧ n ≤ 60 ∧ Int32.ofInt z = Int32.ofInt (n : Nat)) ↔ (1 ≤ z ∧ z ≤ 60) := ⟨fun ⟨t, t1, t2, t3⟩ => by rw [z_eq (by omega)] at t3; omega, fun h => ⟨z.toNat, by omega, by omega, by congr 1; omega⟩⟩
  rw [key]
  unfold sx_X10_isPlain
  show ((if Int32.ofInt z < Int32.ofInt 1 then _ else if Int32.ofInt 60 < Int32.ofInt z then _ else _) = _) = _
  by_cases a : z < 1
  · rw [if_pos (by rw [z_lt (by omega)]; exact a)]; exact propext ⟨fun _ => by omega, fun _ => rfl⟩
  · rw [if_neg (by rw [z_lt (by omega)]; exact a)]
    by_cases b : 60 < z
    · rw [if_pos (by rw [z_lt (by omega)]; exact b)]; exact propext ⟨fun _ => by omega, fun _ => rfl⟩
    · rw [if_neg (by rw [z_lt (by omega)]; exact b)]; exact propext ⟨fun h => absurd h (by decide), fun h => absurd (by omega) h⟩
theorem st_z {a : Int32} : (sx_X10_isStep a = Int32.ofInt 0) = ¬ ∃ n : Nat, 1 ≤ n ∧ n ≤ 3000 ∧ a = Int32.ofInt (n : Nat) := by
  obtain ⟨z, z1, z2, rfl⟩ := z_of a
  have key : (∃ n : Nat, 1 ≤ n ∧ n ≤ 3000 ∧ Int32.ofInt z = Int32.ofInt (n : Nat)) ↔ (1 ≤ z ∧ z ≤ 3000) := ⟨fun ⟨t, t1, t2, t3⟩ => by rw [z_eq (by omega)] at t3; omega, fun h => ⟨z.toNat, by omega, by omega, by congr 1; omega⟩⟩
  rw [key]
  unfold sx_X10_isStep
  show ((if Int32.ofInt z < Int32.ofInt 1 then _ else if Int32.ofInt 3000 < Int32.ofInt z then _ else _) = _) = _
  by_cases a : z < 1
  · rw [if_pos (by rw [z_lt (by omega)]; exact a)]; exact propext ⟨fun _ => by omega, fun _ => rfl⟩
  · rw [if_neg (by rw [z_lt (by omega)]; exact a)]
    by_cases b : 3000 < z
    · rw [if_pos (by rw [z_lt (by omega)]; exact b)]; exact propext ⟨fun _ => by omega, fun _ => rfl⟩
    · rw [if_neg (by rw [z_lt (by omega)]; exact b)]; exact propext ⟨fun h => absurd h (by decide), fun h => absurd (by omega) h⟩
theorem zo_z {a : Int32} : (sx_X10_isZeroOrOne a = Int32.ofInt 0) = ¬ (a = Int32.ofInt 0 ∨ a = Int32.ofInt 1) := by
  unfold sx_X10_isZeroOrOne
  by_cases h : a = 0
  · rw [if_pos h]; exact propext ⟨fun z => absurd z (by decide), fun z => absurd (Or.inl h) z⟩
  · rw [if_neg h]
    by_cases h2 : a = Int32.ofInt 1
    · rw [if_pos h2]; exact propext ⟨fun z => absurd z (by decide), fun z => absurd (Or.inr h2) z⟩
    · rw [if_neg h2]; exact propext ⟨fun _ z => z.elim h h2, fun _ => rfl⟩
def tl (n b : Nat) (m : Nat) : Nat := fb_ct (fun k => decide (jo (k + 1) 1 (n - 1) = b)) m
theorem tl_s (n b m : Nat) : tl n b (m + 1) = tl n b m + (if jo (m + 1) 1 (n - 1) = b then 1 else 0) := by
  unfold tl
  rw [fb_ct_succ]
  by_cases h : jo (m + 1) 1 (n - 1) = b
  · rw [if_pos h, if_pos (decide_eq_true h)]
  · rw [if_neg h, if_neg (by rw [decide_eq_false h]; decide)]
theorem tl_le (n b m : Nat) : tl n b m ≤ m := fb_ct_le _ _
theorem jo_n {n : Nat} (hn : 1 ≤ n) (k : Nat) : jo k 1 (n - 1) < n := by have := jo_lt (k := k) (Nat.le_refl 1) (n - 1); omega
theorem QS_s {p s q : Nat} {P : plT} {bg : Nat} {x : trT} {I I2 : Nat → Nat → Int32} {J J2 : Nat → Nat → Int64} (f : ∀ r, r ≠ 31 → r ≠ 32 → r ≠ 38 → r ≠ 98 → r ≠ 99 → r ≠ 105 → r ≠ 106 → I2 r = I r) (g : ∀ r, r ≠ 37 → J2 r = J r) (h : QS p s q P bg x I J) : QS p s q P bg x I2 J2 :=
  ⟨RX_f (⟨fun r hr => by
      unfold scr at hr
      exact f r (by omega) (by omega) (by omega) (by omega) (by omega) (by omega) (by omega), fun k _ => by rw [f 65 (by omega) (by omega) (by omega) (by omega) (by omega) (by omega) (by omega)], by rw [f 29 (by omega) (by omega) (by omega) (by omega) (by omega) (by omega) (by omega)], fun r _ _ c => g r c⟩ : Fq p I I2 J J2) h.1, MX_c (fun r hr => f r (by omega) (by omega) (by omega) (by omega) (by omega) (by omega) (by omega)) h.2⟩
section
variable {SL : Nat} {xs : Nat → Int32} {d : Nat} {p s q : Nat} {Q : Option Value → mm_H → Prop}
theorem c_goerN {n k : Nat} {I : Nat → Nat → Int32} {J : Nat → Nat → Int64} (hn1 : 1 ≤ n) (hn : n ≤ 60) (hk1 : 1 ≤ k) (hk : k ≤ 3000) (kq : Q (some (.int (Int32.ofInt (jo k 1 (n - 1) : Nat)))) (hp p s q I J)) : mm_s SL xs (d + 1) 40 [.int (Int32.ofInt (n : Nat)), .int (Int32.ofInt (k : Nat)), .int (Int32.ofInt (n : Nat))] (hp p s q I J) Q :=
  c_goer hn1 (Nat.le_refl n) hn hk1 hk (by rw [Nat.sub_self]; exact kq)
theorem lay0 {v1 v2 : Int32} {J : Nat → Nat → Int64} : ∀ (f j : Nat) (I : Nat → Nat → Int32), j + f = 60 → (∀ i, i < j → I 99 i = Int32.ofInt 0) → (∀ I2 : Nat → Nat → Int32, (∀ r, r ≠ 99 → I2 r = I r) → (∀ i, i < 60 → I2 99 i = Int32.ofInt 0) → w_X11_layLasts_23 SL xs d p s q Q v1 v2 (Int32.ofInt 1) I2 J) → w_X11_layLasts_2 SL xs d p s q Q v1 v2 (Int32.ofInt (j : Nat)) I J
  | 0, j, I, hf, h0, kq => by
    obtain rfl : j = 60 := by omega
    refine sg_X11_layLasts_2 ⟨fun _ => kq I (fun _ _ => rfl) h0, fun h => ?_⟩
    rw [z_le (by omega)] at h; omega
  | f + 1, j, I, hf, h0, kq => by
    refine sg_X11_layLasts_2 ⟨fun h => ?_, fun _ => ⟨z_inN (by omega) (by omega), ?_⟩⟩
    · rw [z_le (by omega)] at h; omega
    · rw [z_ixN (by omega), z_p1]
      refine lay0 f (j + 1) _ (by omega) (fun i hi => ?_) (fun I2 g1 g2 => kq I2 (fun r hr => by rw [g1 r hr, mu_row hr]) g2)
      rw [mu_if]
      by_cases e : i = j
      · rw [if_pos e]
      · rw [if_neg e]; exact h0 i (by omega)
theorem lay1 {n m : Nat} {J : Nat → Nat → Int64} (hn1 : 1 ≤ n) (hn : n ≤ 60) (hm : m ≤ 3000) : ∀ (f j : Nat) (I : Nat → Nat → Int32), j + f = m → (∀ i, i < 60 → I 99 i = Int32.ofInt (tl n i j : Nat)) → (∀ I2 : Nat → Nat → Int32, (∀ r, r ≠ 99 → I2 r = I r) → (∀ i, i < 60 → I2 99 i = Int32.ofInt (tl n i m : Nat)) → Q none (hp p s q I2 J)) → w_X11_layLasts_23 SL xs d p s q Q (Int32.ofInt (n : Nat)) (Int32.ofInt (m : Nat)) (Int32.ofInt ((j + 1 : Nat) : Int)) I J
  | 0, j, I, hf, h0, kq => by
    obtain rfl : j = m := by omega
    refine sg_X11_layLasts_23 ⟨fun _ => kq I (fun _ _ => rfl) h0, fun h => ?_⟩
    rw [z_lt (by omega)] at h; omega
  | f + 1, j, I, hf, h0, kq => by
    have hj := jo_n hn1 (j + 1)
    refine sg_X11_layLasts_23 ⟨fun h => ?_, fun _ => ?_⟩
    · rw [z_lt (by omega)] at h; omega
    · refine c_lastOf hn1 hn (by omega) ⟨_, _, _, rfl, rfl, z_inN (by omega) (by omega), ?_⟩
      have htl := tl_le n (jo (j + 1) 1 (n - 1)) j
      rw [z_ixN (by omega), h0 _ (by omega), z_p1, z_p1]
      refine lay1 hn1 hn hm f (j + 1) _ (by omega) (fun i hi => ?_) (fun I2 g1 g2 => kq I2 (fun r hr => by rw [g1 r hr, mu_row hr]) g2)
      rw [mu_if, tl_s]
      by_cases e : i = jo (j + 1) 1 (n - 1)
      · rw [if_pos e, if_pos e.symm, e]
      · rw [if_neg e, if_neg (fun z => e z.symm)]; exact h0 i hi
theorem m_layLasts {n m : Nat} {I : Nat → Nat → Int32} {J : Nat → Nat → Int64} (hn1 : 1 ≤ n) (hn : n ≤ 60) (hm : m ≤ 3000) (kq : ∀ I2 : Nat → Nat → Int32, (∀ r, r ≠ 99 → I2 r = I r) → (∀ i, i < 60 → I2 99 i = Int32.ofInt (tl n i m : Nat)) → Q none (hp p s q I2 J)) : mm_s SL xs (d + 2) 250 [.ref 65, .int (Int32.ofInt (n : Nat)), .int (Int32.ofInt (m : Nat))] (hp p s q I J) Q := by
  refine sg_X11_layLasts (lay0 60 0 I rfl (fun i hi => absurd hi (Nat.not_lt_zero i)) (fun I2 g1 g2 => ?_))
  exact lay1 hn1 hn hm m 0 I2 (Nat.zero_add m) g2 (fun I3 g3 g4 => kq I3 (fun r hr => by rw [g3 r hr, g1 r hr]) g4)
def nvF (n j b : Nat) : Bool := decide (b < n) && decide (tl n b j = 0)
theorem nv_s {n j : Nat} (hn : 1 ≤ n) (hn2 : n ≤ 60) : bs (nvF n j) &&& (sx_X6_bit (Int32.ofInt (jo (j + 1) 1 (n - 1) : Nat)) ^^^ Int64.ofInt (-1)) = bs (nvF n (j + 1)) := by
  have := jo_n hn (j + 1)
  rw [bs_one (by omega), bs_not]
  refine bs_cong (fun i _ => ?_)
  unfold nvF
  rw [tl_s]
  by_cases e : i = jo (j + 1) 1 (n - 1)
  · rw [if_pos e.symm, decide_eq_true e]; simp
  · rw [if_neg (fun z => e z.symm), decide_eq_false e]; simp
theorem nv_0 {n j m : Nat} (h : bs (nvF n j) = Int64.ofInt 0) (hm : j ≤ m) (hn2 : n ≤ 60) : bs (nvF n m) = Int64.ofInt 0 := by
  rw [bs_eq0] at h ⊢
  intro i hi
  have := h i hi
  unfold nvF at this ⊢
  have hmo : tl n i j ≤ tl n i m := fb_ct_mono _ hm
  simp only [Bool.and_eq_false_iff, decide_eq_false_iff_not] at this ⊢
  omega
theorem never_c {n m : Nat} {I : Nat → Nat → Int32} {J : Nat → Nat → Int64} (hn1 : 1 ≤ n) (hn : n ≤ 60) (hm : m ≤ 3000) (kq : Q (some (.long (bs (nvF n m)))) (hp p s q I J)) : ∀ (f j : Nat), j + f = m → w_X4_neverLast_8 SL xs d p s q Q (Int32.ofInt (n : Nat)) (Int32.ofInt (m : Nat)) (bs (nvF n j)) (Int32.ofInt ((j + 1 : Nat) : Int)) I J
  | 0, j, hf => by
    obtain rfl : j = m := by omega
    refine sg_X4_neverLast_8 ⟨fun _ => kq, fun h => ?_⟩
    rw [z_lt (by omega)] at h; omega
  | f + 1, j, hf => by
    refine sg_X4_neverLast_8 ⟨fun h => ?_, fun _ => ⟨fun h => ?_, fun _ => ?_⟩⟩
    · rw [z_lt (by omega)] at h; omega
    · rw [h, ← nv_0 h (show j ≤ m by omega) hn]; exact kq
    · refine c_goerN hn1 hn (by omega) (by omega) ⟨_, _, _, rfl, rfl, ?_⟩
      rw [nv_s hn1 hn, z_p1]
      exact never_c hn1 hn hm kq f (j + 1) (by omega)
theorem never_m {n m : Nat} {v2 : Int32} {I : Nat → Nat → Int32} {J : Nat → Nat → Int64} (hn : n ≤ 60) (hm : m ≤ 3000) (h99 : ∀ i, i < 60 → I 99 i = Int32.ofInt (tl n i m : Nat)) (kq : Q (some (.long (bs (nvF n m)))) (hp p s q I J)) : ∀ (f j : Nat), j + f = n → w_X11_never_29 SL xs d p s q Q (Int32.ofInt (n : Nat)) v2 (bs (fun b => decide (b < j) && decide (tl n b m = 0))) (Int32.ofInt (j : Nat)) I J
  | 0, j, hf => by
    obtain rfl : j = n := by omega
    refine sg_X11_never_29 ⟨fun _ => kq, fun h => ?_⟩
    rw [z_le (by omega)] at h; omega
  | f + 1, j, hf => by
    have htl := tl_le n j m
    obtain ⟨m0, m1⟩ := bs_more (F := fun b => decide (tl n b m = 0)) (j := j) (by omega)
    refine sg_X11_never_29 ⟨fun h => ?_, fun _ => ⟨z_inN (by omega) (by omega), ?_⟩⟩
    · rw [z_le (by omega)] at h; omega
    · rw [z_ixN (by omega), h99 j (by omega), z_eq (by omega), z_p1, bs_or0, bs_sh (by omega)]
      refine ⟨fun h => ?_, fun h => ?_⟩
      · rw [m1 (decide_eq_true (by omega))]; exact never_m hn hm h99 kq f (j + 1) (by omega)
      · rw [m0 (decide_eq_false (by omega))]; exact never_m hn hm h99 kq f (j + 1) (by omega)
end
theorem ca_never {SL : Nat} {xs : Nat → Int32} {d : Nat} {h : mm_H} {Q : Option Value → mm_H → Prop} {a0 : Int32} {a1 : Int32} (hd : 150 ≤ d) (hiv : iv h) (k : ∀ (r : Int64) (h1 : mm_H), h1.2.1 65 = .inr 9 → (∀ Q2 : Option Value → mm_H → Prop, (∀ h2, iv h2 → Q2 (some (.long r)) h2) → mm_s SL xs d 251 [.ref 65, .int a0, .int a1] h1 Q2) → Q (some (.long r)) h1) : mm_s SL xs d 141 [.ref 2, .int a0, .int a1] h Q := by
  obtain ⟨e, rfl⟩ : ∃ e, d = e + 20 := ⟨d - 20, by omega⟩
  obtain ⟨_, _, p, s, q, I, J, rfl, P, bg, x, hR, hM⟩ := hiv
  have hS : QS p s q P bg x I J := ⟨hR, hM⟩
  refine sg_X10_never ⟨fun h => k _ _ rfl (fun Q2 k2 => sg_X11_never ⟨fun _ => k2 _ (QS_iv hS), fun h2 => absurd h h2⟩), fun h => ⟨fun h2 => k _ _ rfl (fun Q2 k2 => sg_X11_never ⟨fun z => absurd z h, fun _ => ⟨fun _ => k2 _ (QS_iv hS), fun z => absurd h2 z⟩⟩), fun h2 => ?_⟩⟩
  have h' := h
  have h2' := h2
  rw [pl_z, Classical.not_not] at h'
  rw [st_z, Classical.not_not] at h2'
  obtain ⟨n, n1, n2, rfl⟩ := h'
  obtain ⟨m, m1, m2, rfl⟩ := h2'
  refine sg_X4_neverLast ?_
  have e0 : sx_X6_all (Int32.ofInt (n : Nat)) = bs (nvF n 0) := by
    rw [bs_all n2]
    exact bs_cong (fun i _ => by unfold nvF; simp [tl, fb_ct])
  rw [e0]
  refine never_c n1 n2 m2 ⟨_, _, _, rfl, rfl, k _ _ rfl (fun Q2 k2 => sg_X11_never ⟨fun z => absurd z h, fun _ => ⟨fun z => absurd z h2, fun _ => ?_⟩⟩)⟩ m 0 (Nat.zero_add m)
  refine m_layLasts n1 n2 m2 (fun I2 g1 g2 => ⟨_, _, rfl, rfl, ?_⟩)
  rw [← bs_none (F := fun b => decide (tl n b m = 0))]
  exact never_m n2 m2 g2 (k2 _ (QS_iv (QS_s (fun r _ _ _ _ a _ _ => g1 r a) (fun _ _ => rfl) hS))) n 0 (Nat.zero_add n)
/-! the heaviest post that is not taken -/
def hvy (w : Nat → Nat) (tk : Nat → Bool) : Nat → Nat → Int → Int
  | 0, _, b => b
  | f + 1, i, b => if tk i = true then hvy w tk f (i + 1) b else if b = -1 then hvy w tk f (i + 1) (i : Int) else if w i ≤ w b.toNat then hvy w tk f (i + 1) b else hvy w tk f (i + 1) (i : Int)
theorem hvy_r {w : Nat → Nat} {tk : Nat → Bool} : ∀ (f i : Nat) (b : Int), -1 ≤ b → b < i → -1 ≤ hvy w tk f i b ∧ hvy w tk f i b < (i + f : Nat)
  | 0, i, b, h1, h2 => ⟨h1, h2⟩
  | f + 1, i, b, h1, h2 => by
    rw [hvy]
    have a1 := hvy_r (w := w) (tk := tk) f (i + 1) b h1 (by omega)
    have a2 := hvy_r (w := w) (tk := tk) f (i + 1) (i : Int) (by omega) (by omega)
    repeat' split
    all_goals omega
theorem hvy_0 {w : Nat → Nat} {tk : Nat → Bool} : ∀ (f i : Nat) (b : Int), 0 ≤ b ∨ (∃ j, i ≤ j ∧ j < i + f ∧ tk j = false) → -1 ≤ b → 0 ≤ hvy w tk f i b
  | 0, i, b, h, h1 => by
    rcases h with h | ⟨j, j1, j2, _⟩
    · exact h
    · omega
  | f + 1, i, b, h, h1 => by
    rw [hvy]
    by_cases q : tk i = true
    · rw [if_pos q]
      refine hvy_0 f (i + 1) b ?_ h1
      rcases h with h | ⟨j, j1, j2, j3⟩
      · exact Or.inl h
      · refine Or.inr ⟨j, ?_, by omega, j3⟩
        rcases Nat.lt_or_ge i j with z | z
        · exact z
        · have : j = i := by omega
          rw [this, q] at j3; exact absurd j3 (by decide)
    · rw [if_neg q]
      by_cases b0 : b = -1
      · rw [if_pos b0]; exact hvy_0 f (i + 1) _ (Or.inl (by omega)) (by omega)
      · rw [if_neg b0]
        split
        · exact hvy_0 f (i + 1) _ (Or.inl (by omega)) (by omega)
        · exact hvy_0 f (i + 1) _ (Or.inl (by omega)) (by omega)
theorem hvy_free {w : Nat → Nat} {tk : Nat → Bool} : ∀ (f i : Nat) (b : Int), (0 ≤ b → tk b.toNat = false) → -1 ≤ b → 0 ≤ hvy w tk f i b → tk (hvy w tk f i b).toNat = false
  | 0, i, b, h, _, h2 => h h2
  | f + 1, i, b, h, h1, h2 => by
    rw [hvy] at h2 ⊢
    by_cases q : tk i = true
    · rw [if_pos q] at h2 ⊢; exact hvy_free f (i + 1) b h h1 h2
    · have q2 : tk i = false := by simpa using q
      rw [if_neg q] at h2 ⊢
      by_cases b0 : b = -1
      · rw [if_pos b0] at h2 ⊢; exact hvy_free f (i + 1) _ (fun _ => q2) (by omega) h2
      · rw [if_neg b0] at h2 ⊢
        by_cases c : w i ≤ w b.toNat
        · rw [if_pos c] at h2 ⊢; exact hvy_free f (i + 1) _ h h1 h2
        · rw [if_neg c] at h2 ⊢; exact hvy_free f (i + 1) _ (fun _ => q2) (by omega) h2
section
variable {SL : Nat} {xs : Nat → Int32} {d : Nat} {p s q : Nat} {Q : Option Value → mm_H → Prop}
theorem c_weightAt {w : Nat → Nat} {b : Nat} {I : Nat → Nat → Int32} {J : Nat → Nat → Int64} (hb : b < 60) (h32 : ∀ i, i < 60 → I 32 i = Int32.ofInt (w i : Nat)) (kq : Q (some (.int (Int32.ofInt (w b : Nat)))) (hp p s q I J)) : mm_s SL xs (d + 1) 29 [.ref 31, .int (Int32.ofInt (b : Nat))] (hp p s q I J) Q := by
  refine sg_X2_weightAt ?_
  rw [z_lt (by omega), z_le (by omega), z_ixN (by omega), h32 b hb]
  exact ⟨fun h => absurd h (by omega), fun _ => ⟨fun h => absurd h (by omega), fun _ => ⟨z_inN hb (by omega), kq⟩⟩⟩
theorem heavy_c {w : Nat → Nat} {tk : Nat → Bool} {n : Nat} {I : Nat → Nat → Int32} {J : Nat → Nat → Int64} (hn : n ≤ 60) (hw : ∀ i, w i ≤ 1000000) (h32 : ∀ i, i < 60 → I 32 i = Int32.ofInt (w i : Nat)) : ∀ (f i : Nat) (b : Int), i + f = n → -1 ≤ b → b < i → Q (some (.int (Int32.ofInt (hvy w tk f i b)))) (hp p s q I J) → w_X2_heaviest_6 SL xs d p s q Q (Int32.ofInt (n : Nat)) (bs tk) (Int32.ofInt b) (Int32.ofInt (i : Nat)) I J
  | 0, i, b, hf, h1, h2, kq => by
    refine sg_X2_heaviest_6 ⟨fun _ => kq, fun h => ?_⟩
    rw [z_le (by omega)] at h; omega
  | f + 1, i, b, hf, h1, h2, kq => by
    have hwi := hw i
    have hwb := hw b.toNat
    rw [hvy] at kq
    refine sg_X2_heaviest_6 ?_
    rw [z_le (by omega), z_le (by omega), bs_has _ (by omega), z_eq (by omega), z_p1, z_ixN (by omega), h32 i (by omega)]
    refine ⟨fun h => absurd h (by omega), fun _ => ⟨fun h => absurd h (by omega), fun _ => ⟨fun h => ?_, fun h => ?_⟩⟩⟩
    · have ht : ¬ tk i = true := fun z => by rw [if_pos z] at h; exact absurd h (by decide)
      rw [if_neg ht] at kq
      refine ⟨fun hb => ?_, fun hb => ⟨z_inN (by omega) (by omega), ?_⟩⟩
      · rw [if_pos hb] at kq; exact heavy_c hn hw h32 f (i + 1) _ (by omega) (by omega) (by omega) kq
      · rw [if_neg hb] at kq
        have eb : Int32.ofInt b = Int32.ofInt ((b.toNat : Nat) : Int) := by congr 1; omega
        rw [eb]
        refine c_weightAt (by omega) h32 ⟨_, _, _, rfl, rfl, ?_⟩
        rw [z_le (by omega), ← eb]
        refine ⟨fun hc => ?_, fun hc => ?_⟩
        · rw [if_pos (by omega)] at kq; exact heavy_c hn hw h32 f (i + 1) _ (by omega) h1 (by omega) kq
        · rw [if_neg (by omega)] at kq; exact heavy_c hn hw h32 f (i + 1) _ (by omega) (by omega) (by omega) kq
    · have ht : tk i = true := by cases ht : tk i with | true => rfl | false => rw [ht] at h; exact absurd rfl h
      rw [if_pos ht] at kq
      exact heavy_c hn hw h32 f (i + 1) b (by omega) h1 (by omega) kq
theorem c_heaviest {w : Nat → Nat} {tk : Nat → Bool} {n : Nat} {I : Nat → Nat → Int32} {J : Nat → Nat → Int64} (hn : n ≤ 60) (hw : ∀ i, w i ≤ 1000000) (h32 : ∀ i, i < 60 → I 32 i = Int32.ofInt (w i : Nat)) (kq : Q (some (.int (Int32.ofInt (hvy w tk n 0 (-1))))) (hp p s q I J)) : mm_s SL xs (d + 2) 30 [.ref 31, .int (Int32.ofInt (n : Nat)), .long (bs tk)] (hp p s q I J) Q :=
  sg_X2_heaviest (heavy_c hn hw h32 n 0 (-1) (Nat.zero_add n) (by omega) (by omega) kq)
theorem c_add {w : Nat → Nat} {b v sm : Nat} {I : Nat → Nat → Int32} {J : Nat → Nat → Int64} (hb : b < 60) (h32 : ∀ i, i < 60 → I 32 i = Int32.ofInt (w i : Nat)) (h31 : I 31 1 = Int32.ofInt (sm : Nat)) (kq : ∀ I2 : Nat → Nat → Int32, (∀ r, r ≠ 31 → r ≠ 32 → I2 r = I r) → (∀ i, i < 60 → I2 32 i = Int32.ofInt ((w i + (if b = i then v else 0) : Nat) : Int)) → I2 31 1 = Int32.ofInt ((sm + v : Nat) : Int) → Q none (hp p s q I2 J)) : mm_s SL xs (d + 1) 26 [.ref 31, .int (Int32.ofInt (b : Nat)), .int (Int32.ofInt (v : Nat))] (hp p s q I J) Q := by
  have za : ∀ a : Nat, Int32.ofInt (a : Nat) + Int32.ofInt (v : Nat) = Int32.ofInt ((a + v : Nat) : Int) := fun a => by rw [z_add]; rfl
  refine sg_X2_add ?_
  rw [z_lt (by omega), z_le (by omega), z_ixN (by omega), h32 b hb, h31, za, za]
  refine ⟨fun h => absurd h (by omega), fun _ => ⟨fun h => absurd h (by omega), fun _ => ⟨z_inN hb (by omega), ?_⟩⟩⟩
  refine kq _ (fun r a b => by rw [mu_row a, mu_row b]) (fun i hi => ?_) mu_at
  rw [mu_row (by omega), mu_if]
  by_cases e : i = b
  · rw [if_pos e, if_pos e.symm, e]
  · rw [if_neg e, if_neg (fun z => e z.symm)]; exact h32 i hi
theorem tally_c {n m : Nat} {J : Nat → Nat → Int64} (hn1 : 1 ≤ n) (hn : n ≤ 60) (hm : m ≤ 3000) : ∀ (f j : Nat) (I : Nat → Nat → Int32), j + f = m → (∀ i, i < 60 → I 32 i = Int32.ofInt (tl n i j : Nat)) → I 31 1 = Int32.ofInt (j : Nat) → (∀ I2 : Nat → Nat → Int32, (∀ r, r ≠ 31 → r ≠ 32 → I2 r = I r) → (∀ i, i < 60 → I2 32 i = Int32.ofInt (tl n i m : Nat)) → Q none (hp p s q I2 J)) → w_X2_tallyUpTo_6 SL xs d p s q Q (Int32.ofInt (n : Nat)) (Int32.ofInt (m : Nat)) (Int32.ofInt ((j + 1 : Nat) : Int)) I J
  | 0, j, I, hf, h0, h1, kq => by
    obtain rfl : j = m := by omega
    refine sg_X2_tallyUpTo_6 ⟨fun _ => kq I (fun _ _ _ => rfl) h0, fun h => ?_⟩
    rw [z_lt (by omega)] at h; omega
  | f + 1, j, I, hf, h0, h1, kq => by
    have hj := jo_n hn1 (j + 1)
    refine sg_X2_tallyUpTo_6 ⟨fun h => ?_, fun _ => ?_⟩
    · rw [z_lt (by omega)] at h; omega
    · refine c_goerN hn1 hn (by omega) (by omega) ⟨_, _, _, rfl, rfl, ?_⟩
      refine c_add (w := fun i => tl n i j) (v := 1) (by omega) h0 h1 (fun I2 g1 g2 g3 => ⟨_, _, rfl, rfl, ?_⟩)
      rw [z_p1]
      exact tally_c hn1 hn hm f (j + 1) I2 (by omega) (fun i hi => by rw [g2 i hi, tl_s]) g3 (fun I3 g4 g5 => kq I3 (fun r a b => by rw [g4 r a b, g1 r a b]) g5)
theorem c_clear {I : Nat → Nat → Int32} {J : Nat → Nat → Int64} (kq : ∀ I2 : Nat → Nat → Int32, (∀ r, r ≠ 31 → r ≠ 32 → I2 r = I r) → (∀ i, i < 60 → I2 32 i = Int32.ofInt 0) → I2 31 1 = Int32.ofInt 0 → Q none (hp p s q I2 J)) : mm_s SL xs (d + 2) 25 [.ref 31] (hp p s q I J) Q := by
  refine sg_X2_clear ?_
  refine c_fill (n := 60) rfl (by omega) (fun I2 g1 g2 => ⟨_, _, rfl, rfl, kq _ (fun r a b => by rw [mu_row a, g1 r b]) (fun i hi => ?_) mu_at⟩)
  rw [mu_row (by omega)]; exact g2 i hi
theorem often_m {w : Nat → Nat} {n : Nat} {v2 v3 : Int32} {I : Nat → Nat → Int32} {J : Nat → Nat → Int64} (hn : n ≤ 60) (hw : ∀ i, w i ≤ 1000000) (h99 : ∀ i, i < 60 → I 99 i = Int32.ofInt (w i : Nat)) : ∀ (f i b : Nat), i + f = n → b < i → (v3 = Int32.ofInt 0 → Q (some (.int (Int32.ofInt (hvy w (fun _ => false) f i (b : Int))))) (hp p s q I J)) → (¬ v3 = Int32.ofInt 0 → Q (some (.int (Int32.ofInt (w (hvy w (fun _ => false) f i (b : Int)).toNat : Nat)))) (hp p s q I J)) → w_X11_often_37 SL xs d p s q Q (Int32.ofInt (n : Nat)) v2 v3 (Int32.ofInt (b : Nat)) (Int32.ofInt (i : Nat)) I J
  | 0, i, b, hf, hb, k0, k1 => by
    refine sg_X11_often_37 ⟨fun _ => ⟨k0, fun h => ⟨z_inN (by omega) (by omega), ?_⟩⟩, fun h => ?_⟩
    · rw [z_ixN (by omega), h99 b (by omega)]; exact k1 h
    · rw [z_le (by omega)] at h; omega
  | f + 1, i, b, hf, hb, k0, k1 => by
    have hwi := hw i
    have hwb := hw b
    have eh : hvy w (fun _ => false) (f + 1) i (b : Int) = if w i ≤ w b then hvy w (fun _ => false) f (i + 1) (b : Int) else hvy w (fun _ => false) f (i + 1) (i : Int) := by
      rw [hvy, if_neg (by decide), if_neg (by omega)]; rfl
    rw [eh] at k0 k1
    refine sg_X11_often_37 ⟨fun h => ?_, fun _ => ⟨z_inN (by omega) (by omega), z_inN (by omega) (by omega), ?_⟩⟩
    · rw [z_le (by omega)] at h; omega
    · rw [z_ixN (by omega), z_ixN (by omega), h99 i (by omega), h99 b (by omega), z_le (by omega), z_p1]
      refine ⟨fun h => ?_, fun h => ?_⟩
      · rw [if_pos (by omega)] at k0 k1; exact often_m hn hw h99 f (i + 1) b (by omega) (by omega) k0 k1
      · rw [if_neg (by omega)] at k0 k1; exact often_m hn hw h99 f (i + 1) i (by omega) (by omega) k0 k1
end
theorem ca_often {SL : Nat} {xs : Nat → Int32} {d : Nat} {h : mm_H} {Q : Option Value → mm_H → Prop} {a0 : Int32} {a1 : Int32} {a2 : Int32} (hd : 150 ≤ d) (hiv : iv h) (k : ∀ (r : Int32) (h1 : mm_H), h1.2.1 65 = .inr 9 → (∀ Q2 : Option Value → mm_H → Prop, (∀ h2, iv h2 → Q2 (some (.int r)) h2) → mm_s SL xs d 252 [.ref 65, .int a0, .int a1, .int a2] h1 Q2) → Q (some (.int r)) h1) : mm_s SL xs d 142 [.ref 2, .int a0, .int a1, .int a2] h Q := by
  obtain ⟨e, rfl⟩ : ∃ e, d = e + 20 := ⟨d - 20, by omega⟩
  obtain ⟨_, _, p, s, q, I, J, rfl, P, bg, x, hR, hM⟩ := hiv
  have hS : QS p s q P bg x I J := ⟨hR, hM⟩
  have hz2 : ∀ a : Int32, ¬ (a = Int32.ofInt 0 ∨ a = Int32.ofInt 1) → ¬ a < Int32.ofInt 0 → ¬ a ≤ Int32.ofInt 1 := fun a h1 h2 h3 => by
    obtain ⟨z, z1, z2, rfl⟩ := z_of a
    rw [z_eq (by omega), z_eq (by omega)] at h1
    rw [z_lt (by omega)] at h2
    rw [z_le (by omega)] at h3
    omega
  refine sg_X10_often ⟨fun h => k _ _ rfl (fun Q2 k2 => sg_X11_often ⟨fun _ => k2 _ (QS_iv hS), fun h2 => absurd h h2⟩), fun h => ⟨fun h2 => k _ _ rfl (fun Q2 k2 => sg_X11_often ⟨fun z => absurd z h, fun _ => ⟨fun _ => k2 _ (QS_iv hS), fun z => absurd h2 z⟩⟩), fun h2 => ⟨fun h3 => k _ _ rfl (fun Q2 k2 => sg_X11_often ⟨fun z => absurd z h, fun _ => ⟨fun z => absurd z h2, fun _ => ⟨fun _ => k2 _ (QS_iv hS), fun h4 => ⟨fun h5 => ?_, fun _ => k2 _ (QS_iv hS)⟩⟩⟩⟩), fun h3 => ?_⟩⟩⟩
  · rw [zo_z] at h3
    exact absurd h5 (hz2 a2 h3 h4)
  · rw [zo_z, Classical.not_not] at h3
    have hlt : ¬ a2 < Int32.ofInt 0 := by rcases h3 with rfl | rfl <;> decide
    have hle : a2 ≤ Int32.ofInt 1 := by rcases h3 with rfl | rfl <;> decide
    have h' := h
    have h2' := h2
    rw [pl_z, Classical.not_not] at h'
    rw [st_z, Classical.not_not] at h2'
    obtain ⟨n, n1, n2, rfl⟩ := h'
    obtain ⟨m, m1, m2, rfl⟩ := h2'
    have hw : ∀ i, tl n i m ≤ 1000000 := fun i => by have := tl_le n i m; omega
    have eh : hvy (fun i => tl n i m) (fun _ => false) n 0 (-1) = hvy (fun i => tl n i m) (fun _ => false) (n - 1) 1 ((0 : Nat) : Int) := by
      obtain ⟨n', rfl⟩ : ∃ n', n = n' + 1 := ⟨n - 1, by omega⟩
      rw [hvy, if_neg (by decide), if_pos rfl]; rfl
    have hr0 := hvy_0 (w := fun i => tl n i m) (tk := fun _ => false) (n - 1) 1 ((0 : Nat) : Int) (Or.inl (by omega)) (by omega)
    have hr1 := (hvy_r (w := fun i => tl n i m) (tk := fun _ => false) (n - 1) 1 ((0 : Nat) : Int) (by omega) (by omega)).2
    refine sg_X2_tallyUpTo ?_
    refine c_clear (fun I1 g1 g2 g3 => ⟨_, _, rfl, rfl, ?_⟩)
    refine tally_c n1 n2 m2 m 0 I1 (Nat.zero_add m) g2 g3 (fun I2 g4 g5 => ⟨_, _, rfl, rfl, ?_⟩)
    have hS2 : QS p s q P bg x I2 J := QS_s (fun r a b _ _ _ _ _ => by rw [g4 r a b, g1 r a b]) (fun _ _ => rfl) hS
    rw [← bs_0]
    refine c_heaviest n2 hw g5 ⟨_, _, _, rfl, rfl, ?_⟩
    rw [eh]
    have mod : ∀ r : Int32, (a2 = Int32.ofInt 0 → r = Int32.ofInt (hvy (fun i => tl n i m) (fun _ => false) (n - 1) 1 ((0 : Nat) : Int))) → (¬ a2 = Int32.ofInt 0 → r = Int32.ofInt (tl n (hvy (fun i => tl n i m) (fun _ => false) (n - 1) 1 ((0 : Nat) : Int)).toNat m : Nat)) → ∀ Q2 : Option Value → mm_H → Prop, (∀ h2, iv h2 → Q2 (some (.int r)) h2) → mm_s SL xs (e + 20) 252 [.ref 65, .int (Int32.ofInt (n : Nat)), .int (Int32.ofInt (m : Nat)), .int a2] (hp p s q I2 J) Q2 := by
      intro r r0 r1 Q2 k2
      refine sg_X11_often ⟨fun z => absurd z h, fun _ => ⟨fun z => absurd z h2, fun _ => ⟨fun z => absurd z hlt, fun _ => ⟨fun _ => ?_, fun z => absurd hle z⟩⟩⟩⟩
      refine m_layLasts n1 n2 m2 (fun I3 g6 g7 => ⟨_, _, rfl, rfl, ?_⟩)
      have hS3 : QS p s q P bg x I3 J := QS_s (fun r _ _ _ _ a _ _ => g6 r a) (fun _ _ => rfl) hS2
      refine often_m (w := fun i => tl n i m) n2 hw g7 (n - 1) 1 0 (by omega) (by omega) (fun z => ?_) (fun z => ?_)
      · rw [← r0 z]; exact k2 _ (QS_iv hS3)
      · rw [← r1 z]; exact k2 _ (QS_iv hS3)
    refine ⟨fun ha => k _ _ rfl (mod _ (fun _ => rfl) (fun z => absurd ha z)), fun ha => ?_⟩
    generalize hb : hvy (fun i => tl n i m) (fun _ => false) (n - 1) 1 ((0 : Nat) : Int) = b at *
    obtain ⟨c, rfl⟩ : ∃ c : Nat, b = (c : Int) := ⟨b.toNat, by omega⟩
    refine c_weightAt (w := fun i => tl n i m) (by omega) g5 ⟨_, _, _, rfl, rfl, k _ _ rfl (mod _ (fun z => absurd z ha) (fun _ => ?_))⟩
    rw [Int.toNat_natCast]
