theorem fr_args {n : Int64} {k : Int32} {m : Int64} (h1 : ¬ sx_X10_isLarge n k = 0) (h2 : ¬ lg_cmp m (Int64.ofNat 1) < 0) (h3 : lg_cmp m n ≤ 0) : ∃ a b c : Nat, n = lN a ∧ k = nI b ∧ m = lN c ∧ a ≤ 1000000000000 ∧ 1 ≤ b ∧ b ≤ 1000 ∧ 1 ≤ c ∧ c ≤ a := by
  have e1 : ¬ lg_cmp n (Int64.ofNat 1) < 0 := fun z => h1 (by rw [sx_X10_isLarge, if_pos z]; rfl)
  have e2 : ¬ 0 < lg_cmp n (Int64.ofInt (1000000000000)) := fun z => h1 (by rw [sx_X10_isLarge, if_neg e1, if_pos z]; rfl)
  have e3 : ¬ k < Int32.ofInt 1 := fun z => h1 (by rw [sx_X10_isLarge, if_neg e1, if_neg e2, if_pos z]; rfl)
  have e4 : ¬ (Int16.ofInt 1000).toInt32 < k := fun z => h1 (by rw [sx_X10_isLarge, if_neg e1, if_neg e2, if_neg e3, if_pos z]; rfl)
  have pos : ∀ x : Int64, ¬ lg_cmp x (Int64.ofNat 1) < 0 → ∃ a : Nat, a < 2 ^ 63 ∧ x = lN a ∧ 1 ≤ a := by
    intro x hx
    have hx2 : ¬ x < lN 1 := fun z => hx ((lg_cmp_lt _ _).mpr z)
    have h0 : ¬ x < 0 := fun z => hx2 (by
      rw [Int64.lt_iff_toInt_lt] at z ⊢
      have g1 : (lN 1).toInt = 1 := pk_lT (by decide)
      have g0 : (0 : Int64).toInt = 0 := by decide
      rw [g0] at z
      rw [g1]
      omega)
    obtain ⟨a, ha, rfl⟩ := pk_lOf h0
    refine ⟨a, ha, rfl, ?_⟩
    rcases Nat.lt_or_ge a 1 with q | q
    · exact absurd ((pk_lLT ha (by decide)).mpr q) hx2
    · exact q
  obtain ⟨a, ha, rfl, ha1⟩ := pos n e1
  obtain ⟨c, hc, rfl, hc1⟩ := pos m h2
  have ha2 : a ≤ 1000000000000 := by
    rcases Nat.lt_or_ge 1000000000000 a with q | q
    · exact absurd ((lg_cmp_gt _ _).mpr (show lN 1000000000000 < lN a from (pk_lLT (by decide) ha).mpr q)) e2
    · exact q
  have hca : c ≤ a := (pk_lLE hc ha).mp ((lg_cmp_le _ _).mp h3)
  have k0 : ¬ k < 0 := fun z => e3 (by
    rw [Int32.lt_iff_toInt_lt] at z ⊢
    have g1 : (Int32.ofInt 1).toInt = 1 := by decide
    have g0 : (0 : Int32).toInt = 0 := by decide
    rw [g0] at z
    rw [g1]
    omega)
  obtain ⟨b, hb, rfl⟩ := nI_of k0
  have hb1 : 1 ≤ b := by
    rcases Nat.lt_or_ge b 1 with q | q
    · exact absurd (show nI b < nI 1 from nI_lt q (by decide)) e3
    · exact q
  have hb2 : b ≤ 1000 := by
    rcases Nat.lt_or_ge 1000 b with q | q
    · exact absurd (show nI 1000 < nI b from nI_lt q hb) e4
    · exact q
  exact ⟨a, b, c, rfl, rfl, rfl, ha2, hb1, hb2, hc1, hca⟩
def far_r (n : Int64) (k : Int32) (m : Int64) : Int64 := if sx_X10_isLarge n k = 0 then Int64.ofInt (-1) else if lg_cmp m (Int64.ofNat 1) < 0 then Int64.ofInt (-1) else if lg_cmp m n ≤ 0 then lN (fr n.toInt.toNat k.toInt.toNat m.toInt.toNat) else Int64.ofInt (-1)
theorem lN_nat {a : Nat} (h : a < 2 ^ 63) : (lN a).toInt.toNat = a := by rw [pk_lT h]; rfl
theorem nI_nat {a : Nat} (h : a < 2 ^ 31) : (nI a).toInt.toNat = a := by rw [nI_toInt h]; rfl
theorem c_X10_far {SL : Nat} {xs : Nat → Int32} {d : Nat} {h : mm_H} {Q : Option Value → mm_H → Prop} {o : Nat} {n : Int64} {kk : Int32} {m : Int64} (k : Q (some (.long (far_r n kk m))) h) : mm_s SL xs (d + 2) 134 [.ref o, .long n, .int kk, .long m] h Q := by
  unfold far_r at k
  refine e_X10_far rfl ?_
  refine sp_lload_n 1 rfl rfl rfl ?_
  refine sp_iload_n 2 rfl rfl rfl ?_
  refine sc_S 5 rfl rfl rfl rfl (Nat.le_refl _) (Nat.le_refl _) rfl ?_
  refine cx_X10_isLarge ?_
  refine sp_if_eq 8 rfl rfl (fun q => ?_) (fun q => ?_)
  · rw [if_pos q] at k
    refine sp_ldc2 25 rfl rfl ?_
    exact st_lret rfl rfl (Nat.le_refl _) (Nat.le_refl _) k
  · rw [if_neg q] at k
    refine sp_lload 10 rfl rfl rfl ?_
    refine sp_lconst 11 rfl rfl ?_
    refine sp_lcmp 12 rfl rfl ?_
    refine sp_if_lt 15 rfl rfl (fun q2 => ?_) (fun q2 => ?_)
    · rw [if_pos (show lg_cmp m (Int64.ofNat 1) < 0 from q2)] at k
      refine sp_ldc2 25 rfl rfl ?_
      exact st_lret rfl rfl (Nat.le_refl _) (Nat.le_refl _) k
    · rw [if_neg (show ¬ lg_cmp m (Int64.ofNat 1) < 0 from q2)] at k
      refine sp_lload 17 rfl rfl rfl ?_
      refine sp_lload_n 18 rfl rfl rfl ?_
      refine sp_lcmp 19 rfl rfl ?_
      refine sp_if_le 22 rfl rfl (fun q3 => ?_) (fun q3 => ?_)
      · rw [if_pos q3] at k
        obtain ⟨a, b, c, rfl, rfl, rfl, ha, hb, hb2, hc, hca⟩ := fr_args q q2 q3
        rw [lN_nat (by omega), nI_nat (by omega), lN_nat (by omega)] at k
        refine sp_lload_n 27 rfl rfl rfl ?_
        refine sp_iload_n 28 rfl rfl rfl ?_
        refine sp_lload 30 rfl rfl rfl ?_
        refine sc_S 33 rfl rfl rfl rfl (Nat.le_refl _) (Nat.le_refl _) rfl ?_
        refine c_X4_farGoer ha hb hb2 hc hca ?_
        exact st_lret rfl rfl (Nat.le_refl _) (Nat.le_refl _) k
      · rw [if_neg q3] at k
        refine sp_ldc2 25 rfl rfl ?_
        exact st_lret rfl rfl (Nat.le_refl _) (Nat.le_refl _) k
theorem c_X11_far {SL : Nat} {xs : Nat → Int32} {d : Nat} {h : mm_H} {Q : Option Value → mm_H → Prop} {o : Nat} {n : Int64} {kk : Int32} {m : Int64} (k : Q (some (.long (far_r n kk m))) h) : mm_s SL xs (d + 2) 235 [.ref o, .long n, .int kk, .long m] h Q := by
  unfold far_r at k
  refine e_X11_far rfl ?_
  refine sp_lload_n 1 rfl rfl rfl ?_
  refine sp_iload_n 2 rfl rfl rfl ?_
  refine sc_S 5 rfl rfl rfl rfl (Nat.le_refl _) (Nat.le_refl _) rfl ?_
  refine cx_X11_isPlain ?_
  refine sp_if_eq 8 rfl rfl (fun q => ?_) (fun q => ?_)
  · rw [if_pos (show sx_X10_isLarge n kk = 0 from q)] at k
    refine sp_ldc2 35 rfl rfl ?_
    exact st_lret rfl rfl (Nat.le_refl _) (Nat.le_refl _) k
  · have q : ¬ sx_X10_isLarge n kk = 0 := q
    rw [if_neg q] at k
    refine sp_lload 10 rfl rfl rfl ?_
    refine sp_lconst 11 rfl rfl ?_
    refine sp_lcmp 12 rfl rfl ?_
    refine sp_if_lt 15 rfl rfl (fun q2 => ?_) (fun q2 => ?_)
    · rw [if_pos (show lg_cmp m (Int64.ofNat 1) < 0 from q2)] at k
      refine sp_ldc2 35 rfl rfl ?_
      exact st_lret rfl rfl (Nat.le_refl _) (Nat.le_refl _) k
    · rw [if_neg (show ¬ lg_cmp m (Int64.ofNat 1) < 0 from q2)] at k
      refine sp_lload 17 rfl rfl rfl ?_
      refine sp_lload_n 18 rfl rfl rfl ?_
      refine sp_lcmp 19 rfl rfl ?_
      refine sp_if_gt 22 rfl rfl (fun q3 => ?_) (fun q3 => ?_)
      · rw [if_neg (Int32.not_le.mpr q3)] at k
        refine sp_ldc2 35 rfl rfl ?_
        exact st_lret rfl rfl (Nat.le_refl _) (Nat.le_refl _) k
      · have q3 : lg_cmp m n ≤ 0 := Int32.not_lt.mp q3
        rw [if_pos q3] at k
        obtain ⟨a, b, c, rfl, rfl, rfl, ha, hb, hb2, hc, hca⟩ := fr_args q q2 q3
        rw [lN_nat (by omega), nI_nat (by omega), lN_nat (by omega)] at k
        refine sp_lload_n 23 rfl rfl rfl ?_
        refine sp_iload_n 24 rfl rfl rfl ?_
        refine sp_lload 26 rfl rfl rfl ?_
        refine sc_S 29 rfl rfl rfl rfl (Nat.le_refl _) (Nat.le_refl _) rfl ?_
        refine c_X11_farOf ha hb (by omega) hc hca ?_
        refine sp_goto rfl ?_
        exact st_lret rfl rfl (Nat.le_refl _) (Nat.le_refl _) k
