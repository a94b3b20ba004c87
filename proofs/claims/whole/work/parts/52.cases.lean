/-! images -/
theorem rbox {p s q b : Nat} (hb : b < 3) : ly_R p s q 19 b = some (53 + 4 * b) := by
  match b, hb with
  | 0, _ => rfl
  | 1, _ => rfl
  | 2, _ => rfl
theorem isC_b {b : Nat} (hb : b < 3) : isC (53 + 4 * b) := by unfold isC; omega
theorem bx_z {a : Int32} : (sx_X11_isBox a = Int32.ofInt 0) = ¬ ∃ b : Nat, b < 3 ∧ a = Int32.ofInt (b : Nat) := by
  obtain ⟨z, z1, z2, rfl⟩ := z_of a
  have key : (∃ b : Nat, b < 3 ∧ Int32.ofInt z = Int32.ofInt (b : Nat)) ↔ (0 ≤ z ∧ z < 3) := ⟨fun ⟨t, t1, t2⟩ => by rw [z_eq (by omega)] at t2; omega, fun h => ⟨z.toNat, by omega, by congr 1; omega⟩⟩
  rw [key]
  unfold sx_X11_isBox
  rw [z_0]
  by_cases a : z < 0
  · rw [if_pos (by rw [z_lt (by omega)]; exact a)]; exact propext ⟨fun _ => by omega, fun _ => rfl⟩
  · rw [if_neg (by rw [z_lt (by omega)]; exact a)]
    by_cases b : 3 ≤ z
    · rw [if_pos (by rw [z_le (by omega)]; exact b)]; exact propext ⟨fun _ => by omega, fun _ => rfl⟩
    · rw [if_neg (by rw [z_le (by omega)]; exact b)]; exact propext ⟨fun h => absurd h (by decide), fun h => absurd (by omega) h⟩
theorem RX_bx {p s q : Nat} {P : plT} {bg : Nat} {x : trT} {I I2 : Nat → Nat → Int32} {J J2 : Nat → Nat → Int64} (hR : RX p s q P bg x I J) (fr : ∀ r, ¬ (53 ≤ r ∧ r ≤ 64) → ¬ (107 ≤ r ∧ r ≤ 113) → I2 r = I r) (fj : ∀ r, ¬ (53 ≤ r ∧ r ≤ 64) → J2 r = J r) (hb : ∀ b, b < 3 → v_box P bg b I2 J2) : RX p s q P bg x I2 J2 := by
  have hpp := (RX_p hR).1
  obtain ⟨g1, g2, g3, g4, g5, g6, g7, g8, g9, g10, g11, g12, g13, g14⟩ := hR
  refine ⟨g1, g2, ?_, ?_, ?_, ?_, ?_, ?_, ?_, ?_, g11, g12, TR_c (fun r a b => fr r (by omega) (by omega)) (fj 15 (by omega)) g13, hb⟩
  · rw [fr 4 (by omega) (by omega), fr 5 (by omega) (by omega), fr 65 (by omega) (by omega), fr 66 (by omega) (by omega)]; exact g3
  · rw [fr 3 (by omega) (by omega), fr 65 (by omega) (by omega)]; exact g4
  · rw [fr 3 (by omega) (by omega), fr 65 (by omega) (by omega)]; exact g5
  · rw [fr 29 (by omega) (by omega), fr 65 (by omega) (by omega), fr 30 (by omega) (by omega), fr 97 (by omega) (by omega)]; exact g6
  · rw [fr 2 (by omega) (by omega), fr 65 (by omega) (by omega)]; exact g7
  · rw [fr 33 (by omega) (by omega), fr 65 (by omega) (by omega), fr 34 (by omega) (by omega), fr 35 (by omega) (by omega), fj 36 (by omega), fr 100 (by omega) (by omega), fr 101 (by omega) (by omega), fr 102 (by omega) (by omega), fr 103 (by omega) (by omega), fr 104 (by omega) (by omega)]; exact g8
  · rw [fj 6 (by omega)]; exact g9
  · obtain ⟨q1, q2, q3, q4, q5, q6, q7, q8, q9⟩ := g10
    refine ⟨q1, PA_c (fr p (by omega) (by omega)) (fr (p + 5) (by omega) (by omega)) (fj p (by omega)) q2, MP_c (fun r hr => fr r (by omega) (by omega)) (fun k hk => by rw [fr 65 (by omega) (by omega)]) q3, q4, ?_, ?_, ?_, ?_, ?_⟩
    · rw [fr p (by omega) (by omega)]; exact q5
    · rw [fr 65 (by omega) (by omega)]; exact q6
    · rw [fr p (by omega) (by omega), fr 65 (by omega) (by omega)]; exact q7
    · rw [fr p (by omega) (by omega), fr 65 (by omega) (by omega), fr (p + 2) (by omega) (by omega), fr 82 (by omega) (by omega)]; exact q8
    · rw [fr p (by omega) (by omega), fr 65 (by omega) (by omega), fr (p + 3) (by omega) (by omega), fr (p + 4) (by omega) (by omega), fr 83 (by omega) (by omega), fr 84 (by omega) (by omega)]; exact q9
section
variable {SL : Nat} {xs : Nat → Int32} {d : Nat} {p s q : Nat} {Q : Option Value → mm_H → Prop} {I : Nat → Nat → Int32} {J : Nat → Nat → Int64}
theorem c_boxAt {a : Int32} (k1 : ∀ b : Nat, b < 3 → a = Int32.ofInt (b : Nat) → Q (some (.ref (53 + 4 * b))) (hp p s q I J)) (k0 : (¬ ∃ b : Nat, b < 3 ∧ a = Int32.ofInt (b : Nat)) → Q (some .null) (hp p s q I J)) : mm_s SL xs (d + 1) 155 [.ref 2, .int a] (hp p s q I J) Q := by
  obtain ⟨z, z1, z2, rfl⟩ := z_of a
  have key : (∃ b : Nat, b < 3 ∧ Int32.ofInt z = Int32.ofInt (b : Nat)) ↔ (0 ≤ z ∧ z < 3) := ⟨fun ⟨t, t1, t2⟩ => by rw [z_eq (by omega)] at t2; omega, fun h => ⟨z.toNat, by omega, by congr 1; omega⟩⟩
  rw [key] at k0
  refine e_X10_boxAt rfl ?_
  refine hs_L (L2 := [some (.ref 2), some (.int (Int32.ofInt z))]) rfl ?_
  refine sp_iload_n 1 rfl rfl rfl ?_
  refine sp_if_lt 4 rfl rfl (fun h => ?_) (fun h => ?_)
  · rw [z_0, z_lt (by omega)] at h
    refine sp_null 19 rfl rfl ?_
    exact st_aretN rfl rfl (Nat.le_refl _) (Nat.le_refl _) (k0 (by omega))
  · rw [z_0, z_lt (by omega)] at h
    refine sp_iload_n 5 rfl rfl rfl ?_
    refine sp_iconst 6 rfl rfl ?_
    refine sp_ic_ge 9 rfl rfl (fun h2 => ?_) (fun h2 => ?_)
    · rw [z_le (by omega)] at h2
      refine sp_null 19 rfl rfl ?_
      exact st_aretN rfl rfl (Nat.le_refl _) (Nat.le_refl _) (k0 (by omega))
    · rw [z_le (by omega)] at h2
      obtain ⟨b, rfl⟩ : ∃ b : Nat, z = (b : Int) := ⟨z.toNat, by omega⟩
      refine sp_aload_n 10 rfl rfl rfl ?_
      refine hq_getR 13 rfl rfl rfl rfl ?_
      refine sp_iload_n 14 rfl rfl rfl ?_
      refine hq_aald 15 (r := 53 + 4 * b) rfl rfl (z_inN (by omega) (by omega)) (by rw [z_ixN (by omega)]; exact rbox (by omega)) rfl ?_
      refine sp_goto rfl ?_
      exact st_aret rfl rfl (Nat.le_refl _) (Nat.le_refl _) (k1 b (by omega) rfl)
theorem image_m {P : plT} {x : trT} {b : Nat} (hb : b < 3) : ∀ (f j : Nat) (I : Nat → Nat → Int32), j + f = 60 → MT P x I → (∀ i, i < j → I 108 (60 * b + i) = I 91 i ∧ I 110 (60 * b + i) = I 87 i ∧ I 111 (60 * b + i) = I 88 i ∧ I 112 (60 * b + i) = I 89 i) → (∀ I2 : Nat → Nat → Int32, (∀ r, r < 108 ∨ 113 < r → I2 r = I r) → (∀ i, i < 60 * b ∨ 60 * b + 60 ≤ i → I2 108 i = I 108 i ∧ I2 110 i = I 110 i ∧ I2 111 i = I 111 i ∧ I2 112 i = I 112 i) → (∀ i, i < 6 * b ∨ 6 * b + 6 ≤ i → I2 113 i = I 113 i) → (∀ i, i ≠ b → I2 109 i = I 109 i) → BX P b x I2 → Q (some (.int (Int32.ofInt (c_g x.1 : Nat)))) (hp p s q I2 J)) → w_X11_image_18 SL xs d p s q Q (Int32.ofInt (b : Nat)) (Int32.ofInt (j : Nat)) I J
  | 0, j, I, hf, ht, hj, kq => by
    obtain rfl : j = 60 := by omega
    obtain ⟨⟨r1, r2, r3, r4, r5, r6, r7, r8, r9⟩, hW, l1, l2, l3⟩ := ht
    have e0 : Int32.ofInt 6 * Int32.ofInt (b : Nat) = Int32.ofInt ((6 * b : Nat) : Int) := by rw [z_mul]; rfl
    have e1 : ∀ c : Nat, Int32.ofInt ((6 * b : Nat) : Int) + Int32.ofInt ((c : Nat) : Int) = Int32.ofInt ((6 * b + c : Nat) : Int) := fun c => by rw [z_add]; rfl
    have z0 : (Int32.ofInt 0).toNatClampNeg = 0 := z_ixN (t := 0) (by omega)
    have z1 : (Int32.ofInt 1).toNatClampNeg = 1 := z_ixN (t := 1) (by omega)
    refine sg_X11_image_18 ⟨fun _ => ?_, fun h => ?_⟩
    · rw [e0, show Int32.ofInt ((6 * b : Nat) : Int) + Int32.ofInt 1 = _ from e1 1, show Int32.ofInt ((6 * b : Nat) : Int) + Int32.ofInt 2 = _ from e1 2, show Int32.ofInt ((6 * b : Nat) : Int) + Int32.ofInt 3 = _ from e1 3, show Int32.ofInt ((6 * b : Nat) : Int) + Int32.ofInt 4 = _ from e1 4, show Int32.ofInt ((6 * b : Nat) : Int) + Int32.ofInt 5 = _ from e1 5, z0, z1, z_ixN (t := 6 * b) (by omega), z_ixN (t := 6 * b + 1) (by omega), z_ixN (t := 6 * b + 2) (by omega), z_ixN (t := 6 * b + 3) (by omega), z_ixN (t := 6 * b + 4) (by omega), z_ixN (t := 6 * b + 5) (by omega), z_ixN (t := b) (by omega)]
      refine ⟨z_inN (by omega) (by omega), z_inN (by omega) (by omega), z_inN (by omega) (by omega), z_inN (by omega) (by omega), z_inN (t := 0) (by omega) (by omega), z_inN (by omega) (by omega), z_inN (t := 1) (by omega) (by omega), z_inN (by omega) (by omega), z_inN (by omega) (by omega), by rw [r7]; exact zB_z _, ?_⟩
      rw [r4]
      refine kq _ (fun r hr => ?_) (fun i hi => ⟨?_, ?_, ?_, ?_⟩) (fun i hi => ?_) (fun i hi => ?_) ⟨fun i hi => ⟨?_, ?_, ?_⟩, fun i hi => ?_, ?_, ?_, ?_, ?_, ?_, ?_, ?_⟩
      · rw [mu_row (by omega), mu_row (by omega), mu_row (by omega), mu_row (by omega), mu_row (by omega), mu_row (by omega), mu_row (by omega)]
      · rw [mu_row (by omega), mu_row (by omega), mu_row (by omega), mu_row (by omega), mu_row (by omega), mu_row (by omega), mu_row (by omega)]
      · rw [mu_row (by omega), mu_row (by omega), mu_row (by omega), mu_row (by omega), mu_row (by omega), mu_row (by omega), mu_row (by omega)]
      · rw [mu_row (by omega), mu_row (by omega), mu_row (by omega), mu_row (by omega), mu_row (by omega), mu_row (by omega), mu_row (by omega)]
      · rw [mu_row (by omega), mu_row (by omega), mu_row (by omega), mu_row (by omega), mu_row (by omega), mu_row (by omega), mu_row (by omega)]
      · rw [mu_row (by omega), mu_ne (by omega), mu_ne (by omega), mu_ne (by omega), mu_ne (by omega), mu_ne (by omega), mu_ne (by omega)]
      · rw [mu_ne hi, mu_row (by omega), mu_row (by omega), mu_row (by omega), mu_row (by omega), mu_row (by omega), mu_row (by omega)]
      · rw [mu_row (by omega), mu_row (by omega), mu_row (by omega), mu_row (by omega), mu_row (by omega), mu_row (by omega), mu_row (by omega), (hj i hi).1]; exact r1 i hi
      · rw [mu_row (by omega), mu_row (by omega), mu_row (by omega), mu_row (by omega), mu_row (by omega), mu_row (by omega), mu_row (by omega), (hj i hi).2.1]; exact r2 i hi
      · rw [mu_row (by omega), mu_row (by omega), mu_row (by omega), mu_row (by omega), mu_row (by omega), mu_row (by omega), mu_row (by omega), (hj i hi).2.2.1]; exact hW i hi
      · rw [mu_row (by omega), mu_row (by omega), mu_row (by omega), mu_row (by omega), mu_row (by omega), mu_row (by omega), mu_row (by omega), (hj i (by omega)).2.2.2]; exact l3 i hi
      · rw [mu_row (by omega), mu_ne (by omega), mu_ne (by omega), mu_ne (by omega), mu_ne (by omega), mu_ne (by omega), mu_at]; exact r3
      · rw [mu_row (by omega), mu_ne (by omega), mu_ne (by omega), mu_ne (by omega), mu_ne (by omega), mu_at]
      · rw [mu_row (by omega), mu_ne (by omega), mu_ne (by omega), mu_ne (by omega), mu_at]; exact l2
      · rw [mu_row (by omega), mu_ne (by omega), mu_ne (by omega), mu_at]; exact r5
      · rw [mu_row (by omega), mu_ne (by omega), mu_at]; exact r8
      · rw [mu_row (by omega), mu_at]; exact r9
      · rw [mu_at]; exact r7
    · rw [z_le (by omega)] at h; omega
  | f + 1, j, I, hf, ht, hj, kq => by
    have e0 : Int32.ofInt 60 * Int32.ofInt (b : Nat) + Int32.ofInt (j : Nat) = Int32.ofInt ((60 * b + j : Nat) : Int) := by rw [z_mul, z_add]; rfl
    refine sg_X11_image_18 ⟨fun h => ?_, fun _ => ⟨z_inN (by omega) (by omega), ?_, ?_, ?_⟩⟩
    · rw [z_le (by omega)] at h; omega
    · rw [e0]; exact z_inN (by omega) (by omega)
    · rw [z_ixN (by omega), ht.1.1 j (by omega)]; exact zB_z _
    · rw [e0, z_ixN (t := j) (by omega), z_ixN (t := 60 * b + j) (by omega), z_p1]
      refine image_m hb f (j + 1) _ (by omega) (MT_c (I := I) (fun r a c => ?_) (fun k a c => ?_) ht) (fun i hi => ?_) (fun I2 g1 g2 g3 g4 g5 => kq I2 (fun r hr => ?_) (fun i hi => ?_) (fun i hi => ?_) (fun i hi => ?_) g5)
      · rw [mu_row (by omega), mu_row (by omega), mu_row (by omega), mu_row (by omega)]
      · rw [mu_row (by omega), mu_row (by omega), mu_row (by omega), mu_row (by omega)]
      · rw [mu_row (i := 91) (by omega), mu_row (i := 91) (by omega), mu_row (i := 91) (by omega), mu_row (i := 91) (by omega), mu_row (i := 87) (by omega), mu_row (i := 87) (by omega), mu_row (i := 87) (by omega), mu_row (i := 87) (by omega), mu_row (i := 88) (by omega), mu_row (i := 88) (by omega), mu_row (i := 88) (by omega), mu_row (i := 88) (by omega), mu_row (i := 89) (by omega), mu_row (i := 89) (by omega), mu_row (i := 89) (by omega), mu_row (i := 89) (by omega), mu_row (i := 108) (by omega), mu_row (i := 108) (by omega), mu_row (i := 108) (by omega), mu_if, mu_row (i := 110) (by omega), mu_row (i := 110) (by omega), mu_if, mu_row (i := 110) (by omega), mu_row (i := 111) (by omega), mu_if, mu_row (i := 111) (by omega), mu_row (i := 111) (by omega), mu_if, mu_row (i := 112) (by omega), mu_row (i := 112) (by omega), mu_row (i := 112) (by omega)]
        by_cases e : i = j
        · rw [if_pos (by omega), if_pos (by omega), if_pos (by omega), if_pos (by omega), e]; exact ⟨rfl, rfl, rfl, rfl⟩
        · rw [if_neg (by omega), if_neg (by omega), if_neg (by omega), if_neg (by omega)]; exact hj i (by omega)
      · rw [g1 r hr, mu_row (by omega), mu_row (by omega), mu_row (by omega), mu_row (by omega)]
      · obtain ⟨a1, a2, a3, a4⟩ := g2 i hi
        rw [a1, a2, a3, a4]
        refine ⟨?_, ?_, ?_, ?_⟩
        · rw [mu_row (by omega), mu_row (by omega), mu_row (by omega), mu_ne (by omega)]
        · rw [mu_row (by omega), mu_row (by omega), mu_ne (by omega), mu_row (by omega)]
        · rw [mu_row (by omega), mu_ne (by omega), mu_row (by omega), mu_row (by omega)]
        · rw [mu_ne (by omega), mu_row (by omega), mu_row (by omega), mu_row (by omega)]
      · rw [g3 i hi, mu_row (by omega), mu_row (by omega), mu_row (by omega), mu_row (by omega)]
      · rw [g4 i hi, mu_row (by omega), mu_row (by omega), mu_row (by omega), mu_row (by omega)]
theorem back_m {P : plT} {y : trT} {b cb : Nat} (hb : b < 3) (hl : y.2.2.1 ≤ 60) (hcb : cb = c_b y.1) : ∀ (f j : Nat) (I : Nat → Nat → Int32), j + f = 60 → BX P b y I → I 65 63 = Int32.ofInt (cb : Nat) → (∀ i, i < j → I 108 (60 * b + i) = I 91 i ∧ I 110 (60 * b + i) = I 87 i ∧ I 111 (60 * b + i) = I 88 i ∧ I 112 (60 * b + i) = I 89 i) → (∀ I2 : Nat → Nat → Int32, (∀ r, r ≠ 65 → (r < 87 ∨ 91 < r) → I2 r = I r) → (∀ k, k < 59 ∨ k = 63 ∨ 64 < k → I2 65 k = I 65 k) → MT P y I2 → Q (some (.int (Int32.ofInt (c_g y.1 : Nat)))) (hp p s q I2 J)) → w_X11_back_20 SL xs d p s q Q (Int32.ofInt (b : Nat)) (Int32.ofInt (j : Nat)) I J
  | 0, j, I, hf, ht, h63, hj, kq => by
    obtain rfl : j = 60 := by omega
    obtain ⟨r1, r2, r3, r4, r5, r6, r7, r8, r9⟩ := ht
    have e0 : Int32.ofInt 6 * Int32.ofInt (b : Nat) = Int32.ofInt ((6 * b : Nat) : Int) := by rw [z_mul]; rfl
    have e1 : ∀ c : Nat, Int32.ofInt ((6 * b : Nat) : Int) + Int32.ofInt ((c : Nat) : Int) = Int32.ofInt ((6 * b + c : Nat) : Int) := fun c => by rw [z_add]; rfl
    have z0 : (Int32.ofInt 0).toNatClampNeg = 0 := z_ixN (t := 0) (by omega)
    have z1 : (Int32.ofInt 1).toNatClampNeg = 1 := z_ixN (t := 1) (by omega)
    refine sg_X11_back_20 ⟨fun _ => ?_, fun h => ?_⟩
    · rw [e0, show Int32.ofInt ((6 * b : Nat) : Int) + Int32.ofInt 1 = _ from e1 1, show Int32.ofInt ((6 * b : Nat) : Int) + Int32.ofInt 2 = _ from e1 2, show Int32.ofInt ((6 * b : Nat) : Int) + Int32.ofInt 3 = _ from e1 3, show Int32.ofInt ((6 * b : Nat) : Int) + Int32.ofInt 4 = _ from e1 4, show Int32.ofInt ((6 * b : Nat) : Int) + Int32.ofInt 5 = _ from e1 5, z0, z1, z_ixN (t := 6 * b) (by omega), z_ixN (t := 6 * b + 1) (by omega), z_ixN (t := 6 * b + 2) (by omega), z_ixN (t := 6 * b + 3) (by omega), z_ixN (t := 6 * b + 4) (by omega), z_ixN (t := 6 * b + 5) (by omega), z_ixN (t := b) (by omega)]
      refine ⟨z_inN (by omega) (by omega), z_inN (by omega) (by omega), z_inN (by omega) (by omega), z_inN (by omega) (by omega), z_inN (by omega) (by omega), z_inN (t := 0) (by omega) (by omega), z_inN (by omega) (by omega), z_inN (t := 1) (by omega) (by omega), z_inN (by omega) (by omega), by rw [r9]; exact zB_z _, ?_⟩
      rw [r3, r4, r5, r6, r7, r8, r9]
      refine kq _ (fun r a c => ?_) (fun k hk => ?_) ⟨⟨fun i hi => ?_, fun i hi => ?_, ?_, ?_, ?_, ?_, ?_, ?_, ?_⟩, fun i hi => ?_, hl, ?_, fun i hi => ?_⟩
      · rw [mu_row a, mu_row (by omega), mu_row (by omega), mu_row a, mu_row a, mu_row a, mu_row a]
      · rw [mu_ne (by omega), mu_row (by omega), mu_row (by omega), mu_ne (by omega), mu_ne (by omega), mu_ne (by omega), mu_ne (by omega)]
      · exact (hj i hi).1.symm.trans (r1 i hi).1
      · exact (hj i hi).2.1.symm.trans (r1 i hi).2.1
      · rfl
      · rfl
      · rfl
      · rw [← hcb]; exact h63
      · rfl
      · rfl
      · rfl
      · exact (hj i hi).2.2.1.symm.trans (r1 i hi).2.2
      · rfl
      · exact (hj i (by omega)).2.2.2.symm.trans (r2 i hi)
    · rw [z_le (by omega)] at h; omega
  | f + 1, j, I, hf, ht, h63, hj, kq => by
    have e0 : Int32.ofInt 60 * Int32.ofInt (b : Nat) + Int32.ofInt (j : Nat) = Int32.ofInt ((60 * b + j : Nat) : Int) := by rw [z_mul, z_add]; rfl
    refine sg_X11_back_20 ⟨fun h => ?_, fun _ => ⟨?_, z_inN (by omega) (by omega), ?_, ?_⟩⟩
    · rw [z_le (by omega)] at h; omega
    · rw [e0]; exact z_inN (by omega) (by omega)
    · rw [e0, z_ixN (by omega), (ht.1 j (by omega)).1]; exact zB_z _
    · rw [e0, z_ixN (t := j) (by omega), z_ixN (t := 60 * b + j) (by omega), z_p1]
      have hr : ∀ r, r < 87 ∨ 91 < r → (mm_u (mm_u (mm_u (mm_u I 91 j (I 108 (60 * b + j))) 87 j (I 110 (60 * b + j))) 88 j (I 111 (60 * b + j))) 89 j (I 112 (60 * b + j))) r = I r := fun r hr => by rw [mu_row (by omega), mu_row (by omega), mu_row (by omega), mu_row (by omega)]
      refine back_m hb hl hcb f (j + 1) _ (by omega) ?_ (by rw [hr 65 (by omega)]; exact h63) (fun i hi => ?_) (fun I2 g1 g2 g3 => kq I2 (fun r a c => by rw [g1 r a c, hr r c]) (fun k hk => by rw [g2 k hk, hr 65 (by omega)]) g3)
      · unfold BX at ht ⊢
        rw [hr 108 (by omega), hr 109 (by omega), hr 110 (by omega), hr 111 (by omega), hr 112 (by omega), hr 113 (by omega)]; exact ht
      · rw [hr 108 (by omega), hr 110 (by omega), hr 111 (by omega), hr 112 (by omega), mu_row (i := 91) (by omega), mu_row (i := 91) (by omega), mu_row (i := 91) (by omega), mu_if, mu_row (i := 87) (by omega), mu_row (i := 87) (by omega), mu_if, mu_row (i := 87) (by omega), mu_row (i := 88) (by omega), mu_if, mu_row (i := 88) (by omega), mu_row (i := 88) (by omega), mu_if, mu_row (i := 89) (by omega), mu_row (i := 89) (by omega), mu_row (i := 89) (by omega)]
        by_cases e : i = j
        · rw [if_pos e, if_pos e, if_pos e, if_pos e, e]; exact ⟨rfl, rfl, rfl, rfl⟩
        · rw [if_neg e, if_neg e, if_neg e, if_neg e]; exact hj i (by omega)
end
theorem BX_c {P : plT} {b : Nat} {x : trT} {I I2 : Nat → Nat → Int32} (hb : b < 3) (h0 : x.2.2.1 ≤ 60) (h1 : ∀ i, 60 * b ≤ i → i < 60 * b + 60 → I2 108 i = I 108 i ∧ I2 110 i = I 110 i ∧ I2 111 i = I 111 i ∧ I2 112 i = I 112 i) (h2 : ∀ i, 6 * b ≤ i → i < 6 * b + 6 → I2 113 i = I 113 i) (h3 : I2 109 b = I 109 b) (t : BX P b x I) : BX P b x I2 := by
  obtain ⟨r1, r2, r3, r4, r5, r6, r7, r8, r9⟩ := t
  refine ⟨fun i hi => ?_, fun i hi => ?_, ?_, ?_, ?_, ?_, ?_, ?_, ?_⟩
  · obtain ⟨a1, a2, a3, a4⟩ := h1 (60 * b + i) (by omega) (by omega)
    rw [a1, a2, a3]; exact r1 i hi
  · obtain ⟨a1, a2, a3, a4⟩ := h1 (60 * b + i) (by omega) (by omega)
    rw [a4]; exact r2 i hi
  · rw [h2 _ (by omega) (by omega)]; exact r3
  · rw [h2 _ (by omega) (by omega)]; exact r4
  · rw [h2 _ (by omega) (by omega)]; exact r5
  · rw [h2 _ (by omega) (by omega)]; exact r6
  · rw [h2 _ (by omega) (by omega)]; exact r7
  · rw [h2 _ (by omega) (by omega)]; exact r8
  · rw [h3]; exact r9
theorem RX_b {p s q : Nat} {P : plT} {bg : Nat} {x : trT} {I : Nat → Nat → Int32} {J : Nat → Nat → Int64} (h : RX p s q P bg x I J) : ∀ b, b < 3 → v_box P bg b I J := h.2.2.2.2.2.2.2.2.2.2.2.2.2
theorem TR_0 {o : Nat} {x : trT} {I I2 : Nat → Nat → Int32} {J J2 : Nat → Nat → Int64} (h : ∀ r, o < r → r ≤ o + 3 → I2 r = I r) (h0 : ∀ i, i ≠ 0 → I2 o i = I o i) (hj : J2 o = J o) (t : TR o x I J) : TR o x I2 J2 := by
  unfold TR CR CW CL at t ⊢
  rw [h0 2 (by omega), h0 3 (by omega), h0 4 (by omega), h0 9 (by omega), h0 10 (by omega), h0 5 (by omega), h (o + 1) (by omega) (by omega), h (o + 2) (by omega) (by omega), h (o + 3) (by omega) (by omega), hj]; exact t
theorem ca_image {SL : Nat} {xs : Nat → Int32} {d : Nat} {h : mm_H} {Q : Option Value → mm_H → Prop} {a0 : Int32} (hd : 150 ≤ d) (hiv : iv h) (k : ∀ (r : Int32) (h1 : mm_H), h1.2.1 65 = .inr 9 → (∀ Q2 : Option Value → mm_H → Prop, (∀ h2, iv h2 → Q2 (some (.int r)) h2) → mm_s SL xs d 271 [.ref 65, .int a0] h1 Q2) → Q (some (.int r)) h1) : mm_s SL xs d 152 [.ref 2, .int a0] h Q := by
  obtain ⟨e, rfl⟩ : ∃ e, d = e + 20 := ⟨d - 20, by omega⟩
  obtain ⟨_, _, p, s, q, I, J, rfl, P, bg, x, hR, hM⟩ := hiv
  have hS : QS p s q P bg x I J := ⟨hR, hM⟩
  refine e_X10_image rfl ?_
  refine hs_L (L2 := [some (.ref 2), some (.int a0), none]) rfl ?_
  refine sp_aload_n 1 rfl rfl rfl ?_
  refine sp_iload_n 2 rfl rfl rfl ?_
  refine sc_V 5 rfl rfl rfl rfl rfl (Nat.le_refl _) (Nat.le_refl _) rfl ?_
  refine c_boxAt (fun b hb hab => ?_) (fun hno => ?_)
  · subst hab
    have hm0 : ¬ (sx_X11_isBox (Int32.ofInt (b : Nat)) = Int32.ofInt 0) := by rw [bx_z]; exact fun z => z ⟨b, hb, rfl⟩
    refine hs_astore_n 6 (L2 := [some (.ref 2), some (.int (Int32.ofInt (b : Nat))), some (.ref (53 + 4 * b))]) rfl rfl rfl rfl ?_
    refine sp_aload_n 7 rfl rfl rfl ?_
    refine sp_ifnonnull rfl ?_
    refine sp_aload_n 13 rfl rfl rfl ?_
    refine sp_aload_n 14 rfl rfl rfl ?_
    refine hq_getR 17 rfl rfl rfl rfl ?_
    refine sc_V 20 rfl rfl (kC0 (isC_b hb)) rfl rfl (Nat.le_refl _) (Nat.le_refl _) rfl ?_
    refine c_copyFrom (isC_b hb) isC_15 (by omega) (fun I1 J1 f1 _ t1 => ?_)
    refine sp_aload_n 21 rfl rfl rfl ?_
    refine sp_iconst 22 rfl rfl ?_
    refine hq_putZ 25 rfl (kC0 (isC_b hb)) (Or.inr rfl) rfl ?_
    refine sp_aload_n 26 rfl rfl rfl ?_
    refine hq_getR 29 rfl rfl rfl rfl ?_
    refine hq_getI 32 rfl rfl rfl ?_
    refine st_iret rfl rfl (Nat.le_refl _) (Nat.le_refl _) ?_
    have e15 : mm_u I1 (53 + 4 * b) 0 (Int32.ofInt 1) 15 2 = Int32.ofInt (c_g x.1 : Nat) := by rw [mu_row (by omega), f1.1 15 (by omega)]; exact (RX_tr hR).1.2.2.1
    show Q (some (.int (mm_u I1 (53 + 4 * b) 0 (Int32.ofInt 1) 15 2))) _
    rw [e15]
    refine k _ _ rfl (fun Q2 k2 => sg_X11_image ⟨fun z => absurd z hm0, fun _ => ⟨z_inN (by omega) (by omega), ?_⟩⟩)
    rw [z_ixN (by omega)]
    have rr : ∀ r, r < 53 + 4 * b ∨ 53 + 4 * b + 3 < r → r ≠ 107 → mm_u (mm_u I1 (53 + 4 * b) 0 (Int32.ofInt 1)) 107 b (Int32.ofInt 1) r = I r := fun r hr h7 => by rw [mu_row h7, mu_row (by omega), f1.1 r hr]
    refine image_m (P := P) (x := x) hb 60 0 _ rfl (MT_c (I := I) (fun r a c => rr r (by omega) (by omega)) (fun k a c => by rw [rr 65 (by omega) (by omega)]) hM.1) (fun i hi => absurd hi (Nat.not_lt_zero i)) (fun I2 g1 g2 g3 g4 g5 => ?_)
    refine k2 _ (iv_mk ⟨P, bg, x, RX_bx hR (fun r a c => ?_) (fun r a => f1.2 r (by omega)) (fun b' hb' => ?_), MX_c (fun r hr => ?_) hM⟩)
    · rw [g1 r (by omega), rr r (by omega) (by omega)]
    · by_cases eb : b' = b
      · subst eb
        refine ⟨true, ?_, ?_, fun _ => ⟨x, RX_tw hR, RX_cb hR, TR_0 (fun r a c => ?_) (fun i hi => ?_) rfl (t1 x (RX_tr hR)), g5⟩⟩
        · rw [g1 _ (by omega), mu_row (by omega), mu_at]; rfl
        · rw [g1 107 (by omega), mu_at]; rfl
        · rw [g1 r (by omega), mu_row (by omega), mu_row (by omega)]
        · rw [g1 (53 + 4 * b') (by omega), mu_row (by omega), mu_ne hi]
      · obtain ⟨f, q1, q2, q3⟩ := RX_b hR b' hb'
        refine ⟨f, ?_, ?_, fun hf => ?_⟩
        · rw [g1 _ (by omega), rr _ (by omega) (by omega)]; exact q1
        · rw [g1 107 (by omega), mu_ne eb, mu_row (by omega), f1.1 107 (by omega)]; exact q2
        · obtain ⟨y, y1, y2, y3, y4⟩ := q3 hf
          refine ⟨y, y1, y2, TR_c (fun r a c => ?_) (f1.2 _ (by omega)) y3, BX_c hb' (by have := y1.2; omega) (fun i a c => ?_) (fun i a c => ?_) ?_ y4⟩
          · rw [g1 r (by omega), rr r (by omega) (by omega)]
          · obtain ⟨a1, a2, a3, a4⟩ := g2 i (by omega)
            rw [a1, a2, a3, a4, rr 108 (by omega) (by omega), rr 110 (by omega) (by omega), rr 111 (by omega) (by omega), rr 112 (by omega) (by omega)]; exact ⟨rfl, rfl, rfl, rfl⟩
          · rw [g3 i (by omega), rr 113 (by omega) (by omega)]
          · rw [g4 b' eb, rr 109 (by omega) (by omega)]
    · rw [g1 r (by omega), rr r (by omega) (by omega)]
  · have hm0 : sx_X11_isBox a0 = Int32.ofInt 0 := by rw [bx_z]; exact hno
    refine sp_astore_nN 6 rfl rfl rfl ?_
    refine sp_aload_nN 7 rfl rfl rfl ?_
    refine sp_ifnonnullN 10 rfl rfl ?_
    refine sp_iconst 11 rfl rfl ?_
    refine st_iret rfl rfl (Nat.le_refl _) (Nat.le_refl _) ?_
    exact k _ _ rfl (fun Q2 k2 => sg_X11_image ⟨fun _ => k2 _ (iv_mk ⟨P, bg, x, hR, hM⟩), fun z => absurd hm0 z⟩)
theorem ca_back {SL : Nat} {xs : Nat → Int32} {d : Nat} {h : mm_H} {Q : Option Value → mm_H → Prop} {a0 : Int32} (hd : 150 ≤ d) (hiv : iv h) (k : ∀ (r : Int32) (h1 : mm_H), h1.2.1 65 = .inr 9 → (∀ Q2 : Option Value → mm_H → Prop, (∀ h2, iv h2 → Q2 (some (.int r)) h2) → mm_s SL xs d 272 [.ref 65, .int a0] h1 Q2) → Q (some (.int r)) h1) : mm_s SL xs d 153 [.ref 2, .int a0] h Q := by
  obtain ⟨e, rfl⟩ : ∃ e, d = e + 20 := ⟨d - 20, by omega⟩
  obtain ⟨_, _, p, s, q, I, J, rfl, P, bg, x, hR, hM⟩ := hiv
  refine e_X10_back rfl ?_
  refine hs_L (L2 := [some (.ref 2), some (.int a0), none]) rfl ?_
  refine sp_aload_n 1 rfl rfl rfl ?_
  refine sp_iload_n 2 rfl rfl rfl ?_
  refine sc_V 5 rfl rfl rfl rfl rfl (Nat.le_refl _) (Nat.le_refl _) rfl ?_
  refine c_boxAt (fun b hb hab => ?_) (fun hno => ?_)
  · subst hab
    have hm0 : ¬ (sx_X11_isBox (Int32.ofInt (b : Nat)) = Int32.ofInt 0) := by rw [bx_z]; exact fun z => z ⟨b, hb, rfl⟩
    obtain ⟨f, q1, q2, q3⟩ := RX_b hR b hb
    refine hs_astore_n 6 (L2 := [some (.ref 2), some (.int (Int32.ofInt (b : Nat))), some (.ref (53 + 4 * b))]) rfl rfl rfl rfl ?_
    refine sp_aload_n 7 rfl rfl rfl ?_
    refine sp_ifnull 10 rfl rfl ?_
    refine sp_aload_n 11 rfl rfl rfl ?_
    refine hq_getI 14 rfl (kC0 (isC_b hb)) rfl ?_
    refine sp_if_ne 17 rfl rfl (fun h => ?_) (fun h => ?_)
    · have hf : f = true := by
        cases f
        · exact absurd (q1.trans (by decide : zB false = (0 : Int32))) h
        · rfl
      obtain ⟨y, y1, y2, y3, y4⟩ := q3 hf
      refine sp_aload_n 20 rfl rfl rfl ?_
      refine hq_getR 23 rfl rfl rfl rfl ?_
      refine sp_aload_n 24 rfl rfl rfl ?_
      refine sc_V 27 rfl rfl rfl rfl rfl (Nat.le_refl _) (Nat.le_refl _) rfl ?_
      refine c_copyFrom isC_15 (isC_b hb) (by omega) (fun I1 J1 f1 _ t1 => ?_)
      refine sp_aload_n 28 rfl rfl rfl ?_
      refine hq_getR 31 rfl rfl rfl rfl ?_
      refine hq_getI 34 rfl rfl rfl ?_
      refine st_iret rfl rfl (Nat.le_refl _) (Nat.le_refl _) ?_
      have hy := t1 y y3
      have e15 : I1 15 2 = Int32.ofInt (c_g y.1 : Nat) := hy.1.2.2.1
      show Q (some (.int (I1 15 2))) _
      rw [e15]
      have rr : ∀ r, r < 15 ∨ 18 < r → I1 r = I r := fun r hr => f1.1 r (by omega)
      refine k _ _ rfl (fun Q2 k2 => sg_X11_back ⟨fun z => absurd z hm0, fun _ => ⟨z_inN (by omega) (by omega), fun z => ?_, fun _ => ?_⟩⟩)
      · rw [z_ixN (by omega), rr 107 (by omega), q2, hf] at z; exact absurd z (by decide)
      · refine back_m (P := P) (y := y) (cb := bg) hb (by have := y1.2; omega) y2.symm 60 0 _ rfl (BX_c (I := I) hb (by have := y1.2; omega) (fun i a c => by rw [rr 108 (by omega), rr 110 (by omega), rr 111 (by omega), rr 112 (by omega)]; exact ⟨rfl, rfl, rfl, rfl⟩) (fun i a c => by rw [rr 113 (by omega)]) (by rw [rr 109 (by omega)]) y4) (by rw [rr 65 (by omega), ← RX_cb hR]; exact hM.1.1.2.2.2.2.2.1) (fun i hi => absurd hi (Nat.not_lt_zero i)) (fun I2 g1 g2 g3 => ?_)
        refine k2 _ (iv_mk ⟨P, bg, y, RX_n hR (fun r a c => ?_) (fun k hk => ?_) ?_ (fun r a _ _ _ => f1.2 r a) y1 y2 (TR_c (fun r a c => ?_) rfl hy), g3, ?_, ?_, ?_⟩)
        · unfold scr at a
          rw [g1 r (by omega) (by omega), rr r (by omega)]
        · rw [g2 k (by omega), rr 65 (by omega)]
        · rw [g1 29 (by omega) (by omega), rr 29 (by omega)]
        · rw [g1 r (by omega) (by omega)]
        · rw [g2 76 (by omega), rr 65 (by omega)]; exact hM.2.1
        · rw [g2 77 (by omega), rr 65 (by omega)]; exact hM.2.2.1
        · rw [g2 78 (by omega), g2 49 (by omega), rr 65 (by omega)]; exact hM.2.2.2
    · have hf : f = false := by
        cases f
        · rfl
        · exact absurd (q1.symm.trans h) (by decide)
      refine sp_iconst 18 rfl rfl ?_
      refine st_iret rfl rfl (Nat.le_refl _) (Nat.le_refl _) ?_
      refine k _ _ rfl (fun Q2 k2 => sg_X11_back ⟨fun z => absurd z hm0, fun _ => ⟨z_inN (by omega) (by omega), fun _ => k2 _ (iv_mk ⟨P, bg, x, hR, hM⟩), fun z => ?_⟩⟩)
      rw [z_ixN (by omega), q2, hf] at z; exact absurd rfl z
  · have hm0 : sx_X11_isBox a0 = Int32.ofInt 0 := by rw [bx_z]; exact hno
    refine sp_astore_nN 6 rfl rfl rfl ?_
    refine sp_aload_nN 7 rfl rfl rfl ?_
    refine sp_ifnullN rfl ?_
    refine sp_iconst 18 rfl rfl ?_
    refine st_iret rfl rfl (Nat.le_refl _) (Nat.le_refl _) ?_
    exact k _ _ rfl (fun Q2 k2 => sg_X11_back ⟨fun _ => k2 _ (iv_mk ⟨P, bg, x, hR, hM⟩), fun z => absurd hm0 z⟩)
