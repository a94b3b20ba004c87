/-! the reference: kept, brought back, fresh, gone on with -/
def FrP (I I2 : Nat → Nat → Int32) : Prop := (∀ x, x ≠ 65 → (x < 92 ∨ 96 < x) → I2 x = I x) ∧ ∀ k, k < 70 ∨ 75 < k → I2 65 k = I 65 k
def FrB (I I2 : Nat → Nat → Int32) : Prop := (∀ x, x ≠ 65 → (x < 87 ∨ 91 < x) → I2 x = I x) ∧ ∀ k, k < 59 ∨ (64 < k ∧ k < 76) ∨ 78 < k → I2 65 k = I 65 k
def KT (P : plT) (x : trT) (I : Nat → Nat → Int32) : Prop := (∀ i, i < 60 → I 96 i = zB (c_S x.1 i)) ∧ (∀ i, i < 60 → I 92 i = Int32.ofInt (c_H x.1 i : Nat)) ∧ I 65 70 = Int32.ofInt (sta P x.1 : Nat) ∧ I 65 71 = Int32.ofInt (c_g x.1 : Nat) ∧ I 65 73 = Int32.ofInt (c_l x.1 : Nat) ∧ I 65 74 = Int32.ofInt (c_b x.1 : Nat) ∧ I 65 75 = zB (tur P x.1) ∧ I 95 0 = Int32.ofInt (c_f x.1) ∧ I 95 1 = Int32.ofInt (c_e x.1) ∧ (∀ i, i < 60 → I 93 i = Int32.ofInt (x.2.1 i)) ∧ x.2.2.1 ≤ 60 ∧ I 65 72 = Int32.ofInt (x.2.2.1 : Nat) ∧ (∀ i, i < x.2.2.1 → I 94 i = Int32.ofInt (x.2.2.2 i : Nat))
theorem KT_c {P : plT} {x : trT} {I I2 : Nat → Nat → Int32} (h : ∀ r, 92 ≤ r → r ≤ 96 → I2 r = I r) (h2 : ∀ k, 70 ≤ k → k ≤ 75 → I2 65 k = I 65 k) (t : KT P x I) : KT P x I2 := by
  unfold KT at t ⊢
  rw [h 92 (by omega) (by omega), h 93 (by omega) (by omega), h 94 (by omega) (by omega), h 95 (by omega) (by omega), h 96 (by omega) (by omega), h2 70 (by omega) (by omega), h2 71 (by omega) (by omega), h2 72 (by omega) (by omega), h2 73 (by omega) (by omega), h2 74 (by omega) (by omega), h2 75 (by omega) (by omega)]; exact t
theorem KT_m {P : plT} {x : trT} {I I2 : Nat → Nat → Int32} (f : FrM I I2) (t : KT P x I) : KT P x I2 := KT_c (fun r a b => f.1 r (by omega) (by omega) (by omega) (by omega)) (fun k a b => f.2 k (by omega)) t
theorem KT_b {P : plT} {x : trT} {I I2 : Nat → Nat → Int32} (f : FrB I I2) (t : KT P x I) : KT P x I2 := KT_c (fun r a b => f.1 r (by omega) (by omega)) (fun k a b => f.2 k (by omega)) t
theorem MT_c {P : plT} {x : trT} {I I2 : Nat → Nat → Int32} (h : ∀ r, 87 ≤ r → r ≤ 91 → I2 r = I r) (h2 : ∀ k, 59 ≤ k → k ≤ 64 → I2 65 k = I 65 k) (t : MT P x I) : MT P x I2 := by
  unfold MT MR MW ML at t ⊢
  rw [h 87 (by omega) (by omega), h 88 (by omega) (by omega), h 89 (by omega) (by omega), h 90 (by omega) (by omega), h 91 (by omega) (by omega), h2 59 (by omega) (by omega), h2 60 (by omega) (by omega), h2 61 (by omega) (by omega), h2 62 (by omega) (by omega), h2 63 (by omega) (by omega), h2 64 (by omega) (by omega)]; exact t
theorem MT_p {P : plT} {x : trT} {I I2 : Nat → Nat → Int32} (f : FrP I I2) (t : MT P x I) : MT P x I2 := MT_c (fun r a b => f.1 r (by omega) (by omega)) (fun k a b => f.2 k (by omega)) t
theorem MP_c {P : plT} {I I2 : Nat → Nat → Int32} (h : ∀ r, r = 69 ∨ r = 70 ∨ r = 80 ∨ r = 81 → I2 r = I r) (h2 : ∀ k, k < 59 → I2 65 k = I 65 k) (t : MP P I) : MP P I2 := by
  unfold MP MG MC at t ⊢
  rw [h 69 (by omega), h 70 (by omega), h 80 (by omega), h 81 (by omega), h2 42 (by omega), h2 53 (by omega), h2 20 (by omega), h2 45 (by omega), h2 46 (by omega), h2 47 (by omega), h2 49 (by omega), h2 50 (by omega), h2 51 (by omega), h2 52 (by omega)]; exact t
theorem MP_p {P : plT} {I I2 : Nat → Nat → Int32} (f : FrP I I2) (t : MP P I) : MP P I2 := MP_c (fun r hr => f.1 r (by omega) (by omega)) (fun k hk => f.2 k (by omega)) t
theorem MP_b {P : plT} {I I2 : Nat → Nat → Int32} (f : FrB I I2) (t : MP P I) : MP P I2 := MP_c (fun r hr => f.1 r (by omega) (by omega)) (fun k hk => f.2 k (by omega)) t
theorem zB_z (b : Bool) : zB b = 0 ∨ zB b = 1 := by cases b <;> decide
section
variable {SL : Nat} {xs : Nat → Int32} {d : Nat} {p s q : Nat} {Q : Option Value → mm_H → Prop} {J : Nat → Nat → Int64}
theorem put_loop {P : plT} {x : trT} : ∀ (f j : Nat) (I : Nat → Nat → Int32), j + f = 60 → MT P x I → (∀ i, i < j → I 96 i = I 91 i ∧ I 92 i = I 87 i ∧ I 93 i = I 88 i ∧ I 94 i = I 89 i) → (∀ I2 : Nat → Nat → Int32, FrP I I2 → KT P x I2 → Q none (hp p s q I2 J)) → w_X11_put_2 SL xs d p s q Q (Int32.ofInt (j : Nat)) I J
  | 0, j, I, hf, ht, hj, kq => by
    obtain rfl : j = 60 := by omega
    obtain ⟨⟨r1, r2, r3, r4, r5, r6, r7, r8, r9⟩, hW, l1, l2, l3⟩ := ht
    refine sg_X11_put_2 ⟨fun _ => ⟨z_inN (t := 0) (by omega) (by omega), z_inN (t := 1) (by omega) (by omega), ?_, ?_⟩, fun h => ?_⟩
    · rw [r7]; exact zB_z _
    · refine kq _ ⟨fun x a b => ?_, fun k hk => ?_⟩ ⟨fun i hi => ?_, fun i hi => ?_, ?_, ?_, ?_, ?_, ?_, ?_, ?_, fun i hi => ?_, l1, ?_, fun i hi => ?_⟩
      · rw [mu_row a, mu_row a, mu_row (by omega), mu_row (by omega), mu_row a, mu_row a, mu_row a, mu_row a]
      · rw [mu_ne (by omega), mu_ne (by omega), mu_row (by omega), mu_row (by omega), mu_ne (by omega), mu_ne (by omega), mu_ne (by omega), mu_ne (by omega)]
      · exact (hj i hi).1.trans (r1 i hi)
      · exact (hj i hi).2.1.trans (r2 i hi)
      · exact r3
      · exact r4
      · exact r5
      · exact r6
      · exact r7
      · exact r8
      · exact r9
      · exact (hj i hi).2.2.1.trans (hW i hi)
      · exact l2
      · exact (hj i (by omega)).2.2.2.trans (l3 i hi)
    · rw [z_le (by omega)] at h; omega
  | f + 1, j, I, hf, ht, hj, kq => by
    refine sg_X11_put_2 ⟨fun h => ?_, fun _ => ⟨z_inN (by omega) (by omega), ?_, ?_⟩⟩
    · rw [z_le (by omega)] at h; omega
    · rw [z_ixN (by omega), ht.1.1 j (by omega)]; exact zB_z _
    · rw [z_ixN (by omega), z_p1]
      refine put_loop f (j + 1) _ (by omega) (MT_c (I := I) (fun r a b => ?_) (fun k a b => ?_) ht) (fun i hi => ?_) (fun I2 g1 g2 => kq I2 ⟨fun x a b => ?_, fun k hk => ?_⟩ g2)
      · rw [mu_row (by omega), mu_row (by omega), mu_row (by omega), mu_row (by omega)]
      · rw [mu_row (by omega), mu_row (by omega), mu_row (by omega), mu_row (by omega)]
      · rw [mu_row (i := 91) (by omega), mu_row (i := 91) (by omega), mu_row (i := 91) (by omega), mu_row (i := 91) (by omega), mu_row (i := 87) (by omega), mu_row (i := 87) (by omega), mu_row (i := 87) (by omega), mu_row (i := 87) (by omega), mu_row (i := 88) (by omega), mu_row (i := 88) (by omega), mu_row (i := 88) (by omega), mu_row (i := 88) (by omega), mu_row (i := 89) (by omega), mu_row (i := 89) (by omega), mu_row (i := 89) (by omega), mu_row (i := 89) (by omega), mu_row (i := 96) (by omega), mu_row (i := 96) (by omega), mu_row (i := 96) (by omega), mu_if, mu_row (i := 92) (by omega), mu_row (i := 92) (by omega), mu_if, mu_row (i := 92) (by omega), mu_row (i := 93) (by omega), mu_if, mu_row (i := 93) (by omega), mu_row (i := 93) (by omega), mu_if, mu_row (i := 94) (by omega), mu_row (i := 94) (by omega), mu_row (i := 94) (by omega)]
        by_cases e : i = j
        · rw [if_pos e, if_pos e, if_pos e, if_pos e, e]; exact ⟨rfl, rfl, rfl, rfl⟩
        · rw [if_neg e, if_neg e, if_neg e, if_neg e]; exact hj i (by omega)
      · rw [g1.1 x a b, mu_row (by omega), mu_row (by omega), mu_row (by omega), mu_row (by omega)]
      · rw [g1.2 k hk, mu_row (by omega), mu_row (by omega), mu_row (by omega), mu_row (by omega)]
theorem m_put {P : plT} {x : trT} {I : Nat → Nat → Int32} (ht : MT P x I) (kq : ∀ I2 : Nat → Nat → Int32, FrP I I2 → KT P x I2 → Q none (hp p s q I2 J)) : mm_s SL xs (d + 1) 203 [.ref 65] (hp p s q I J) Q :=
  sg_X11_put (put_loop 60 0 I rfl ht (fun i hi => absurd hi (Nat.not_lt_zero i)) kq)
theorem bring_loop {P : plT} {x : trT} : ∀ (f j : Nat) (I : Nat → Nat → Int32), j + f = 60 → KT P x I → (∀ i, i < j → I 96 i = I 91 i ∧ I 92 i = I 87 i ∧ I 93 i = I 88 i ∧ I 94 i = I 89 i) → (∀ I2 : Nat → Nat → Int32, FrB I I2 → MT P x I2 → I2 65 78 = I 65 49 → I2 65 76 = Int32.ofInt 0 → I2 65 77 = Int32.ofInt 0 → Q none (hp p s q I2 J)) → w_X11_bring_2 SL xs d p s q Q (Int32.ofInt (j : Nat)) I J
  | 0, j, I, hf, ht, hj, kq => by
    obtain rfl : j = 60 := by omega
    obtain ⟨r1, r2, r3, r4, r5, r6, r7, r8, r9, hW, l1, l2, l3⟩ := ht
    refine sg_X11_bring_2 ⟨fun _ => ⟨z_inN (t := 0) (by omega) (by omega), z_inN (t := 1) (by omega) (by omega), ?_, ?_⟩, fun h => ?_⟩
    · rw [r7]; exact zB_z _
    · refine kq _ ⟨fun x a b => ?_, fun k hk => ?_⟩ ⟨⟨fun i hi => ?_, fun i hi => ?_, ?_, ?_, ?_, ?_, ?_, ?_, ?_⟩, fun i hi => ?_, l1, ?_, fun i hi => ?_⟩ rfl rfl rfl
      · rw [mu_row a, mu_row a, mu_row a, mu_row a, mu_row a, mu_row (by omega), mu_row (by omega), mu_row a, mu_row a, mu_row a, mu_row a]
      · rw [mu_ne (by omega), mu_ne (by omega), mu_ne (by omega), mu_ne (by omega), mu_ne (by omega), mu_row (by omega), mu_row (by omega), mu_ne (by omega), mu_ne (by omega), mu_ne (by omega), mu_ne (by omega)]
      · exact (hj i hi).1.symm.trans (r1 i hi)
      · exact (hj i hi).2.1.symm.trans (r2 i hi)
      · exact r3
      · exact r4
      · exact r5
      · exact r6
      · exact r7
      · exact r8
      · exact r9
      · exact (hj i hi).2.2.1.symm.trans (hW i hi)
      · exact l2
      · exact (hj i (by omega)).2.2.2.symm.trans (l3 i hi)
    · rw [z_le (by omega)] at h; omega
  | f + 1, j, I, hf, ht, hj, kq => by
    refine sg_X11_bring_2 ⟨fun h => ?_, fun _ => ⟨z_inN (by omega) (by omega), ?_, ?_⟩⟩
    · rw [z_le (by omega)] at h; omega
    · rw [z_ixN (by omega), ht.1 j (by omega)]; exact zB_z _
    · rw [z_ixN (by omega), z_p1]
      refine bring_loop f (j + 1) _ (by omega) (KT_c (I := I) (fun r a b => ?_) (fun k a b => ?_) ht) (fun i hi => ?_) (fun I2 g1 g2 g3 g4 g5 => kq I2 ⟨fun x a b => ?_, fun k hk => ?_⟩ g2 ?_ g4 g5)
      · rw [mu_row (by omega), mu_row (by omega), mu_row (by omega), mu_row (by omega)]
      · rw [mu_row (by omega), mu_row (by omega), mu_row (by omega), mu_row (by omega)]
      · rw [mu_row (i := 96) (by omega), mu_row (i := 96) (by omega), mu_row (i := 96) (by omega), mu_row (i := 96) (by omega), mu_row (i := 92) (by omega), mu_row (i := 92) (by omega), mu_row (i := 92) (by omega), mu_row (i := 92) (by omega), mu_row (i := 93) (by omega), mu_row (i := 93) (by omega), mu_row (i := 93) (by omega), mu_row (i := 93) (by omega), mu_row (i := 94) (by omega), mu_row (i := 94) (by omega), mu_row (i := 94) (by omega), mu_row (i := 94) (by omega), mu_row (i := 91) (by omega), mu_row (i := 91) (by omega), mu_row (i := 91) (by omega), mu_if, mu_row (i := 87) (by omega), mu_row (i := 87) (by omega), mu_if, mu_row (i := 87) (by omega), mu_row (i := 88) (by omega), mu_if, mu_row (i := 88) (by omega), mu_row (i := 88) (by omega), mu_if, mu_row (i := 89) (by omega), mu_row (i := 89) (by omega), mu_row (i := 89) (by omega)]
        by_cases e : i = j
        · rw [if_pos e, if_pos e, if_pos e, if_pos e, e]; exact ⟨rfl, rfl, rfl, rfl⟩
        · rw [if_neg e, if_neg e, if_neg e, if_neg e]; exact hj i (by omega)
      · rw [g1.1 x a b, mu_row (by omega), mu_row (by omega), mu_row (by omega), mu_row (by omega)]
      · rw [g1.2 k hk, mu_row (by omega), mu_row (by omega), mu_row (by omega), mu_row (by omega)]
      · rw [g3, mu_row (by omega), mu_row (by omega), mu_row (by omega), mu_row (by omega)]
theorem m_bring {P : plT} {x : trT} {I : Nat → Nat → Int32} (ht : KT P x I) (kq : ∀ I2 : Nat → Nat → Int32, FrB I I2 → MT P x I2 → I2 65 78 = I 65 49 → I2 65 76 = Int32.ofInt 0 → I2 65 77 = Int32.ofInt 0 → Q none (hp p s q I2 J)) : mm_s SL xs (d + 1) 204 [.ref 65] (hp p s q I J) Q :=
  sg_X11_bring (bring_loop 60 0 I rfl ht (fun i hi => absurd hi (Nat.not_lt_zero i)) kq)
theorem fresh_loop {P : plT} {b : Nat} (hP : pw P) : ∀ (f j : Nat) (I : Nat → Nat → Int32), j + f = 60 → I 65 47 = Int32.ofInt (p_n P : Nat) → (∀ i, i < j → I 91 i = zB (decide (i < p_n P)) ∧ I 87 i = Int32.ofInt 0 ∧ I 88 i = Int32.ofInt (-1)) → (∀ I2 : Nat → Nat → Int32, FrB I I2 → MT P (fr3 P b) I2 → I2 65 78 = I 65 49 → I2 65 76 = Int32.ofInt 0 → I2 65 77 = Int32.ofInt 0 → Q none (hp p s q I2 J)) → w_X11_fresh_2 SL xs d p s q Q (Int32.ofInt (b : Nat)) (Int32.ofInt (j : Nat)) I J
  | 0, j, I, hf, h47, hj, kq => by
    obtain rfl : j = 60 := by omega
    refine sg_X11_fresh_2 ⟨fun _ => ⟨z_inN (t := 0) (by omega) (by omega), z_inN (t := 1) (by omega) (by omega), ?_⟩, fun h => ?_⟩
    · refine kq _ ⟨fun x a b => ?_, fun k hk => ?_⟩ ⟨⟨fun i hi => ?_, fun i hi => ?_, ?_, ?_, ?_, ?_, ?_, ?_, ?_⟩, fun i hi => ?_, ?_, ?_, fun i hi => ?_⟩ rfl rfl rfl
      · rw [mu_row a, mu_row a, mu_row a, mu_row a, mu_row a, mu_row (by omega), mu_row (by omega), mu_row a, mu_row a, mu_row a, mu_row a]
      · rw [mu_ne (by omega), mu_ne (by omega), mu_ne (by omega), mu_ne (by omega), mu_ne (by omega), mu_row (by omega), mu_row (by omega), mu_ne (by omega), mu_ne (by omega), mu_ne (by omega), mu_ne (by omega)]
      · exact (hj i hi).1
      · exact (hj i hi).2.1
      · show I 65 47 = Int32.ofInt (sta P (fre P b) : Nat); rw [fre_sta, h47]
      · rfl
      · rfl
      · rfl
      · show Int32.ofInt 0 = zB (tur P (fre P b))
        have : tur P (fre P b) = false := by
          unfold tur
          apply decide_eq_false
          show ¬ (0 < p_t P ∧ 0 / p_t P % 2 = 1)
          rw [Nat.zero_div]; omega
        rw [this]; rfl
      · rfl
      · rfl
      · exact (hj i hi).2.2
      · show 0 ≤ 60; omega
      · rfl
      · exact absurd hi (Nat.not_lt_zero i)
    · rw [z_le (by omega)] at h; omega
  | f + 1, j, I, hf, h47, hj, kq => by
    have hn := hP.2.1
    have nxt : ∀ v : Int32, v = zB (decide (j < p_n P)) → w_X11_fresh_2 SL xs d p s q Q (Int32.ofInt (b : Nat)) (Int32.ofInt ((j + 1 : Nat) : Int)) (mm_u (mm_u (mm_u (mm_u I 91 j v) 87 j (Int32.ofInt 0)) 88 j (Int32.ofInt (-1))) 89 j (Int32.ofInt (-1))) J := by
      intro v hv
      refine fresh_loop hP f (j + 1) _ (by omega) (by rw [mu_row (by omega), mu_row (by omega), mu_row (by omega), mu_row (by omega)]; exact h47) (fun i hi => ?_) (fun I2 g1 g2 g3 g4 g5 => kq I2 ⟨fun x a b => ?_, fun k hk => ?_⟩ g2 ?_ g4 g5)
      · rw [mu_row (i := 91) (by omega), mu_row (i := 91) (by omega), mu_row (i := 91) (by omega), mu_if, mu_row (i := 87) (by omega), mu_row (i := 87) (by omega), mu_if, mu_row (i := 87) (by omega), mu_row (i := 88) (by omega), mu_if, mu_row (i := 88) (by omega), mu_row (i := 88) (by omega)]
        by_cases e : i = j
        · rw [if_pos e, if_pos e, if_pos e, e]; exact ⟨hv, rfl, rfl⟩
        · rw [if_neg e, if_neg e, if_neg e]; exact hj i (by omega)
      · rw [g1.1 x a b, mu_row (by omega), mu_row (by omega), mu_row (by omega), mu_row (by omega)]
      · rw [g1.2 k hk, mu_row (by omega), mu_row (by omega), mu_row (by omega), mu_row (by omega)]
      · rw [g3, mu_row (by omega), mu_row (by omega), mu_row (by omega), mu_row (by omega)]
    refine sg_X11_fresh_2 ⟨fun h => ?_, fun _ => ?_⟩
    · rw [z_le (by omega)] at h; omega
    · rw [h47, z_le (by omega), z_ixN (by omega), z_p1]
      refine ⟨fun h => ⟨z_inN (by omega) (by omega), nxt _ ?_⟩, fun h => ⟨z_inN (by omega) (by omega), nxt _ ?_⟩⟩
      · rw [decide_eq_false (by omega)]; rfl
      · rw [decide_eq_true (by omega)]; rfl
theorem m_fresh {P : plT} {b : Nat} {I : Nat → Nat → Int32} (hP : pw P) (h47 : I 65 47 = Int32.ofInt (p_n P : Nat)) (kq : ∀ I2 : Nat → Nat → Int32, FrB I I2 → MT P (fr3 P b) I2 → I2 65 78 = I 65 49 → I2 65 76 = Int32.ofInt 0 → I2 65 77 = Int32.ofInt 0 → Q none (hp p s q I2 J)) : mm_s SL xs (d + 1) 202 [.ref 65, .int (Int32.ofInt (b : Nat))] (hp p s q I J) Q :=
  sg_X11_fresh (fresh_loop hP 60 0 I rfl h47 (fun i hi => absurd hi (Nat.not_lt_zero i)) kq)
def mK (P : plT) (ins br : Nat) : crT → Nat := fun c => (if 0 < ins then ins else ncn P c) + (if c_g c + 1 = br then 1 else 0)
theorem mK_w {P : plT} {ins br : Nat} (hP : pw P) (hi : ins ≤ 999) : kw (mK P ins br) := fun c => by
  have := ncn_ok (c := c) hP
  unfold mK
  constructor
  · split <;> omega
  · split <;> split <;> omega
theorem mK_0 {P : plT} : mK P 0 0 = nK P := by
  funext c
  unfold mK nK
  rw [if_neg (by omega), if_neg (by omega)]; rfl
theorem ended_z {P : plT} {c : crT} {e : Nat} {I : Nat → Nat → Int32} (hP : pw P) (h : I 65 59 = Int32.ofInt (sta P c : Nat)) (h2 : I 65 78 = Int32.ofInt (e : Nat)) (he : e ≤ 100) : (sy_X11_isEnded I J = Int32.ofInt 0) = (¬ sta P c ≤ e) := by
  have hs : sta P c ≤ p_n P := fb_ct_le _ _
  have hn := hP.2.1
  unfold sy_X11_isEnded
  rw [h, h2]
  by_cases q : sta P c ≤ e
  · rw [if_neg (by rw [z_lt (by omega)]; omega)]
    exact propext ⟨fun z => absurd z (by decide), fun z => absurd q z⟩
  · rw [if_pos (by rw [z_lt (by omega)]; omega)]
    exact propext ⟨fun _ => q, fun _ => rfl⟩
/-- one going of the reference, over a whole state -/
theorem m_step {P : plT} {x : trT} {M ins br : Nat} {I : Nat → Nat → Int32} (hP : pw P) (hx : tw P x M) (hM : M ≤ 900) (hs : 0 < sta P x.1) (hmp : MP P I) (hmt : MT P x I) (hins : I 65 76 = Int32.ofInt (ins : Nat)) (hi : ins ≤ 999) (hbr : I 65 77 = Int32.ofInt (br : Nat)) (hb : br ≤ 2000) (kq : ∀ I2 : Nat → Nat → Int32, FrM I I2 → MT P (gt_ P x (mK P ins br x.1)) I2 → Q none (hp p s q I2 J)) : mm_s SL xs (d + 3) 209 [.ref 65] (hp p s q I J) Q :=
  m_going (k := mK P ins br x.1) hP hx.1 hM hs hmp hmt.1 hmt.2.1 hmt.2.2 hx.2 hins hi hbr hb rfl (fun I2 g1 g2 g3 g4 => kq I2 g1 ⟨g2, g3, g4⟩)
theorem mgoOn_loop {P : plT} {M ins br e : Nat} (hP : pw P) (hM : M ≤ 900) (he : e ≤ 100) (hi : ins ≤ 999) (hb : br ≤ 2000) : ∀ (f : Nat) (x : trT) (I : Nat → Nat → Int32), tw P x M → rem_ P x.1 ≤ f → MP P I → MT P x I → I 65 76 = Int32.ofInt (ins : Nat) → I 65 77 = Int32.ofInt (br : Nat) → I 65 78 = Int32.ofInt (e : Nat) → (∀ I2 : Nat → Nat → Int32, FrM I I2 → MT P (run P (mK P ins br) e f x) I2 → Q none (hp p s q I2 J)) → w_X11_goOn_0 SL xs d p s q Q I J
  | 0, x, I, hx, hr, hmp, hmt, h76, h77, h78, kq => by
    have := sta_rem hx.1
    refine sg_X11_goOn_0 ?_
    rw [ended_z (J := J) hP hmt.1.2.2.1 h78 he]
    exact ⟨fun h => absurd (by omega) h, fun _ => kq I (FrM_r I) hmt⟩
  | f + 1, x, I, hx, hr, hmp, hmt, h76, h77, h78, kq => by
    refine sg_X11_goOn_0 ?_
    rw [ended_z (J := J) hP hmt.1.2.2.1 h78 he]
    refine ⟨fun h => ?_, fun h => ?_⟩
    · refine m_step (ins := ins) (br := br) hP hx hM (by omega) hmp hmt h76 hi h77 hb (fun I2 g1 g2 => ⟨_, _, rfl, rfl, ?_⟩)
      have hk := mK_w (br := br) hP hi x.1
      have hr2 : rem_ P (gt_ P x (mK P ins br x.1)).1 + 1 = rem_ P x.1 := gs_rem (k := mK P ins br x.1) hP hx.1 (by omega)
      refine mgoOn_loop hP hM he hi hb f _ I2 (gt_tw hP hx (by omega) (by omega)) (by omega) (MP_fr g1 hmp) g2 (by rw [g1.2 76 (by omega)]; exact h76) (by rw [g1.2 77 (by omega)]; exact h77) (by rw [g1.2 78 (by omega)]; exact h78) (fun I3 g3 g4 => kq I3 (FrM_t g1 g3) ?_)
      rw [run_go h]; exact g4
    · have h : sta P x.1 ≤ e := by omega
      have := kq I (FrM_r I)
      rw [run_end h] at this
      exact this hmt
theorem m_goOn {P : plT} {x : trT} {M ins br e : Nat} {I : Nat → Nat → Int32} (hP : pw P) (hM : M ≤ 900) (he : e ≤ 100) (hi : ins ≤ 999) (hb : br ≤ 2000) (hx : tw P x M) (hmp : MP P I) (hmt : MT P x I) (h76 : I 65 76 = Int32.ofInt (ins : Nat)) (h77 : I 65 77 = Int32.ofInt (br : Nat)) (h78 : I 65 78 = Int32.ofInt (e : Nat)) (kq : ∀ I2 : Nat → Nat → Int32, FrM I I2 → MT P (run P (mK P ins br) e 1000 x) I2 → Q none (hp p s q I2 J)) : mm_s SL xs (d + 4) 211 [.ref 65] (hp p s q I J) Q := by
  have hr : rem_ P x.1 ≤ 1000 := by have := hx.1.2.2.2.2.2.2.2.2.2; omega
  refine e_X11_goOn rfl ?_
  exact mgoOn_loop hP hM he hi hb 1000 x I hx hr hmp hmt h76 h77 h78 kq
theorem mgo_loop {P : plT} {M e most : Nat} (hP : pw P) (hM : M ≤ 900) (he : e ≤ 100) (hm : most ≤ 1000) : ∀ (f made : Nat) (x : trT) (I : Nat → Nat → Int32), made + f = most → tw P x M → MP P I → MT P x I → I 65 76 = Int32.ofInt 0 → I 65 77 = Int32.ofInt 0 → I 65 78 = Int32.ofInt (e : Nat) → (∀ I2 : Nat → Nat → Int32, FrM I I2 → MT P (run P (nK P) e f x) I2 → Q (some (.int (Int32.ofInt ((made + (c_g (run P (nK P) e f x).1 - c_g x.1) : Nat) : Int)))) (hp p s q I2 J)) → w_X11_go_15 SL xs d p s q Q (Int32.ofInt (most : Nat)) (Int32.ofInt (made : Nat)) I J
  | 0, made, x, I, hf, hx, hmp, hmt, h76, h77, h78, kq => by
    refine sg_X11_go_15 ⟨fun _ => ?_, fun h => ?_⟩
    · have := kq I (FrM_r I) hmt
      rw [run, Nat.sub_self] at this
      exact this
    · rw [z_le (by omega)] at h; omega
  | f + 1, made, x, I, hf, hx, hmp, hmt, h76, h77, h78, kq => by
    refine sg_X11_go_15 ?_
    rw [ended_z (J := J) hP hmt.1.2.2.1 h78 he, z_le (by omega)]
    refine ⟨fun h => by omega, fun _ => ⟨fun h => ?_, fun h => ?_⟩⟩
    · refine m_step (ins := 0) (br := 0) hP hx hM (by omega) hmp hmt h76 (by omega) h77 (by omega) (fun I2 g1 g2 => ⟨_, _, rfl, rfl, ?_⟩)
      rw [mK_0] at g2
      have hk := nK_w hP x.1
      rw [z_p1]
      refine mgo_loop hP hM he hm f (made + 1) _ I2 (by omega) (gt_tw hP hx (by omega) (by omega)) (MP_fr g1 hmp) g2 (by rw [g1.2 76 (by omega)]; exact h76) (by rw [g1.2 77 (by omega)]; exact h77) (by rw [g1.2 78 (by omega)]; exact h78) (fun I3 g3 g4 => ?_)
      have := kq I3 (FrM_t g1 g3)
      rw [run_go h] at this
      have hg := run_g (P := P) (K := nK P) (e := e) f (gt_ P x (nK P x.1))
      have h2 : c_g (gt_ P x (nK P x.1)).1 = c_g x.1 + 1 := rfl
      have e3 : made + 1 + (c_g (run P (nK P) e f (gt_ P x (nK P x.1))).1 - c_g (gt_ P x (nK P x.1)).1) = made + (c_g (run P (nK P) e f (gt_ P x (nK P x.1))).1 - c_g x.1) := by omega
      rw [e3]
      exact this g4
    · have := kq I (FrM_r I)
      rw [run_end (by omega), Nat.sub_self] at this
      exact this hmt
theorem msome_loop {P : plT} {M e most : Nat} (hP : pw P) (hM : M ≤ 900) (he : e ≤ 100) (hm : most ≤ 1000) : ∀ (f made : Nat) (x : trT) (I : Nat → Nat → Int32), made + f = most → tw P x M → MP P I → MT P x I → I 65 76 = Int32.ofInt 0 → I 65 77 = Int32.ofInt 0 → I 65 78 = Int32.ofInt (e : Nat) → (∀ I2 : Nat → Nat → Int32, FrM I I2 → MT P (run P (nK P) e f x) I2 → Q none (hp p s q I2 J)) → w_X11_goSome_2 SL xs d p s q Q (Int32.ofInt (most : Nat)) (Int32.ofInt (made : Nat)) I J
  | 0, made, x, I, hf, hx, hmp, hmt, h76, h77, h78, kq => by
    refine sg_X11_goSome_2 ⟨fun _ => kq I (FrM_r I) hmt, fun h => ?_⟩
    rw [z_le (by omega)] at h; omega
  | f + 1, made, x, I, hf, hx, hmp, hmt, h76, h77, h78, kq => by
    refine sg_X11_goSome_2 ?_
    rw [ended_z (J := J) hP hmt.1.2.2.1 h78 he, z_le (by omega)]
    refine ⟨fun h => by omega, fun _ => ⟨fun h => ?_, fun h => ?_⟩⟩
    · refine m_step (ins := 0) (br := 0) hP hx hM (by omega) hmp hmt h76 (by omega) h77 (by omega) (fun I2 g1 g2 => ⟨_, _, rfl, rfl, ?_⟩)
      rw [mK_0] at g2
      have hk := nK_w hP x.1
      rw [z_p1]
      refine msome_loop hP hM he hm f (made + 1) _ I2 (by omega) (gt_tw hP hx (by omega) (by omega)) (MP_fr g1 hmp) g2 (by rw [g1.2 76 (by omega)]; exact h76) (by rw [g1.2 77 (by omega)]; exact h77) (by rw [g1.2 78 (by omega)]; exact h78) (fun I3 g3 g4 => kq I3 (FrM_t g1 g3) ?_)
      rw [run_go h]; exact g4
    · have := kq I (FrM_r I)
      rw [run_end (by omega)] at this
      exact this hmt
theorem bs_sh {n : Nat} (hn : n < 60) : Int64.ofInt 1 <<< ((Int32.ofInt (n : Int)).toInt64 &&& 63) = bs (fun i => decide (i = n)) := by
  have h := bs_one hn
  unfold sx_X6_bit at h
  rw [if_neg (by rw [z_0, z_lt (by omega)]; omega), if_neg (by show ¬ Int32.ofInt 60 ≤ _; rw [z_le (by omega)]; omega)] at h
  exact h
theorem bs_or0 (f : Nat → Bool) : bs f ||| Int64.ofInt 0 = bs f := by
  rw [← bs_0, bs_or]
  exact bs_cong (fun i _ => by simp)
theorem standSet_loop {S : Nat → Bool} {n : Nat} {I : Nat → Nat → Int32} (hn : n ≤ 60) (sup : ∀ i, S i = true → i < n) (h91 : ∀ i, i < 60 → I 91 i = zB (S i)) (h47 : I 65 47 = Int32.ofInt (n : Nat)) (kq : Q (some (.long (bs S))) (hp p s q I J)) : ∀ (f j : Nat), j + f = n → w_X11_standSet_4 SL xs d p s q Q (bs (fun i => S i && decide (i < j))) (Int32.ofInt (j : Nat)) I J
  | 0, j, hf => by
    refine sg_X11_standSet_4 ⟨fun _ => ?_, fun h => ?_⟩
    · rw [bs_cong (q := S) (fun i _ => by
        cases hs : S i with
        | false => rfl
        | true => have := sup i hs; simp; omega)]
      exact kq
    · rw [h47, z_le (by omega)] at h; omega
  | f + 1, j, hf => by
    refine sg_X11_standSet_4 ⟨fun h => ?_, fun _ => ⟨z_inN (by omega) (by omega), ?_⟩⟩
    · rw [h47, z_le (by omega)] at h; omega
    · rw [z_ixN (by omega), h91 j (by omega), zB_0, bs_or0, bs_sh (by omega), bs_or, z_p1]
      refine ⟨fun h => ?_, fun h => ?_⟩
      · rw [bs_cong (q := fun i => S i && decide (i < j + 1)) (fun i _ => by
          by_cases e : i = j
          · rw [e, h]; rfl
          · congr 1; simp; omega)]
        exact standSet_loop hn sup h91 h47 kq f (j + 1) (by omega)
      · have h : S j = true := by simpa using h
        rw [bs_cong (q := fun i => S i && decide (i < j + 1)) (fun i _ => by
          by_cases e : i = j
          · rw [e, h]; simp
          · rw [decide_eq_false e, Bool.or_false]; congr 1; simp; omega)]
        exact standSet_loop hn sup h91 h47 kq f (j + 1) (by omega)
theorem m_standSet {S : Nat → Bool} {n : Nat} {I : Nat → Nat → Int32} (hn : n ≤ 60) (sup : ∀ i, S i = true → i < n) (h91 : ∀ i, i < 60 → I 91 i = zB (S i)) (h47 : I 65 47 = Int32.ofInt (n : Nat)) (kq : Q (some (.long (bs S))) (hp p s q I J)) : mm_s SL xs (d + 1) 212 [.ref 65] (hp p s q I J) Q := by
  refine sg_X11_standSet ?_
  have := standSet_loop (SL := SL) (xs := xs) (d := d) hn sup h91 h47 kq n 0 (Nat.zero_add n)
  rw [bs_cong (q := fun _ => false) (fun i _ => by simp), bs_0] at this
  exact this
end
