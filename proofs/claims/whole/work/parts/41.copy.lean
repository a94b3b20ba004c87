/-! rows filled, courses copied and begun -/
theorem ne_cc {a o : Nat} (ha : isC a) (ho : isC o) (h : a ≠ o) : a + 3 < o ∨ o + 3 < a := by
  rcases ha with rfl | rfl | rfl | rfl | rfl | rfl <;> rcases ho with rfl | rfl | rfl | rfl | rfl | rfl <;> omega
section
variable {SL : Nat} {xs : Nat → Int32} {d : Nat} {p s q : Nat} {Q : Option Value → mm_H → Prop} {J : Nat → Nat → Int64}
theorem fill_loop {cs : mm_Cs} {r n : Nat} {v : Int32} (hk : ly_kd r = .inl (.int, n)) (hn : n ≤ 4000) : ∀ (f i : Nat) (I : Nat → Nat → Int32), i + f = n → (∀ j, j < i → I r j = v) → (∀ I2 : Nat → Nat → Int32, (∀ x, x ≠ r → I2 x = I x) → (∀ j, j < n → I2 r j = v) → Q none (hp p s q I2 J)) → mm_w SL xs cs mm_am kJ7_fill_53178 0 0 none Q 5 [some (.ref r), some (.int v), some (.int (Int32.ofInt (i : Nat))), some (.int (Int32.ofInt (n : Nat)))] [] (hp p s q I J) 0 0
  | 0, i, I, hf, hi, kq => by
    obtain rfl : i = n := by omega
    refine sp_iload_n 6 rfl rfl rfl ?_
    refine sp_iload_n 7 rfl rfl rfl ?_
    refine sp_ic_ge 10 rfl rfl (fun _ => ?_) (fun h => ?_)
    · exact st_vret rfl rfl (Nat.le_refl _) (Nat.le_refl _) (kq I (fun _ _ => rfl) hi)
    · exact absurd (by rw [z_le (by omega)]; omega) h
  | f + 1, i, I, hf, hi, kq => by
    refine sp_iload_n 6 rfl rfl rfl ?_
    refine sp_iload_n 7 rfl rfl rfl ?_
    refine sp_ic_ge 10 rfl rfl (fun h => ?_) (fun _ => ?_)
    · rw [z_le (by omega)] at h; omega
    · refine sp_aload_n 11 rfl rfl rfl ?_
      refine sp_iload_n 12 rfl rfl rfl ?_
      refine sp_iload_n 13 rfl rfl rfl ?_
      refine hq_iast 14 rfl hk (z_inN (by omega) (by omega)) rfl ?_
      refine hs_iinc 17 (L2 := [some (.ref r), some (.int v), some (.int (Int32.ofInt ((i + 1 : Nat) : Int))), some (.int (Int32.ofInt (n : Nat)))]) rfl rfl rfl (by rw [z_p1]; rfl) rfl ?_
      refine sp_goto rfl ?_
      rw [z_ixN (by omega)]
      refine fill_loop hk hn f (i + 1) _ (by omega) (fun j hj => ?_) (fun I2 g1 g2 => kq I2 (fun x hx => by rw [g1 x hx, mu_row hx]) g2)
      rw [mu_if]
      by_cases e : j = i
      · rw [if_pos e]
      · rw [if_neg e]; exact hi j (by omega)
theorem c_fill {r n : Nat} {v : Int32} {I : Nat → Nat → Int32} (hk : ly_kd r = .inl (.int, n)) (hn : n ≤ 4000) (kq : ∀ I2 : Nat → Nat → Int32, (∀ x, x ≠ r → I2 x = I x) → (∀ j, j < n → I2 r j = v) → Q none (hp p s q I2 J)) : mm_s SL xs (d + 1) 281 [.ref r, .int v] (hp p s q I J) Q := by
  refine e_J7_fill_53178 rfl ?_
  refine hs_L (L2 := [some (.ref r), some (.int v), none, none]) rfl ?_
  refine sp_iconst 1 rfl rfl ?_
  refine hs_istore_n 2 (L2 := [some (.ref r), some (.int v), some (.int (Int32.ofInt 0)), none]) rfl rfl rfl rfl ?_
  refine sp_aload_n 3 rfl rfl rfl ?_
  refine hq_alen 4 rfl hk rfl rfl ?_
  refine sp_I (y := Int32.ofInt (n : Nat)) (show nI n = _ from z_nI) ?_
  refine hs_istore_n 5 (L2 := [some (.ref r), some (.int v), some (.int (Int32.ofInt 0)), some (.int (Int32.ofInt (n : Nat)))]) rfl rfl rfl rfl ?_
  exact fill_loop hk hn n 0 I (Nat.zero_add n) (fun j hj => absurd hj (Nat.not_lt_zero j)) kq
theorem c_startFrom {o a b : Nat} {P : plT} {I : Nat → Nat → Int32} {J : Nat → Nat → Int64} (ho : isC o) (ha : isP a) (hP : pw P) (h0 : I a 0 = Int32.ofInt (p_n P : Nat)) (kq : ∀ I2 J2, FrC o I I2 J J2 → TR o (fr3 P b) I2 J2 → Q none (hp p s q I2 J2)) : mm_s SL xs (d + 2) 13 [.ref o, .ref a, .int (Int32.ofInt (b : Nat))] (hp p s q I J) Q := by
  have hn := hP.2.1
  refine sg_X1_startFrom ha ho ?_
  refine c_fill (kC1 ho) (by omega) (fun I1 g1 g2 => ⟨_, _, rfl, rfl, ?_⟩)
  refine c_fill (kC2 ho) (by omega) (fun I2 g3 g4 => ⟨_, _, rfl, rfl, ?_⟩)
  have hr : ∀ k, I2 o k = (mm_u (mm_u (mm_u (mm_u (mm_u (mm_u I o 2 (Int32.ofInt 0)) o 3 (Int32.ofInt (-1))) o 4 (Int32.ofInt (-1))) o 5 (Int32.ofInt 0)) o 9 (Int32.ofInt (b : Nat))) o 10 (Int32.ofInt 0)) o k := fun k => by rw [g3 o (by omega), g1 o (by omega)]
  refine kq I2 _ ⟨fun x hx => ?_, fun x hx => mu_row hx⟩ ⟨⟨?_, fun i hi => ?_, ?_, ?_, ?_, ?_, ?_⟩, fun i hi => ?_, ?_, ?_, fun i hi => ?_⟩
  · rw [g3 x (by omega), g1 x (by omega), mu_row (by omega), mu_row (by omega), mu_row (by omega), mu_row (by omega), mu_row (by omega), mu_row (by omega)]
  · rw [mu_at, h0, bs_all hn]; rfl
  · rw [g3 (o + 1) (by omega), g2 i hi]; rfl
  · rw [hr, mu_ne (by omega), mu_ne (by omega), mu_ne (by omega), mu_ne (by omega), mu_ne (by omega), mu_at]; rfl
  · rw [hr, mu_ne (by omega), mu_ne (by omega), mu_ne (by omega), mu_ne (by omega), mu_at]; rfl
  · rw [hr, mu_ne (by omega), mu_ne (by omega), mu_ne (by omega), mu_at]; rfl
  · rw [hr, mu_ne (by omega), mu_at]; rfl
  · rw [hr, mu_at]; rfl
  · rw [g4 i hi]; rfl
  · show 0 ≤ 60; omega
  · rw [hr, mu_ne (by omega), mu_ne (by omega), mu_at]; rfl
  · exact absurd hi (Nat.not_lt_zero i)
theorem c_copyFrom {o a : Nat} {I : Nat → Nat → Int32} {J : Nat → Nat → Int64} (ho : isC o) (ha : isC a) (hne : a ≠ o) (kq : ∀ I2 J2, FrC o I I2 J J2 → I2 o 0 = I o 0 → (∀ x, TR a x I J → TR o x I2 J2) → Q none (hp p s q I2 J2)) : mm_s SL xs (d + 1) 14 [.ref o, .ref a] (hp p s q I J) Q := by
  have hd := ne_cc ha ho hne
  refine e_X1_copyFrom rfl ?_
  refine hs_L (L2 := [some (.ref o), some (.ref a)]) rfl ?_
  refine sp_aload_n 1 rfl rfl rfl ?_
  refine sp_aload_n 2 rfl rfl rfl ?_
  refine hq_getJ 5 rfl (kC0 ha) rfl ?_
  refine hq_putJ 8 rfl (kC0 ho) rfl ?_
  refine sp_aload_n 9 rfl rfl rfl ?_
  refine sp_aload_n 10 rfl rfl rfl ?_
  refine hq_getI 13 rfl (kC0 ha) rfl ?_
  refine hq_putI 16 rfl (kC0 ho) rfl ?_
  generalize e1 : mm_u I o 2 (I a 2) = I1
  refine sp_aload_n 17 rfl rfl rfl ?_
  refine sp_aload_n 18 rfl rfl rfl ?_
  refine hq_getI 21 rfl (kC0 ha) rfl ?_
  refine hq_putI 24 rfl (kC0 ho) rfl ?_
  generalize e2 : mm_u I1 o 3 (I1 a 3) = I2
  refine sp_aload_n 25 rfl rfl rfl ?_
  refine sp_aload_n 26 rfl rfl rfl ?_
  refine hq_getI 29 rfl (kC0 ha) rfl ?_
  refine hq_putI 32 rfl (kC0 ho) rfl ?_
  generalize e3 : mm_u I2 o 4 (I2 a 4) = I3
  refine sp_aload_n 33 rfl rfl rfl ?_
  refine sp_aload_n 34 rfl rfl rfl ?_
  refine hq_getI 37 rfl (kC0 ha) rfl ?_
  refine hq_putI 40 rfl (kC0 ho) rfl ?_
  generalize e4 : mm_u I3 o 5 (I3 a 5) = I4
  refine sp_aload_n 41 rfl rfl rfl ?_
  refine sp_aload_n 42 rfl rfl rfl ?_
  refine hq_getI 45 rfl (kC0 ha) rfl ?_
  refine hq_putI 48 rfl (kC0 ho) rfl ?_
  generalize e5 : mm_u I4 o 9 (I4 a 9) = I5
  refine sp_aload_n 49 rfl rfl rfl ?_
  refine sp_aload_n 50 rfl rfl rfl ?_
  refine hq_getI 53 rfl (kC0 ha) rfl ?_
  refine hq_putI 56 rfl (kC0 ho) rfl ?_
  generalize e6 : mm_u I5 o 10 (I5 a 10) = I6
  refine sp_aload_n 57 rfl rfl rfl ?_
  refine hq_getR 60 rfl (kC0 ha) (rC1 ha) rfl ?_
  refine sp_iconst 61 rfl rfl ?_
  refine sp_aload_n 62 rfl rfl rfl ?_
  refine hq_getR 65 rfl (kC0 ho) (rC1 ho) rfl ?_
  refine sp_iconst 66 rfl rfl ?_
  refine sp_bipush 68 rfl rfl ?_
  refine sp_I (y := Int32.ofInt 60) rfl ?_
  refine hq_copy 71 rfl (kC1 ha) (kC1 ho) (by decide) (by decide) (by decide) (by decide) (by decide) rfl rfl rfl ?_
  generalize e7 : (fun i_ => if i_ = o + 1 then va_cpy (I6 (a + 1)) (I6 (o + 1)) (Int32.ofInt 0).toNatClampNeg (Int32.ofInt 0).toNatClampNeg (Int32.ofInt 60).toNatClampNeg else I6 i_) = I7
  refine sp_aload_n 72 rfl rfl rfl ?_
  refine hq_getR 75 rfl (kC0 ha) (rC2 ha) rfl ?_
  refine sp_iconst 76 rfl rfl ?_
  refine sp_aload_n 77 rfl rfl rfl ?_
  refine hq_getR 80 rfl (kC0 ho) (rC2 ho) rfl ?_
  refine sp_iconst 81 rfl rfl ?_
  refine sp_bipush 83 rfl rfl ?_
  refine sp_I (y := Int32.ofInt 60) rfl ?_
  refine hq_copy 86 rfl (kC2 ha) (kC2 ho) (by decide) (by decide) (by decide) (by decide) (by decide) rfl rfl rfl ?_
  generalize e8 : (fun i_ => if i_ = o + 2 then va_cpy (I7 (a + 2)) (I7 (o + 2)) (Int32.ofInt 0).toNatClampNeg (Int32.ofInt 0).toNatClampNeg (Int32.ofInt 60).toNatClampNeg else I7 i_) = I8
  refine sp_aload_n 87 rfl rfl rfl ?_
  refine hq_getR 90 rfl (kC0 ha) (rC3 ha) rfl ?_
  refine sp_iconst 91 rfl rfl ?_
  refine sp_aload_n 92 rfl rfl rfl ?_
  refine hq_getR 95 rfl (kC0 ho) (rC3 ho) rfl ?_
  refine sp_iconst 96 rfl rfl ?_
  refine sp_bipush 98 rfl rfl ?_
  refine sp_I (y := Int32.ofInt 60) rfl ?_
  refine hq_copy 101 rfl (kC3 ha) (kC3 ho) (by decide) (by decide) (by decide) (by decide) (by decide) rfl rfl rfl ?_
  generalize e9 : (fun i_ => if i_ = o + 3 then va_cpy (I8 (a + 3)) (I8 (o + 3)) (Int32.ofInt 0).toNatClampNeg (Int32.ofInt 0).toNatClampNeg (Int32.ofInt 60).toNatClampNeg else I8 i_) = I9
  refine st_vret rfl rfl (Nat.le_refl _) (Nat.le_refl _) ?_
  have z0 : (Int32.ofInt 0).toNatClampNeg = 0 := z_ixN (t := 0) (by omega)
  have z60 : (Int32.ofInt 60).toNatClampNeg = 60 := z_ixN (t := 60) (by omega)
  rw [z0, z60] at e7 e8 e9
  have r1 : ∀ x, x ≠ o → I1 x = I x := fun x hx => by rw [← e1, mu_row hx]
  have r2 : ∀ x, x ≠ o → I2 x = I x := fun x hx => by rw [← e2, mu_row hx, r1 x hx]
  have r3 : ∀ x, x ≠ o → I3 x = I x := fun x hx => by rw [← e3, mu_row hx, r2 x hx]
  have r4 : ∀ x, x ≠ o → I4 x = I x := fun x hx => by rw [← e4, mu_row hx, r3 x hx]
  have r5 : ∀ x, x ≠ o → I5 x = I x := fun x hx => by rw [← e5, mu_row hx, r4 x hx]
  have r6 : ∀ x, x ≠ o → I6 x = I x := fun x hx => by rw [← e6, mu_row hx, r5 x hx]
  have r7 : ∀ x, x ≠ o + 1 → I7 x = I6 x := fun x hx => by rw [← e7]; exact if_neg hx
  have r8 : ∀ x, x ≠ o + 2 → I8 x = I7 x := fun x hx => by rw [← e8]; exact if_neg hx
  have r9 : ∀ x, x ≠ o + 3 → I9 x = I8 x := fun x hx => by rw [← e9]; exact if_neg hx
  have c7 : ∀ j, j < 60 → I7 (o + 1) j = I (a + 1) j := fun j hj => by
    rw [← e7, ← r6 (a + 1) (by omega)]
    show (if o + 1 = o + 1 then (_ : Nat → Int32) else _) j = _
    rw [if_pos rfl, pk_cpy_in (by omega) (by omega)]; congr 1; omega
  have c8 : ∀ j, j < 60 → I8 (o + 2) j = I (a + 2) j := fun j hj => by
    rw [← e8, ← r6 (a + 2) (by omega), ← r7 (a + 2) (by omega)]
    show (if o + 2 = o + 2 then (_ : Nat → Int32) else _) j = _
    rw [if_pos rfl, pk_cpy_in (by omega) (by omega)]; congr 1; omega
  have c9 : ∀ j, j < 60 → I9 (o + 3) j = I (a + 3) j := fun j hj => by
    rw [← e9, ← r6 (a + 3) (by omega), ← r7 (a + 3) (by omega), ← r8 (a + 3) (by omega)]
    show (if o + 3 = o + 3 then (_ : Nat → Int32) else _) j = _
    rw [if_pos rfl, pk_cpy_in (by omega) (by omega)]; congr 1; omega
  have ho9 : I9 o = I6 o := by rw [r9 o (by omega), r8 o (by omega), r7 o (by omega)]
  refine kq I9 _ ⟨fun x hx => by rw [r9 x (by omega), r8 x (by omega), r7 x (by omega), r6 x (by omega)], fun x hx => mu_row hx⟩ ?_ (fun x hx => ?_)
  · rw [ho9, ← e6, mu_ne (by omega), ← e5, mu_ne (by omega), ← e4, mu_ne (by omega), ← e3, mu_ne (by omega), ← e2, mu_ne (by omega), ← e1, mu_ne (by omega)]
  · obtain ⟨⟨s1, s2, s3, s4, s5, s6, s7⟩, hW, l1, l2, l3⟩ := hx
    refine ⟨⟨?_, fun i hi => ?_, ?_, ?_, ?_, ?_, ?_⟩, fun i hi => ?_, l1, ?_, fun i hi => ?_⟩
    · rw [mu_at]; exact s1
    · rw [r9 (o + 1) (by omega), r8 (o + 1) (by omega), c7 i hi]; exact s2 i hi
    · rw [ho9, ← e6, mu_ne (by omega), ← e5, mu_ne (by omega), ← e4, mu_ne (by omega), ← e3, mu_ne (by omega), ← e2, mu_ne (by omega), ← e1, mu_at]; exact s3
    · rw [ho9, ← e6, mu_ne (by omega), ← e5, mu_ne (by omega), ← e4, mu_ne (by omega), ← e3, mu_ne (by omega), ← e2, mu_at, r1 a hne]; exact s4
    · rw [ho9, ← e6, mu_ne (by omega), ← e5, mu_ne (by omega), ← e4, mu_ne (by omega), ← e3, mu_at, r2 a hne]; exact s5
    · rw [ho9, ← e6, mu_ne (by omega), ← e5, mu_at, r4 a hne]; exact s6
    · rw [ho9, ← e6, mu_at, r5 a hne]; exact s7
    · rw [r9 (o + 2) (by omega), c8 i hi]; exact hW i hi
    · rw [ho9, ← e6, mu_ne (by omega), ← e5, mu_ne (by omega), ← e4, mu_at, r3 a hne]; exact l2
    · rw [c9 i (by omega)]; exact l3 i hi
end
