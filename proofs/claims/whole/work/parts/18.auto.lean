theorem cx_X5_forgetCount {SL : Nat} {xs : Nat → Int32} {d : Nat} {h : mm_H} {Q : Option Value → mm_H → Prop} {o : Nat} (hk_o : h.2.1 o = .inr 4) (k : Q none (mm_pI h o 17 (Int32.ofInt 0))) : mm_s SL xs (d + 1) 57 [.ref o] h Q := by
  refine e_X5_forgetCount rfl ?_
  refine sp_aload_n 1 rfl rfl rfl ?_
  refine sp_iconst 2 rfl rfl ?_
  refine sp_putI 5 rfl hk_o rfl ?_
  refine st_vret rfl rfl (Nat.le_refl _) (Nat.le_refl _) ?_
  exact k
def sx_X5_isJoint (a0 : Int32) : Int32 := (if a0 = ((Int16.ofInt (-142)).toInt32) then (Int32.ofInt 1) else (if a0 = ((Int16.ofInt (-143)).toInt32) then (Int32.ofInt 1) else (if 0 ≤ a0 then (Int32.ofInt 0) else (if a0 ≤ ((Int8.ofInt (-128)).toInt32) then (Int32.ofInt 0) else (Int32.ofInt 1)))))
theorem bz_X5_isJoint {a0 : Int32} : sx_X5_isJoint a0 = 0 ∨ sx_X5_isJoint a0 = 1 := by
  unfold sx_X5_isJoint
  repeat (first | exact Or.inl rfl | exact Or.inr rfl | exact bz_any | split)
theorem cx_X5_isJoint {SL : Nat} {xs : Nat → Int32} {d : Nat} {h : mm_H} {Q : Option Value → mm_H → Prop} {a0 : Int32} (k : Q (some (.int (sx_X5_isJoint a0))) h) : mm_s SL xs (d + 1) 61 [.int a0] h Q := by
  unfold sx_X5_isJoint at k
  refine e_X5_isJoint rfl ?_
  refine sp_iload_n 1 rfl rfl rfl ?_
  refine sp_sipush 4 rfl rfl ?_
  refine sp_ic_eq 7 rfl rfl (fun q4 => ?_) (fun q4 => ?_)
  · skip
    refine sp_iconst 25 rfl rfl ?_
    refine sp_goto rfl ?_
    refine st_zret rfl rfl (by decide) (Nat.le_refl _) (Nat.le_refl _) ?_
    rw [if_pos (show a0 = ((Int16.ofInt (-142)).toInt32) from q4)] at k
    exact k
  · skip
    refine sp_iload_n 8 rfl rfl rfl ?_
    refine sp_sipush 11 rfl rfl ?_
    refine sp_ic_eq 14 rfl rfl (fun q11 => ?_) (fun q11 => ?_)
    · skip
      refine sp_iconst 25 rfl rfl ?_
      refine sp_goto rfl ?_
      refine st_zret rfl rfl (by decide) (Nat.le_refl _) (Nat.le_refl _) ?_
      rw [if_neg (show ¬ (a0 = ((Int16.ofInt (-142)).toInt32)) from q4)] at k
      rw [if_pos (show a0 = ((Int16.ofInt (-143)).toInt32) from q11)] at k
      exact k
    · skip
      refine sp_iload_n 15 rfl rfl rfl ?_
      refine sp_if_ge 18 rfl rfl (fun q15 => ?_) (fun q15 => ?_)
      · skip
        refine sp_iconst 29 rfl rfl ?_
        refine st_zret rfl rfl (by decide) (Nat.le_refl _) (Nat.le_refl _) ?_
        rw [if_neg (show ¬ (a0 = ((Int16.ofInt (-142)).toInt32)) from q4)] at k
        rw [if_neg (show ¬ (a0 = ((Int16.ofInt (-143)).toInt32)) from q11)] at k
        rw [if_pos (show 0 ≤ a0 from q15)] at k
        exact k
      · skip
        refine sp_iload_n 19 rfl rfl rfl ?_
        refine sp_bipush 21 rfl rfl ?_
        refine sp_ic_le 24 rfl rfl (fun q21 => ?_) (fun q21 => ?_)
        · skip
          refine sp_iconst 29 rfl rfl ?_
          refine st_zret rfl rfl (by decide) (Nat.le_refl _) (Nat.le_refl _) ?_
          rw [if_neg (show ¬ (a0 = ((Int16.ofInt (-142)).toInt32)) from q4)] at k
          rw [if_neg (show ¬ (a0 = ((Int16.ofInt (-143)).toInt32)) from q11)] at k
          rw [if_neg (show ¬ (0 ≤ a0) from q15)] at k
          rw [if_pos (show a0 ≤ ((Int8.ofInt (-128)).toInt32) from q21)] at k
          exact k
        · skip
          refine sp_iconst 25 rfl rfl ?_
          refine sp_goto rfl ?_
          refine st_zret rfl rfl (by decide) (Nat.le_refl _) (Nat.le_refl _) ?_
          rw [if_neg (show ¬ (a0 = ((Int16.ofInt (-142)).toInt32)) from q4)] at k
          rw [if_neg (show ¬ (a0 = ((Int16.ofInt (-143)).toInt32)) from q11)] at k
          rw [if_neg (show ¬ (0 ≤ a0) from q15)] at k
          rw [if_neg (show ¬ (a0 ≤ ((Int8.ofInt (-128)).toInt32)) from q21)] at k
          exact k
def sx_X6_all (a0 : Int32) : Int64 := (if (Int32.ofInt 1) ≤ a0 then (if a0 ≤ ((Int8.ofInt 60).toInt32) then ((Int64.ofNat 1 <<< ((a0).toInt64 &&& 63)) - Int64.ofNat 1) else (Int64.ofInt (-1))) else (Int64.ofNat 0))
theorem cx_X6_all {SL : Nat} {xs : Nat → Int32} {d : Nat} {h : mm_H} {Q : Option Value → mm_H → Prop} {a0 : Int32} (k : Q (some (.long (sx_X6_all a0))) h) : mm_s SL xs (d + 1) 64 [.int a0] h Q := by
  unfold sx_X6_all at k
  refine e_X6_all rfl ?_
  refine sp_iload_n 1 rfl rfl rfl ?_
  refine sp_iconst 2 rfl rfl ?_
  refine sp_ic_ge 5 rfl rfl (fun q2 => ?_) (fun q2 => ?_)
  · skip
    refine sp_iload_n 10 rfl rfl rfl ?_
    refine sp_bipush 12 rfl rfl ?_
    refine sp_ic_le 15 rfl rfl (fun q12 => ?_) (fun q12 => ?_)
    · skip
      refine sp_lconst 22 rfl rfl ?_
      refine sp_iload_n 23 rfl rfl rfl ?_
      refine sp_lshl 24 rfl rfl ?_
      refine sp_lconst 25 rfl rfl ?_
      refine sp_lsub 26 rfl rfl ?_
      refine st_lret rfl rfl (Nat.le_refl _) (Nat.le_refl _) ?_
      rw [if_pos (show (Int32.ofInt 1) ≤ a0 from q2)] at k
      rw [if_pos (show a0 ≤ ((Int8.ofInt 60).toInt32) from q12)] at k
      exact k
    · skip
      refine sp_ldc2 18 rfl rfl ?_
      refine sp_goto rfl ?_
      refine st_lret rfl rfl (Nat.le_refl _) (Nat.le_refl _) ?_
      rw [if_pos (show (Int32.ofInt 1) ≤ a0 from q2)] at k
      rw [if_neg (show ¬ (a0 ≤ ((Int8.ofInt 60).toInt32)) from q12)] at k
      exact k
  · skip
    refine sp_lconst 6 rfl rfl ?_
    refine sp_goto rfl ?_
    refine st_lret rfl rfl (Nat.le_refl _) (Nat.le_refl _) ?_
    rw [if_neg (show ¬ ((Int32.ofInt 1) ≤ a0) from q2)] at k
    exact k
def sx_X6_has (a0 : Int64) (a1 : Int32) : Int32 := (if a1 < 0 then (Int32.ofInt 0) else (if ((Int8.ofInt 60).toInt32) ≤ a1 then (Int32.ofInt 0) else (if (lg_cmp (((a0).toUInt64 >>> ((a1).toInt64.toUInt64 &&& Int64.toUInt64 63)).toInt64 &&& Int64.ofNat 1) (Int64.ofNat 0)) = 0 then (Int32.ofInt 0) else (Int32.ofInt 1))))
theorem bz_X6_has {a0 : Int64} {a1 : Int32} : sx_X6_has a0 a1 = 0 ∨ sx_X6_has a0 a1 = 1 := by
  unfold sx_X6_has
  repeat (first | exact Or.inl rfl | exact Or.inr rfl | exact bz_any | split)
theorem cx_X6_has {SL : Nat} {xs : Nat → Int32} {d : Nat} {h : mm_H} {Q : Option Value → mm_H → Prop} {a0 : Int64} {a1 : Int32} (k : Q (some (.int (sx_X6_has a0 a1))) h) : mm_s SL xs (d + 1) 65 [.long a0, .int a1] h Q := by
  unfold sx_X6_has at k
  refine e_X6_has rfl ?_
  refine sp_iload_n 1 rfl rfl rfl ?_
  refine sp_if_lt 4 rfl rfl (fun q1 => ?_) (fun q1 => ?_)
  · skip
    refine sp_iconst 25 rfl rfl ?_
    refine st_zret rfl rfl (by decide) (Nat.le_refl _) (Nat.le_refl _) ?_
    rw [if_pos (show a1 < 0 from q1)] at k
    exact k
  · skip
    refine sp_iload_n 5 rfl rfl rfl ?_
    refine sp_bipush 7 rfl rfl ?_
    refine sp_ic_ge 10 rfl rfl (fun q7 => ?_) (fun q7 => ?_)
    · skip
      refine sp_iconst 25 rfl rfl ?_
      refine st_zret rfl rfl (by decide) (Nat.le_refl _) (Nat.le_refl _) ?_
      rw [if_neg (show ¬ (a1 < 0) from q1)] at k
      rw [if_pos (show ((Int8.ofInt 60).toInt32) ≤ a1 from q7)] at k
      exact k
    · skip
      refine sp_lload_n 11 rfl rfl rfl ?_
      refine sp_iload_n 12 rfl rfl rfl ?_
      refine sp_lushr 13 rfl rfl ?_
      refine sp_lconst 14 rfl rfl ?_
      refine sp_land 15 rfl rfl ?_
      refine sp_lconst 16 rfl rfl ?_
      refine sp_lcmp 17 rfl rfl ?_
      refine sp_if_eq 20 rfl rfl (fun q17 => ?_) (fun q17 => ?_)
      · skip
        refine sp_iconst 25 rfl rfl ?_
        refine st_zret rfl rfl (by decide) (Nat.le_refl _) (Nat.le_refl _) ?_
        rw [if_neg (show ¬ (a1 < 0) from q1)] at k
        rw [if_neg (show ¬ (((Int8.ofInt 60).toInt32) ≤ a1) from q7)] at k
        rw [if_pos (show (lg_cmp (((a0).toUInt64 >>> ((a1).toInt64.toUInt64 &&& Int64.toUInt64 63)).toInt64 &&& Int64.ofNat 1) (Int64.ofNat 0)) = 0 from q17)] at k
        exact k
      · skip
        refine sp_iconst 21 rfl rfl ?_
        refine sp_goto rfl ?_
        refine st_zret rfl rfl (by decide) (Nat.le_refl _) (Nat.le_refl _) ?_
        rw [if_neg (show ¬ (a1 < 0) from q1)] at k
        rw [if_neg (show ¬ (((Int8.ofInt 60).toInt32) ≤ a1) from q7)] at k
        rw [if_neg (show ¬ ((lg_cmp (((a0).toUInt64 >>> ((a1).toInt64.toUInt64 &&& Int64.toUInt64 63)).toInt64 &&& Int64.ofNat 1) (Int64.ofNat 0)) = 0) from q17)] at k
        exact k
def sx_X6_bit (a0 : Int32) : Int64 := (if a0 < 0 then (Int64.ofNat 0) else (if ((Int8.ofInt 60).toInt32) ≤ a0 then (Int64.ofNat 0) else (Int64.ofNat 1 <<< ((a0).toInt64 &&& 63))))
theorem cx_X6_bit {SL : Nat} {xs : Nat → Int32} {d : Nat} {h : mm_H} {Q : Option Value → mm_H → Prop} {a0 : Int32} (k : Q (some (.long (sx_X6_bit a0))) h) : mm_s SL xs (d + 1) 66 [.int a0] h Q := by
  unfold sx_X6_bit at k
  refine e_X6_bit rfl ?_
  refine sp_iload_n 1 rfl rfl rfl ?_
  refine sp_if_lt 4 rfl rfl (fun q1 => ?_) (fun q1 => ?_)
  · skip
    refine sp_lconst 17 rfl rfl ?_
    refine st_lret rfl rfl (Nat.le_refl _) (Nat.le_refl _) ?_
    rw [if_pos (show a0 < 0 from q1)] at k
    exact k
  · skip
    refine sp_iload_n 5 rfl rfl rfl ?_
    refine sp_bipush 7 rfl rfl ?_
    refine sp_ic_ge 10 rfl rfl (fun q7 => ?_) (fun q7 => ?_)
    · skip
      refine sp_lconst 17 rfl rfl ?_
      refine st_lret rfl rfl (Nat.le_refl _) (Nat.le_refl _) ?_
      rw [if_neg (show ¬ (a0 < 0) from q1)] at k
      rw [if_pos (show ((Int8.ofInt 60).toInt32) ≤ a0 from q7)] at k
      exact k
    · skip
      refine sp_lconst 11 rfl rfl ?_
      refine sp_iload_n 12 rfl rfl rfl ?_
      refine sp_lshl 13 rfl rfl ?_
      refine sp_goto rfl ?_
      refine st_lret rfl rfl (Nat.le_refl _) (Nat.le_refl _) ?_
      rw [if_neg (show ¬ (a0 < 0) from q1)] at k
      rw [if_neg (show ¬ (((Int8.ofInt 60).toInt32) ≤ a0) from q7)] at k
      exact k
def sx_X6_next (a0 : Int32) (a1 : Int32) (a2 : Int32) : Int32 := (if a2 = 0 then (if a0 ≤ 0 then (a1 - Int32.ofInt 1) else (a0 - Int32.ofInt 1)) else (if a1 ≤ (a0 + Int32.ofInt 1) then (Int32.ofInt 0) else (a0 + Int32.ofInt 1)))
theorem cx_X6_next {SL : Nat} {xs : Nat → Int32} {d : Nat} {h : mm_H} {Q : Option Value → mm_H → Prop} {a0 : Int32} {a1 : Int32} {a2 : Int32} (k : Q (some (.int (sx_X6_next a0 a1 a2))) h) : mm_s SL xs (d + 1) 68 [.int a0, .int a1, .int a2] h Q := by
  unfold sx_X6_next at k
  refine e_X6_next rfl ?_
  refine sp_iload_n 1 rfl rfl rfl ?_
  refine sp_if_eq 4 rfl rfl (fun q1 => ?_) (fun q1 => ?_)
  · skip
    refine sp_iload_n 20 rfl rfl rfl ?_
    refine sp_if_le 23 rfl rfl (fun q20 => ?_) (fun q20 => ?_)
    · skip
      refine sp_iload_n 30 rfl rfl rfl ?_
      refine sp_iconst 31 rfl rfl ?_
      refine sp_isub 32 rfl rfl ?_
      refine st_iret rfl rfl (Nat.le_refl _) (Nat.le_refl _) ?_
      rw [if_pos (show a2 = 0 from q1)] at k
      rw [if_pos (show a0 ≤ 0 from q20)] at k
      exact k
    · skip
      refine sp_iload_n 24 rfl rfl rfl ?_
      refine sp_iconst 25 rfl rfl ?_
      refine sp_isub 26 rfl rfl ?_
      refine sp_goto rfl ?_
      refine st_iret rfl rfl (Nat.le_refl _) (Nat.le_refl _) ?_
      rw [if_pos (show a2 = 0 from q1)] at k
      rw [if_neg (show ¬ (a0 ≤ 0) from q20)] at k
      exact k
  · skip
    refine sp_iload_n 5 rfl rfl rfl ?_
    refine sp_iconst 6 rfl rfl ?_
    refine sp_iadd 7 rfl rfl ?_
    refine sp_iload_n 8 rfl rfl rfl ?_
    refine sp_ic_ge 11 rfl rfl (fun q8 => ?_) (fun q8 => ?_)
    · skip
      refine sp_iconst 18 rfl rfl ?_
      refine st_iret rfl rfl (Nat.le_refl _) (Nat.le_refl _) ?_
      rw [if_neg (show ¬ (a2 = 0) from q1)] at k
      rw [if_pos (show a1 ≤ (a0 + Int32.ofInt 1) from q8)] at k
      exact k
    · skip
      refine sp_iload_n 12 rfl rfl rfl ?_
      refine sp_iconst 13 rfl rfl ?_
      refine sp_iadd 14 rfl rfl ?_
      refine sp_goto rfl ?_
      refine st_iret rfl rfl (Nat.le_refl _) (Nat.le_refl _) ?_
      rw [if_neg (show ¬ (a2 = 0) from q1)] at k
      rw [if_neg (show ¬ (a1 ≤ (a0 + Int32.ofInt 1)) from q8)] at k
      exact k
theorem cx_X7_fail {SL : Nat} {xs : Nat → Int32} {d : Nat} {h : mm_H} {Q : Option Value → mm_H → Prop} {o : Nat} {a0 : Int32} (hk_o : h.2.1 o = .inr 5) {r0 : Nat} (hr_r0 : h.2.2.2.2 o 0 = some r0) (hk_r0 : h.2.1 r0 = .inr 7) (k : (if (h.2.2.1 r0 2) = (Int32.ofInt 1) then Q (some (.int (Int32.ofInt 0))) (mm_pI (mm_pI h o 1 (Int32.ofInt 1)) o 2 ((mm_pI h o 1 (Int32.ofInt 1)).2.2.1 r0 3)) else Q (some (.int (Int32.ofInt 0))) (mm_pI (mm_pI h o 1 a0) o 2 ((mm_pI h o 1 a0).2.2.1 r0 3)))) : mm_s SL xs (d + 1) 74 [.ref o, .int a0] h Q := by
  refine e_X7_fail rfl ?_
  refine sp_aload_n 1 rfl rfl rfl ?_
  refine sp_aload_n 2 rfl rfl rfl ?_
  refine sp_getR 5 rfl hk_o hr_r0 rfl ?_
  refine sp_getI 8 rfl hk_r0 rfl ?_
  refine sp_iconst 9 rfl rfl ?_
  refine sp_ic_ne 12 rfl rfl (fun q9 => ?_) (fun q9 => ?_)
  · skip
    refine sp_iload_n 17 rfl rfl rfl ?_
    refine sp_putI 20 rfl hk_o rfl ?_
    refine sp_aload_n 21 rfl rfl rfl ?_
    refine sp_aload_n 22 rfl rfl rfl ?_
    refine sp_getR 25 rfl hk_o hr_r0 rfl ?_
    refine sp_getI 28 rfl hk_r0 rfl ?_
    refine sp_putI 31 rfl hk_o rfl ?_
    refine sp_iconst 32 rfl rfl ?_
    refine st_zret rfl rfl (by decide) (Nat.le_refl _) (Nat.le_refl _) ?_
    rw [if_neg (show ¬ ((h.2.2.1 r0 2) = (Int32.ofInt 1)) from q9)] at k
    exact k
  · skip
    refine sp_iconst 13 rfl rfl ?_
    refine sp_goto rfl ?_
    refine sp_putI 20 rfl hk_o rfl ?_
    refine sp_aload_n 21 rfl rfl rfl ?_
    refine sp_aload_n 22 rfl rfl rfl ?_
    refine sp_getR 25 rfl hk_o hr_r0 rfl ?_
    refine sp_getI 28 rfl hk_r0 rfl ?_
    refine sp_putI 31 rfl hk_o rfl ?_
    refine sp_iconst 32 rfl rfl ?_
    refine st_zret rfl rfl (by decide) (Nat.le_refl _) (Nat.le_refl _) ?_
    rw [if_pos (show (h.2.2.1 r0 2) = (Int32.ofInt 1) from q9)] at k
    exact k
def sx_X7_isUnit (a0 : Int32) : Int32 := (if a0 = (Int32.ofInt 2) then (Int32.ofInt 1) else (if a0 = ((Int8.ofInt 40).toInt32) then (Int32.ofInt 1) else (if a0 < ((Int16.ofInt 145).toInt32) then (Int32.ofInt 0) else (if ((Int16.ofInt 149).toInt32) < a0 then (Int32.ofInt 0) else (Int32.ofInt 1)))))
theorem bz_X7_isUnit {a0 : Int32} : sx_X7_isUnit a0 = 0 ∨ sx_X7_isUnit a0 = 1 := by
  unfold sx_X7_isUnit
  repeat (first | exact Or.inl rfl | exact Or.inr rfl | exact bz_any | split)
theorem cx_X7_isUnit {SL : Nat} {xs : Nat → Int32} {d : Nat} {h : mm_H} {Q : Option Value → mm_H → Prop} {a0 : Int32} (k : Q (some (.int (sx_X7_isUnit a0))) h) : mm_s SL xs (d + 1) 91 [.int a0] h Q := by
  unfold sx_X7_isUnit at k
  refine e_X7_isUnit rfl ?_
  refine sp_iload_n 1 rfl rfl rfl ?_
  refine sp_iconst 2 rfl rfl ?_
  refine sp_ic_eq 5 rfl rfl (fun q2 => ?_) (fun q2 => ?_)
  · skip
    refine sp_iconst 26 rfl rfl ?_
    refine sp_goto rfl ?_
    refine st_zret rfl rfl (by decide) (Nat.le_refl _) (Nat.le_refl _) ?_
    rw [if_pos (show a0 = (Int32.ofInt 2) from q2)] at k
    exact k
  · skip
    refine sp_iload_n 6 rfl rfl rfl ?_
    refine sp_bipush 8 rfl rfl ?_
    refine sp_ic_eq 11 rfl rfl (fun q8 => ?_) (fun q8 => ?_)
    · skip
      refine sp_iconst 26 rfl rfl ?_
      refine sp_goto rfl ?_
      refine st_zret rfl rfl (by decide) (Nat.le_refl _) (Nat.le_refl _) ?_
      rw [if_neg (show ¬ (a0 = (Int32.ofInt 2)) from q2)] at k
      rw [if_pos (show a0 = ((Int8.ofInt 40).toInt32) from q8)] at k
      exact k
    · skip
      refine sp_iload_n 12 rfl rfl rfl ?_
      refine sp_sipush 15 rfl rfl ?_
      refine sp_ic_lt 18 rfl rfl (fun q15 => ?_) (fun q15 => ?_)
      · skip
        refine sp_iconst 30 rfl rfl ?_
        refine st_zret rfl rfl (by decide) (Nat.le_refl _) (Nat.le_refl _) ?_
        rw [if_neg (show ¬ (a0 = (Int32.ofInt 2)) from q2)] at k
        rw [if_neg (show ¬ (a0 = ((Int8.ofInt 40).toInt32)) from q8)] at k
        rw [if_pos (show a0 < ((Int16.ofInt 145).toInt32) from q15)] at k
        exact k
      · skip
        refine sp_iload_n 19 rfl rfl rfl ?_
        refine sp_sipush 22 rfl rfl ?_
        refine sp_ic_gt 25 rfl rfl (fun q22 => ?_) (fun q22 => ?_)
        · skip
          refine sp_iconst 30 rfl rfl ?_
          refine st_zret rfl rfl (by decide) (Nat.le_refl _) (Nat.le_refl _) ?_
          rw [if_neg (show ¬ (a0 = (Int32.ofInt 2)) from q2)] at k
          rw [if_neg (show ¬ (a0 = ((Int8.ofInt 40).toInt32)) from q8)] at k
          rw [if_neg (show ¬ (a0 < ((Int16.ofInt 145).toInt32)) from q15)] at k
          rw [if_pos (show ((Int16.ofInt 149).toInt32) < a0 from q22)] at k
          exact k
        · skip
          refine sp_iconst 26 rfl rfl ?_
          refine sp_goto rfl ?_
          refine st_zret rfl rfl (by decide) (Nat.le_refl _) (Nat.le_refl _) ?_
          rw [if_neg (show ¬ (a0 = (Int32.ofInt 2)) from q2)] at k
          rw [if_neg (show ¬ (a0 = ((Int8.ofInt 40).toInt32)) from q8)] at k
          rw [if_neg (show ¬ (a0 < ((Int16.ofInt 145).toInt32)) from q15)] at k
          rw [if_neg (show ¬ (((Int16.ofInt 149).toInt32) < a0) from q22)] at k
          exact k
def sx_X9_withLetter (a0 : Int64) (a1 : Int32) : Int64 := ((((a0 * Int64.ofInt (32)) + (a1).toInt64) - Int64.ofInt (97)) + Int64.ofNat 1)
theorem cx_X9_withLetter {SL : Nat} {xs : Nat → Int32} {d : Nat} {h : mm_H} {Q : Option Value → mm_H → Prop} {a0 : Int64} {a1 : Int32} (k : Q (some (.long (sx_X9_withLetter a0 a1))) h) : mm_s SL xs (d + 1) 110 [.long a0, .int a1] h Q := by
  unfold sx_X9_withLetter at k
  refine e_X9_withLetter rfl ?_
  refine sp_lload_n 1 rfl rfl rfl ?_
  refine sp_ldc2 4 rfl rfl ?_
  refine sp_lmul 5 rfl rfl ?_
  refine sp_iload_n 6 rfl rfl rfl ?_
  refine sp_i2l 7 rfl rfl ?_
  refine sp_ladd 8 rfl rfl ?_
  refine sp_ldc2 11 rfl rfl ?_
  refine sp_lsub 12 rfl rfl ?_
  refine sp_lconst 13 rfl rfl ?_
  refine sp_ladd 14 rfl rfl ?_
  refine st_lret rfl rfl (Nat.le_refl _) (Nat.le_refl _) ?_
  exact k
def sx_X9_isBlank (a0 : Int32) : Int32 := (if a0 = ((Int8.ofInt 32).toInt32) then (Int32.ofInt 1) else (if a0 = ((Int8.ofInt 10).toInt32) then (Int32.ofInt 1) else (Int32.ofInt 0)))
theorem bz_X9_isBlank {a0 : Int32} : sx_X9_isBlank a0 = 0 ∨ sx_X9_isBlank a0 = 1 := by
  unfold sx_X9_isBlank
  repeat (first | exact Or.inl rfl | exact Or.inr rfl | exact bz_any | split)
theorem cx_X9_isBlank {SL : Nat} {xs : Nat → Int32} {d : Nat} {h : mm_H} {Q : Option Value → mm_H → Prop} {a0 : Int32} (k : Q (some (.int (sx_X9_isBlank a0))) h) : mm_s SL xs (d + 1) 111 [.int a0] h Q := by
  unfold sx_X9_isBlank at k
  refine e_X9_isBlank rfl ?_
  refine sp_iload_n 1 rfl rfl rfl ?_
  refine sp_bipush 3 rfl rfl ?_
  refine sp_ic_eq 6 rfl rfl (fun q3 => ?_) (fun q3 => ?_)
  · skip
    refine sp_iconst 13 rfl rfl ?_
    refine sp_goto rfl ?_
    refine st_zret rfl rfl (by decide) (Nat.le_refl _) (Nat.le_refl _) ?_
    rw [if_pos (show a0 = ((Int8.ofInt 32).toInt32) from q3)] at k
    exact k
  · skip
    refine sp_iload_n 7 rfl rfl rfl ?_
    refine sp_bipush 9 rfl rfl ?_
    refine sp_ic_ne 12 rfl rfl (fun q9 => ?_) (fun q9 => ?_)
    · skip
      refine sp_iconst 17 rfl rfl ?_
      refine st_zret rfl rfl (by decide) (Nat.le_refl _) (Nat.le_refl _) ?_
      rw [if_neg (show ¬ (a0 = ((Int8.ofInt 32).toInt32)) from q3)] at k
      rw [if_neg (show ¬ (a0 = ((Int8.ofInt 10).toInt32)) from q9)] at k
      exact k
    · skip
      refine sp_iconst 13 rfl rfl ?_
      refine sp_goto rfl ?_
      refine st_zret rfl rfl (by decide) (Nat.le_refl _) (Nat.le_refl _) ?_
      rw [if_neg (show ¬ (a0 = ((Int8.ofInt 32).toInt32)) from q3)] at k
      rw [if_pos (show a0 = ((Int8.ofInt 10).toInt32) from q9)] at k
      exact k
def sx_X9_isLetter (a0 : Int32) : Int32 := (if a0 < ((Int8.ofInt 97).toInt32) then (Int32.ofInt 0) else (if ((Int8.ofInt 122).toInt32) < a0 then (Int32.ofInt 0) else (Int32.ofInt 1)))
theorem bz_X9_isLetter {a0 : Int32} : sx_X9_isLetter a0 = 0 ∨ sx_X9_isLetter a0 = 1 := by
  unfold sx_X9_isLetter
  repeat (first | exact Or.inl rfl | exact Or.inr rfl | exact bz_any | split)
theorem cx_X9_isLetter {SL : Nat} {xs : Nat → Int32} {d : Nat} {h : mm_H} {Q : Option Value → mm_H → Prop} {a0 : Int32} (k : Q (some (.int (sx_X9_isLetter a0))) h) : mm_s SL xs (d + 1) 112 [.int a0] h Q := by
  unfold sx_X9_isLetter at k
  refine e_X9_isLetter rfl ?_
  refine sp_iload_n 1 rfl rfl rfl ?_
  refine sp_bipush 3 rfl rfl ?_
  refine sp_ic_lt 6 rfl rfl (fun q3 => ?_) (fun q3 => ?_)
  · skip
    refine sp_iconst 17 rfl rfl ?_
    refine st_zret rfl rfl (by decide) (Nat.le_refl _) (Nat.le_refl _) ?_
    rw [if_pos (show a0 < ((Int8.ofInt 97).toInt32) from q3)] at k
    exact k
  · skip
    refine sp_iload_n 7 rfl rfl rfl ?_
    refine sp_bipush 9 rfl rfl ?_
    refine sp_ic_gt 12 rfl rfl (fun q9 => ?_) (fun q9 => ?_)
    · skip
      refine sp_iconst 17 rfl rfl ?_
      refine st_zret rfl rfl (by decide) (Nat.le_refl _) (Nat.le_refl _) ?_
      rw [if_neg (show ¬ (a0 < ((Int8.ofInt 97).toInt32)) from q3)] at k
      rw [if_pos (show ((Int8.ofInt 122).toInt32) < a0 from q9)] at k
      exact k
    · skip
      refine sp_iconst 13 rfl rfl ?_
      refine sp_goto rfl ?_
      refine st_zret rfl rfl (by decide) (Nat.le_refl _) (Nat.le_refl _) ?_
      rw [if_neg (show ¬ (a0 < ((Int8.ofInt 97).toInt32)) from q3)] at k
      rw [if_neg (show ¬ (((Int8.ofInt 122).toInt32) < a0) from q9)] at k
      exact k
def sx_X9_isDigit (a0 : Int32) : Int32 := (if a0 < ((Int8.ofInt 48).toInt32) then (Int32.ofInt 0) else (if ((Int8.ofInt 57).toInt32) < a0 then (Int32.ofInt 0) else (Int32.ofInt 1)))
theorem bz_X9_isDigit {a0 : Int32} : sx_X9_isDigit a0 = 0 ∨ sx_X9_isDigit a0 = 1 := by
  unfold sx_X9_isDigit
  repeat (first | exact Or.inl rfl | exact Or.inr rfl | exact bz_any | split)
theorem cx_X9_isDigit {SL : Nat} {xs : Nat → Int32} {d : Nat} {h : mm_H} {Q : Option Value → mm_H → Prop} {a0 : Int32} (k : Q (some (.int (sx_X9_isDigit a0))) h) : mm_s SL xs (d + 1) 113 [.int a0] h Q := by
  unfold sx_X9_isDigit at k
  refine e_X9_isDigit rfl ?_
  refine sp_iload_n 1 rfl rfl rfl ?_
  refine sp_bipush 3 rfl rfl ?_
  refine sp_ic_lt 6 rfl rfl (fun q3 => ?_) (fun q3 => ?_)
  · skip
    refine sp_iconst 17 rfl rfl ?_
    refine st_zret rfl rfl (by decide) (Nat.le_refl _) (Nat.le_refl _) ?_
    rw [if_pos (show a0 < ((Int8.ofInt 48).toInt32) from q3)] at k
    exact k
  · skip
    refine sp_iload_n 7 rfl rfl rfl ?_
    refine sp_bipush 9 rfl rfl ?_
    refine sp_ic_gt 12 rfl rfl (fun q9 => ?_) (fun q9 => ?_)
    · skip
      refine sp_iconst 17 rfl rfl ?_
      refine st_zret rfl rfl (by decide) (Nat.le_refl _) (Nat.le_refl _) ?_
      rw [if_neg (show ¬ (a0 < ((Int8.ofInt 48).toInt32)) from q3)] at k
      rw [if_pos (show ((Int8.ofInt 57).toInt32) < a0 from q9)] at k
      exact k
    · skip
      refine sp_iconst 13 rfl rfl ?_
      refine sp_goto rfl ?_
      refine st_zret rfl rfl (by decide) (Nat.le_refl _) (Nat.le_refl _) ?_
      rw [if_neg (show ¬ (a0 < ((Int8.ofInt 48).toInt32)) from q3)] at k
      rw [if_neg (show ¬ (((Int8.ofInt 57).toInt32) < a0) from q9)] at k
      exact k
theorem cx_X10_end {SL : Nat} {xs : Nat → Int32} {d : Nat} {h : mm_H} {Q : Option Value → mm_H → Prop} {o : Nat} {a0 : Int32} (hk_o : h.2.1 o = .inr 8) {r0 : Nat} (hr_r0 : h.2.2.2.2 o 0 = some r0) (hk_r0 : h.2.1 r0 = .inr 5) {r1 : Nat} (hr_r1 : h.2.2.2.2 r0 0 = some r1) (hk_r1 : h.2.1 r1 = .inr 7) (k : (if a0 < 0 then Q (some (.int (Int32.ofInt (-1)))) h else (if a0 ≤ (h.2.2.1 r1 1) then Q (some (.int a0)) (mm_pI h r1 1 a0) else Q (some (.int (Int32.ofInt (-1)))) h))) : mm_s SL xs (d + 1) 117 [.ref o, .int a0] h Q := by
  refine e_X10_end rfl ?_
  refine sp_aload_n 1 rfl rfl rfl ?_
  refine sp_getR 4 rfl hk_o hr_r0 rfl ?_
  refine sp_getR 7 rfl hk_r0 hr_r1 rfl ?_
  refine sp_astore_n 8 rfl rfl rfl ?_
  refine sp_iload_n 9 rfl rfl rfl ?_
  refine sp_if_lt 12 rfl rfl (fun q9 => ?_) (fun q9 => ?_)
  · skip
    refine sp_iconst 21 rfl rfl ?_
    refine st_iret rfl rfl (Nat.le_refl _) (Nat.le_refl _) ?_
    rw [if_pos (show a0 < 0 from q9)] at k
    exact k
  · skip
    refine sp_iload_n 13 rfl rfl rfl ?_
    refine sp_aload_n 14 rfl rfl rfl ?_
    refine sp_getI 17 rfl hk_r1 rfl ?_
    refine sp_ic_le 20 rfl rfl (fun q17 => ?_) (fun q17 => ?_)
    · skip
      refine sp_aload_n 23 rfl rfl rfl ?_
      refine sp_iload_n 24 rfl rfl rfl ?_
      refine sp_putI 27 rfl hk_r1 rfl ?_
      refine sp_iload_n 28 rfl rfl rfl ?_
      refine st_iret rfl rfl (Nat.le_refl _) (Nat.le_refl _) ?_
      rw [if_neg (show ¬ (a0 < 0) from q9)] at k
      rw [if_pos (show a0 ≤ (h.2.2.1 r1 1) from q17)] at k
      exact k
    · skip
      refine sp_iconst 21 rfl rfl ?_
      refine st_iret rfl rfl (Nat.le_refl _) (Nat.le_refl _) ?_
      rw [if_neg (show ¬ (a0 < 0) from q9)] at k
      rw [if_neg (show ¬ (a0 ≤ (h.2.2.1 r1 1)) from q17)] at k
      exact k
theorem cx_X10_keep {SL : Nat} {xs : Nat → Int32} {d : Nat} {h : mm_H} {Q : Option Value → mm_H → Prop} {o : Nat} {a0 : Int32} (hk_o : h.2.1 o = .inr 8) {r0 : Nat} (hr_r0 : h.2.2.2.2 o 4 = some r0) (hk_r0 : h.2.1 r0 = .inr 3) (k : (if a0 < 0 then Q (some (.int (Int32.ofInt (-1)))) h else (if a0 ≤ (h.2.2.1 r0 1) then Q (some (.int a0)) (mm_pI h r0 1 a0) else Q (some (.int (Int32.ofInt (-1)))) h))) : mm_s SL xs (d + 1) 132 [.ref o, .int a0] h Q := by
  refine e_X10_keep rfl ?_
  refine sp_iload_n 1 rfl rfl rfl ?_
  refine sp_if_lt 4 rfl rfl (fun q1 => ?_) (fun q1 => ?_)
  · skip
    refine sp_iconst 16 rfl rfl ?_
    refine st_iret rfl rfl (Nat.le_refl _) (Nat.le_refl _) ?_
    rw [if_pos (show a0 < 0 from q1)] at k
    exact k
  · skip
    refine sp_iload_n 5 rfl rfl rfl ?_
    refine sp_aload_n 6 rfl rfl rfl ?_
    refine sp_getR 9 rfl hk_o hr_r0 rfl ?_
    refine sp_getI 12 rfl hk_r0 rfl ?_
    refine sp_ic_le 15 rfl rfl (fun q12 => ?_) (fun q12 => ?_)
    · skip
      refine sp_aload_n 18 rfl rfl rfl ?_
      refine sp_getR 21 rfl hk_o hr_r0 rfl ?_
      refine sp_iload_n 22 rfl rfl rfl ?_
      refine sp_putI 25 rfl hk_r0 rfl ?_
      refine sp_iload_n 26 rfl rfl rfl ?_
      refine st_iret rfl rfl (Nat.le_refl _) (Nat.le_refl _) ?_
      rw [if_neg (show ¬ (a0 < 0) from q1)] at k
      rw [if_pos (show a0 ≤ (h.2.2.1 r0 1) from q12)] at k
      exact k
    · skip
      refine sp_iconst 16 rfl rfl ?_
      refine st_iret rfl rfl (Nat.le_refl _) (Nat.le_refl _) ?_
      rw [if_neg (show ¬ (a0 < 0) from q1)] at k
      rw [if_neg (show ¬ (a0 ≤ (h.2.2.1 r0 1)) from q12)] at k
      exact k
theorem cx_X10_later {SL : Nat} {xs : Nat → Int32} {d : Nat} {h : mm_H} {Q : Option Value → mm_H → Prop} {o : Nat} {a0 : Int32} (hk_o : h.2.1 o = .inr 8) (k : (if a0 < 0 then Q (some (.int (Int32.ofInt (-1)))) h else (if ((Int16.ofInt 1000).toInt32) < a0 then Q (some (.int (Int32.ofInt (-1)))) h else (if a0 ≤ (Int32.ofInt (100000) - (h.2.2.1 o 9)) then Q (some (.int ((mm_pI h o 9 ((h.2.2.1 o 9) + a0)).2.2.1 o 9))) (mm_pI h o 9 ((h.2.2.1 o 9) + a0)) else Q (some (.int (Int32.ofInt (-1)))) h)))) : mm_s SL xs (d + 1) 149 [.ref o, .int a0] h Q := by
  refine e_X10_later rfl ?_
  refine sp_iload_n 1 rfl rfl rfl ?_
  refine sp_if_lt 4 rfl rfl (fun q1 => ?_) (fun q1 => ?_)
  · skip
    refine sp_iconst 24 rfl rfl ?_
    refine st_iret rfl rfl (Nat.le_refl _) (Nat.le_refl _) ?_
    rw [if_pos (show a0 < 0 from q1)] at k
    exact k
  · skip
    refine sp_iload_n 5 rfl rfl rfl ?_
    refine sp_sipush 8 rfl rfl ?_
    refine sp_ic_gt 11 rfl rfl (fun q8 => ?_) (fun q8 => ?_)
    · skip
      refine sp_iconst 24 rfl rfl ?_
      refine st_iret rfl rfl (Nat.le_refl _) (Nat.le_refl _) ?_
      rw [if_neg (show ¬ (a0 < 0) from q1)] at k
      rw [if_pos (show ((Int16.ofInt 1000).toInt32) < a0 from q8)] at k
      exact k
    · skip
      refine sp_iload_n 12 rfl rfl rfl ?_
      refine sp_ldcw 15 rfl rfl ?_
      refine sp_aload_n 16 rfl rfl rfl ?_
      refine sp_getI 19 rfl hk_o rfl ?_
      refine sp_isub 20 rfl rfl ?_
      refine sp_ic_le 23 rfl rfl (fun q20 => ?_) (fun q20 => ?_)
      · skip
        refine sp_aload_n 26 rfl rfl rfl ?_
        refine sp_dup 27 rfl rfl rfl ?_
        refine sp_getI 30 rfl hk_o rfl ?_
        refine sp_iload_n 31 rfl rfl rfl ?_
        refine sp_iadd 32 rfl rfl ?_
        refine sp_putI 35 rfl hk_o rfl ?_
        refine sp_aload_n 36 rfl rfl rfl ?_
        refine sp_getI 39 rfl hk_o rfl ?_
        refine st_iret rfl rfl (Nat.le_refl _) (Nat.le_refl _) ?_
        rw [if_neg (show ¬ (a0 < 0) from q1)] at k
        rw [if_neg (show ¬ (((Int16.ofInt 1000).toInt32) < a0) from q8)] at k
        rw [if_pos (show a0 ≤ (Int32.ofInt (100000) - (h.2.2.1 o 9)) from q20)] at k
        exact k
      · skip
        refine sp_iconst 24 rfl rfl ?_
        refine st_iret rfl rfl (Nat.le_refl _) (Nat.le_refl _) ?_
        rw [if_neg (show ¬ (a0 < 0) from q1)] at k
        rw [if_neg (show ¬ (((Int16.ofInt 1000).toInt32) < a0) from q8)] at k
        rw [if_neg (show ¬ (a0 ≤ (Int32.ofInt (100000) - (h.2.2.1 o 9))) from q20)] at k
        exact k
theorem cx_X10_isPost {SL : Nat} {xs : Nat → Int32} {d : Nat} {h : mm_H} {Q : Option Value → mm_H → Prop} {o : Nat} {a0 : Int32} (hk_o : h.2.1 o = .inr 8) {r0 : Nat} (hr_r0 : h.2.2.2.2 o 7 = some r0) (hk_r0 : h.2.1 r0 = .inr 4) (k : (if a0 < 0 then Q (some (.int (Int32.ofInt 0))) h else (if (h.2.2.1 r0 0) ≤ a0 then Q (some (.int (Int32.ofInt 0))) h else (if ((Int8.ofInt 60).toInt32) ≤ a0 then Q (some (.int (Int32.ofInt 0))) h else Q (some (.int (Int32.ofInt 1))) h)))) : mm_s SL xs (d + 1) 157 [.ref o, .int a0] h Q := by
  refine e_X10_isPost rfl ?_
  refine sp_iload_n 1 rfl rfl rfl ?_
  refine sp_if_lt 4 rfl rfl (fun q1 => ?_) (fun q1 => ?_)
  · skip
    refine sp_iconst 26 rfl rfl ?_
    refine st_zret rfl rfl (by decide) (Nat.le_refl _) (Nat.le_refl _) ?_
    rw [if_pos (show a0 < 0 from q1)] at k
    exact k
  · skip
    refine sp_iload_n 5 rfl rfl rfl ?_
    refine sp_aload_n 6 rfl rfl rfl ?_
    refine sp_getR 9 rfl hk_o hr_r0 rfl ?_
    refine sp_getI 12 rfl hk_r0 rfl ?_
    refine sp_ic_ge 15 rfl rfl (fun q12 => ?_) (fun q12 => ?_)
    · skip
      refine sp_iconst 26 rfl rfl ?_
      refine st_zret rfl rfl (by decide) (Nat.le_refl _) (Nat.le_refl _) ?_
      rw [if_neg (show ¬ (a0 < 0) from q1)] at k
      rw [if_pos (show (h.2.2.1 r0 0) ≤ a0 from q12)] at k
      exact k
    · skip
      refine sp_iload_n 16 rfl rfl rfl ?_
      refine sp_bipush 18 rfl rfl ?_
      refine sp_ic_ge 21 rfl rfl (fun q18 => ?_) (fun q18 => ?_)
      · skip
        refine sp_iconst 26 rfl rfl ?_
        refine st_zret rfl rfl (by decide) (Nat.le_refl _) (Nat.le_refl _) ?_
        rw [if_neg (show ¬ (a0 < 0) from q1)] at k
        rw [if_neg (show ¬ ((h.2.2.1 r0 0) ≤ a0) from q12)] at k
        rw [if_pos (show ((Int8.ofInt 60).toInt32) ≤ a0 from q18)] at k
        exact k
      · skip
        refine sp_iconst 22 rfl rfl ?_
        refine sp_goto rfl ?_
        refine st_zret rfl rfl (by decide) (Nat.le_refl _) (Nat.le_refl _) ?_
        rw [if_neg (show ¬ (a0 < 0) from q1)] at k
        rw [if_neg (show ¬ ((h.2.2.1 r0 0) ≤ a0) from q12)] at k
        rw [if_neg (show ¬ (((Int8.ofInt 60).toInt32) ≤ a0) from q18)] at k
        exact k
def sx_X10_isPlain (a0 : Int32) : Int32 := (if a0 < (Int32.ofInt 1) then (Int32.ofInt 0) else (if ((Int8.ofInt 60).toInt32) < a0 then (Int32.ofInt 0) else (Int32.ofInt 1)))
theorem bz_X10_isPlain {a0 : Int32} : sx_X10_isPlain a0 = 0 ∨ sx_X10_isPlain a0 = 1 := by
  unfold sx_X10_isPlain
  repeat (first | exact Or.inl rfl | exact Or.inr rfl | exact bz_any | split)
theorem cx_X10_isPlain {SL : Nat} {xs : Nat → Int32} {d : Nat} {h : mm_H} {Q : Option Value → mm_H → Prop} {a0 : Int32} (k : Q (some (.int (sx_X10_isPlain a0))) h) : mm_s SL xs (d + 1) 159 [.int a0] h Q := by
  unfold sx_X10_isPlain at k
  refine e_X10_isPlain rfl ?_
  refine sp_iload_n 1 rfl rfl rfl ?_
  refine sp_iconst 2 rfl rfl ?_
  refine sp_ic_lt 5 rfl rfl (fun q2 => ?_) (fun q2 => ?_)
  · skip
    refine sp_iconst 16 rfl rfl ?_
    refine st_zret rfl rfl (by decide) (Nat.le_refl _) (Nat.le_refl _) ?_
    rw [if_pos (show a0 < (Int32.ofInt 1) from q2)] at k
    exact k
  · skip
    refine sp_iload_n 6 rfl rfl rfl ?_
    refine sp_bipush 8 rfl rfl ?_
    refine sp_ic_gt 11 rfl rfl (fun q8 => ?_) (fun q8 => ?_)
    · skip
      refine sp_iconst 16 rfl rfl ?_
      refine st_zret rfl rfl (by decide) (Nat.le_refl _) (Nat.le_refl _) ?_
      rw [if_neg (show ¬ (a0 < (Int32.ofInt 1)) from q2)] at k
      rw [if_pos (show ((Int8.ofInt 60).toInt32) < a0 from q8)] at k
      exact k
    · skip
      refine sp_iconst 12 rfl rfl ?_
      refine sp_goto rfl ?_
      refine st_zret rfl rfl (by decide) (Nat.le_refl _) (Nat.le_refl _) ?_
      rw [if_neg (show ¬ (a0 < (Int32.ofInt 1)) from q2)] at k
      rw [if_neg (show ¬ (((Int8.ofInt 60).toInt32) < a0) from q8)] at k
      exact k
def sx_X10_isLarge (a0 : Int64) (a1 : Int32) : Int32 := (if (lg_cmp a0 (Int64.ofNat 1)) < 0 then (Int32.ofInt 0) else (if 0 < (lg_cmp a0 (Int64.ofInt (1000000000000))) then (Int32.ofInt 0) else (if a1 < (Int32.ofInt 1) then (Int32.ofInt 0) else (if ((Int16.ofInt 1000).toInt32) < a1 then (Int32.ofInt 0) else (Int32.ofInt 1)))))
theorem bz_X10_isLarge {a0 : Int64} {a1 : Int32} : sx_X10_isLarge a0 a1 = 0 ∨ sx_X10_isLarge a0 a1 = 1 := by
  unfold sx_X10_isLarge
  repeat (first | exact Or.inl rfl | exact Or.inr rfl | exact bz_any | split)
theorem cx_X10_isLarge {SL : Nat} {xs : Nat → Int32} {d : Nat} {h : mm_H} {Q : Option Value → mm_H → Prop} {a0 : Int64} {a1 : Int32} (k : Q (some (.int (sx_X10_isLarge a0 a1))) h) : mm_s SL xs (d + 1) 160 [.long a0, .int a1] h Q := by
  unfold sx_X10_isLarge at k
  refine e_X10_isLarge rfl ?_
  refine sp_lload_n 1 rfl rfl rfl ?_
  refine sp_lconst 2 rfl rfl ?_
  refine sp_lcmp 3 rfl rfl ?_
  refine sp_if_lt 6 rfl rfl (fun q3 => ?_) (fun q3 => ?_)
  · skip
    refine sp_iconst 31 rfl rfl ?_
    refine st_zret rfl rfl (by decide) (Nat.le_refl _) (Nat.le_refl _) ?_
    rw [if_pos (show (lg_cmp a0 (Int64.ofNat 1)) < 0 from q3)] at k
    exact k
  · skip
    refine sp_lload_n 7 rfl rfl rfl ?_
    refine sp_ldc2 10 rfl rfl ?_
    refine sp_lcmp 11 rfl rfl ?_
    refine sp_if_gt 14 rfl rfl (fun q11 => ?_) (fun q11 => ?_)
    · skip
      refine sp_iconst 31 rfl rfl ?_
      refine st_zret rfl rfl (by decide) (Nat.le_refl _) (Nat.le_refl _) ?_
      rw [if_neg (show ¬ ((lg_cmp a0 (Int64.ofNat 1)) < 0) from q3)] at k
      rw [if_pos (show 0 < (lg_cmp a0 (Int64.ofInt (1000000000000))) from q11)] at k
      exact k
    · skip
      refine sp_iload_n 15 rfl rfl rfl ?_
      refine sp_iconst 16 rfl rfl ?_
      refine sp_ic_lt 19 rfl rfl (fun q16 => ?_) (fun q16 => ?_)
      · skip
        refine sp_iconst 31 rfl rfl ?_
        refine st_zret rfl rfl (by decide) (Nat.le_refl _) (Nat.le_refl _) ?_
        rw [if_neg (show ¬ ((lg_cmp a0 (Int64.ofNat 1)) < 0) from q3)] at k
        rw [if_neg (show ¬ (0 < (lg_cmp a0 (Int64.ofInt (1000000000000)))) from q11)] at k
        rw [if_pos (show a1 < (Int32.ofInt 1) from q16)] at k
        exact k
      · skip
        refine sp_iload_n 20 rfl rfl rfl ?_
        refine sp_sipush 23 rfl rfl ?_
        refine sp_ic_gt 26 rfl rfl (fun q23 => ?_) (fun q23 => ?_)
        · skip
          refine sp_iconst 31 rfl rfl ?_
          refine st_zret rfl rfl (by decide) (Nat.le_refl _) (Nat.le_refl _) ?_
          rw [if_neg (show ¬ ((lg_cmp a0 (Int64.ofNat 1)) < 0) from q3)] at k
          rw [if_neg (show ¬ (0 < (lg_cmp a0 (Int64.ofInt (1000000000000)))) from q11)] at k
          rw [if_neg (show ¬ (a1 < (Int32.ofInt 1)) from q16)] at k
          rw [if_pos (show ((Int16.ofInt 1000).toInt32) < a1 from q23)] at k
          exact k
        · skip
          refine sp_iconst 27 rfl rfl ?_
          refine sp_goto rfl ?_
          refine st_zret rfl rfl (by decide) (Nat.le_refl _) (Nat.le_refl _) ?_
          rw [if_neg (show ¬ ((lg_cmp a0 (Int64.ofNat 1)) < 0) from q3)] at k
          rw [if_neg (show ¬ (0 < (lg_cmp a0 (Int64.ofInt (1000000000000)))) from q11)] at k
          rw [if_neg (show ¬ (a1 < (Int32.ofInt 1)) from q16)] at k
          rw [if_neg (show ¬ (((Int16.ofInt 1000).toInt32) < a1) from q23)] at k
          exact k
def sx_X10_isStep (a0 : Int32) : Int32 := (if a0 < (Int32.ofInt 1) then (Int32.ofInt 0) else (if ((Int16.ofInt 3000).toInt32) < a0 then (Int32.ofInt 0) else (Int32.ofInt 1)))
theorem bz_X10_isStep {a0 : Int32} : sx_X10_isStep a0 = 0 ∨ sx_X10_isStep a0 = 1 := by
  unfold sx_X10_isStep
  repeat (first | exact Or.inl rfl | exact Or.inr rfl | exact bz_any | split)
theorem cx_X10_isStep {SL : Nat} {xs : Nat → Int32} {d : Nat} {h : mm_H} {Q : Option Value → mm_H → Prop} {a0 : Int32} (k : Q (some (.int (sx_X10_isStep a0))) h) : mm_s SL xs (d + 1) 161 [.int a0] h Q := by
  unfold sx_X10_isStep at k
  refine e_X10_isStep rfl ?_
  refine sp_iload_n 1 rfl rfl rfl ?_
  refine sp_iconst 2 rfl rfl ?_
  refine sp_ic_lt 5 rfl rfl (fun q2 => ?_) (fun q2 => ?_)
  · skip
    refine sp_iconst 17 rfl rfl ?_
    refine st_zret rfl rfl (by decide) (Nat.le_refl _) (Nat.le_refl _) ?_
    rw [if_pos (show a0 < (Int32.ofInt 1) from q2)] at k
    exact k
  · skip
    refine sp_iload_n 6 rfl rfl rfl ?_
    refine sp_sipush 9 rfl rfl ?_
    refine sp_ic_gt 12 rfl rfl (fun q9 => ?_) (fun q9 => ?_)
    · skip
      refine sp_iconst 17 rfl rfl ?_
      refine st_zret rfl rfl (by decide) (Nat.le_refl _) (Nat.le_refl _) ?_
      rw [if_neg (show ¬ (a0 < (Int32.ofInt 1)) from q2)] at k
      rw [if_pos (show ((Int16.ofInt 3000).toInt32) < a0 from q9)] at k
      exact k
    · skip
      refine sp_iconst 13 rfl rfl ?_
      refine sp_goto rfl ?_
      refine st_zret rfl rfl (by decide) (Nat.le_refl _) (Nat.le_refl _) ?_
      rw [if_neg (show ¬ (a0 < (Int32.ofInt 1)) from q2)] at k
      rw [if_neg (show ¬ (((Int16.ofInt 3000).toInt32) < a0) from q9)] at k
      exact k
def sx_X10_isZeroOrOne (a0 : Int32) : Int32 := (if a0 = 0 then (Int32.ofInt 1) else (if a0 = (Int32.ofInt 1) then (Int32.ofInt 1) else (Int32.ofInt 0)))
theorem bz_X10_isZeroOrOne {a0 : Int32} : sx_X10_isZeroOrOne a0 = 0 ∨ sx_X10_isZeroOrOne a0 = 1 := by
  unfold sx_X10_isZeroOrOne
  repeat (first | exact Or.inl rfl | exact Or.inr rfl | exact bz_any | split)
theorem cx_X10_isZeroOrOne {SL : Nat} {xs : Nat → Int32} {d : Nat} {h : mm_H} {Q : Option Value → mm_H → Prop} {a0 : Int32} (k : Q (some (.int (sx_X10_isZeroOrOne a0))) h) : mm_s SL xs (d + 1) 163 [.int a0] h Q := by
  unfold sx_X10_isZeroOrOne at k
  refine e_X10_isZeroOrOne rfl ?_
  refine sp_iload_n 1 rfl rfl rfl ?_
  refine sp_if_eq 4 rfl rfl (fun q1 => ?_) (fun q1 => ?_)
  · skip
    refine sp_iconst 10 rfl rfl ?_
    refine sp_goto rfl ?_
    refine st_zret rfl rfl (by decide) (Nat.le_refl _) (Nat.le_refl _) ?_
    rw [if_pos (show a0 = 0 from q1)] at k
    exact k
  · skip
    refine sp_iload_n 5 rfl rfl rfl ?_
    refine sp_iconst 6 rfl rfl ?_
    refine sp_ic_ne 9 rfl rfl (fun q6 => ?_) (fun q6 => ?_)
    · skip
      refine sp_iconst 14 rfl rfl ?_
      refine st_zret rfl rfl (by decide) (Nat.le_refl _) (Nat.le_refl _) ?_
      rw [if_neg (show ¬ (a0 = 0) from q1)] at k
      rw [if_neg (show ¬ (a0 = (Int32.ofInt 1)) from q6)] at k
      exact k
    · skip
      refine sp_iconst 10 rfl rfl ?_
      refine sp_goto rfl ?_
      refine st_zret rfl rfl (by decide) (Nat.le_refl _) (Nat.le_refl _) ?_
      rw [if_neg (show ¬ (a0 = 0) from q1)] at k
      rw [if_pos (show a0 = (Int32.ofInt 1) from q6)] at k
      exact k
theorem cx_X11_end {SL : Nat} {xs : Nat → Int32} {d : Nat} {h : mm_H} {Q : Option Value → mm_H → Prop} {o : Nat} {a0 : Int32} (hk_o : h.2.1 o = .inr 9) (k : (if a0 < 0 then Q (some (.int (Int32.ofInt (-1)))) h else (if a0 ≤ (h.2.2.1 o 1) then Q (some (.int a0)) (mm_pI h o 1 a0) else Q (some (.int (Int32.ofInt (-1)))) h))) : mm_s SL xs (d + 1) 167 [.ref o, .int a0] h Q := by
  refine e_X11_end rfl ?_
  refine sp_iload_n 1 rfl rfl rfl ?_
  refine sp_if_lt 4 rfl rfl (fun q1 => ?_) (fun q1 => ?_)
  · skip
    refine sp_iconst 13 rfl rfl ?_
    refine st_iret rfl rfl (Nat.le_refl _) (Nat.le_refl _) ?_
    rw [if_pos (show a0 < 0 from q1)] at k
    exact k
  · skip
    refine sp_iload_n 5 rfl rfl rfl ?_
    refine sp_aload_n 6 rfl rfl rfl ?_
    refine sp_getI 9 rfl hk_o rfl ?_
    refine sp_ic_le 12 rfl rfl (fun q9 => ?_) (fun q9 => ?_)
    · skip
      refine sp_aload_n 15 rfl rfl rfl ?_
      refine sp_iload_n 16 rfl rfl rfl ?_
      refine sp_putI 19 rfl hk_o rfl ?_
      refine sp_iload_n 20 rfl rfl rfl ?_
      refine st_iret rfl rfl (Nat.le_refl _) (Nat.le_refl _) ?_
      rw [if_neg (show ¬ (a0 < 0) from q1)] at k
      rw [if_pos (show a0 ≤ (h.2.2.1 o 1) from q9)] at k
      exact k
    · skip
      refine sp_iconst 13 rfl rfl ?_
      refine st_iret rfl rfl (Nat.le_refl _) (Nat.le_refl _) ?_
      rw [if_neg (show ¬ (a0 < 0) from q1)] at k
      rw [if_neg (show ¬ (a0 ≤ (h.2.2.1 o 1)) from q9)] at k
      exact k
def sx_X11_isLetter (a0 : Int32) : Int32 := (if a0 < ((Int8.ofInt 97).toInt32) then (Int32.ofInt 0) else (if ((Int8.ofInt 122).toInt32) < a0 then (Int32.ofInt 0) else (Int32.ofInt 1)))
theorem bz_X11_isLetter {a0 : Int32} : sx_X11_isLetter a0 = 0 ∨ sx_X11_isLetter a0 = 1 := by
  unfold sx_X11_isLetter
  repeat (first | exact Or.inl rfl | exact Or.inr rfl | exact bz_any | split)
theorem cx_X11_isLetter {SL : Nat} {xs : Nat → Int32} {d : Nat} {h : mm_H} {Q : Option Value → mm_H → Prop} {a0 : Int32} (k : Q (some (.int (sx_X11_isLetter a0))) h) : mm_s SL xs (d + 1) 169 [.int a0] h Q := by
  unfold sx_X11_isLetter at k
  refine e_X11_isLetter rfl ?_
  refine sp_iload_n 1 rfl rfl rfl ?_
  refine sp_bipush 3 rfl rfl ?_
  refine sp_ic_lt 6 rfl rfl (fun q3 => ?_) (fun q3 => ?_)
  · skip
    refine sp_iconst 17 rfl rfl ?_
    refine st_zret rfl rfl (by decide) (Nat.le_refl _) (Nat.le_refl _) ?_
    rw [if_pos (show a0 < ((Int8.ofInt 97).toInt32) from q3)] at k
    exact k
  · skip
    refine sp_iload_n 7 rfl rfl rfl ?_
    refine sp_bipush 9 rfl rfl ?_
    refine sp_ic_gt 12 rfl rfl (fun q9 => ?_) (fun q9 => ?_)
    · skip
      refine sp_iconst 17 rfl rfl ?_
      refine st_zret rfl rfl (by decide) (Nat.le_refl _) (Nat.le_refl _) ?_
      rw [if_neg (show ¬ (a0 < ((Int8.ofInt 97).toInt32)) from q3)] at k
      rw [if_pos (show ((Int8.ofInt 122).toInt32) < a0 from q9)] at k
      exact k
    · skip
      refine sp_iconst 13 rfl rfl ?_
      refine sp_goto rfl ?_
      refine st_zret rfl rfl (by decide) (Nat.le_refl _) (Nat.le_refl _) ?_
      rw [if_neg (show ¬ (a0 < ((Int8.ofInt 97).toInt32)) from q3)] at k
      rw [if_neg (show ¬ (((Int8.ofInt 122).toInt32) < a0) from q9)] at k
      exact k
def sx_X11_isDigit (a0 : Int32) : Int32 := (if a0 < ((Int8.ofInt 48).toInt32) then (Int32.ofInt 0) else (if ((Int8.ofInt 57).toInt32) < a0 then (Int32.ofInt 0) else (Int32.ofInt 1)))
theorem bz_X11_isDigit {a0 : Int32} : sx_X11_isDigit a0 = 0 ∨ sx_X11_isDigit a0 = 1 := by
  unfold sx_X11_isDigit
  repeat (first | exact Or.inl rfl | exact Or.inr rfl | exact bz_any | split)
theorem cx_X11_isDigit {SL : Nat} {xs : Nat → Int32} {d : Nat} {h : mm_H} {Q : Option Value → mm_H → Prop} {a0 : Int32} (k : Q (some (.int (sx_X11_isDigit a0))) h) : mm_s SL xs (d + 1) 170 [.int a0] h Q := by
  unfold sx_X11_isDigit at k
  refine e_X11_isDigit rfl ?_
  refine sp_iload_n 1 rfl rfl rfl ?_
  refine sp_bipush 3 rfl rfl ?_
  refine sp_ic_lt 6 rfl rfl (fun q3 => ?_) (fun q3 => ?_)
  · skip
    refine sp_iconst 17 rfl rfl ?_
    refine st_zret rfl rfl (by decide) (Nat.le_refl _) (Nat.le_refl _) ?_
    rw [if_pos (show a0 < ((Int8.ofInt 48).toInt32) from q3)] at k
    exact k
  · skip
    refine sp_iload_n 7 rfl rfl rfl ?_
    refine sp_bipush 9 rfl rfl ?_
    refine sp_ic_gt 12 rfl rfl (fun q9 => ?_) (fun q9 => ?_)
    · skip
      refine sp_iconst 17 rfl rfl ?_
      refine st_zret rfl rfl (by decide) (Nat.le_refl _) (Nat.le_refl _) ?_
      rw [if_neg (show ¬ (a0 < ((Int8.ofInt 48).toInt32)) from q3)] at k
      rw [if_pos (show ((Int8.ofInt 57).toInt32) < a0 from q9)] at k
      exact k
    · skip
      refine sp_iconst 13 rfl rfl ?_
      refine sp_goto rfl ?_
      refine st_zret rfl rfl (by decide) (Nat.le_refl _) (Nat.le_refl _) ?_
      rw [if_neg (show ¬ (a0 < ((Int8.ofInt 48).toInt32)) from q3)] at k
      rw [if_neg (show ¬ (((Int8.ofInt 57).toInt32) < a0) from q9)] at k
      exact k
def sx_X11_isSign (a0 : Int32) : Int32 := (if a0 = ((Int8.ofInt 59).toInt32) then (Int32.ofInt 1) else (if a0 = ((Int8.ofInt 40).toInt32) then (Int32.ofInt 1) else (if a0 = ((Int8.ofInt 41).toInt32) then (Int32.ofInt 1) else (if a0 = ((Int8.ofInt 60).toInt32) then (Int32.ofInt 1) else (if a0 = ((Int8.ofInt 62).toInt32) then (Int32.ofInt 1) else (if a0 = ((Int8.ofInt 61).toInt32) then (Int32.ofInt 1) else (if a0 = ((Int8.ofInt 43).toInt32) then (Int32.ofInt 1) else (if a0 = ((Int8.ofInt 45).toInt32) then (Int32.ofInt 1) else (if a0 = ((Int8.ofInt 42).toInt32) then (Int32.ofInt 1) else (if a0 = ((Int8.ofInt 47).toInt32) then (Int32.ofInt 1) else (Int32.ofInt 0)))))))))))
theorem bz_X11_isSign {a0 : Int32} : sx_X11_isSign a0 = 0 ∨ sx_X11_isSign a0 = 1 := by
  unfold sx_X11_isSign
  repeat (first | exact Or.inl rfl | exact Or.inr rfl | exact bz_any | split)
theorem cx_X11_isSign {SL : Nat} {xs : Nat → Int32} {d : Nat} {h : mm_H} {Q : Option Value → mm_H → Prop} {a0 : Int32} (k : Q (some (.int (sx_X11_isSign a0))) h) : mm_s SL xs (d + 1) 171 [.int a0] h Q := by
  unfold sx_X11_isSign at k
  refine e_X11_isSign rfl ?_
  refine sp_iload_n 1 rfl rfl rfl ?_
  refine sp_bipush 3 rfl rfl ?_
  refine sp_ic_eq 6 rfl rfl (fun q3 => ?_) (fun q3 => ?_)
  · skip
    refine sp_iconst 61 rfl rfl ?_
    refine sp_goto rfl ?_
    refine st_zret rfl rfl (by decide) (Nat.le_refl _) (Nat.le_refl _) ?_
    rw [if_pos (show a0 = ((Int8.ofInt 59).toInt32) from q3)] at k
    exact k
  · skip
    refine sp_iload_n 7 rfl rfl rfl ?_
    refine sp_bipush 9 rfl rfl ?_
    refine sp_ic_eq 12 rfl rfl (fun q9 => ?_) (fun q9 => ?_)
    · skip
      refine sp_iconst 61 rfl rfl ?_
      refine sp_goto rfl ?_
      refine st_zret rfl rfl (by decide) (Nat.le_refl _) (Nat.le_refl _) ?_
      rw [if_neg (show ¬ (a0 = ((Int8.ofInt 59).toInt32)) from q3)] at k
      rw [if_pos (show a0 = ((Int8.ofInt 40).toInt32) from q9)] at k
      exact k
    · skip
      refine sp_iload_n 13 rfl rfl rfl ?_
      refine sp_bipush 15 rfl rfl ?_
      refine sp_ic_eq 18 rfl rfl (fun q15 => ?_) (fun q15 => ?_)
      · skip
        refine sp_iconst 61 rfl rfl ?_
        refine sp_goto rfl ?_
        refine st_zret rfl rfl (by decide) (Nat.le_refl _) (Nat.le_refl _) ?_
        rw [if_neg (show ¬ (a0 = ((Int8.ofInt 59).toInt32)) from q3)] at k
        rw [if_neg (show ¬ (a0 = ((Int8.ofInt 40).toInt32)) from q9)] at k
        rw [if_pos (show a0 = ((Int8.ofInt 41).toInt32) from q15)] at k
        exact k
      · skip
        refine sp_iload_n 19 rfl rfl rfl ?_
        refine sp_bipush 21 rfl rfl ?_
        refine sp_ic_eq 24 rfl rfl (fun q21 => ?_) (fun q21 => ?_)
        · skip
          refine sp_iconst 61 rfl rfl ?_
          refine sp_goto rfl ?_
          refine st_zret rfl rfl (by decide) (Nat.le_refl _) (Nat.le_refl _) ?_
          rw [if_neg (show ¬ (a0 = ((Int8.ofInt 59).toInt32)) from q3)] at k
          rw [if_neg (show ¬ (a0 = ((Int8.ofInt 40).toInt32)) from q9)] at k
          rw [if_neg (show ¬ (a0 = ((Int8.ofInt 41).toInt32)) from q15)] at k
          rw [if_pos (show a0 = ((Int8.ofInt 60).toInt32) from q21)] at k
          exact k
        · skip
          refine sp_iload_n 25 rfl rfl rfl ?_
          refine sp_bipush 27 rfl rfl ?_
          refine sp_ic_eq 30 rfl rfl (fun q27 => ?_) (fun q27 => ?_)
          · skip
            refine sp_iconst 61 rfl rfl ?_
            refine sp_goto rfl ?_
            refine st_zret rfl rfl (by decide) (Nat.le_refl _) (Nat.le_refl _) ?_
            rw [if_neg (show ¬ (a0 = ((Int8.ofInt 59).toInt32)) from q3)] at k
            rw [if_neg (show ¬ (a0 = ((Int8.ofInt 40).toInt32)) from q9)] at k
            rw [if_neg (show ¬ (a0 = ((Int8.ofInt 41).toInt32)) from q15)] at k
            rw [if_neg (show ¬ (a0 = ((Int8.ofInt 60).toInt32)) from q21)] at k
            rw [if_pos (show a0 = ((Int8.ofInt 62).toInt32) from q27)] at k
            exact k
          · skip
            refine sp_iload_n 31 rfl rfl rfl ?_
            refine sp_bipush 33 rfl rfl ?_
            refine sp_ic_eq 36 rfl rfl (fun q33 => ?_) (fun q33 => ?_)
            · skip
              refine sp_iconst 61 rfl rfl ?_
              refine sp_goto rfl ?_
              refine st_zret rfl rfl (by decide) (Nat.le_refl _) (Nat.le_refl _) ?_
              rw [if_neg (show ¬ (a0 = ((Int8.ofInt 59).toInt32)) from q3)] at k
              rw [if_neg (show ¬ (a0 = ((Int8.ofInt 40).toInt32)) from q9)] at k
              rw [if_neg (show ¬ (a0 = ((Int8.ofInt 41).toInt32)) from q15)] at k
              rw [if_neg (show ¬ (a0 = ((Int8.ofInt 60).toInt32)) from q21)] at k
              rw [if_neg (show ¬ (a0 = ((Int8.ofInt 62).toInt32)) from q27)] at k
              rw [if_pos (show a0 = ((Int8.ofInt 61).toInt32) from q33)] at k
              exact k
            · skip
              refine sp_iload_n 37 rfl rfl rfl ?_
              refine sp_bipush 39 rfl rfl ?_
              refine sp_ic_eq 42 rfl rfl (fun q39 => ?_) (fun q39 => ?_)
              · skip
                refine sp_iconst 61 rfl rfl ?_
                refine sp_goto rfl ?_
                refine st_zret rfl rfl (by decide) (Nat.le_refl _) (Nat.le_refl _) ?_
                rw [if_neg (show ¬ (a0 = ((Int8.ofInt 59).toInt32)) from q3)] at k
                rw [if_neg (show ¬ (a0 = ((Int8.ofInt 40).toInt32)) from q9)] at k
                rw [if_neg (show ¬ (a0 = ((Int8.ofInt 41).toInt32)) from q15)] at k
                rw [if_neg (show ¬ (a0 = ((Int8.ofInt 60).toInt32)) from q21)] at k
                rw [if_neg (show ¬ (a0 = ((Int8.ofInt 62).toInt32)) from q27)] at k
                rw [if_neg (show ¬ (a0 = ((Int8.ofInt 61).toInt32)) from q33)] at k
                rw [if_pos (show a0 = ((Int8.ofInt 43).toInt32) from q39)] at k
                exact k
              · skip
                refine sp_iload_n 43 rfl rfl rfl ?_
                refine sp_bipush 45 rfl rfl ?_
                refine sp_ic_eq 48 rfl rfl (fun q45 => ?_) (fun q45 => ?_)
                · skip
                  refine sp_iconst 61 rfl rfl ?_
                  refine sp_goto rfl ?_
                  refine st_zret rfl rfl (by decide) (Nat.le_refl _) (Nat.le_refl _) ?_
                  rw [if_neg (show ¬ (a0 = ((Int8.ofInt 59).toInt32)) from q3)] at k
                  rw [if_neg (show ¬ (a0 = ((Int8.ofInt 40).toInt32)) from q9)] at k
                  rw [if_neg (show ¬ (a0 = ((Int8.ofInt 41).toInt32)) from q15)] at k
                  rw [if_neg (show ¬ (a0 = ((Int8.ofInt 60).toInt32)) from q21)] at k
                  rw [if_neg (show ¬ (a0 = ((Int8.ofInt 62).toInt32)) from q27)] at k
                  rw [if_neg (show ¬ (a0 = ((Int8.ofInt 61).toInt32)) from q33)] at k
                  rw [if_neg (show ¬ (a0 = ((Int8.ofInt 43).toInt32)) from q39)] at k
                  rw [if_pos (show a0 = ((Int8.ofInt 45).toInt32) from q45)] at k
                  exact k
                · skip
                  refine sp_iload_n 49 rfl rfl rfl ?_
                  refine sp_bipush 51 rfl rfl ?_
                  refine sp_ic_eq 54 rfl rfl (fun q51 => ?_) (fun q51 => ?_)
                  · skip
                    refine sp_iconst 61 rfl rfl ?_
                    refine sp_goto rfl ?_
                    refine st_zret rfl rfl (by decide) (Nat.le_refl _) (Nat.le_refl _) ?_
                    rw [if_neg (show ¬ (a0 = ((Int8.ofInt 59).toInt32)) from q3)] at k
                    rw [if_neg (show ¬ (a0 = ((Int8.ofInt 40).toInt32)) from q9)] at k
                    rw [if_neg (show ¬ (a0 = ((Int8.ofInt 41).toInt32)) from q15)] at k
                    rw [if_neg (show ¬ (a0 = ((Int8.ofInt 60).toInt32)) from q21)] at k
                    rw [if_neg (show ¬ (a0 = ((Int8.ofInt 62).toInt32)) from q27)] at k
                    rw [if_neg (show ¬ (a0 = ((Int8.ofInt 61).toInt32)) from q33)] at k
                    rw [if_neg (show ¬ (a0 = ((Int8.ofInt 43).toInt32)) from q39)] at k
                    rw [if_neg (show ¬ (a0 = ((Int8.ofInt 45).toInt32)) from q45)] at k
                    rw [if_pos (show a0 = ((Int8.ofInt 42).toInt32) from q51)] at k
                    exact k
                  · skip
                    refine sp_iload_n 55 rfl rfl rfl ?_
                    refine sp_bipush 57 rfl rfl ?_
                    refine sp_ic_ne 60 rfl rfl (fun q57 => ?_) (fun q57 => ?_)
                    · skip
                      refine sp_iconst 65 rfl rfl ?_
                      refine st_zret rfl rfl (by decide) (Nat.le_refl _) (Nat.le_refl _) ?_
                      rw [if_neg (show ¬ (a0 = ((Int8.ofInt 59).toInt32)) from q3)] at k
                      rw [if_neg (show ¬ (a0 = ((Int8.ofInt 40).toInt32)) from q9)] at k
                      rw [if_neg (show ¬ (a0 = ((Int8.ofInt 41).toInt32)) from q15)] at k
                      rw [if_neg (show ¬ (a0 = ((Int8.ofInt 60).toInt32)) from q21)] at k
                      rw [if_neg (show ¬ (a0 = ((Int8.ofInt 62).toInt32)) from q27)] at k
                      rw [if_neg (show ¬ (a0 = ((Int8.ofInt 61).toInt32)) from q33)] at k
                      rw [if_neg (show ¬ (a0 = ((Int8.ofInt 43).toInt32)) from q39)] at k
                      rw [if_neg (show ¬ (a0 = ((Int8.ofInt 45).toInt32)) from q45)] at k
                      rw [if_neg (show ¬ (a0 = ((Int8.ofInt 42).toInt32)) from q51)] at k
                      rw [if_neg (show ¬ (a0 = ((Int8.ofInt 47).toInt32)) from q57)] at k
                      exact k
                    · skip
                      refine sp_iconst 61 rfl rfl ?_
                      refine sp_goto rfl ?_
                      refine st_zret rfl rfl (by decide) (Nat.le_refl _) (Nat.le_refl _) ?_
                      rw [if_neg (show ¬ (a0 = ((Int8.ofInt 59).toInt32)) from q3)] at k
                      rw [if_neg (show ¬ (a0 = ((Int8.ofInt 40).toInt32)) from q9)] at k
                      rw [if_neg (show ¬ (a0 = ((Int8.ofInt 41).toInt32)) from q15)] at k
                      rw [if_neg (show ¬ (a0 = ((Int8.ofInt 60).toInt32)) from q21)] at k
                      rw [if_neg (show ¬ (a0 = ((Int8.ofInt 62).toInt32)) from q27)] at k
                      rw [if_neg (show ¬ (a0 = ((Int8.ofInt 61).toInt32)) from q33)] at k
                      rw [if_neg (show ¬ (a0 = ((Int8.ofInt 43).toInt32)) from q39)] at k
                      rw [if_neg (show ¬ (a0 = ((Int8.ofInt 45).toInt32)) from q45)] at k
                      rw [if_neg (show ¬ (a0 = ((Int8.ofInt 42).toInt32)) from q51)] at k
                      rw [if_pos (show a0 = ((Int8.ofInt 47).toInt32) from q57)] at k
                      exact k
theorem cx_X11_wrong {SL : Nat} {xs : Nat → Int32} {d : Nat} {h : mm_H} {Q : Option Value → mm_H → Prop} {o : Nat} {a0 : Int32} (hk_o : h.2.1 o = .inr 9) (k : (if (h.2.2.1 o 2) ≤ 0 then (if (h.2.2.1 o 6) = (Int32.ofInt 3) then Q none (mm_pI (mm_pI h o 2 (Int32.ofInt 1)) o 3 ((mm_pI h o 2 (Int32.ofInt 1)).2.2.1 o 7)) else Q none (mm_pI (mm_pI h o 2 a0) o 3 ((mm_pI h o 2 a0).2.2.1 o 7))) else Q none h)) : mm_s SL xs (d + 1) 173 [.ref o, .int a0] h Q := by
  refine e_X11_wrong rfl ?_
  refine sp_aload_n 1 rfl rfl rfl ?_
  refine sp_getI 4 rfl hk_o rfl ?_
  refine sp_if_le 7 rfl rfl (fun q4 => ?_) (fun q4 => ?_)
  · skip
    refine sp_aload_n 9 rfl rfl rfl ?_
    refine sp_aload_n 10 rfl rfl rfl ?_
    refine sp_getI 13 rfl hk_o rfl ?_
    refine sp_iconst 14 rfl rfl ?_
    refine sp_ic_ne 17 rfl rfl (fun q14 => ?_) (fun q14 => ?_)
    · skip
      refine sp_iload_n 22 rfl rfl rfl ?_
      refine sp_putI 25 rfl hk_o rfl ?_
      refine sp_aload_n 26 rfl rfl rfl ?_
      refine sp_aload_n 27 rfl rfl rfl ?_
      refine sp_getI 30 rfl hk_o rfl ?_
      refine sp_putI 33 rfl hk_o rfl ?_
      refine st_vret rfl rfl (Nat.le_refl _) (Nat.le_refl _) ?_
      rw [if_pos (show (h.2.2.1 o 2) ≤ 0 from q4)] at k
      rw [if_neg (show ¬ ((h.2.2.1 o 6) = (Int32.ofInt 3)) from q14)] at k
      exact k
    · skip
      refine sp_iconst 18 rfl rfl ?_
      refine sp_goto rfl ?_
      refine sp_putI 25 rfl hk_o rfl ?_
      refine sp_aload_n 26 rfl rfl rfl ?_
      refine sp_aload_n 27 rfl rfl rfl ?_
      refine sp_getI 30 rfl hk_o rfl ?_
      refine sp_putI 33 rfl hk_o rfl ?_
      refine st_vret rfl rfl (Nat.le_refl _) (Nat.le_refl _) ?_
      rw [if_pos (show (h.2.2.1 o 2) ≤ 0 from q4)] at k
      rw [if_pos (show (h.2.2.1 o 6) = (Int32.ofInt 3) from q14)] at k
      exact k
  · skip
    refine st_vret rfl rfl (Nat.le_refl _) (Nat.le_refl _) ?_
    rw [if_neg (show ¬ ((h.2.2.1 o 2) ≤ 0) from q4)] at k
    exact k
theorem cx_X11_isWord {SL : Nat} {xs : Nat → Int32} {d : Nat} {h : mm_H} {Q : Option Value → mm_H → Prop} {o : Nat} {a0 : Int64} (hk_o : h.2.1 o = .inr 9) (k : (if (h.2.2.1 o 6) = (Int32.ofInt 1) then (if (lg_cmp (h.2.2.2.1 o 9) a0) = 0 then Q (some (.int (Int32.ofInt 1))) h else Q (some (.int (Int32.ofInt 0))) h) else Q (some (.int (Int32.ofInt 0))) h)) : mm_s SL xs (d + 1) 174 [.ref o, .long a0] h Q := by
  refine e_X11_isWord rfl ?_
  refine sp_aload_n 1 rfl rfl rfl ?_
  refine sp_getI 4 rfl hk_o rfl ?_
  refine sp_iconst 5 rfl rfl ?_
  refine sp_ic_ne 8 rfl rfl (fun q5 => ?_) (fun q5 => ?_)
  · skip
    refine sp_iconst 22 rfl rfl ?_
    refine st_zret rfl rfl (by decide) (Nat.le_refl _) (Nat.le_refl _) ?_
    rw [if_neg (show ¬ ((h.2.2.1 o 6) = (Int32.ofInt 1)) from q5)] at k
    exact k
  · skip
    refine sp_aload_n 9 rfl rfl rfl ?_
    refine sp_getJ 12 rfl hk_o rfl ?_
    refine sp_lload_n 13 rfl rfl rfl ?_
    refine sp_lcmp 14 rfl rfl ?_
    refine sp_if_ne 17 rfl rfl (fun q14 => ?_) (fun q14 => ?_)
    · skip
      refine sp_iconst 22 rfl rfl ?_
      refine st_zret rfl rfl (by decide) (Nat.le_refl _) (Nat.le_refl _) ?_
      rw [if_pos (show (h.2.2.1 o 6) = (Int32.ofInt 1) from q5)] at k
      rw [if_neg (show ¬ ((lg_cmp (h.2.2.2.1 o 9) a0) = 0) from q14)] at k
      exact k
    · skip
      refine sp_iconst 18 rfl rfl ?_
      refine sp_goto rfl ?_
      refine st_zret rfl rfl (by decide) (Nat.le_refl _) (Nat.le_refl _) ?_
      rw [if_pos (show (h.2.2.1 o 6) = (Int32.ofInt 1) from q5)] at k
      rw [if_pos (show (lg_cmp (h.2.2.2.1 o 9) a0) = 0 from q14)] at k
      exact k
def sx_X11_rank (a0 : Int32) : Int32 := (if a0 = ((Int8.ofInt 27).toInt32) then ((Int8.ofInt 26).toInt32) else (if a0 = ((Int8.ofInt 29).toInt32) then ((Int8.ofInt 28).toInt32) else (if a0 = ((Int8.ofInt 24).toInt32) then ((Int8.ofInt 23).toInt32) else (if a0 = ((Int8.ofInt 25).toInt32) then ((Int8.ofInt 23).toInt32) else a0))))
theorem cx_X11_rank {SL : Nat} {xs : Nat → Int32} {d : Nat} {h : mm_H} {Q : Option Value → mm_H → Prop} {a0 : Int32} (k : Q (some (.int (sx_X11_rank a0))) h) : mm_s SL xs (d + 1) 183 [.int a0] h Q := by
  unfold sx_X11_rank at k
  refine e_X11_rank rfl ?_
  refine sp_iload_n 1 rfl rfl rfl ?_
  refine sp_bipush 3 rfl rfl ?_
  refine sp_ic_ne 6 rfl rfl (fun q3 => ?_) (fun q3 => ?_)
  · skip
    refine sp_iload_n 12 rfl rfl rfl ?_
    refine sp_bipush 14 rfl rfl ?_
    refine sp_ic_ne 17 rfl rfl (fun q14 => ?_) (fun q14 => ?_)
    · skip
      refine sp_iload_n 23 rfl rfl rfl ?_
      refine sp_bipush 25 rfl rfl ?_
      refine sp_ic_eq 28 rfl rfl (fun q25 => ?_) (fun q25 => ?_)
      · skip
        refine sp_bipush 36 rfl rfl ?_
        refine sp_goto rfl ?_
        refine st_iret rfl rfl (Nat.le_refl _) (Nat.le_refl _) ?_
        rw [if_neg (show ¬ (a0 = ((Int8.ofInt 27).toInt32)) from q3)] at k
        rw [if_neg (show ¬ (a0 = ((Int8.ofInt 29).toInt32)) from q14)] at k
        rw [if_pos (show a0 = ((Int8.ofInt 24).toInt32) from q25)] at k
        exact k
      · skip
        refine sp_iload_n 29 rfl rfl rfl ?_
        refine sp_bipush 31 rfl rfl ?_
        refine sp_ic_ne 34 rfl rfl (fun q31 => ?_) (fun q31 => ?_)
        · skip
          refine sp_iload_n 40 rfl rfl rfl ?_
          refine st_iret rfl rfl (Nat.le_refl _) (Nat.le_refl _) ?_
          rw [if_neg (show ¬ (a0 = ((Int8.ofInt 27).toInt32)) from q3)] at k
          rw [if_neg (show ¬ (a0 = ((Int8.ofInt 29).toInt32)) from q14)] at k
          rw [if_neg (show ¬ (a0 = ((Int8.ofInt 24).toInt32)) from q25)] at k
          rw [if_neg (show ¬ (a0 = ((Int8.ofInt 25).toInt32)) from q31)] at k
          exact k
        · skip
          refine sp_bipush 36 rfl rfl ?_
          refine sp_goto rfl ?_
          refine st_iret rfl rfl (Nat.le_refl _) (Nat.le_refl _) ?_
          rw [if_neg (show ¬ (a0 = ((Int8.ofInt 27).toInt32)) from q3)] at k
          rw [if_neg (show ¬ (a0 = ((Int8.ofInt 29).toInt32)) from q14)] at k
          rw [if_neg (show ¬ (a0 = ((Int8.ofInt 24).toInt32)) from q25)] at k
          rw [if_pos (show a0 = ((Int8.ofInt 25).toInt32) from q31)] at k
          exact k
    · skip
      refine sp_bipush 19 rfl rfl ?_
      refine sp_goto rfl ?_
      refine st_iret rfl rfl (Nat.le_refl _) (Nat.le_refl _) ?_
      rw [if_neg (show ¬ (a0 = ((Int8.ofInt 27).toInt32)) from q3)] at k
      rw [if_pos (show a0 = ((Int8.ofInt 29).toInt32) from q14)] at k
      exact k
  · skip
    refine sp_bipush 8 rfl rfl ?_
    refine sp_goto rfl ?_
    refine st_iret rfl rfl (Nat.le_refl _) (Nat.le_refl _) ?_
    rw [if_pos (show a0 = ((Int8.ofInt 27).toInt32) from q3)] at k
    exact k
theorem cx_X11_fault {SL : Nat} {xs : Nat → Int32} {d : Nat} {h : mm_H} {Q : Option Value → mm_H → Prop} {o : Nat} {a0 : Int32} (hk_o : h.2.1 o = .inr 9) (k : (if a0 = 0 then Q (some (.int (h.2.2.1 o 2))) h else (if a0 = (Int32.ofInt 1) then Q (some (.int (h.2.2.1 o 3))) h else Q (some (.int (Int32.ofInt (-1)))) h))) : mm_s SL xs (d + 1) 200 [.ref o, .int a0] h Q := by
  refine e_X11_fault rfl ?_
  refine sp_iload_n 1 rfl rfl rfl ?_
  refine sp_if_ne 4 rfl rfl (fun q1 => ?_) (fun q1 => ?_)
  · skip
    refine sp_iload_n 12 rfl rfl rfl ?_
    refine sp_iconst 13 rfl rfl ?_
    refine sp_ic_ne 16 rfl rfl (fun q13 => ?_) (fun q13 => ?_)
    · skip
      refine sp_iconst 24 rfl rfl ?_
      refine st_iret rfl rfl (Nat.le_refl _) (Nat.le_refl _) ?_
      rw [if_neg (show ¬ (a0 = 0) from q1)] at k
      rw [if_neg (show ¬ (a0 = (Int32.ofInt 1)) from q13)] at k
      exact k
    · skip
      refine sp_aload_n 17 rfl rfl rfl ?_
      refine sp_getI 20 rfl hk_o rfl ?_
      refine sp_goto rfl ?_
      refine st_iret rfl rfl (Nat.le_refl _) (Nat.le_refl _) ?_
      rw [if_neg (show ¬ (a0 = 0) from q1)] at k
      rw [if_pos (show a0 = (Int32.ofInt 1) from q13)] at k
      exact k
  · skip
    refine sp_aload_n 5 rfl rfl rfl ?_
    refine sp_getI 8 rfl hk_o rfl ?_
    refine sp_goto rfl ?_
    refine st_iret rfl rfl (Nat.le_refl _) (Nat.le_refl _) ?_
    rw [if_pos (show a0 = 0 from q1)] at k
    exact k
theorem cx_X11_isPost {SL : Nat} {xs : Nat → Int32} {d : Nat} {h : mm_H} {Q : Option Value → mm_H → Prop} {o : Nat} {a0 : Int32} (hk_o : h.2.1 o = .inr 9) (k : (if a0 < 0 then Q (some (.int (Int32.ofInt 0))) h else (if (h.2.2.1 o 47) ≤ a0 then Q (some (.int (Int32.ofInt 0))) h else Q (some (.int (Int32.ofInt 1))) h))) : mm_s SL xs (d + 1) 201 [.ref o, .int a0] h Q := by
  refine e_X11_isPost rfl ?_
  refine sp_iload_n 1 rfl rfl rfl ?_
  refine sp_if_lt 4 rfl rfl (fun q1 => ?_) (fun q1 => ?_)
  · skip
    refine sp_iconst 17 rfl rfl ?_
    refine st_zret rfl rfl (by decide) (Nat.le_refl _) (Nat.le_refl _) ?_
    rw [if_pos (show a0 < 0 from q1)] at k
    exact k
  · skip
    refine sp_iload_n 5 rfl rfl rfl ?_
    refine sp_aload_n 6 rfl rfl rfl ?_
    refine sp_getI 9 rfl hk_o rfl ?_
    refine sp_ic_ge 12 rfl rfl (fun q9 => ?_) (fun q9 => ?_)
    · skip
      refine sp_iconst 17 rfl rfl ?_
      refine st_zret rfl rfl (by decide) (Nat.le_refl _) (Nat.le_refl _) ?_
      rw [if_neg (show ¬ (a0 < 0) from q1)] at k
      rw [if_pos (show (h.2.2.1 o 47) ≤ a0 from q9)] at k
      exact k
    · skip
      refine sp_iconst 13 rfl rfl ?_
      refine sp_goto rfl ?_
      refine st_zret rfl rfl (by decide) (Nat.le_refl _) (Nat.le_refl _) ?_
      rw [if_neg (show ¬ (a0 < 0) from q1)] at k
      rw [if_neg (show ¬ ((h.2.2.1 o 47) ≤ a0) from q9)] at k
      exact k
theorem cx_X11_isEnded {SL : Nat} {xs : Nat → Int32} {d : Nat} {h : mm_H} {Q : Option Value → mm_H → Prop} {o : Nat} (hk_o : h.2.1 o = .inr 9) (k : (if (h.2.2.1 o 78) < (h.2.2.1 o 59) then Q (some (.int (Int32.ofInt 0))) h else Q (some (.int (Int32.ofInt 1))) h)) : mm_s SL xs (d + 1) 208 [.ref o] h Q := by
  refine e_X11_isEnded rfl ?_
  refine sp_aload_n 1 rfl rfl rfl ?_
  refine sp_getI 4 rfl hk_o rfl ?_
  refine sp_aload_n 5 rfl rfl rfl ?_
  refine sp_getI 8 rfl hk_o rfl ?_
  refine sp_ic_gt 11 rfl rfl (fun q8 => ?_) (fun q8 => ?_)
  · skip
    refine sp_iconst 16 rfl rfl ?_
    refine st_zret rfl rfl (by decide) (Nat.le_refl _) (Nat.le_refl _) ?_
    rw [if_pos (show (h.2.2.1 o 78) < (h.2.2.1 o 59) from q8)] at k
    exact k
  · skip
    refine sp_iconst 12 rfl rfl ?_
    refine sp_goto rfl ?_
    refine st_zret rfl rfl (by decide) (Nat.le_refl _) (Nat.le_refl _) ?_
    rw [if_neg (show ¬ ((h.2.2.1 o 78) < (h.2.2.1 o 59)) from q8)] at k
    exact k
def sx_X11_isSet (a0 : Int64) (a1 : Int32) : Int32 := (if (lg_cmp a0 (Int64.ofNat 0)) ≤ 0 then (Int32.ofInt 0) else (if (lg_cmp (a0 >>> ((a1).toInt64 &&& 63)) (Int64.ofNat 0)) = 0 then (Int32.ofInt 1) else (Int32.ofInt 0)))
theorem bz_X11_isSet {a0 : Int64} {a1 : Int32} : sx_X11_isSet a0 a1 = 0 ∨ sx_X11_isSet a0 a1 = 1 := by
  unfold sx_X11_isSet
  repeat (first | exact Or.inl rfl | exact Or.inr rfl | exact bz_any | split)
theorem cx_X11_isSet {SL : Nat} {xs : Nat → Int32} {d : Nat} {h : mm_H} {Q : Option Value → mm_H → Prop} {a0 : Int64} {a1 : Int32} (k : Q (some (.int (sx_X11_isSet a0 a1))) h) : mm_s SL xs (d + 1) 228 [.long a0, .int a1] h Q := by
  unfold sx_X11_isSet at k
  refine e_X11_isSet rfl ?_
  refine sp_lload_n 1 rfl rfl rfl ?_
  refine sp_lconst 2 rfl rfl ?_
  refine sp_lcmp 3 rfl rfl ?_
  refine sp_if_le 6 rfl rfl (fun q3 => ?_) (fun q3 => ?_)
  · skip
    refine sp_iconst 19 rfl rfl ?_
    refine st_zret rfl rfl (by decide) (Nat.le_refl _) (Nat.le_refl _) ?_
    rw [if_pos (show (lg_cmp a0 (Int64.ofNat 0)) ≤ 0 from q3)] at k
    exact k
  · skip
    refine sp_lload_n 7 rfl rfl rfl ?_
    refine sp_iload_n 8 rfl rfl rfl ?_
    refine sp_lshr 9 rfl rfl ?_
    refine sp_lconst 10 rfl rfl ?_
    refine sp_lcmp 11 rfl rfl ?_
    refine sp_if_ne 14 rfl rfl (fun q11 => ?_) (fun q11 => ?_)
    · skip
      refine sp_iconst 19 rfl rfl ?_
      refine st_zret rfl rfl (by decide) (Nat.le_refl _) (Nat.le_refl _) ?_
      rw [if_neg (show ¬ ((lg_cmp a0 (Int64.ofNat 0)) ≤ 0) from q3)] at k
      rw [if_neg (show ¬ ((lg_cmp (a0 >>> ((a1).toInt64 &&& 63)) (Int64.ofNat 0)) = 0) from q11)] at k
      exact k
    · skip
      refine sp_iconst 15 rfl rfl ?_
      refine sp_goto rfl ?_
      refine st_zret rfl rfl (by decide) (Nat.le_refl _) (Nat.le_refl _) ?_
      rw [if_neg (show ¬ ((lg_cmp a0 (Int64.ofNat 0)) ≤ 0) from q3)] at k
      rw [if_pos (show (lg_cmp (a0 >>> ((a1).toInt64 &&& 63)) (Int64.ofNat 0)) = 0 from q11)] at k
      exact k
theorem cx_X11_keep {SL : Nat} {xs : Nat → Int32} {d : Nat} {h : mm_H} {Q : Option Value → mm_H → Prop} {o : Nat} {a0 : Int32} (hk_o : h.2.1 o = .inr 9) (k : (if a0 < 0 then Q (some (.int (Int32.ofInt (-1)))) h else (if a0 ≤ (h.2.2.1 o 80) then Q (some (.int a0)) (mm_pI h o 80 a0) else Q (some (.int (Int32.ofInt (-1)))) h))) : mm_s SL xs (d + 1) 231 [.ref o, .int a0] h Q := by
  refine e_X11_keep rfl ?_
  refine sp_iload_n 1 rfl rfl rfl ?_
  refine sp_if_lt 4 rfl rfl (fun q1 => ?_) (fun q1 => ?_)
  · skip
    refine sp_iconst 13 rfl rfl ?_
    refine st_iret rfl rfl (Nat.le_refl _) (Nat.le_refl _) ?_
    rw [if_pos (show a0 < 0 from q1)] at k
    exact k
  · skip
    refine sp_iload_n 5 rfl rfl rfl ?_
    refine sp_aload_n 6 rfl rfl rfl ?_
    refine sp_getI 9 rfl hk_o rfl ?_
    refine sp_ic_le 12 rfl rfl (fun q9 => ?_) (fun q9 => ?_)
    · skip
      refine sp_aload_n 15 rfl rfl rfl ?_
      refine sp_iload_n 16 rfl rfl rfl ?_
      refine sp_putI 19 rfl hk_o rfl ?_
      refine sp_iload_n 20 rfl rfl rfl ?_
      refine st_iret rfl rfl (Nat.le_refl _) (Nat.le_refl _) ?_
      rw [if_neg (show ¬ (a0 < 0) from q1)] at k
      rw [if_pos (show a0 ≤ (h.2.2.1 o 80) from q9)] at k
      exact k
    · skip
      refine sp_iconst 13 rfl rfl ?_
      refine st_iret rfl rfl (Nat.le_refl _) (Nat.le_refl _) ?_
      rw [if_neg (show ¬ (a0 < 0) from q1)] at k
      rw [if_neg (show ¬ (a0 ≤ (h.2.2.1 o 80)) from q9)] at k
      exact k
def sx_X11_isPlain (a0 : Int64) (a1 : Int32) : Int32 := (if (lg_cmp a0 (Int64.ofNat 1)) < 0 then (Int32.ofInt 0) else (if 0 < (lg_cmp a0 (Int64.ofInt (1000000000000))) then (Int32.ofInt 0) else (if a1 < (Int32.ofInt 1) then (Int32.ofInt 0) else (if ((Int16.ofInt 1000).toInt32) < a1 then (Int32.ofInt 0) else (Int32.ofInt 1)))))
theorem bz_X11_isPlain {a0 : Int64} {a1 : Int32} : sx_X11_isPlain a0 a1 = 0 ∨ sx_X11_isPlain a0 a1 = 1 := by
  unfold sx_X11_isPlain
  repeat (first | exact Or.inl rfl | exact Or.inr rfl | exact bz_any | split)
theorem cx_X11_isPlain {SL : Nat} {xs : Nat → Int32} {d : Nat} {h : mm_H} {Q : Option Value → mm_H → Prop} {a0 : Int64} {a1 : Int32} (k : Q (some (.int (sx_X11_isPlain a0 a1))) h) : mm_s SL xs (d + 1) 234 [.long a0, .int a1] h Q := by
  unfold sx_X11_isPlain at k
  refine e_X11_isPlain rfl ?_
  refine sp_lload_n 1 rfl rfl rfl ?_
  refine sp_lconst 2 rfl rfl ?_
  refine sp_lcmp 3 rfl rfl ?_
  refine sp_if_lt 6 rfl rfl (fun q3 => ?_) (fun q3 => ?_)
  · skip
    refine sp_iconst 31 rfl rfl ?_
    refine st_zret rfl rfl (by decide) (Nat.le_refl _) (Nat.le_refl _) ?_
    rw [if_pos (show (lg_cmp a0 (Int64.ofNat 1)) < 0 from q3)] at k
    exact k
  · skip
    refine sp_lload_n 7 rfl rfl rfl ?_
    refine sp_ldc2 10 rfl rfl ?_
    refine sp_lcmp 11 rfl rfl ?_
    refine sp_if_gt 14 rfl rfl (fun q11 => ?_) (fun q11 => ?_)
    · skip
      refine sp_iconst 31 rfl rfl ?_
      refine st_zret rfl rfl (by decide) (Nat.le_refl _) (Nat.le_refl _) ?_
      rw [if_neg (show ¬ ((lg_cmp a0 (Int64.ofNat 1)) < 0) from q3)] at k
      rw [if_pos (show 0 < (lg_cmp a0 (Int64.ofInt (1000000000000))) from q11)] at k
      exact k
    · skip
      refine sp_iload_n 15 rfl rfl rfl ?_
      refine sp_iconst 16 rfl rfl ?_
      refine sp_ic_lt 19 rfl rfl (fun q16 => ?_) (fun q16 => ?_)
      · skip
        refine sp_iconst 31 rfl rfl ?_
        refine st_zret rfl rfl (by decide) (Nat.le_refl _) (Nat.le_refl _) ?_
        rw [if_neg (show ¬ ((lg_cmp a0 (Int64.ofNat 1)) < 0) from q3)] at k
        rw [if_neg (show ¬ (0 < (lg_cmp a0 (Int64.ofInt (1000000000000)))) from q11)] at k
        rw [if_pos (show a1 < (Int32.ofInt 1) from q16)] at k
        exact k
      · skip
        refine sp_iload_n 20 rfl rfl rfl ?_
        refine sp_sipush 23 rfl rfl ?_
        refine sp_ic_gt 26 rfl rfl (fun q23 => ?_) (fun q23 => ?_)
        · skip
          refine sp_iconst 31 rfl rfl ?_
          refine st_zret rfl rfl (by decide) (Nat.le_refl _) (Nat.le_refl _) ?_
          rw [if_neg (show ¬ ((lg_cmp a0 (Int64.ofNat 1)) < 0) from q3)] at k
          rw [if_neg (show ¬ (0 < (lg_cmp a0 (Int64.ofInt (1000000000000)))) from q11)] at k
          rw [if_neg (show ¬ (a1 < (Int32.ofInt 1)) from q16)] at k
          rw [if_pos (show ((Int16.ofInt 1000).toInt32) < a1 from q23)] at k
          exact k
        · skip
          refine sp_iconst 27 rfl rfl ?_
          refine sp_goto rfl ?_
          refine st_zret rfl rfl (by decide) (Nat.le_refl _) (Nat.le_refl _) ?_
          rw [if_neg (show ¬ ((lg_cmp a0 (Int64.ofNat 1)) < 0) from q3)] at k
          rw [if_neg (show ¬ (0 < (lg_cmp a0 (Int64.ofInt (1000000000000)))) from q11)] at k
          rw [if_neg (show ¬ (a1 < (Int32.ofInt 1)) from q16)] at k
          rw [if_neg (show ¬ (((Int16.ofInt 1000).toInt32) < a1) from q23)] at k
          exact k
def sx_X11_isSmall (a0 : Int32) : Int32 := (if a0 < (Int32.ofInt 1) then (Int32.ofInt 0) else (if ((Int8.ofInt 60).toInt32) < a0 then (Int32.ofInt 0) else (Int32.ofInt 1)))
theorem bz_X11_isSmall {a0 : Int32} : sx_X11_isSmall a0 = 0 ∨ sx_X11_isSmall a0 = 1 := by
  unfold sx_X11_isSmall
  repeat (first | exact Or.inl rfl | exact Or.inr rfl | exact bz_any | split)
theorem cx_X11_isSmall {SL : Nat} {xs : Nat → Int32} {d : Nat} {h : mm_H} {Q : Option Value → mm_H → Prop} {a0 : Int32} (k : Q (some (.int (sx_X11_isSmall a0))) h) : mm_s SL xs (d + 1) 238 [.int a0] h Q := by
  unfold sx_X11_isSmall at k
  refine e_X11_isSmall rfl ?_
  refine sp_iload_n 1 rfl rfl rfl ?_
  refine sp_iconst 2 rfl rfl ?_
  refine sp_ic_lt 5 rfl rfl (fun q2 => ?_) (fun q2 => ?_)
  · skip
    refine sp_iconst 16 rfl rfl ?_
    refine st_zret rfl rfl (by decide) (Nat.le_refl _) (Nat.le_refl _) ?_
    rw [if_pos (show a0 < (Int32.ofInt 1) from q2)] at k
    exact k
  · skip
    refine sp_iload_n 6 rfl rfl rfl ?_
    refine sp_bipush 8 rfl rfl ?_
    refine sp_ic_gt 11 rfl rfl (fun q8 => ?_) (fun q8 => ?_)
    · skip
      refine sp_iconst 16 rfl rfl ?_
      refine st_zret rfl rfl (by decide) (Nat.le_refl _) (Nat.le_refl _) ?_
      rw [if_neg (show ¬ (a0 < (Int32.ofInt 1)) from q2)] at k
      rw [if_pos (show ((Int8.ofInt 60).toInt32) < a0 from q8)] at k
      exact k
    · skip
      refine sp_iconst 12 rfl rfl ?_
      refine sp_goto rfl ?_
      refine st_zret rfl rfl (by decide) (Nat.le_refl _) (Nat.le_refl _) ?_
      rw [if_neg (show ¬ (a0 < (Int32.ofInt 1)) from q2)] at k
      rw [if_neg (show ¬ (((Int8.ofInt 60).toInt32) < a0) from q8)] at k
      exact k
def sx_X11_areNumbers (a0 : Int32) : Int32 := (if a0 < (Int32.ofInt 1) then (Int32.ofInt 0) else (if ((Int16.ofInt 3000).toInt32) < a0 then (Int32.ofInt 0) else (Int32.ofInt 1)))
theorem bz_X11_areNumbers {a0 : Int32} : sx_X11_areNumbers a0 = 0 ∨ sx_X11_areNumbers a0 = 1 := by
  unfold sx_X11_areNumbers
  repeat (first | exact Or.inl rfl | exact Or.inr rfl | exact bz_any | split)
theorem cx_X11_areNumbers {SL : Nat} {xs : Nat → Int32} {d : Nat} {h : mm_H} {Q : Option Value → mm_H → Prop} {a0 : Int32} (k : Q (some (.int (sx_X11_areNumbers a0))) h) : mm_s SL xs (d + 1) 249 [.int a0] h Q := by
  unfold sx_X11_areNumbers at k
  refine e_X11_areNumbers rfl ?_
  refine sp_iload_n 1 rfl rfl rfl ?_
  refine sp_iconst 2 rfl rfl ?_
  refine sp_ic_lt 5 rfl rfl (fun q2 => ?_) (fun q2 => ?_)
  · skip
    refine sp_iconst 17 rfl rfl ?_
    refine st_zret rfl rfl (by decide) (Nat.le_refl _) (Nat.le_refl _) ?_
    rw [if_pos (show a0 < (Int32.ofInt 1) from q2)] at k
    exact k
  · skip
    refine sp_iload_n 6 rfl rfl rfl ?_
    refine sp_sipush 9 rfl rfl ?_
    refine sp_ic_gt 12 rfl rfl (fun q9 => ?_) (fun q9 => ?_)
    · skip
      refine sp_iconst 17 rfl rfl ?_
      refine st_zret rfl rfl (by decide) (Nat.le_refl _) (Nat.le_refl _) ?_
      rw [if_neg (show ¬ (a0 < (Int32.ofInt 1)) from q2)] at k
      rw [if_pos (show ((Int16.ofInt 3000).toInt32) < a0 from q9)] at k
      exact k
    · skip
      refine sp_iconst 13 rfl rfl ?_
      refine sp_goto rfl ?_
      refine st_zret rfl rfl (by decide) (Nat.le_refl _) (Nat.le_refl _) ?_
      rw [if_neg (show ¬ (a0 < (Int32.ofInt 1)) from q2)] at k
      rw [if_neg (show ¬ (((Int16.ofInt 3000).toInt32) < a0) from q9)] at k
      exact k
def sx_X11_isPart (a0 : Int32) : Int32 := (if a0 = 0 then (Int32.ofInt 1) else (if a0 = (Int32.ofInt 1) then (Int32.ofInt 1) else (Int32.ofInt 0)))
theorem bz_X11_isPart {a0 : Int32} : sx_X11_isPart a0 = 0 ∨ sx_X11_isPart a0 = 1 := by
  unfold sx_X11_isPart
  repeat (first | exact Or.inl rfl | exact Or.inr rfl | exact bz_any | split)
theorem cx_X11_isPart {SL : Nat} {xs : Nat → Int32} {d : Nat} {h : mm_H} {Q : Option Value → mm_H → Prop} {a0 : Int32} (k : Q (some (.int (sx_X11_isPart a0))) h) : mm_s SL xs (d + 1) 257 [.int a0] h Q := by
  unfold sx_X11_isPart at k
  refine e_X11_isPart rfl ?_
  refine sp_iload_n 1 rfl rfl rfl ?_
  refine sp_if_eq 4 rfl rfl (fun q1 => ?_) (fun q1 => ?_)
  · skip
    refine sp_iconst 10 rfl rfl ?_
    refine sp_goto rfl ?_
    refine st_zret rfl rfl (by decide) (Nat.le_refl _) (Nat.le_refl _) ?_
    rw [if_pos (show a0 = 0 from q1)] at k
    exact k
  · skip
    refine sp_iload_n 5 rfl rfl rfl ?_
    refine sp_iconst 6 rfl rfl ?_
    refine sp_ic_ne 9 rfl rfl (fun q6 => ?_) (fun q6 => ?_)
    · skip
      refine sp_iconst 14 rfl rfl ?_
      refine st_zret rfl rfl (by decide) (Nat.le_refl _) (Nat.le_refl _) ?_
      rw [if_neg (show ¬ (a0 = 0) from q1)] at k
      rw [if_neg (show ¬ (a0 = (Int32.ofInt 1)) from q6)] at k
      exact k
    · skip
      refine sp_iconst 10 rfl rfl ?_
      refine sp_goto rfl ?_
      refine st_zret rfl rfl (by decide) (Nat.le_refl _) (Nat.le_refl _) ?_
      rw [if_neg (show ¬ (a0 = 0) from q1)] at k
      rw [if_pos (show a0 = (Int32.ofInt 1) from q6)] at k
      exact k
theorem cx_X11_later {SL : Nat} {xs : Nat → Int32} {d : Nat} {h : mm_H} {Q : Option Value → mm_H → Prop} {o : Nat} {a0 : Int32} (hk_o : h.2.1 o = .inr 9) (k : (if a0 < 0 then Q (some (.int (Int32.ofInt (-1)))) h else (if ((Int16.ofInt 1000).toInt32) < a0 then Q (some (.int (Int32.ofInt (-1)))) h else (if ((h.2.2.1 o 89) + a0) ≤ (Int32.ofInt (100000)) then Q (some (.int ((mm_pI h o 89 ((h.2.2.1 o 89) + a0)).2.2.1 o 89))) (mm_pI h o 89 ((h.2.2.1 o 89) + a0)) else Q (some (.int (Int32.ofInt (-1)))) h)))) : mm_s SL xs (d + 1) 264 [.ref o, .int a0] h Q := by
  refine e_X11_later rfl ?_
  refine sp_iload_n 1 rfl rfl rfl ?_
  refine sp_if_lt 4 rfl rfl (fun q1 => ?_) (fun q1 => ?_)
  · skip
    refine sp_iconst 24 rfl rfl ?_
    refine st_iret rfl rfl (Nat.le_refl _) (Nat.le_refl _) ?_
    rw [if_pos (show a0 < 0 from q1)] at k
    exact k
  · skip
    refine sp_iload_n 5 rfl rfl rfl ?_
    refine sp_sipush 8 rfl rfl ?_
    refine sp_ic_gt 11 rfl rfl (fun q8 => ?_) (fun q8 => ?_)
    · skip
      refine sp_iconst 24 rfl rfl ?_
      refine st_iret rfl rfl (Nat.le_refl _) (Nat.le_refl _) ?_
      rw [if_neg (show ¬ (a0 < 0) from q1)] at k
      rw [if_pos (show ((Int16.ofInt 1000).toInt32) < a0 from q8)] at k
      exact k
    · skip
      refine sp_aload_n 12 rfl rfl rfl ?_
      refine sp_getI 15 rfl hk_o rfl ?_
      refine sp_iload_n 16 rfl rfl rfl ?_
      refine sp_iadd 17 rfl rfl ?_
      refine sp_ldcw 20 rfl rfl ?_
      refine sp_ic_le 23 rfl rfl (fun q20 => ?_) (fun q20 => ?_)
      · skip
        refine sp_aload_n 26 rfl rfl rfl ?_
        refine sp_dup 27 rfl rfl rfl ?_
        refine sp_getI 30 rfl hk_o rfl ?_
        refine sp_iload_n 31 rfl rfl rfl ?_
        refine sp_iadd 32 rfl rfl ?_
        refine sp_putI 35 rfl hk_o rfl ?_
        refine sp_aload_n 36 rfl rfl rfl ?_
        refine sp_getI 39 rfl hk_o rfl ?_
        refine st_iret rfl rfl (Nat.le_refl _) (Nat.le_refl _) ?_
        rw [if_neg (show ¬ (a0 < 0) from q1)] at k
        rw [if_neg (show ¬ (((Int16.ofInt 1000).toInt32) < a0) from q8)] at k
        rw [if_pos (show ((h.2.2.1 o 89) + a0) ≤ (Int32.ofInt (100000)) from q20)] at k
        exact k
      · skip
        refine sp_iconst 24 rfl rfl ?_
        refine st_iret rfl rfl (Nat.le_refl _) (Nat.le_refl _) ?_
        rw [if_neg (show ¬ (a0 < 0) from q1)] at k
        rw [if_neg (show ¬ (((Int16.ofInt 1000).toInt32) < a0) from q8)] at k
        rw [if_neg (show ¬ (((h.2.2.1 o 89) + a0) ≤ (Int32.ofInt (100000))) from q20)] at k
        exact k
def sx_X11_isBox (a0 : Int32) : Int32 := (if a0 < 0 then (Int32.ofInt 0) else (if (Int32.ofInt 3) ≤ a0 then (Int32.ofInt 0) else (Int32.ofInt 1)))
theorem bz_X11_isBox {a0 : Int32} : sx_X11_isBox a0 = 0 ∨ sx_X11_isBox a0 = 1 := by
  unfold sx_X11_isBox
  repeat (first | exact Or.inl rfl | exact Or.inr rfl | exact bz_any | split)
theorem cx_X11_isBox {SL : Nat} {xs : Nat → Int32} {d : Nat} {h : mm_H} {Q : Option Value → mm_H → Prop} {a0 : Int32} (k : Q (some (.int (sx_X11_isBox a0))) h) : mm_s SL xs (d + 1) 270 [.int a0] h Q := by
  unfold sx_X11_isBox at k
  refine e_X11_isBox rfl ?_
  refine sp_iload_n 1 rfl rfl rfl ?_
  refine sp_if_lt 4 rfl rfl (fun q1 => ?_) (fun q1 => ?_)
  · skip
    refine sp_iconst 14 rfl rfl ?_
    refine st_zret rfl rfl (by decide) (Nat.le_refl _) (Nat.le_refl _) ?_
    rw [if_pos (show a0 < 0 from q1)] at k
    exact k
  · skip
    refine sp_iload_n 5 rfl rfl rfl ?_
    refine sp_iconst 6 rfl rfl ?_
    refine sp_ic_ge 9 rfl rfl (fun q6 => ?_) (fun q6 => ?_)
    · skip
      refine sp_iconst 14 rfl rfl ?_
      refine st_zret rfl rfl (by decide) (Nat.le_refl _) (Nat.le_refl _) ?_
      rw [if_neg (show ¬ (a0 < 0) from q1)] at k
      rw [if_pos (show (Int32.ofInt 3) ≤ a0 from q6)] at k
      exact k
    · skip
      refine sp_iconst 10 rfl rfl ?_
      refine sp_goto rfl ?_
      refine st_zret rfl rfl (by decide) (Nat.le_refl _) (Nat.le_refl _) ?_
      rw [if_neg (show ¬ (a0 < 0) from q1)] at k
      rw [if_neg (show ¬ ((Int32.ofInt 3) ≤ a0) from q6)] at k
      exact k
def sx_J13_bitCount_95d88 (a0 : Int64) : Int32 := ((((((((((a0 - (((a0).toUInt64 >>> ((Int32.ofInt 1).toInt64.toUInt64 &&& Int64.toUInt64 63)).toInt64 &&& Int64.ofInt (6148914691236517205))) &&& Int64.ofInt (3689348814741910323)) + ((((a0 - (((a0).toUInt64 >>> ((Int32.ofInt 1).toInt64.toUInt64 &&& Int64.toUInt64 63)).toInt64 &&& Int64.ofInt (6148914691236517205)))).toUInt64 >>> ((Int32.ofInt 2).toInt64.toUInt64 &&& Int64.toUInt64 63)).toInt64 &&& Int64.ofInt (3689348814741910323))) + (((((a0 - (((a0).toUInt64 >>> ((Int32.ofInt 1).toInt64.toUInt64 &&& Int64.toUInt64 63)).toInt64 &&& Int64.ofInt (6148914691236517205))) &&& Int64.ofInt (3689348814741910323)) + ((((a0 - (((a0).toUInt64 >>> ((Int32.ofInt 1).toInt64.toUInt64 &&& Int64.toUInt64 63)).toInt64 &&& Int64.ofInt (6148914691236517205)))).toUInt64 >>> ((Int32.ofInt 2).toInt64.toUInt64 &&& Int64.toUInt64 63)).toInt64 &&& Int64.ofInt (3689348814741910323)))).toUInt64 >>> ((Int32.ofInt 4).toInt64.toUInt64 &&& Int64.toUInt64 63)).toInt64) &&& Int64.ofInt (1085102592571150095)) + (((((((a0 - (((a0).toUInt64 >>> ((Int32.ofInt 1).toInt64.toUInt64 &&& Int64.toUInt64 63)).toInt64 &&& Int64.ofInt (6148914691236517205))) &&& Int64.ofInt (3689348814741910323)) + ((((a0 - (((a0).toUInt64 >>> ((Int32.ofInt 1).toInt64.toUInt64 &&& Int64.toUInt64 63)).toInt64 &&& Int64.ofInt (6148914691236517205)))).toUInt64 >>> ((Int32.ofInt 2).toInt64.toUInt64 &&& Int64.toUInt64 63)).toInt64 &&& Int64.ofInt (3689348814741910323))) + (((((a0 - (((a0).toUInt64 >>> ((Int32.ofInt 1).toInt64.toUInt64 &&& Int64.toUInt64 63)).toInt64 &&& Int64.ofInt (6148914691236517205))) &&& Int64.ofInt (3689348814741910323)) + ((((a0 - (((a0).toUInt64 >>> ((Int32.ofInt 1).toInt64.toUInt64 &&& Int64.toUInt64 63)).toInt64 &&& Int64.ofInt (6148914691236517205)))).toUInt64 >>> ((Int32.ofInt 2).toInt64.toUInt64 &&& Int64.toUInt64 63)).toInt64 &&& Int64.ofInt (3689348814741910323)))).toUInt64 >>> ((Int32.ofInt 4).toInt64.toUInt64 &&& Int64.toUInt64 63)).toInt64) &&& Int64.ofInt (1085102592571150095))).toUInt64 >>> (((Int8.ofInt 8).toInt32).toInt64.toUInt64 &&& Int64.toUInt64 63)).toInt64) + ((((((((a0 - (((a0).toUInt64 >>> ((Int32.ofInt 1).toInt64.toUInt64 &&& Int64.toUInt64 63)).toInt64 &&& Int64.ofInt (6148914691236517205))) &&& Int64.ofInt (3689348814741910323)) + ((((a0 - (((a0).toUInt64 >>> ((Int32.ofInt 1).toInt64.toUInt64 &&& Int64.toUInt64 63)).toInt64 &&& Int64.ofInt (6148914691236517205)))).toUInt64 >>> ((Int32.ofInt 2).toInt64.toUInt64 &&& Int64.toUInt64 63)).toInt64 &&& Int64.ofInt (3689348814741910323))) + (((((a0 - (((a0).toUInt64 >>> ((Int32.ofInt 1).toInt64.toUInt64 &&& Int64.toUInt64 63)).toInt64 &&& Int64.ofInt (6148914691236517205))) &&& Int64.ofInt (3689348814741910323)) + ((((a0 - (((a0).toUInt64 >>> ((Int32.ofInt 1).toInt64.toUInt64 &&& Int64.toUInt64 63)).toInt64 &&& Int64.ofInt (6148914691236517205)))).toUInt64 >>> ((Int32.ofInt 2).toInt64.toUInt64 &&& Int64.toUInt64 63)).toInt64 &&& Int64.ofInt (3689348814741910323)))).toUInt64 >>> ((Int32.ofInt 4).toInt64.toUInt64 &&& Int64.toUInt64 63)).toInt64) &&& Int64.ofInt (1085102592571150095)) + (((((((a0 - (((a0).toUInt64 >>> ((Int32.ofInt 1).toInt64.toUInt64 &&& Int64.toUInt64 63)).toInt64 &&& Int64.ofInt (6148914691236517205))) &&& Int64.ofInt (3689348814741910323)) + ((((a0 - (((a0).toUInt64 >>> ((Int32.ofInt 1).toInt64.toUInt64 &&& Int64.toUInt64 63)).toInt64 &&& Int64.ofInt (6148914691236517205)))).toUInt64 >>> ((Int32.ofInt 2).toInt64.toUInt64 &&& Int64.toUInt64 63)).toInt64 &&& Int64.ofInt (3689348814741910323))) + (((((a0 - (((a0).toUInt64 >>> ((Int32.ofInt 1).toInt64.toUInt64 &&& Int64.toUInt64 63)).toInt64 &&& Int64.ofInt (6148914691236517205))) &&& Int64.ofInt (3689348814741910323)) + ((((a0 - (((a0).toUInt64 >>> ((Int32.ofInt 1).toInt64.toUInt64 &&& Int64.toUInt64 63)).toInt64 &&& Int64.ofInt (6148914691236517205)))).toUInt64 >>> ((Int32.ofInt 2).toInt64.toUInt64 &&& Int64.toUInt64 63)).toInt64 &&& Int64.ofInt (3689348814741910323)))).toUInt64 >>> ((Int32.ofInt 4).toInt64.toUInt64 &&& Int64.toUInt64 63)).toInt64) &&& Int64.ofInt (1085102592571150095))).toUInt64 >>> (((Int8.ofInt 8).toInt32).toInt64.toUInt64 &&& Int64.toUInt64 63)).toInt64)).toUInt64 >>> (((Int8.ofInt 16).toInt32).toInt64.toUInt64 &&& Int64.toUInt64 63)).toInt64) + (((((((((a0 - (((a0).toUInt64 >>> ((Int32.ofInt 1).toInt64.toUInt64 &&& Int64.toUInt64 63)).toInt64 &&& Int64.ofInt (6148914691236517205))) &&& Int64.ofInt (3689348814741910323)) + ((((a0 - (((a0).toUInt64 >>> ((Int32.ofInt 1).toInt64.toUInt64 &&& Int64.toUInt64 63)).toInt64 &&& Int64.ofInt (6148914691236517205)))).toUInt64 >>> ((Int32.ofInt 2).toInt64.toUInt64 &&& Int64.toUInt64 63)).toInt64 &&& Int64.ofInt (3689348814741910323))) + (((((a0 - (((a0).toUInt64 >>> ((Int32.ofInt 1).toInt64.toUInt64 &&& Int64.toUInt64 63)).toInt64 &&& Int64.ofInt (6148914691236517205))) &&& Int64.ofInt (3689348814741910323)) + ((((a0 - (((a0).toUInt64 >>> ((Int32.ofInt 1).toInt64.toUInt64 &&& Int64.toUInt64 63)).toInt64 &&& Int64.ofInt (6148914691236517205)))).toUInt64 >>> ((Int32.ofInt 2).toInt64.toUInt64 &&& Int64.toUInt64 63)).toInt64 &&& Int64.ofInt (3689348814741910323)))).toUInt64 >>> ((Int32.ofInt 4).toInt64.toUInt64 &&& Int64.toUInt64 63)).toInt64) &&& Int64.ofInt (1085102592571150095)) + (((((((a0 - (((a0).toUInt64 >>> ((Int32.ofInt 1).toInt64.toUInt64 &&& Int64.toUInt64 63)).toInt64 &&& Int64.ofInt (6148914691236517205))) &&& Int64.ofInt (3689348814741910323)) + ((((a0 - (((a0).toUInt64 >>> ((Int32.ofInt 1).toInt64.toUInt64 &&& Int64.toUInt64 63)).toInt64 &&& Int64.ofInt (6148914691236517205)))).toUInt64 >>> ((Int32.ofInt 2).toInt64.toUInt64 &&& Int64.toUInt64 63)).toInt64 &&& Int64.ofInt (3689348814741910323))) + (((((a0 - (((a0).toUInt64 >>> ((Int32.ofInt 1).toInt64.toUInt64 &&& Int64.toUInt64 63)).toInt64 &&& Int64.ofInt (6148914691236517205))) &&& Int64.ofInt (3689348814741910323)) + ((((a0 - (((a0).toUInt64 >>> ((Int32.ofInt 1).toInt64.toUInt64 &&& Int64.toUInt64 63)).toInt64 &&& Int64.ofInt (6148914691236517205)))).toUInt64 >>> ((Int32.ofInt 2).toInt64.toUInt64 &&& Int64.toUInt64 63)).toInt64 &&& Int64.ofInt (3689348814741910323)))).toUInt64 >>> ((Int32.ofInt 4).toInt64.toUInt64 &&& Int64.toUInt64 63)).toInt64) &&& Int64.ofInt (1085102592571150095))).toUInt64 >>> (((Int8.ofInt 8).toInt32).toInt64.toUInt64 &&& Int64.toUInt64 63)).toInt64) + ((((((((a0 - (((a0).toUInt64 >>> ((Int32.ofInt 1).toInt64.toUInt64 &&& Int64.toUInt64 63)).toInt64 &&& Int64.ofInt (6148914691236517205))) &&& Int64.ofInt (3689348814741910323)) + ((((a0 - (((a0).toUInt64 >>> ((Int32.ofInt 1).toInt64.toUInt64 &&& Int64.toUInt64 63)).toInt64 &&& Int64.ofInt (6148914691236517205)))).toUInt64 >>> ((Int32.ofInt 2).toInt64.toUInt64 &&& Int64.toUInt64 63)).toInt64 &&& Int64.ofInt (3689348814741910323))) + (((((a0 - (((a0).toUInt64 >>> ((Int32.ofInt 1).toInt64.toUInt64 &&& Int64.toUInt64 63)).toInt64 &&& Int64.ofInt (6148914691236517205))) &&& Int64.ofInt (3689348814741910323)) + ((((a0 - (((a0).toUInt64 >>> ((Int32.ofInt 1).toInt64.toUInt64 &&& Int64.toUInt64 63)).toInt64 &&& Int64.ofInt (6148914691236517205)))).toUInt64 >>> ((Int32.ofInt 2).toInt64.toUInt64 &&& Int64.toUInt64 63)).toInt64 &&& Int64.ofInt (3689348814741910323)))).toUInt64 >>> ((Int32.ofInt 4).toInt64.toUInt64 &&& Int64.toUInt64 63)).toInt64) &&& Int64.ofInt (1085102592571150095)) + (((((((a0 - (((a0).toUInt64 >>> ((Int32.ofInt 1).toInt64.toUInt64 &&& Int64.toUInt64 63)).toInt64 &&& Int64.ofInt (6148914691236517205))) &&& Int64.ofInt (3689348814741910323)) + ((((a0 - (((a0).toUInt64 >>> ((Int32.ofInt 1).toInt64.toUInt64 &&& Int64.toUInt64 63)).toInt64 &&& Int64.ofInt (6148914691236517205)))).toUInt64 >>> ((Int32.ofInt 2).toInt64.toUInt64 &&& Int64.toUInt64 63)).toInt64 &&& Int64.ofInt (3689348814741910323))) + (((((a0 - (((a0).toUInt64 >>> ((Int32.ofInt 1).toInt64.toUInt64 &&& Int64.toUInt64 63)).toInt64 &&& Int64.ofInt (6148914691236517205))) &&& Int64.ofInt (3689348814741910323)) + ((((a0 - (((a0).toUInt64 >>> ((Int32.ofInt 1).toInt64.toUInt64 &&& Int64.toUInt64 63)).toInt64 &&& Int64.ofInt (6148914691236517205)))).toUInt64 >>> ((Int32.ofInt 2).toInt64.toUInt64 &&& Int64.toUInt64 63)).toInt64 &&& Int64.ofInt (3689348814741910323)))).toUInt64 >>> ((Int32.ofInt 4).toInt64.toUInt64 &&& Int64.toUInt64 63)).toInt64) &&& Int64.ofInt (1085102592571150095))).toUInt64 >>> (((Int8.ofInt 8).toInt32).toInt64.toUInt64 &&& Int64.toUInt64 63)).toInt64)).toUInt64 >>> (((Int8.ofInt 16).toInt32).toInt64.toUInt64 &&& Int64.toUInt64 63)).toInt64)).toUInt64 >>> (((Int8.ofInt 32).toInt32).toInt64.toUInt64 &&& Int64.toUInt64 63)).toInt64)).toInt32 &&& (Int8.ofInt 127).toInt32)
theorem cx_J13_bitCount_95d88 {SL : Nat} {xs : Nat → Int32} {d : Nat} {h : mm_H} {Q : Option Value → mm_H → Prop} {a0 : Int64} (k : Q (some (.int (sx_J13_bitCount_95d88 a0))) h) : mm_s SL xs (d + 1) 276 [.long a0] h Q := by
  unfold sx_J13_bitCount_95d88 at k
  refine e_J13_bitCount_95d88 rfl ?_
  refine sp_lload_n 1 rfl rfl rfl ?_
  refine sp_lload_n 2 rfl rfl rfl ?_
  refine sp_iconst 3 rfl rfl ?_
  refine sp_lushr 4 rfl rfl ?_
  refine sp_ldc2 7 rfl rfl ?_
  refine sp_land 8 rfl rfl ?_
  refine sp_lsub 9 rfl rfl ?_
  refine sp_lstore_n 10 rfl rfl rfl ?_
  refine sp_lload_n 11 rfl rfl rfl ?_
  refine sp_ldc2 14 rfl rfl ?_
  refine sp_land 15 rfl rfl ?_
  refine sp_lload_n 16 rfl rfl rfl ?_
  refine sp_iconst 17 rfl rfl ?_
  refine sp_lushr 18 rfl rfl ?_
  refine sp_ldc2 21 rfl rfl ?_
  refine sp_land 22 rfl rfl ?_
  refine sp_ladd 23 rfl rfl ?_
  refine sp_lstore_n 24 rfl rfl rfl ?_
  refine sp_lload_n 25 rfl rfl rfl ?_
  refine sp_lload_n 26 rfl rfl rfl ?_
  refine sp_iconst 27 rfl rfl ?_
  refine sp_lushr 28 rfl rfl ?_
  refine sp_ladd 29 rfl rfl ?_
  refine sp_ldc2 32 rfl rfl ?_
  refine sp_land 33 rfl rfl ?_
  refine sp_lstore_n 34 rfl rfl rfl ?_
  refine sp_lload_n 35 rfl rfl rfl ?_
  refine sp_lload_n 36 rfl rfl rfl ?_
  refine sp_bipush 38 rfl rfl ?_
  refine sp_lushr 39 rfl rfl ?_
  refine sp_ladd 40 rfl rfl ?_
  refine sp_lstore_n 41 rfl rfl rfl ?_
  refine sp_lload_n 42 rfl rfl rfl ?_
  refine sp_lload_n 43 rfl rfl rfl ?_
  refine sp_bipush 45 rfl rfl ?_
  refine sp_lushr 46 rfl rfl ?_
  refine sp_ladd 47 rfl rfl ?_
  refine sp_lstore_n 48 rfl rfl rfl ?_
  refine sp_lload_n 49 rfl rfl rfl ?_
  refine sp_lload_n 50 rfl rfl rfl ?_
  refine sp_bipush 52 rfl rfl ?_
  refine sp_lushr 53 rfl rfl ?_
  refine sp_ladd 54 rfl rfl ?_
  refine sp_lstore_n 55 rfl rfl rfl ?_
  refine sp_lload_n 56 rfl rfl rfl ?_
  refine sp_l2i 57 rfl rfl ?_
  refine sp_bipush 59 rfl rfl ?_
  refine sp_iand 60 rfl rfl ?_
  refine st_iret rfl rfl (Nat.le_refl _) (Nat.le_refl _) ?_
  exact k
def sx_J9_abs_0f7a4 (a0 : Int32) : Int32 := (if 0 ≤ a0 then a0 else (-a0))
theorem cx_J9_abs_0f7a4 {SL : Nat} {xs : Nat → Int32} {d : Nat} {h : mm_H} {Q : Option Value → mm_H → Prop} {a0 : Int32} (k : Q (some (.int (sx_J9_abs_0f7a4 a0))) h) : mm_s SL xs (d + 1) 278 [.int a0] h Q := by
  unfold sx_J9_abs_0f7a4 at k
  refine e_J9_abs_0f7a4 rfl ?_
  refine sp_iload_n 1 rfl rfl rfl ?_
  refine sp_if_ge 4 rfl rfl (fun q1 => ?_) (fun q1 => ?_)
  · skip
    refine sp_iload_n 10 rfl rfl rfl ?_
    refine st_iret rfl rfl (Nat.le_refl _) (Nat.le_refl _) ?_
    rw [if_pos (show 0 ≤ a0 from q1)] at k
    exact k
  · skip
    refine sp_iload_n 5 rfl rfl rfl ?_
    refine sp_ineg 6 rfl rfl ?_
    refine sp_goto rfl ?_
    refine st_iret rfl rfl (Nat.le_refl _) (Nat.le_refl _) ?_
    rw [if_neg (show ¬ (0 ≤ a0) from q1)] at k
    exact k
def sx_J9_max_7cf53 (a0 : Int32) (a1 : Int32) : Int32 := (if a0 < a1 then a1 else a0)
theorem cx_J9_max_7cf53 {SL : Nat} {xs : Nat → Int32} {d : Nat} {h : mm_H} {Q : Option Value → mm_H → Prop} {a0 : Int32} {a1 : Int32} (k : Q (some (.int (sx_J9_max_7cf53 a0 a1))) h) : mm_s SL xs (d + 1) 279 [.int a0, .int a1] h Q := by
  unfold sx_J9_max_7cf53 at k
  refine e_J9_max_7cf53 rfl ?_
  refine sp_iload_n 1 rfl rfl rfl ?_
  refine sp_iload_n 2 rfl rfl rfl ?_
  refine sp_ic_lt 5 rfl rfl (fun q2 => ?_) (fun q2 => ?_)
  · skip
    refine sp_iload_n 10 rfl rfl rfl ?_
    refine st_iret rfl rfl (Nat.le_refl _) (Nat.le_refl _) ?_
    rw [if_pos (show a0 < a1 from q2)] at k
    exact k
  · skip
    refine sp_iload_n 6 rfl rfl rfl ?_
    refine sp_goto rfl ?_
    refine st_iret rfl rfl (Nat.le_refl _) (Nat.le_refl _) ?_
    rw [if_neg (show ¬ (a0 < a1) from q2)] at k
    exact k
def sx_J9_min_7cf53 (a0 : Int32) (a1 : Int32) : Int32 := (if a1 < a0 then a1 else a0)
theorem cx_J9_min_7cf53 {SL : Nat} {xs : Nat → Int32} {d : Nat} {h : mm_H} {Q : Option Value → mm_H → Prop} {a0 : Int32} {a1 : Int32} (k : Q (some (.int (sx_J9_min_7cf53 a0 a1))) h) : mm_s SL xs (d + 1) 280 [.int a0, .int a1] h Q := by
  unfold sx_J9_min_7cf53 at k
  refine e_J9_min_7cf53 rfl ?_
  refine sp_iload_n 1 rfl rfl rfl ?_
  refine sp_iload_n 2 rfl rfl rfl ?_
  refine sp_ic_gt 5 rfl rfl (fun q2 => ?_) (fun q2 => ?_)
  · skip
    refine sp_iload_n 10 rfl rfl rfl ?_
    refine st_iret rfl rfl (Nat.le_refl _) (Nat.le_refl _) ?_
    rw [if_pos (show a1 < a0 from q2)] at k
    exact k
  · skip
    refine sp_iload_n 6 rfl rfl rfl ?_
    refine sp_goto rfl ?_
    refine st_iret rfl rfl (Nat.le_refl _) (Nat.le_refl _) ?_
    rw [if_neg (show ¬ (a1 < a0) from q2)] at k
    exact k
theorem cx_X0_areNear {SL : Nat} {xs : Nat → Int32} {d : Nat} {h : mm_H} {Q : Option Value → mm_H → Prop} {o : Nat} {a0 : Int32} (hk_o : h.2.1 o = .inr 0) {r0 : Nat} (hr_r0 : h.2.2.2.2 o 0 = some r0) (hk_r0 : h.2.1 r0 = .inr 1) (k : (if (h.2.2.1 r0 3) = (Int32.ofInt (-1)) then Q (some (.int (Int32.ofInt 0))) h else (if (h.2.2.1 r0 4) = (Int32.ofInt (-1)) then Q (some (.int (Int32.ofInt 0))) h else (if (sx_J9_abs_0f7a4 ((h.2.2.1 r0 3) - (h.2.2.1 r0 4))) ≤ (Int32.ofInt 1) then Q (some (.int (Int32.ofInt 1))) h else (if (sx_J9_abs_0f7a4 ((h.2.2.1 r0 3) - (h.2.2.1 r0 4))) = (a0 - Int32.ofInt 1) then Q (some (.int (Int32.ofInt 1))) h else Q (some (.int (Int32.ofInt 0))) h))))) : mm_s SL xs (d + 2) 7 [.ref o, .int a0] h Q := by
  refine e_X0_areNear rfl ?_
  refine sp_aload_n 1 rfl rfl rfl ?_
  refine sp_getR 4 rfl hk_o hr_r0 rfl ?_
  refine sp_getI 7 rfl hk_r0 rfl ?_
  refine sp_iconst 8 rfl rfl ?_
  refine sp_ic_eq 11 rfl rfl (fun q8 => ?_) (fun q8 => ?_)
  · skip
    refine sp_iconst 23 rfl rfl ?_
    refine st_zret rfl rfl (by decide) (Nat.le_refl _) (Nat.le_refl _) ?_
    rw [if_pos (show (h.2.2.1 r0 3) = (Int32.ofInt (-1)) from q8)] at k
    exact k
  · skip
    refine sp_aload_n 12 rfl rfl rfl ?_
    refine sp_getR 15 rfl hk_o hr_r0 rfl ?_
    refine sp_getI 18 rfl hk_r0 rfl ?_
    refine sp_iconst 19 rfl rfl ?_
    refine sp_ic_ne 22 rfl rfl (fun q19 => ?_) (fun q19 => ?_)
    · skip
      refine sp_aload_n 25 rfl rfl rfl ?_
      refine sp_getR 28 rfl hk_o hr_r0 rfl ?_
      refine sp_getI 31 rfl hk_r0 rfl ?_
      refine sp_aload_n 32 rfl rfl rfl ?_
      refine sp_getR 35 rfl hk_o hr_r0 rfl ?_
      refine sp_getI 38 rfl hk_r0 rfl ?_
      refine sp_isub 39 rfl rfl ?_
      refine sc_S 42 rfl rfl rfl rfl (Nat.le_refl _) (Nat.le_refl _) rfl ?_
      refine cx_J9_abs_0f7a4 ?_
      refine sp_istore_n 43 rfl rfl rfl ?_
      refine sp_iload_n 44 rfl rfl rfl ?_
      refine sp_iconst 45 rfl rfl ?_
      refine sp_ic_le 48 rfl rfl (fun q45 => ?_) (fun q45 => ?_)
      · skip
        refine sp_iconst 56 rfl rfl ?_
        refine sp_goto rfl ?_
        refine st_zret rfl rfl (by decide) (Nat.le_refl _) (Nat.le_refl _) ?_
        rw [if_neg (show ¬ ((h.2.2.1 r0 3) = (Int32.ofInt (-1))) from q8)] at k
        rw [if_neg (show ¬ ((h.2.2.1 r0 4) = (Int32.ofInt (-1))) from q19)] at k
        rw [if_pos (show (sx_J9_abs_0f7a4 ((h.2.2.1 r0 3) - (h.2.2.1 r0 4))) ≤ (Int32.ofInt 1) from q45)] at k
        exact k
      · skip
        refine sp_iload_n 49 rfl rfl rfl ?_
        refine sp_iload_n 50 rfl rfl rfl ?_
        refine sp_iconst 51 rfl rfl ?_
        refine sp_isub 52 rfl rfl ?_
        refine sp_ic_ne 55 rfl rfl (fun q52 => ?_) (fun q52 => ?_)
        · skip
          refine sp_iconst 60 rfl rfl ?_
          refine st_zret rfl rfl (by decide) (Nat.le_refl _) (Nat.le_refl _) ?_
          rw [if_neg (show ¬ ((h.2.2.1 r0 3) = (Int32.ofInt (-1))) from q8)] at k
          rw [if_neg (show ¬ ((h.2.2.1 r0 4) = (Int32.ofInt (-1))) from q19)] at k
          rw [if_neg (show ¬ ((sx_J9_abs_0f7a4 ((h.2.2.1 r0 3) - (h.2.2.1 r0 4))) ≤ (Int32.ofInt 1)) from q45)] at k
          rw [if_neg (show ¬ ((sx_J9_abs_0f7a4 ((h.2.2.1 r0 3) - (h.2.2.1 r0 4))) = (a0 - Int32.ofInt 1)) from q52)] at k
          exact k
        · skip
          refine sp_iconst 56 rfl rfl ?_
          refine sp_goto rfl ?_
          refine st_zret rfl rfl (by decide) (Nat.le_refl _) (Nat.le_refl _) ?_
          rw [if_neg (show ¬ ((h.2.2.1 r0 3) = (Int32.ofInt (-1))) from q8)] at k
          rw [if_neg (show ¬ ((h.2.2.1 r0 4) = (Int32.ofInt (-1))) from q19)] at k
          rw [if_neg (show ¬ ((sx_J9_abs_0f7a4 ((h.2.2.1 r0 3) - (h.2.2.1 r0 4))) ≤ (Int32.ofInt 1)) from q45)] at k
          rw [if_pos (show (sx_J9_abs_0f7a4 ((h.2.2.1 r0 3) - (h.2.2.1 r0 4))) = (a0 - Int32.ofInt 1) from q52)] at k
          exact k
    · skip
      refine sp_iconst 23 rfl rfl ?_
      refine st_zret rfl rfl (by decide) (Nat.le_refl _) (Nat.le_refl _) ?_
      rw [if_neg (show ¬ ((h.2.2.1 r0 3) = (Int32.ofInt (-1))) from q8)] at k
      rw [if_pos (show (h.2.2.1 r0 4) = (Int32.ofInt (-1)) from q19)] at k
      exact k
theorem cx_X1_standing {SL : Nat} {xs : Nat → Int32} {d : Nat} {h : mm_H} {Q : Option Value → mm_H → Prop} {o : Nat} (hk_o : h.2.1 o = .inr 1) (k : Q (some (.int (sx_J13_bitCount_95d88 (h.2.2.2.1 o 1)))) h) : mm_s SL xs (d + 2) 15 [.ref o] h Q := by
  refine e_X1_standing rfl ?_
  refine sp_aload_n 1 rfl rfl rfl ?_
  refine sp_getJ 4 rfl hk_o rfl ?_
  refine sc_S 7 rfl rfl rfl rfl (Nat.le_refl _) (Nat.le_refl _) rfl ?_
  refine cx_J13_bitCount_95d88 ?_
  refine st_iret rfl rfl (Nat.le_refl _) (Nat.le_refl _) ?_
  exact k
theorem cx_X1_standsAt {SL : Nat} {xs : Nat → Int32} {d : Nat} {h : mm_H} {Q : Option Value → mm_H → Prop} {o : Nat} {a0 : Int32} (hk_o : h.2.1 o = .inr 1) (k : Q (some (.int (sx_X6_has (h.2.2.2.1 o 1) a0))) h) : mm_s SL xs (d + 2) 16 [.ref o, .int a0] h Q := by
  refine e_X1_standsAt rfl ?_
  refine sp_aload_n 1 rfl rfl rfl ?_
  refine sp_getJ 4 rfl hk_o rfl ?_
  refine sp_iload_n 5 rfl rfl rfl ?_
  refine sc_S 8 rfl rfl rfl rfl (Nat.le_refl _) (Nat.le_refl _) rfl ?_
  refine cx_X6_has ?_
  refine st_zret rfl rfl (bz_X6_has) (Nat.le_refl _) (Nat.le_refl _) ?_
  exact k
theorem cx_X1_firstLook {SL : Nat} {xs : Nat → Int32} {d : Nat} {h : mm_H} {Q : Option Value → mm_H → Prop} {o : Nat} {a0 : Nat} {a1 : Int32} {a2 : Int32} (hk_o : h.2.1 o = .inr 1) (hk_a0 : h.2.1 a0 = .inr 4) (k : (if a1 = 0 then (if (h.2.2.1 o 3) = (Int32.ofInt (-1)) then (if a1 = 0 then Q (some (.int (h.2.2.1 o 9))) h else Q (some (.int (h.2.2.1 a0 5))) h) else Q (some (.int (sx_X6_next (h.2.2.1 o 3) (h.2.2.1 a0 0) a2))) h) else (if (h.2.2.1 o 4) = (Int32.ofInt (-1)) then (if a1 = 0 then Q (some (.int (h.2.2.1 o 9))) h else Q (some (.int (h.2.2.1 a0 5))) h) else Q (some (.int (sx_X6_next (h.2.2.1 o 4) (h.2.2.1 a0 0) a2))) h))) : mm_s SL xs (d + 2) 22 [.ref o, .ref a0, .int a1, .int a2] h Q := by
  refine e_X1_firstLook rfl ?_
  refine sp_iload_n 1 rfl rfl rfl ?_
  refine sp_if_eq 4 rfl rfl (fun q1 => ?_) (fun q1 => ?_)
  · skip
    refine sp_aload_n 12 rfl rfl rfl ?_
    refine sp_getI 15 rfl hk_o rfl ?_
    refine sp_istore 17 rfl rfl rfl ?_
    refine sp_iload 19 rfl rfl rfl ?_
    refine sp_iconst 20 rfl rfl ?_
    refine sp_ic_ne 23 rfl rfl (fun q20 => ?_) (fun q20 => ?_)
    · skip
      refine sp_iload 41 rfl rfl rfl ?_
      refine sp_aload_n 42 rfl rfl rfl ?_
      refine sp_getI 45 rfl hk_a0 rfl ?_
      refine sp_iload_n 46 rfl rfl rfl ?_
      refine sc_S 49 rfl rfl rfl rfl (Nat.le_refl _) (Nat.le_refl _) rfl ?_
      refine cx_X6_next ?_
      refine st_iret rfl rfl (Nat.le_refl _) (Nat.le_refl _) ?_
      rw [if_pos (show a1 = 0 from q1)] at k
      rw [if_neg (show ¬ ((h.2.2.1 o 3) = (Int32.ofInt (-1))) from q20)] at k
      exact k
    · skip
      refine sp_iload_n 24 rfl rfl rfl ?_
      refine sp_if_eq 27 rfl rfl (fun q24 => ?_) (fun q24 => ?_)
      · skip
        refine sp_aload_n 35 rfl rfl rfl ?_
        refine sp_getI 38 rfl hk_o rfl ?_
        refine st_iret rfl rfl (Nat.le_refl _) (Nat.le_refl _) ?_
        rw [if_pos (show a1 = 0 from q1)] at k
        rw [if_pos (show (h.2.2.1 o 3) = (Int32.ofInt (-1)) from q20)] at k
        rw [if_pos (show a1 = 0 from q24)] at k
        exact k
      · skip
        refine sp_aload_n 28 rfl rfl rfl ?_
        refine sp_getI 31 rfl hk_a0 rfl ?_
        refine sp_goto rfl ?_
        refine st_iret rfl rfl (Nat.le_refl _) (Nat.le_refl _) ?_
        rw [if_pos (show a1 = 0 from q1)] at k
        rw [if_pos (show (h.2.2.1 o 3) = (Int32.ofInt (-1)) from q20)] at k
        rw [if_neg (show ¬ (a1 = 0) from q24)] at k
        exact k
  · skip
    refine sp_aload_n 5 rfl rfl rfl ?_
    refine sp_getI 8 rfl hk_o rfl ?_
    refine sp_goto rfl ?_
    refine sp_istore 17 rfl rfl rfl ?_
    refine sp_iload 19 rfl rfl rfl ?_
    refine sp_iconst 20 rfl rfl ?_
    refine sp_ic_ne 23 rfl rfl (fun q20 => ?_) (fun q20 => ?_)
    · skip
      refine sp_iload 41 rfl rfl rfl ?_
      refine sp_aload_n 42 rfl rfl rfl ?_
      refine sp_getI 45 rfl hk_a0 rfl ?_
      refine sp_iload_n 46 rfl rfl rfl ?_
      refine sc_S 49 rfl rfl rfl rfl (Nat.le_refl _) (Nat.le_refl _) rfl ?_
      refine cx_X6_next ?_
      refine st_iret rfl rfl (Nat.le_refl _) (Nat.le_refl _) ?_
      rw [if_neg (show ¬ (a1 = 0) from q1)] at k
      rw [if_neg (show ¬ ((h.2.2.1 o 4) = (Int32.ofInt (-1))) from q20)] at k
      exact k
    · skip
      refine sp_iload_n 24 rfl rfl rfl ?_
      refine sp_if_eq 27 rfl rfl (fun q24 => ?_) (fun q24 => ?_)
      · skip
        refine sp_aload_n 35 rfl rfl rfl ?_
        refine sp_getI 38 rfl hk_o rfl ?_
        refine st_iret rfl rfl (Nat.le_refl _) (Nat.le_refl _) ?_
        rw [if_neg (show ¬ (a1 = 0) from q1)] at k
        rw [if_pos (show (h.2.2.1 o 4) = (Int32.ofInt (-1)) from q20)] at k
        rw [if_pos (show a1 = 0 from q24)] at k
        exact k
      · skip
        refine sp_aload_n 28 rfl rfl rfl ?_
        refine sp_getI 31 rfl hk_a0 rfl ?_
        refine sp_goto rfl ?_
        refine st_iret rfl rfl (Nat.le_refl _) (Nat.le_refl _) ?_
        rw [if_neg (show ¬ (a1 = 0) from q1)] at k
        rw [if_pos (show (h.2.2.1 o 4) = (Int32.ofInt (-1)) from q20)] at k
        rw [if_neg (show ¬ (a1 = 0) from q24)] at k
        exact k
theorem cx_X5_hitsToGo {SL : Nat} {xs : Nat → Int32} {d : Nat} {h : mm_H} {Q : Option Value → mm_H → Prop} {o : Nat} {a0 : Int32} (hk_o : h.2.1 o = .inr 4) (k : (if (sx_X6_has (h.2.2.2.1 o 6) a0) = 0 then Q (some (.int ((h.2.2.1 o 4) + Int32.ofInt 1))) h else Q (some (.int ((h.2.2.1 o 4) + Int32.ofInt 2))) h)) : mm_s SL xs (d + 2) 59 [.ref o, .int a0] h Q := by
  refine e_X5_hitsToGo rfl ?_
  refine sp_aload_n 1 rfl rfl rfl ?_
  refine sp_getJ 4 rfl hk_o rfl ?_
  refine sp_iload_n 5 rfl rfl rfl ?_
  refine sc_S 8 rfl rfl rfl rfl (Nat.le_refl _) (Nat.le_refl _) rfl ?_
  refine cx_X6_has ?_
  refine sp_if_eq 11 rfl rfl (fun q8 => ?_) (fun q8 => ?_)
  · skip
    refine sp_aload_n 21 rfl rfl rfl ?_
    refine sp_getI 24 rfl hk_o rfl ?_
    refine sp_iconst 25 rfl rfl ?_
    refine sp_iadd 26 rfl rfl ?_
    refine st_iret rfl rfl (Nat.le_refl _) (Nat.le_refl _) ?_
    rw [if_pos (show (sx_X6_has (h.2.2.2.1 o 6) a0) = 0 from q8)] at k
    exact k
  · skip
    refine sp_aload_n 12 rfl rfl rfl ?_
    refine sp_getI 15 rfl hk_o rfl ?_
    refine sp_iconst 16 rfl rfl ?_
    refine sp_iadd 17 rfl rfl ?_
    refine sp_goto rfl ?_
    refine st_iret rfl rfl (Nat.le_refl _) (Nat.le_refl _) ?_
    rw [if_neg (show ¬ ((sx_X6_has (h.2.2.2.1 o 6) a0) = 0) from q8)] at k
    exact k
def sx_X6_below (a0 : Int64) (a1 : Int32) : Int32 := (sx_J13_bitCount_95d88 (a0 &&& (sx_X6_all a1)))
theorem cx_X6_below {SL : Nat} {xs : Nat → Int32} {d : Nat} {h : mm_H} {Q : Option Value → mm_H → Prop} {a0 : Int64} {a1 : Int32} (k : Q (some (.int (sx_X6_below a0 a1))) h) : mm_s SL xs (d + 2) 67 [.long a0, .int a1] h Q := by
  unfold sx_X6_below at k
  refine e_X6_below rfl ?_
  refine sp_lload_n 1 rfl rfl rfl ?_
  refine sp_iload_n 2 rfl rfl rfl ?_
  refine sc_S 5 rfl rfl rfl rfl (Nat.le_refl _) (Nat.le_refl _) rfl ?_
  refine cx_X6_all ?_
  refine sp_land 6 rfl rfl ?_
  refine sc_S 9 rfl rfl rfl rfl (Nat.le_refl _) (Nat.le_refl _) rfl ?_
  refine cx_J13_bitCount_95d88 ?_
  refine st_iret rfl rfl (Nat.le_refl _) (Nat.le_refl _) ?_
  exact k
theorem cx_X10_isChooser {SL : Nat} {xs : Nat → Int32} {d : Nat} {h : mm_H} {Q : Option Value → mm_H → Prop} {o : Nat} {a0 : Int32} {a1 : Int32} (hk_o : h.2.1 o = .inr 8) {r0 : Nat} (hr_r0 : h.2.2.2.2 o 7 = some r0) (hk_r0 : h.2.1 r0 = .inr 4) (k : (if (sx_X10_isPlain a0) = 0 then Q (some (.int (Int32.ofInt 0))) h else (if a1 < 0 then Q (some (.int (Int32.ofInt 0))) h else (if (h.2.2.1 r0 10) ≤ a1 then Q (some (.int (Int32.ofInt 0))) h else (if ((Int8.ofInt 9).toInt32) ≤ a1 then Q (some (.int (Int32.ofInt 0))) h else (if a0 ≤ a1 then Q (some (.int (Int32.ofInt 0))) h else (if (h.2.2.1 r0 11) ≤ 0 then Q (some (.int (Int32.ofInt 0))) h else Q (some (.int (Int32.ofInt 1))) h))))))) : mm_s SL xs (d + 2) 158 [.ref o, .int a0, .int a1] h Q := by
  refine e_X10_isChooser rfl ?_
  refine sp_iload_n 1 rfl rfl rfl ?_
  refine sc_S 4 rfl rfl rfl rfl (Nat.le_refl _) (Nat.le_refl _) rfl ?_
  refine cx_X10_isPlain ?_
  refine sp_if_eq 7 rfl rfl (fun q4 => ?_) (fun q4 => ?_)
  · skip
    refine sp_iconst 48 rfl rfl ?_
    refine st_zret rfl rfl (by decide) (Nat.le_refl _) (Nat.le_refl _) ?_
    rw [if_pos (show (sx_X10_isPlain a0) = 0 from q4)] at k
    exact k
  · skip
    refine sp_iload_n 8 rfl rfl rfl ?_
    refine sp_if_lt 11 rfl rfl (fun q8 => ?_) (fun q8 => ?_)
    · skip
      refine sp_iconst 48 rfl rfl ?_
      refine st_zret rfl rfl (by decide) (Nat.le_refl _) (Nat.le_refl _) ?_
      rw [if_neg (show ¬ ((sx_X10_isPlain a0) = 0) from q4)] at k
      rw [if_pos (show a1 < 0 from q8)] at k
      exact k
    · skip
      refine sp_iload_n 12 rfl rfl rfl ?_
      refine sp_aload_n 13 rfl rfl rfl ?_
      refine sp_getR 16 rfl hk_o hr_r0 rfl ?_
      refine sp_getI 19 rfl hk_r0 rfl ?_
      refine sp_ic_ge 22 rfl rfl (fun q19 => ?_) (fun q19 => ?_)
      · skip
        refine sp_iconst 48 rfl rfl ?_
        refine st_zret rfl rfl (by decide) (Nat.le_refl _) (Nat.le_refl _) ?_
        rw [if_neg (show ¬ ((sx_X10_isPlain a0) = 0) from q4)] at k
        rw [if_neg (show ¬ (a1 < 0) from q8)] at k
        rw [if_pos (show (h.2.2.1 r0 10) ≤ a1 from q19)] at k
        exact k
      · skip
        refine sp_iload_n 23 rfl rfl rfl ?_
        refine sp_bipush 25 rfl rfl ?_
        refine sp_ic_ge 28 rfl rfl (fun q25 => ?_) (fun q25 => ?_)
        · skip
          refine sp_iconst 48 rfl rfl ?_
          refine st_zret rfl rfl (by decide) (Nat.le_refl _) (Nat.le_refl _) ?_
          rw [if_neg (show ¬ ((sx_X10_isPlain a0) = 0) from q4)] at k
          rw [if_neg (show ¬ (a1 < 0) from q8)] at k
          rw [if_neg (show ¬ ((h.2.2.1 r0 10) ≤ a1) from q19)] at k
          rw [if_pos (show ((Int8.ofInt 9).toInt32) ≤ a1 from q25)] at k
          exact k
        · skip
          refine sp_iload_n 29 rfl rfl rfl ?_
          refine sp_iload_n 30 rfl rfl rfl ?_
          refine sp_ic_ge 33 rfl rfl (fun q30 => ?_) (fun q30 => ?_)
          · skip
            refine sp_iconst 48 rfl rfl ?_
            refine st_zret rfl rfl (by decide) (Nat.le_refl _) (Nat.le_refl _) ?_
            rw [if_neg (show ¬ ((sx_X10_isPlain a0) = 0) from q4)] at k
            rw [if_neg (show ¬ (a1 < 0) from q8)] at k
            rw [if_neg (show ¬ ((h.2.2.1 r0 10) ≤ a1) from q19)] at k
            rw [if_neg (show ¬ (((Int8.ofInt 9).toInt32) ≤ a1) from q25)] at k
            rw [if_pos (show a0 ≤ a1 from q30)] at k
            exact k
          · skip
            refine sp_aload_n 34 rfl rfl rfl ?_
            refine sp_getR 37 rfl hk_o hr_r0 rfl ?_
            refine sp_getI 40 rfl hk_r0 rfl ?_
            refine sp_if_le 43 rfl rfl (fun q40 => ?_) (fun q40 => ?_)
            · skip
              refine sp_iconst 48 rfl rfl ?_
              refine st_zret rfl rfl (by decide) (Nat.le_refl _) (Nat.le_refl _) ?_
              rw [if_neg (show ¬ ((sx_X10_isPlain a0) = 0) from q4)] at k
              rw [if_neg (show ¬ (a1 < 0) from q8)] at k
              rw [if_neg (show ¬ ((h.2.2.1 r0 10) ≤ a1) from q19)] at k
              rw [if_neg (show ¬ (((Int8.ofInt 9).toInt32) ≤ a1) from q25)] at k
              rw [if_neg (show ¬ (a0 ≤ a1) from q30)] at k
              rw [if_pos (show (h.2.2.1 r0 11) ≤ 0 from q40)] at k
              exact k
            · skip
              refine sp_iconst 44 rfl rfl ?_
              refine sp_goto rfl ?_
              refine st_zret rfl rfl (by decide) (Nat.le_refl _) (Nat.le_refl _) ?_
              rw [if_neg (show ¬ ((sx_X10_isPlain a0) = 0) from q4)] at k
              rw [if_neg (show ¬ (a1 < 0) from q8)] at k
              rw [if_neg (show ¬ ((h.2.2.1 r0 10) ≤ a1) from q19)] at k
              rw [if_neg (show ¬ (((Int8.ofInt 9).toInt32) ≤ a1) from q25)] at k
              rw [if_neg (show ¬ (a0 ≤ a1) from q30)] at k
              rw [if_neg (show ¬ ((h.2.2.1 r0 11) ≤ 0) from q40)] at k
              exact k
def sx_X10_isSet (a0 : Int32) (a1 : Int64) : Int32 := (if (lg_cmp a1 (Int64.ofNat 0)) = 0 then (Int32.ofInt 0) else (if (lg_cmp (a1 &&& ((sx_X6_all a0) ^^^ Int64.ofInt (-1))) (Int64.ofNat 0)) = 0 then (Int32.ofInt 1) else (Int32.ofInt 0)))
theorem bz_X10_isSet {a0 : Int32} {a1 : Int64} : sx_X10_isSet a0 a1 = 0 ∨ sx_X10_isSet a0 a1 = 1 := by
  unfold sx_X10_isSet
  repeat (first | exact Or.inl rfl | exact Or.inr rfl | exact bz_any | split)
theorem cx_X10_isSet {SL : Nat} {xs : Nat → Int32} {d : Nat} {h : mm_H} {Q : Option Value → mm_H → Prop} {a0 : Int32} {a1 : Int64} (k : Q (some (.int (sx_X10_isSet a0 a1))) h) : mm_s SL xs (d + 2) 162 [.int a0, .long a1] h Q := by
  unfold sx_X10_isSet at k
  refine e_X10_isSet rfl ?_
  refine sp_lload_n 1 rfl rfl rfl ?_
  refine sp_lconst 2 rfl rfl ?_
  refine sp_lcmp 3 rfl rfl ?_
  refine sp_if_eq 6 rfl rfl (fun q3 => ?_) (fun q3 => ?_)
  · skip
    refine sp_iconst 26 rfl rfl ?_
    refine st_zret rfl rfl (by decide) (Nat.le_refl _) (Nat.le_refl _) ?_
    rw [if_pos (show (lg_cmp a1 (Int64.ofNat 0)) = 0 from q3)] at k
    exact k
  · skip
    refine sp_lload_n 7 rfl rfl rfl ?_
    refine sp_iload_n 8 rfl rfl rfl ?_
    refine sc_S 11 rfl rfl rfl rfl (Nat.le_refl _) (Nat.le_refl _) rfl ?_
    refine cx_X6_all ?_
    refine sp_ldc2 14 rfl rfl ?_
    refine sp_lxor 15 rfl rfl ?_
    refine sp_land 16 rfl rfl ?_
    refine sp_lconst 17 rfl rfl ?_
    refine sp_lcmp 18 rfl rfl ?_
    refine sp_if_ne 21 rfl rfl (fun q18 => ?_) (fun q18 => ?_)
    · skip
      refine sp_iconst 26 rfl rfl ?_
      refine st_zret rfl rfl (by decide) (Nat.le_refl _) (Nat.le_refl _) ?_
      rw [if_neg (show ¬ ((lg_cmp a1 (Int64.ofNat 0)) = 0) from q3)] at k
      rw [if_neg (show ¬ ((lg_cmp (a1 &&& ((sx_X6_all a0) ^^^ Int64.ofInt (-1))) (Int64.ofNat 0)) = 0) from q18)] at k
      exact k
    · skip
      refine sp_iconst 22 rfl rfl ?_
      refine sp_goto rfl ?_
      refine st_zret rfl rfl (by decide) (Nat.le_refl _) (Nat.le_refl _) ?_
      rw [if_neg (show ¬ ((lg_cmp a1 (Int64.ofNat 0)) = 0) from q3)] at k
      rw [if_pos (show (lg_cmp (a1 &&& ((sx_X6_all a0) ^^^ Int64.ofInt (-1))) (Int64.ofNat 0)) = 0 from q18)] at k
      exact k
