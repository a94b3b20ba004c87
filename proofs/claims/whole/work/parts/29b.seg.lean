theorem sg_X11_order {SL : Nat} {xs : Nat → Int32} {d : Nat} {p s q : Nat} {Q : Option Value → mm_H → Prop} {a0 : Int32} {I : Nat → Nat → Int32} {J : Nat → Nat → Int64}  (k : ((a0 < Int32.ofInt 0 → Q (some (.int (Int32.ofInt (-1)))) (hp p s q I J)) ∧ (¬ (a0 < Int32.ofInt 0) → (((Int32.ofInt 59) < a0 → Q (some (.int (Int32.ofInt (-1)))) (hp p s q I J)) ∧ (¬ ((Int32.ofInt 59) < a0) → (((I 65 80) = (Int32.ofInt 60) → Q (some (.int (Int32.ofInt (-1)))) (hp p s q I J)) ∧ (¬ ((I 65 80) = (Int32.ofInt 60)) → (vp_in (I 65 80) 60 ∧ Q (some (.int ((I 65 80) + (Int32.ofInt 1)))) (hp p s q (mm_u (mm_u I 97 (((I 65 80)).toNatClampNeg) a0) 65 80 ((I 65 80) + (Int32.ofInt 1))) J))))))))) : mm_s SL xs (d + 1) 230 [.ref 65, .int a0] (hp p s q I J) Q := by
  refine e_X11_order rfl ?_
  refine hs_L (L2 := [some (.ref 65), some (.int a0)]) rfl ?_
  refine sp_iload_n 1 rfl rfl rfl ?_
  refine sp_if_lt 4 rfl rfl (fun q_ => ?_) (fun q_ => ?_)
  · have k := k.1 q_
    refine sp_iconst 20 rfl rfl ?_
    exact st_iret rfl rfl (Nat.le_refl _) (Nat.le_refl _) k
  · have k := k.2 q_
    refine sp_iload_n 5 rfl rfl rfl ?_
    refine sp_bipush 7 rfl rfl ?_
    refine sp_I (y := Int32.ofInt 59) rfl ?_
    refine sp_ic_gt 10 rfl rfl (fun q_ => ?_) (fun q_ => ?_)
    · have k := k.1 q_
      refine sp_iconst 20 rfl rfl ?_
      exact st_iret rfl rfl (Nat.le_refl _) (Nat.le_refl _) k
    · have k := k.2 q_
      refine sp_aload_n 11 rfl rfl rfl ?_
      refine hq_getI 14 rfl rfl rfl ?_
      refine sp_bipush 16 rfl rfl ?_
      refine sp_I (y := Int32.ofInt 60) rfl ?_
      refine sp_ic_ne 19 rfl rfl (fun q_ => ?_) (fun q_ => ?_)
      · have k := k.2 q_
        refine sp_aload_n 22 rfl rfl rfl ?_
        refine hq_getR 25 rfl rfl rfl rfl ?_
        refine sp_aload_n 26 rfl rfl rfl ?_
        refine hq_getI 29 rfl rfl rfl ?_
        refine sp_iload_n 30 rfl rfl rfl ?_
        have n1_ := k.1
        have k := k.2
        refine hq_iast 31 rfl rfl n1_ rfl ?_
        refine sp_aload_n 32 rfl rfl rfl ?_
        refine sp_dup 33 rfl rfl rfl ?_
        refine hq_getI 36 rfl rfl rfl ?_
        refine sp_I (y := (I 65 80)) (by simp [mm_u]) ?_
        refine sp_iconst 37 rfl rfl ?_
        refine sp_iadd 38 rfl rfl ?_
        refine hq_putI 41 rfl rfl rfl ?_
        refine sp_aload_n 42 rfl rfl rfl ?_
        refine hq_getI 45 rfl rfl rfl ?_
        refine sp_I (y := ((I 65 80) + (Int32.ofInt 1))) (by simp [mm_u]) ?_
        exact st_iret rfl rfl (Nat.le_refl _) (Nat.le_refl _) k
      · have k := k.1 q_
        refine sp_iconst 20 rfl rfl ?_
        exact st_iret rfl rfl (Nat.le_refl _) (Nat.le_refl _) k
theorem sg_X11_keep {SL : Nat} {xs : Nat → Int32} {d : Nat} {p s q : Nat} {Q : Option Value → mm_H → Prop} {a0 : Int32} {I : Nat → Nat → Int32} {J : Nat → Nat → Int64}  (k : ((a0 < Int32.ofInt 0 → Q (some (.int (Int32.ofInt (-1)))) (hp p s q I J)) ∧ (¬ (a0 < Int32.ofInt 0) → ((a0 ≤ (I 65 80) → Q (some (.int a0)) (hp p s q (mm_u I 65 80 a0) J)) ∧ (¬ (a0 ≤ (I 65 80)) → Q (some (.int (Int32.ofInt (-1)))) (hp p s q I J)))))) : mm_s SL xs (d + 1) 231 [.ref 65, .int a0] (hp p s q I J) Q := by
  refine e_X11_keep rfl ?_
  refine hs_L (L2 := [some (.ref 65), some (.int a0)]) rfl ?_
  refine sp_iload_n 1 rfl rfl rfl ?_
  refine sp_if_lt 4 rfl rfl (fun q_ => ?_) (fun q_ => ?_)
  · have k := k.1 q_
    refine sp_iconst 13 rfl rfl ?_
    exact st_iret rfl rfl (Nat.le_refl _) (Nat.le_refl _) k
  · have k := k.2 q_
    refine sp_iload_n 5 rfl rfl rfl ?_
    refine sp_aload_n 6 rfl rfl rfl ?_
    refine hq_getI 9 rfl rfl rfl ?_
    refine sp_ic_le 12 rfl rfl (fun q_ => ?_) (fun q_ => ?_)
    · have k := k.1 q_
      refine sp_aload_n 15 rfl rfl rfl ?_
      refine sp_iload_n 16 rfl rfl rfl ?_
      refine hq_putI 19 rfl rfl rfl ?_
      refine sp_iload_n 20 rfl rfl rfl ?_
      exact st_iret rfl rfl (Nat.le_refl _) (Nat.le_refl _) k
    · have k := k.2 q_
      refine sp_iconst 13 rfl rfl ?_
      exact st_iret rfl rfl (Nat.le_refl _) (Nat.le_refl _) k
def w_X11_farOf_15 (SL : Nat) (xs : Nat → Int32) (d : Nat) (p s q : Nat) (Q : Option Value → mm_H → Prop) (v0 : Int64) (v2 : Int32) (v3 : Int64) (v5 : Int64) (I : Nat → Nat → Int32) (J : Nat → Nat → Int64) : Prop := mm_w SL xs (mm_s SL xs (d + 0)) mm_am kX11_farOf 0 0 (some .long) Q 15 [some (.long v0), none, some (.int v2), some (.long v3), none, some (.long v5), none] [] (hp p s q I J) 0 0
theorem sg_X11_farOf {SL : Nat} {xs : Nat → Int32} {d : Nat} {p s q : Nat} {Q : Option Value → mm_H → Prop} {a0 : Int64} {a1 : Int32} {a2 : Int64} {I : Nat → Nat → Int32} {J : Nat → Nat → Int64}  (k : ((a1 = (Int32.ofInt 1) → Q (some (.long (a2 - (Int64.ofInt 1)))) (hp p s q I J)) ∧ (¬ (a1 = (Int32.ofInt 1)) → w_X11_farOf_15 SL xs d p s q Q a0 a1 a2 (((a1).toInt64) * a2) I J))) : mm_s SL xs (d + 1) 233 [.long a0, .int a1, .long a2] (hp p s q I J) Q := by
  refine e_X11_farOf rfl ?_
  refine hs_L (L2 := [some (.long a0), none, some (.int a1), some (.long a2), none, none, none]) rfl ?_
  refine sp_iload_n 1 rfl rfl rfl ?_
  refine sp_iconst 2 rfl rfl ?_
  refine sp_ic_ne 5 rfl rfl (fun q_ => ?_) (fun q_ => ?_)
  · have k := k.2 q_
    refine sp_iload_n 10 rfl rfl rfl ?_
    refine sp_i2l 11 rfl rfl ?_
    refine sp_lload_n 12 rfl rfl rfl ?_
    refine sp_lmul 13 rfl rfl ?_
    refine hs_lstore 15 (L2 := [some (.long a0), none, some (.int a1), some (.long a2), none, some (.long (((a1).toInt64) * a2)), none]) rfl rfl rfl rfl ?_
    exact k
  · have k := k.1 q_
    refine sp_lload_n 6 rfl rfl rfl ?_
    refine sp_lconst 7 rfl rfl ?_
    refine sp_J (y := Int64.ofInt 1) rfl ?_
    refine sp_lsub 8 rfl rfl ?_
    exact st_lret rfl rfl (Nat.le_refl _) (Nat.le_refl _) k
theorem sg_X11_farOf_15 {SL : Nat} {xs : Nat → Int32} {d : Nat} {p s q : Nat} {Q : Option Value → mm_H → Prop} {v0 : Int64} {v2 : Int32} {v3 : Int64} {v5 : Int64} {I : Nat → Nat → Int32} {J : Nat → Nat → Int64}  (k : ((v5 ≤ v0 → Q (some (.long (v5 - (Int64.ofInt 1)))) (hp p s q I J)) ∧ (¬ (v5 ≤ v0) → (¬ (((v2).toInt64) - (Int64.ofInt 1)) = 0 ∧ w_X11_farOf_15 SL xs d p s q Q v0 v2 v3 (((((v2).toInt64) * (v5 - v0)) - (Int64.ofInt 1)) / (((v2).toInt64) - (Int64.ofInt 1))) I J)))) : w_X11_farOf_15 SL xs d p s q Q v0 v2 v3 v5 I J := by
  unfold w_X11_farOf_15
  refine sp_lload 17 rfl rfl rfl ?_
  refine sp_lload_n 18 rfl rfl rfl ?_
  refine sp_lcmp 19 rfl rfl ?_
  refine sp_if_le 22 rfl rfl (fun q_ => ?_) (fun q_ => ?_)
  · have k := k.1 ((lg_cmp_le _ _).mp q_)
    refine sp_lload 43 rfl rfl rfl ?_
    refine sp_lconst 44 rfl rfl ?_
    refine sp_J (y := Int64.ofInt 1) rfl ?_
    refine sp_lsub 45 rfl rfl ?_
    exact st_lret rfl rfl (Nat.le_refl _) (Nat.le_refl _) k
  · have k := k.2 (fun z_ => q_ ((lg_cmp_le _ _).mpr z_))
    refine sp_iload_n 23 rfl rfl rfl ?_
    refine sp_i2l 24 rfl rfl ?_
    refine sp_lload 26 rfl rfl rfl ?_
    refine sp_lload_n 27 rfl rfl rfl ?_
    refine sp_lsub 28 rfl rfl ?_
    refine sp_lmul 29 rfl rfl ?_
    refine sp_lconst 30 rfl rfl ?_
    refine sp_J (y := Int64.ofInt 1) rfl ?_
    refine sp_lsub 31 rfl rfl ?_
    refine sp_iload_n 32 rfl rfl rfl ?_
    refine sp_i2l 33 rfl rfl ?_
    refine sp_lconst 34 rfl rfl ?_
    refine sp_J (y := Int64.ofInt 1) rfl ?_
    refine sp_lsub 35 rfl rfl ?_
    have n1_ := k.1
    have k := k.2
    refine sp_ldiv 36 rfl n1_ rfl ?_
    refine hs_lstore 38 (L2 := [some (.long v0), none, some (.int v2), some (.long v3), none, some (.long (((((v2).toInt64) * (v5 - v0)) - (Int64.ofInt 1)) / (((v2).toInt64) - (Int64.ofInt 1)))), none]) rfl rfl rfl rfl ?_
    refine sp_goto rfl ?_
    exact k
def w_X11_size_38 (SL : Nat) (xs : Nat → Int32) (d : Nat) (p s q : Nat) (Q : Option Value → mm_H → Prop) (v1 : Int32) (v2 : Int32) (v3 : Int32) (v4 : Int32) (v5 : Int32) (v6 : Int32) (I : Nat → Nat → Int32) (J : Nat → Nat → Int64) : Prop := mm_w SL xs (mm_s SL xs (d + 0)) mm_am kX11_size 0 0 (some .int) Q 38 [some (.ref 65), some (.int v1), some (.int v2), some (.int v3), some (.int v4), some (.int v5), some (.int v6)] [] (hp p s q I J) 0 0
theorem sg_X11_size {SL : Nat} {xs : Nat → Int32} {d : Nat} {p s q : Nat} {Q : Option Value → mm_H → Prop} {a0 : Int32} {a1 : Int32} {a2 : Int32} {I : Nat → Nat → Int32} {J : Nat → Nat → Int64}  (k : ((a0 < (Int32.ofInt 1) → Q (some (.int (Int32.ofInt (-1)))) (hp p s q I J)) ∧ (¬ (a0 < (Int32.ofInt 1)) → (((Int32.ofInt 1000) < a0 → Q (some (.int (Int32.ofInt (-1)))) (hp p s q I J)) ∧ (¬ ((Int32.ofInt 1000) < a0) → ((a1 < Int32.ofInt 0 → Q (some (.int (Int32.ofInt (-1)))) (hp p s q I J)) ∧ (¬ (a1 < Int32.ofInt 0) → (((Int32.ofInt 5000) ≤ a1 → Q (some (.int (Int32.ofInt (-1)))) (hp p s q I J)) ∧ (¬ ((Int32.ofInt 5000) ≤ a1) → ((Int32.ofInt 0 ≤ a2 → w_X11_size_38 SL xs d p s q Q a0 a1 a2 (Int32.ofInt 0) (Int32.ofInt 0) (Int32.ofInt 1) I J) ∧ (¬ (Int32.ofInt 0 ≤ a2) → Q (some (.int (Int32.ofInt (-1)))) (hp p s q I J)))))))))))) : mm_s SL xs (d + 1) 237 [.ref 65, .int a0, .int a1, .int a2] (hp p s q I J) Q := by
  refine e_X11_size rfl ?_
  refine hs_L (L2 := [some (.ref 65), some (.int a0), some (.int a1), some (.int a2), none, none, none]) rfl ?_
  refine sp_iload_n 1 rfl rfl rfl ?_
  refine sp_iconst 2 rfl rfl ?_
  refine sp_ic_lt 5 rfl rfl (fun q_ => ?_) (fun q_ => ?_)
  · have k := k.1 q_
    refine sp_iconst 28 rfl rfl ?_
    exact st_iret rfl rfl (Nat.le_refl _) (Nat.le_refl _) k
  · have k := k.2 q_
    refine sp_iload_n 6 rfl rfl rfl ?_
    refine sp_sipush 9 rfl rfl ?_
    refine sp_I (y := Int32.ofInt 1000) rfl ?_
    refine sp_ic_gt 12 rfl rfl (fun q_ => ?_) (fun q_ => ?_)
    · have k := k.1 q_
      refine sp_iconst 28 rfl rfl ?_
      exact st_iret rfl rfl (Nat.le_refl _) (Nat.le_refl _) k
    · have k := k.2 q_
      refine sp_iload_n 13 rfl rfl rfl ?_
      refine sp_if_lt 16 rfl rfl (fun q_ => ?_) (fun q_ => ?_)
      · have k := k.1 q_
        refine sp_iconst 28 rfl rfl ?_
        exact st_iret rfl rfl (Nat.le_refl _) (Nat.le_refl _) k
      · have k := k.2 q_
        refine sp_iload_n 17 rfl rfl rfl ?_
        refine sp_sipush 20 rfl rfl ?_
        refine sp_I (y := Int32.ofInt 5000) rfl ?_
        refine sp_ic_ge 23 rfl rfl (fun q_ => ?_) (fun q_ => ?_)
        · have k := k.1 q_
          refine sp_iconst 28 rfl rfl ?_
          exact st_iret rfl rfl (Nat.le_refl _) (Nat.le_refl _) k
        · have k := k.2 q_
          refine sp_iload_n 24 rfl rfl rfl ?_
          refine sp_if_ge 27 rfl rfl (fun q_ => ?_) (fun q_ => ?_)
          · have k := k.1 q_
            refine sp_iconst 30 rfl rfl ?_
            refine hs_istore 32 (L2 := [some (.ref 65), some (.int a0), some (.int a1), some (.int a2), some (.int (Int32.ofInt 0)), none, none]) rfl rfl rfl rfl ?_
            refine sp_iconst 33 rfl rfl ?_
            refine hs_istore 35 (L2 := [some (.ref 65), some (.int a0), some (.int a1), some (.int a2), some (.int (Int32.ofInt 0)), some (.int (Int32.ofInt 0)), none]) rfl rfl rfl rfl ?_
            refine sp_iconst 36 rfl rfl ?_
            refine hs_istore 38 (L2 := [some (.ref 65), some (.int a0), some (.int a1), some (.int a2), some (.int (Int32.ofInt 0)), some (.int (Int32.ofInt 0)), some (.int (Int32.ofInt 1))]) rfl rfl rfl rfl ?_
            exact k
          · have k := k.2 q_
            refine sp_iconst 28 rfl rfl ?_
            exact st_iret rfl rfl (Nat.le_refl _) (Nat.le_refl _) k
theorem sg_X11_size_38 {SL : Nat} {xs : Nat → Int32} {d : Nat} {p s q : Nat} {Q : Option Value → mm_H → Prop} {v1 : Int32} {v2 : Int32} {v3 : Int32} {v4 : Int32} {v5 : Int32} {v6 : Int32} {I : Nat → Nat → Int32} {J : Nat → Nat → Int64}  (k : (((Int32.ofInt 5000) < v6 → Q (some (.int (Int32.ofInt (-1)))) (hp p s q I J)) ∧ (¬ ((Int32.ofInt 5000) < v6) → ((v6 = (Int32.ofInt 1) → (((Int32.ofInt 0) = v2 → ((v5 = v3 → Q (some (.int v6)) (hp p s q I J)) ∧ (¬ (v5 = v3) → w_X11_size_38 SL xs d p s q Q v1 v2 v3 (Int32.ofInt 0) (v5 + Int32.ofInt 1) (v6 + Int32.ofInt 1) I J))) ∧ (¬ ((Int32.ofInt 0) = v2) → w_X11_size_38 SL xs d p s q Q v1 v2 v3 (Int32.ofInt 0) v5 (v6 + Int32.ofInt 1) I J))) ∧ (¬ (v6 = (Int32.ofInt 1)) → (¬ v6 = 0 ∧ ((((v4 + v1) - (v4 + v1) / v6 * v6) = v2 → ((v5 = v3 → Q (some (.int v6)) (hp p s q I J)) ∧ (¬ (v5 = v3) → w_X11_size_38 SL xs d p s q Q v1 v2 v3 ((v4 + v1) - (v4 + v1) / v6 * v6) (v5 + Int32.ofInt 1) (v6 + Int32.ofInt 1) I J))) ∧ (¬ (((v4 + v1) - (v4 + v1) / v6 * v6) = v2) → w_X11_size_38 SL xs d p s q Q v1 v2 v3 ((v4 + v1) - (v4 + v1) / v6 * v6) v5 (v6 + Int32.ofInt 1) I J)))))))) : w_X11_size_38 SL xs d p s q Q v1 v2 v3 v4 v5 v6 I J := by
  unfold w_X11_size_38
  refine sp_iload 40 rfl rfl rfl ?_
  refine sp_sipush 43 rfl rfl ?_
  refine sp_I (y := Int32.ofInt 5000) rfl ?_
  refine sp_ic_gt 46 rfl rfl (fun q_ => ?_) (fun q_ => ?_)
  · have k := k.1 q_
    refine sp_iconst 93 rfl rfl ?_
    exact st_iret rfl rfl (Nat.le_refl _) (Nat.le_refl _) k
  · have k := k.2 q_
    refine sp_iload 48 rfl rfl rfl ?_
    refine sp_iconst 49 rfl rfl ?_
    refine sp_ic_ne 52 rfl rfl (fun q_ => ?_) (fun q_ => ?_)
    · have k := k.2 q_
      refine sp_iload 58 rfl rfl rfl ?_
      refine sp_iload_n 59 rfl rfl rfl ?_
      refine sp_iadd 60 rfl rfl ?_
      refine sp_iload 62 rfl rfl rfl ?_
      have n1_ := k.1
      have k := k.2
      refine sp_irem 63 rfl n1_ rfl ?_
      refine hs_istore 65 (L2 := [some (.ref 65), some (.int v1), some (.int v2), some (.int v3), some (.int ((v4 + v1) - (v4 + v1) / v6 * v6)), some (.int v5), some (.int v6)]) rfl rfl rfl rfl ?_
      refine sp_iload 67 rfl rfl rfl ?_
      refine sp_iload_n 68 rfl rfl rfl ?_
      refine sp_ic_eq 71 rfl rfl (fun q_ => ?_) (fun q_ => ?_)
      · have k := k.1 q_
        refine sp_iload 76 rfl rfl rfl ?_
        refine sp_iload_n 77 rfl rfl rfl ?_
        refine sp_ic_ne 80 rfl rfl (fun q_ => ?_) (fun q_ => ?_)
        · have k := k.2 q_
          refine hs_iinc 86 (L2 := [some (.ref 65), some (.int v1), some (.int v2), some (.int v3), some (.int ((v4 + v1) - (v4 + v1) / v6 * v6)), some (.int (v5 + Int32.ofInt 1)), some (.int v6)]) rfl rfl rfl rfl rfl ?_
          refine hs_iinc 89 (L2 := [some (.ref 65), some (.int v1), some (.int v2), some (.int v3), some (.int ((v4 + v1) - (v4 + v1) / v6 * v6)), some (.int (v5 + Int32.ofInt 1)), some (.int (v6 + Int32.ofInt 1))]) rfl rfl rfl rfl rfl ?_
          refine sp_goto rfl ?_
          exact k
        · have k := k.1 q_
          refine sp_iload 82 rfl rfl rfl ?_
          exact st_iret rfl rfl (Nat.le_refl _) (Nat.le_refl _) k
      · have k := k.2 q_
        refine sp_goto rfl ?_
        refine hs_iinc 89 (L2 := [some (.ref 65), some (.int v1), some (.int v2), some (.int v3), some (.int ((v4 + v1) - (v4 + v1) / v6 * v6)), some (.int v5), some (.int (v6 + Int32.ofInt 1))]) rfl rfl rfl rfl rfl ?_
        refine sp_goto rfl ?_
        exact k
    · have k := k.1 q_
      refine sp_iconst 53 rfl rfl ?_
      refine sp_goto rfl ?_
      refine hs_istore 65 (L2 := [some (.ref 65), some (.int v1), some (.int v2), some (.int v3), some (.int (Int32.ofInt 0)), some (.int v5), some (.int v6)]) rfl rfl rfl rfl ?_
      refine sp_iload 67 rfl rfl rfl ?_
      refine sp_iload_n 68 rfl rfl rfl ?_
      refine sp_ic_eq 71 rfl rfl (fun q_ => ?_) (fun q_ => ?_)
      · have k := k.1 q_
        refine sp_iload 76 rfl rfl rfl ?_
        refine sp_iload_n 77 rfl rfl rfl ?_
        refine sp_ic_ne 80 rfl rfl (fun q_ => ?_) (fun q_ => ?_)
        · have k := k.2 q_
          refine hs_iinc 86 (L2 := [some (.ref 65), some (.int v1), some (.int v2), some (.int v3), some (.int (Int32.ofInt 0)), some (.int (v5 + Int32.ofInt 1)), some (.int v6)]) rfl rfl rfl rfl rfl ?_
          refine hs_iinc 89 (L2 := [some (.ref 65), some (.int v1), some (.int v2), some (.int v3), some (.int (Int32.ofInt 0)), some (.int (v5 + Int32.ofInt 1)), some (.int (v6 + Int32.ofInt 1))]) rfl rfl rfl rfl rfl ?_
          refine sp_goto rfl ?_
          exact k
        · have k := k.1 q_
          refine sp_iload 82 rfl rfl rfl ?_
          exact st_iret rfl rfl (Nat.le_refl _) (Nat.le_refl _) k
      · have k := k.2 q_
        refine sp_goto rfl ?_
        refine hs_iinc 89 (L2 := [some (.ref 65), some (.int v1), some (.int v2), some (.int v3), some (.int (Int32.ofInt 0)), some (.int v5), some (.int (v6 + Int32.ofInt 1))]) rfl rfl rfl rfl rfl ?_
        refine sp_goto rfl ?_
        exact k
def w_X11_ones_4 (SL : Nat) (xs : Nat → Int32) (d : Nat) (p s q : Nat) (Q : Option Value → mm_H → Prop) (v0 : Int64) (v2 : Int32) (v3 : Int32) (I : Nat → Nat → Int32) (J : Nat → Nat → Int64) : Prop := mm_w SL xs (mm_s SL xs (d + 0)) mm_am kX11_ones 0 0 (some .int) Q 4 [some (.long v0), none, some (.int v2), some (.int v3)] [] (hp p s q I J) 0 0
theorem sg_X11_ones {SL : Nat} {xs : Nat → Int32} {d : Nat} {p s q : Nat} {Q : Option Value → mm_H → Prop} {a0 : Int64} {I : Nat → Nat → Int32} {J : Nat → Nat → Int64}  (k : w_X11_ones_4 SL xs d p s q Q a0 (Int32.ofInt 0) (Int32.ofInt 0) I J) : mm_s SL xs (d + 1) 239 [.long a0] (hp p s q I J) Q := by
  refine e_X11_ones rfl ?_
  refine hs_L (L2 := [some (.long a0), none, none, none]) rfl ?_
  refine sp_iconst 1 rfl rfl ?_
  refine hs_istore_n 2 (L2 := [some (.long a0), none, some (.int (Int32.ofInt 0)), none]) rfl rfl rfl rfl ?_
  refine sp_iconst 3 rfl rfl ?_
  refine hs_istore_n 4 (L2 := [some (.long a0), none, some (.int (Int32.ofInt 0)), some (.int (Int32.ofInt 0))]) rfl rfl rfl rfl ?_
  exact k
theorem sg_X11_ones_4 {SL : Nat} {xs : Nat → Int32} {d : Nat} {p s q : Nat} {Q : Option Value → mm_H → Prop} {v0 : Int64} {v2 : Int32} {v3 : Int32} {I : Nat → Nat → Int32} {J : Nat → Nat → Int64}  (k : (((Int32.ofInt 60) ≤ v3 → Q (some (.int v2)) (hp p s q I J)) ∧ (¬ ((Int32.ofInt 60) ≤ v3) → w_X11_ones_4 SL xs d p s q Q v0 (v2 + ((((v0 >>> ((v3).toInt64 &&& 63)) &&& (Int64.ofInt 1))).toInt32)) (v3 + Int32.ofInt 1) I J))) : w_X11_ones_4 SL xs d p s q Q v0 v2 v3 I J := by
  unfold w_X11_ones_4
  refine sp_iload_n 5 rfl rfl rfl ?_
  refine sp_bipush 7 rfl rfl ?_
  refine sp_I (y := Int32.ofInt 60) rfl ?_
  refine sp_ic_ge 10 rfl rfl (fun q_ => ?_) (fun q_ => ?_)
  · have k := k.1 q_
    refine sp_iload_n 26 rfl rfl rfl ?_
    exact st_iret rfl rfl (Nat.le_refl _) (Nat.le_refl _) k
  · have k := k.2 q_
    refine sp_iload_n 11 rfl rfl rfl ?_
    refine sp_lload_n 12 rfl rfl rfl ?_
    refine sp_iload_n 13 rfl rfl rfl ?_
    refine sp_lshr 14 rfl rfl ?_
    refine sp_lconst 15 rfl rfl ?_
    refine sp_J (y := Int64.ofInt 1) rfl ?_
    refine sp_land 16 rfl rfl ?_
    refine sp_l2i 17 rfl rfl ?_
    refine sp_iadd 18 rfl rfl ?_
    refine hs_istore_n 19 (L2 := [some (.long v0), none, some (.int (v2 + ((((v0 >>> ((v3).toInt64 &&& 63)) &&& (Int64.ofInt 1))).toInt32))), some (.int v3)]) rfl rfl rfl rfl ?_
    refine hs_iinc 22 (L2 := [some (.long v0), none, some (.int (v2 + ((((v0 >>> ((v3).toInt64 &&& 63)) &&& (Int64.ofInt 1))).toInt32))), some (.int (v3 + Int32.ofInt 1))]) rfl rfl rfl rfl rfl ?_
    refine sp_goto rfl ?_
    exact k
def w_X11_common_6 (SL : Nat) (xs : Nat → Int32) (d : Nat) (p s q : Nat) (Q : Option Value → mm_H → Prop) (v0 : Int64) (v2 : Int64) (v4 : Int64) (v6 : Int64) (I : Nat → Nat → Int32) (J : Nat → Nat → Int64) : Prop := mm_w SL xs (mm_s SL xs (d + 0)) mm_am kX11_common 0 0 (some .long) Q 6 [some (.long v0), none, some (.long v2), none, some (.long v4), none, some (.long v6), none, none, none] [] (hp p s q I J) 0 0
theorem sg_X11_common {SL : Nat} {xs : Nat → Int32} {d : Nat} {p s q : Nat} {Q : Option Value → mm_H → Prop} {a0 : Int64} {a1 : Int64} {I : Nat → Nat → Int32} {J : Nat → Nat → Int64}  (k : w_X11_common_6 SL xs d p s q Q a0 a1 a0 a1 I J) : mm_s SL xs (d + 1) 243 [.long a0, .long a1] (hp p s q I J) Q := by
  refine e_X11_common rfl ?_
  refine hs_L (L2 := [some (.long a0), none, some (.long a1), none, none, none, none, none, none, none]) rfl ?_
  refine sp_lload_n 1 rfl rfl rfl ?_
  refine hs_lstore 3 (L2 := [some (.long a0), none, some (.long a1), none, some (.long a0), none, none, none, none, none]) rfl rfl rfl rfl ?_
  refine sp_lload_n 4 rfl rfl rfl ?_
  refine hs_lstore 6 (L2 := [some (.long a0), none, some (.long a1), none, some (.long a0), none, some (.long a1), none, none, none]) rfl rfl rfl rfl ?_
  exact k
theorem sg_X11_common_6 {SL : Nat} {xs : Nat → Int32} {d : Nat} {p s q : Nat} {Q : Option Value → mm_H → Prop} {v0 : Int64} {v2 : Int64} {v4 : Int64} {v6 : Int64} {I : Nat → Nat → Int32} {J : Nat → Nat → Int64}  (k : ((v6 ≤ (Int64.ofInt 0) → Q (some (.long v4)) (hp p s q I J)) ∧ (¬ (v6 ≤ (Int64.ofInt 0)) → (¬ v6 = 0 ∧ w_X11_common_6 SL xs d p s q Q v0 v2 v6 (v4 - v4 / v6 * v6) I J)))) : w_X11_common_6 SL xs d p s q Q v0 v2 v4 v6 I J := by
  unfold w_X11_common_6
  refine sp_lload 8 rfl rfl rfl ?_
  refine sp_lconst 9 rfl rfl ?_
  refine sp_J (y := Int64.ofInt 0) rfl ?_
  refine sp_lcmp 10 rfl rfl ?_
  refine sp_if_le 13 rfl rfl (fun q_ => ?_) (fun q_ => ?_)
  · have k := k.1 ((lg_cmp_le _ _).mp q_)
    refine sp_lload 33 rfl rfl rfl ?_
    exact st_lret rfl rfl (Nat.le_refl _) (Nat.le_refl _) k
  · have k := k.2 (fun z_ => q_ ((lg_cmp_le _ _).mpr z_))
    refine sp_lload 15 rfl rfl rfl ?_
    refine sp_lload 17 rfl rfl rfl ?_
    have n1_ := k.1
    have k := k.2
    refine sp_lrem 18 rfl n1_ rfl ?_
    refine hs_lstore 20 (L2 := [some (.long v0), none, some (.long v2), none, some (.long v4), none, some (.long v6), none, some (.long (v4 - v4 / v6 * v6)), none]) rfl rfl rfl rfl ?_
    refine sp_lload 22 rfl rfl rfl ?_
    refine hs_lstore 24 (L2 := [some (.long v0), none, some (.long v2), none, some (.long v6), none, some (.long v6), none, some (.long (v4 - v4 / v6 * v6)), none]) rfl rfl rfl rfl ?_
    refine sp_lload 26 rfl rfl rfl ?_
    refine hs_lstore 28 (L2 := [some (.long v0), none, some (.long v2), none, some (.long v6), none, some (.long (v4 - v4 / v6 * v6)), none, some (.long (v4 - v4 / v6 * v6)), none]) rfl rfl rfl rfl ?_
    refine sp_goto rfl ?_
    refine st_wk (L1 := [some (.long v0), none, some (.long v2), none, some (.long v6), none, some (.long (v4 - v4 / v6 * v6)), none, none, none]) ⟨.inr rfl, .inl rfl, .inr rfl, .inl rfl, .inr rfl, .inl rfl, .inr rfl, .inl rfl, .inl rfl, .inl rfl, trivial⟩ ?_
    exact k
def w_X11_looked_22 (SL : Nat) (xs : Nat → Int32) (d : Nat) (p s q : Nat) (Q : Option Value → mm_H → Prop) (v1 : Int32) (v2 : Int32) (v3 : Int32) (v4 : Int32) (v5 : Int32) (I : Nat → Nat → Int32) (J : Nat → Nat → Int64) : Prop := mm_w SL xs (mm_s SL xs (d + 0)) mm_am kX11_looked 0 0 (some .int) Q 22 [some (.ref 65), some (.int v1), some (.int v2), some (.int v3), some (.int v4), some (.int v5)] [] (hp p s q I J) 0 0
theorem sg_X11_looked {SL : Nat} {xs : Nat → Int32} {d : Nat} {p s q : Nat} {Q : Option Value → mm_H → Prop} {a0 : Int32} {a1 : Int32} {a2 : Int32} {I : Nat → Nat → Int32} {J : Nat → Nat → Int64}  (k : ((a0 ≤ a2 → Q (some (.int (Int32.ofInt 0))) (hp p s q I J)) ∧ (¬ (a0 ≤ a2) → (vp_in a2 60 ∧ (((I 98 ((a2).toNatClampNeg)) = Int32.ofInt 0 → Q (some (.int (Int32.ofInt 0))) (hp p s q I J)) ∧ (¬ ((I 98 ((a2).toNatClampNeg)) = Int32.ofInt 0) → w_X11_looked_22 SL xs d p s q Q a0 a1 a2 (Int32.ofInt 0) a1 I J)))))) : mm_s SL xs (d + 1) 244 [.ref 65, .int a0, .int a1, .int a2] (hp p s q I J) Q := by
  refine e_X11_looked rfl ?_
  refine hs_L (L2 := [some (.ref 65), some (.int a0), some (.int a1), some (.int a2), none, none]) rfl ?_
  refine sp_iload_n 1 rfl rfl rfl ?_
  refine sp_iload_n 2 rfl rfl rfl ?_
  refine sp_ic_ge 5 rfl rfl (fun q_ => ?_) (fun q_ => ?_)
  · have k := k.1 q_
    refine sp_iconst 15 rfl rfl ?_
    exact st_iret rfl rfl (Nat.le_refl _) (Nat.le_refl _) k
  · have k := k.2 q_
    refine sp_aload_n 6 rfl rfl rfl ?_
    refine hq_getR 9 rfl rfl rfl rfl ?_
    refine sp_iload_n 10 rfl rfl rfl ?_
    have n1_ := k.1
    have k := k.2
    refine hq_zald 11 rfl rfl n1_ rfl ?_
    refine sp_if_ne 14 rfl rfl (fun q_ => ?_) (fun q_ => ?_)
    · have k := k.2 q_
      refine sp_iconst 17 rfl rfl ?_
      refine hs_istore 19 (L2 := [some (.ref 65), some (.int a0), some (.int a1), some (.int a2), some (.int (Int32.ofInt 0)), none]) rfl rfl rfl rfl ?_
      refine sp_iload_n 20 rfl rfl rfl ?_
      refine hs_istore 22 (L2 := [some (.ref 65), some (.int a0), some (.int a1), some (.int a2), some (.int (Int32.ofInt 0)), some (.int a1)]) rfl rfl rfl rfl ?_
      exact k
    · have k := k.1 q_
      refine sp_iconst 15 rfl rfl ?_
      exact st_iret rfl rfl (Nat.le_refl _) (Nat.le_refl _) k
theorem sg_X11_looked_22 {SL : Nat} {xs : Nat → Int32} {d : Nat} {p s q : Nat} {Q : Option Value → mm_H → Prop} {v1 : Int32} {v2 : Int32} {v3 : Int32} {v4 : Int32} {v5 : Int32} {I : Nat → Nat → Int32} {J : Nat → Nat → Int64}  (k : (¬ v1 = 0 ∧ (vp_in ((v5 + (Int32.ofInt 1)) - (v5 + (Int32.ofInt 1)) / v1 * v1) 60 ∧ (((I 98 ((((v5 + (Int32.ofInt 1)) - (v5 + (Int32.ofInt 1)) / v1 * v1)).toNatClampNeg)) = Int32.ofInt 0 → ((((v5 + (Int32.ofInt 1)) - (v5 + (Int32.ofInt 1)) / v1 * v1) = v3 → Q (some (.int (v4 + (Int32.ofInt 0)))) (hp p s q I J)) ∧ (¬ (((v5 + (Int32.ofInt 1)) - (v5 + (Int32.ofInt 1)) / v1 * v1) = v3) → w_X11_looked_22 SL xs d p s q Q v1 v2 v3 (v4 + (Int32.ofInt 0)) ((v5 + (Int32.ofInt 1)) - (v5 + (Int32.ofInt 1)) / v1 * v1) I J))) ∧ (¬ ((I 98 ((((v5 + (Int32.ofInt 1)) - (v5 + (Int32.ofInt 1)) / v1 * v1)).toNatClampNeg)) = Int32.ofInt 0) → ((((v5 + (Int32.ofInt 1)) - (v5 + (Int32.ofInt 1)) / v1 * v1) = v3 → Q (some (.int (v4 + (Int32.ofInt 1)))) (hp p s q I J)) ∧ (¬ (((v5 + (Int32.ofInt 1)) - (v5 + (Int32.ofInt 1)) / v1 * v1) = v3) → w_X11_looked_22 SL xs d p s q Q v1 v2 v3 (v4 + (Int32.ofInt 1)) ((v5 + (Int32.ofInt 1)) - (v5 + (Int32.ofInt 1)) / v1 * v1) I J))))))) : w_X11_looked_22 SL xs d p s q Q v1 v2 v3 v4 v5 I J := by
  unfold w_X11_looked_22
  refine sp_iload 24 rfl rfl rfl ?_
  refine sp_iconst 25 rfl rfl ?_
  refine sp_iadd 26 rfl rfl ?_
  refine sp_iload_n 27 rfl rfl rfl ?_
  have n2_ := k.1
  have k := k.2
  refine sp_irem 28 rfl n2_ rfl ?_
  refine hs_istore 30 (L2 := [some (.ref 65), some (.int v1), some (.int v2), some (.int v3), some (.int v4), some (.int ((v5 + (Int32.ofInt 1)) - (v5 + (Int32.ofInt 1)) / v1 * v1))]) rfl rfl rfl rfl ?_
  refine sp_iload 32 rfl rfl rfl ?_
  refine sp_aload_n 33 rfl rfl rfl ?_
  refine hq_getR 36 rfl rfl rfl rfl ?_
  refine sp_iload 38 rfl rfl rfl ?_
  have n3_ := k.1
  have k := k.2
  refine hq_zald 39 rfl rfl n3_ rfl ?_
  refine sp_if_eq 42 rfl rfl (fun q_ => ?_) (fun q_ => ?_)
  · have k := k.1 q_
    refine sp_iconst 47 rfl rfl ?_
    refine sp_iadd 48 rfl rfl ?_
    refine hs_istore 50 (L2 := [some (.ref 65), some (.int v1), some (.int v2), some (.int v3), some (.int (v4 + (Int32.ofInt 0))), some (.int ((v5 + (Int32.ofInt 1)) - (v5 + (Int32.ofInt 1)) / v1 * v1))]) rfl rfl rfl rfl ?_
    refine sp_iload 52 rfl rfl rfl ?_
    refine sp_iload_n 53 rfl rfl rfl ?_
    refine sp_ic_ne 56 rfl rfl (fun q_ => ?_) (fun q_ => ?_)
    · have k := k.2 q_
      exact k
    · have k := k.1 q_
      refine sp_iload 58 rfl rfl rfl ?_
      exact st_iret rfl rfl (Nat.le_refl _) (Nat.le_refl _) k
  · have k := k.2 q_
    refine sp_iconst 43 rfl rfl ?_
    refine sp_goto rfl ?_
    refine sp_iadd 48 rfl rfl ?_
    refine hs_istore 50 (L2 := [some (.ref 65), some (.int v1), some (.int v2), some (.int v3), some (.int (v4 + (Int32.ofInt 1))), some (.int ((v5 + (Int32.ofInt 1)) - (v5 + (Int32.ofInt 1)) / v1 * v1))]) rfl rfl rfl rfl ?_
    refine sp_iload 52 rfl rfl rfl ?_
    refine sp_iload_n 53 rfl rfl rfl ?_
    refine sp_ic_ne 56 rfl rfl (fun q_ => ?_) (fun q_ => ?_)
    · have k := k.2 q_
      exact k
    · have k := k.1 q_
      refine sp_iload 58 rfl rfl rfl ?_
      exact st_iret rfl rfl (Nat.le_refl _) (Nat.le_refl _) k
def w_X11_goesSo_3 (SL : Nat) (xs : Nat → Int32) (d : Nat) (p s q : Nat) (Q : Option Value → mm_H → Prop) (v1 : Int32) (v2 : Int32) (v3 : Int32) (v4 : Int32) (v5 : Int32) (I : Nat → Nat → Int32) (J : Nat → Nat → Int64) : Prop := mm_w SL xs (mm_s SL xs (d + 0)) mm_am kX11_goesSo 0 0 (some .boolean) Q 3 [some (.ref 65), some (.int v1), some (.int v2), some (.int v3), some (.int v4), some (.int v5), none, none, none, none, none] [] (hp p s q I J) 0 0
def w_X11_goesSo_35 (SL : Nat) (xs : Nat → Int32) (d : Nat) (p s q : Nat) (Q : Option Value → mm_H → Prop) (v1 : Int32) (v2 : Int32) (v3 : Int32) (v4 : Int32) (v5 : Int32) (v6 : Int32) (v7 : Int32) (v8 : Int32) (I : Nat → Nat → Int32) (J : Nat → Nat → Int64) : Prop := mm_w SL xs (mm_s SL xs (d + 0)) mm_am kX11_goesSo 0 0 (some .boolean) Q 35 [some (.ref 65), some (.int v1), some (.int v2), some (.int v3), some (.int v4), some (.int v5), some (.int v6), some (.int v7), some (.int v8), none, none] [] (hp p s q I J) 0 0
def w_X11_goesSo_66 (SL : Nat) (xs : Nat → Int32) (d : Nat) (p s q : Nat) (Q : Option Value → mm_H → Prop) (v1 : Int32) (v2 : Int32) (v3 : Int32) (v4 : Int32) (v5 : Int32) (v6 : Int32) (v7 : Int32) (v8 : Int32) (v9 : Int32) (I : Nat → Nat → Int32) (J : Nat → Nat → Int64) : Prop := mm_w SL xs (mm_s SL xs (d + 0)) mm_am kX11_goesSo 0 0 (some .boolean) Q 66 [some (.ref 65), some (.int v1), some (.int v2), some (.int v3), some (.int v4), some (.int v5), some (.int v6), some (.int v7), some (.int v8), some (.int v9), none] [] (hp p s q I J) 0 0
def w_X11_goesSo_84 (SL : Nat) (xs : Nat → Int32) (d : Nat) (p s q : Nat) (Q : Option Value → mm_H → Prop) (v1 : Int32) (v2 : Int32) (v3 : Int32) (v4 : Int32) (v5 : Int32) (v6 : Int32) (v7 : Int32) (v8 : Int32) (v9 : Int32) (v10 : Int32) (I : Nat → Nat → Int32) (J : Nat → Nat → Int64) : Prop := mm_w SL xs (mm_s SL xs (d + 0)) mm_am kX11_goesSo 0 0 (some .boolean) Q 84 [some (.ref 65), some (.int v1), some (.int v2), some (.int v3), some (.int v4), some (.int v5), some (.int v6), some (.int v7), some (.int v8), some (.int v9), some (.int v10)] [] (hp p s q I J) 0 0
def w_X11_goesSo_97 (SL : Nat) (xs : Nat → Int32) (d : Nat) (p s q : Nat) (Q : Option Value → mm_H → Prop) (v1 : Int32) (v2 : Int32) (v3 : Int32) (v4 : Int32) (v5 : Int32) (v6 : Int32) (v7 : Int32) (v8 : Int32) (v9 : Int32) (v10 : Int32) (I : Nat → Nat → Int32) (J : Nat → Nat → Int64) : Prop := mm_w SL xs (mm_s SL xs (d + 0)) mm_am kX11_goesSo 0 0 (some .boolean) Q 97 [some (.ref 65), some (.int v1), some (.int v2), some (.int v3), some (.int v4), some (.int v5), some (.int v6), some (.int v7), some (.int v8), some (.int v9), some (.int v10)] [] (hp p s q I J) 0 0
def w_X11_goesSo_176 (SL : Nat) (xs : Nat → Int32) (d : Nat) (p s q : Nat) (Q : Option Value → mm_H → Prop) (v1 : Int32) (v2 : Int32) (v3 : Int32) (v4 : Int32) (v5 : Int32) (v6 : Int32) (v7 : Int32) (v8 : Int32) (v9 : Int32) (v10 : Int32) (I : Nat → Nat → Int32) (J : Nat → Nat → Int64) : Prop := mm_w SL xs (mm_s SL xs (d + 0)) mm_am kX11_goesSo 0 0 (some .boolean) Q 176 [some (.ref 65), some (.int v1), some (.int v2), some (.int v3), some (.int v4), some (.int v5), some (.int v6), some (.int v7), some (.int v8), some (.int v9), some (.int v10)] [] (hp p s q I J) 0 0
theorem sg_X11_goesSo {SL : Nat} {xs : Nat → Int32} {d : Nat} {p s q : Nat} {Q : Option Value → mm_H → Prop} {a0 : Int32} {a1 : Int32} {a2 : Int32} {a3 : Int32} {I : Nat → Nat → Int32} {J : Nat → Nat → Int64}  (k : w_X11_goesSo_3 SL xs d p s q Q a0 a1 a2 a3 (Int32.ofInt 0) I J) : mm_s SL xs (d + 1) 246 [.ref 65, .int a0, .int a1, .int a2, .int a3] (hp p s q I J) Q := by
  refine e_X11_goesSo rfl ?_
  refine hs_L (L2 := [some (.ref 65), some (.int a0), some (.int a1), some (.int a2), some (.int a3), none, none, none, none, none, none]) rfl ?_
  refine sp_iconst 1 rfl rfl ?_
  refine hs_istore 3 (L2 := [some (.ref 65), some (.int a0), some (.int a1), some (.int a2), some (.int a3), some (.int (Int32.ofInt 0)), none, none, none, none, none]) rfl rfl rfl rfl ?_
  exact k
theorem sg_X11_goesSo_3 {SL : Nat} {xs : Nat → Int32} {d : Nat} {p s q : Nat} {Q : Option Value → mm_H → Prop} {v1 : Int32} {v2 : Int32} {v3 : Int32} {v4 : Int32} {v5 : Int32} {I : Nat → Nat → Int32} {J : Nat → Nat → Int64}  (k : ((v1 ≤ v5 → w_X11_goesSo_35 SL xs d p s q Q v1 v2 v3 v4 v1 (Int32.ofInt 1) (Int32.ofInt (-1)) (Int32.ofInt 1) I J) ∧ (¬ (v1 ≤ v5) → (vp_in v5 60 ∧ w_X11_goesSo_3 SL xs d p s q Q v1 v2 v3 v4 (v5 + Int32.ofInt 1) (mm_u I 98 ((v5).toNatClampNeg) (Int32.ofInt 1)) J)))) : w_X11_goesSo_3 SL xs d p s q Q v1 v2 v3 v4 v5 I J := by
  unfold w_X11_goesSo_3
  refine sp_iload 5 rfl rfl rfl ?_
  refine sp_iload_n 6 rfl rfl rfl ?_
  refine sp_ic_ge 9 rfl rfl (fun q_ => ?_) (fun q_ => ?_)
  · have k := k.1 q_
    refine sp_iload_n 24 rfl rfl rfl ?_
    refine hs_istore 26 (L2 := [some (.ref 65), some (.int v1), some (.int v2), some (.int v3), some (.int v4), some (.int v1), none, none, none, none, none]) rfl rfl rfl rfl ?_
    refine sp_iconst 27 rfl rfl ?_
    refine hs_istore 29 (L2 := [some (.ref 65), some (.int v1), some (.int v2), some (.int v3), some (.int v4), some (.int v1), some (.int (Int32.ofInt 1)), none, none, none, none]) rfl rfl rfl rfl ?_
    refine sp_iconst 30 rfl rfl ?_
    refine hs_istore 32 (L2 := [some (.ref 65), some (.int v1), some (.int v2), some (.int v3), some (.int v4), some (.int v1), some (.int (Int32.ofInt 1)), some (.int (Int32.ofInt (-1))), none, none, none]) rfl rfl rfl rfl ?_
    refine sp_iconst 33 rfl rfl ?_
    refine hs_istore 35 (L2 := [some (.ref 65), some (.int v1), some (.int v2), some (.int v3), some (.int v4), some (.int v1), some (.int (Int32.ofInt 1)), some (.int (Int32.ofInt (-1))), some (.int (Int32.ofInt 1)), none, none]) rfl rfl rfl rfl ?_
    exact k
  · have k := k.2 q_
    refine sp_aload_n 10 rfl rfl rfl ?_
    refine hq_getR 13 rfl rfl rfl rfl ?_
    refine sp_iload 15 rfl rfl rfl ?_
    refine sp_iconst 16 rfl rfl ?_
    have n1_ := k.1
    have k := k.2
    refine hq_zast 17 rfl rfl n1_ (by decide) rfl ?_
    refine hs_iinc 20 (L2 := [some (.ref 65), some (.int v1), some (.int v2), some (.int v3), some (.int v4), some (.int (v5 + Int32.ofInt 1)), none, none, none, none, none]) rfl rfl rfl rfl rfl ?_
    refine sp_goto rfl ?_
    exact k
theorem sg_X11_goesSo_35 {SL : Nat} {xs : Nat → Int32} {d : Nat} {p s q : Nat} {Q : Option Value → mm_H → Prop} {v1 : Int32} {v2 : Int32} {v3 : Int32} {v4 : Int32} {v5 : Int32} {v6 : Int32} {v7 : Int32} {v8 : Int32} {I : Nat → Nat → Int32} {J : Nat → Nat → Int64}  (k : (((I 65 80) < v8 → Q (some (.int (Int32.ofInt 1))) (hp p s q I J)) ∧ (¬ ((I 65 80) < v8) → (((v8 - v8 / (Int32.ofInt 2) * (Int32.ofInt 2)) = (Int32.ofInt 1) → (¬ v5 = 0 ∧ w_X11_goesSo_66 SL xs d p s q Q v1 v2 v3 v4 v5 v6 v7 v8 (((v2 - (Int32.ofInt 1)) - (v2 - (Int32.ofInt 1)) / v5 * v5) + (Int32.ofInt 1)) I J)) ∧ (¬ ((v8 - v8 / (Int32.ofInt 2) * (Int32.ofInt 2)) = (Int32.ofInt 1)) → (¬ v5 = 0 ∧ w_X11_goesSo_66 SL xs d p s q Q v1 v2 v3 v4 v5 v6 v7 v8 (((v3 - (Int32.ofInt 1)) - (v3 - (Int32.ofInt 1)) / v5 * v5) + (Int32.ofInt 1)) I J)))))) : w_X11_goesSo_35 SL xs d p s q Q v1 v2 v3 v4 v5 v6 v7 v8 I J := by
  unfold w_X11_goesSo_35
  refine sp_iload 37 rfl rfl rfl ?_
  refine sp_aload_n 38 rfl rfl rfl ?_
  refine hq_getI 41 rfl rfl rfl ?_
  refine sp_ic_gt 44 rfl rfl (fun q_ => ?_) (fun q_ => ?_)
  · have k := k.1 q_
    refine sp_iconst 183 rfl rfl ?_
    exact st_zret rfl rfl (by decide) (Nat.le_refl _) (Nat.le_refl _) k
  · have k := k.2 q_
    refine sp_iload 46 rfl rfl rfl ?_
    refine sp_iconst 47 rfl rfl ?_
    refine sp_irem 48 rfl (by decide) rfl ?_
    refine sp_iconst 49 rfl rfl ?_
    refine sp_ic_ne 52 rfl rfl (fun q_ => ?_) (fun q_ => ?_)
    · have k := k.2 q_
      refine sp_iload_n 57 rfl rfl rfl ?_
      refine sp_iconst 58 rfl rfl ?_
      refine sp_isub 59 rfl rfl ?_
      refine sp_iload 61 rfl rfl rfl ?_
      have n2_ := k.1
      have k := k.2
      refine sp_irem 62 rfl n2_ rfl ?_
      refine sp_iconst 63 rfl rfl ?_
      refine sp_iadd 64 rfl rfl ?_
      refine hs_istore 66 (L2 := [some (.ref 65), some (.int v1), some (.int v2), some (.int v3), some (.int v4), some (.int v5), some (.int v6), some (.int v7), some (.int v8), some (.int (((v3 - (Int32.ofInt 1)) - (v3 - (Int32.ofInt 1)) / v5 * v5) + (Int32.ofInt 1))), none]) rfl rfl rfl rfl ?_
      exact k
    · have k := k.1 q_
      refine sp_iload_n 53 rfl rfl rfl ?_
      refine sp_goto rfl ?_
      refine sp_iconst 58 rfl rfl ?_
      refine sp_isub 59 rfl rfl ?_
      refine sp_iload 61 rfl rfl rfl ?_
      have n3_ := k.1
      have k := k.2
      refine sp_irem 62 rfl n3_ rfl ?_
      refine sp_iconst 63 rfl rfl ?_
      refine sp_iadd 64 rfl rfl ?_
      refine hs_istore 66 (L2 := [some (.ref 65), some (.int v1), some (.int v2), some (.int v3), some (.int v4), some (.int v5), some (.int v6), some (.int v7), some (.int v8), some (.int (((v2 - (Int32.ofInt 1)) - (v2 - (Int32.ofInt 1)) / v5 * v5) + (Int32.ofInt 1))), none]) rfl rfl rfl rfl ?_
      exact k
theorem sg_X11_goesSo_66 {SL : Nat} {xs : Nat → Int32} {d : Nat} {p s q : Nat} {Q : Option Value → mm_H → Prop} {v1 : Int32} {v2 : Int32} {v3 : Int32} {v4 : Int32} {v5 : Int32} {v6 : Int32} {v7 : Int32} {v8 : Int32} {v9 : Int32} {I : Nat → Nat → Int32} {J : Nat → Nat → Int64}  (k : ((Int32.ofInt 0 ≤ v7 → (¬ v1 = 0 ∧ w_X11_goesSo_84 SL xs d p s q Q v1 v2 v3 v4 v5 v6 v7 v8 v9 ((v7 + v6) - (v7 + v6) / v1 * v1) I J)) ∧ (¬ (Int32.ofInt 0 ≤ v7) → w_X11_goesSo_84 SL xs d p s q Q v1 v2 v3 v4 v5 v6 v7 v8 v9 (Int32.ofInt 0) I J))) : w_X11_goesSo_66 SL xs d p s q Q v1 v2 v3 v4 v5 v6 v7 v8 v9 I J := by
  unfold w_X11_goesSo_66
  refine sp_iload 68 rfl rfl rfl ?_
  refine sp_if_ge 71 rfl rfl (fun q_ => ?_) (fun q_ => ?_)
  · have k := k.1 q_
    refine sp_iload 77 rfl rfl rfl ?_
    refine sp_iload 79 rfl rfl rfl ?_
    refine sp_iadd 80 rfl rfl ?_
    refine sp_iload_n 81 rfl rfl rfl ?_
    have n4_ := k.1
    have k := k.2
    refine sp_irem 82 rfl n4_ rfl ?_
    refine hs_istore 84 (L2 := [some (.ref 65), some (.int v1), some (.int v2), some (.int v3), some (.int v4), some (.int v5), some (.int v6), some (.int v7), some (.int v8), some (.int v9), some (.int ((v7 + v6) - (v7 + v6) / v1 * v1))]) rfl rfl rfl rfl ?_
    exact k
  · have k := k.2 q_
    refine sp_iconst 72 rfl rfl ?_
    refine sp_goto rfl ?_
    refine hs_istore 84 (L2 := [some (.ref 65), some (.int v1), some (.int v2), some (.int v3), some (.int v4), some (.int v5), some (.int v6), some (.int v7), some (.int v8), some (.int v9), some (.int (Int32.ofInt 0))]) rfl rfl rfl rfl ?_
    exact k
theorem sg_X11_goesSo_84 {SL : Nat} {xs : Nat → Int32} {d : Nat} {p s q : Nat} {Q : Option Value → mm_H → Prop} {v1 : Int32} {v2 : Int32} {v3 : Int32} {v4 : Int32} {v5 : Int32} {v6 : Int32} {v7 : Int32} {v8 : Int32} {v9 : Int32} {v10 : Int32} {I : Nat → Nat → Int32} {J : Nat → Nat → Int64}  (k : (vp_in v10 60 ∧ (((I 98 ((v10).toNatClampNeg)) = Int32.ofInt 0 → w_X11_goesSo_97 SL xs d p s q Q v1 v2 v3 v4 v5 v6 v7 v8 v9 v10 I J) ∧ (¬ ((I 98 ((v10).toNatClampNeg)) = Int32.ofInt 0) → w_X11_goesSo_97 SL xs d p s q Q v1 v2 v3 v4 v5 v6 v7 v8 (v9 + Int32.ofInt (-1)) v10 I J)))) : w_X11_goesSo_84 SL xs d p s q Q v1 v2 v3 v4 v5 v6 v7 v8 v9 v10 I J := by
  unfold w_X11_goesSo_84
  refine sp_aload_n 85 rfl rfl rfl ?_
  refine hq_getR 88 rfl rfl rfl rfl ?_
  refine sp_iload 90 rfl rfl rfl ?_
  have n5_ := k.1
  have k := k.2
  refine hq_zald 91 rfl rfl n5_ rfl ?_
  refine sp_if_eq 94 rfl rfl (fun q_ => ?_) (fun q_ => ?_)
  · have k := k.1 q_
    exact k
  · have k := k.2 q_
    refine hs_iinc 97 (L2 := [some (.ref 65), some (.int v1), some (.int v2), some (.int v3), some (.int v4), some (.int v5), some (.int v6), some (.int v7), some (.int v8), some (.int (v9 + Int32.ofInt (-1))), some (.int v10)]) rfl rfl rfl rfl rfl ?_
    exact k
theorem sg_X11_goesSo_97 {SL : Nat} {xs : Nat → Int32} {d : Nat} {p s q : Nat} {Q : Option Value → mm_H → Prop} {v1 : Int32} {v2 : Int32} {v3 : Int32} {v4 : Int32} {v5 : Int32} {v6 : Int32} {v7 : Int32} {v8 : Int32} {v9 : Int32} {v10 : Int32} {I : Nat → Nat → Int32} {J : Nat → Nat → Int64}  (k : ((v9 = Int32.ofInt 0 → (vp_in (v8 - (Int32.ofInt 1)) 60 ∧ ((v10 = (I 97 (((v8 - (Int32.ofInt 1))).toNatClampNeg)) → (vp_in v10 60 ∧ ((v4 ≤ Int32.ofInt 0 → w_X11_goesSo_176 SL xs d p s q Q v1 v2 v3 v4 (v5 + Int32.ofInt (-1)) v6 v10 v8 v9 v10 (mm_u I 98 ((v10).toNatClampNeg) (Int32.ofInt 0)) J) ∧ (¬ (v4 ≤ Int32.ofInt 0) → (¬ v4 = 0 ∧ (((v8 - v8 / v4 * v4) = Int32.ofInt 0 → ((v6 = (Int32.ofInt 1) → w_X11_goesSo_176 SL xs d p s q Q v1 v2 v3 v4 (v5 + Int32.ofInt (-1)) (v1 - (Int32.ofInt 1)) v10 v8 v9 v10 (mm_u I 98 ((v10).toNatClampNeg) (Int32.ofInt 0)) J) ∧ (¬ (v6 = (Int32.ofInt 1)) → w_X11_goesSo_176 SL xs d p s q Q v1 v2 v3 v4 (v5 + Int32.ofInt (-1)) (Int32.ofInt 1) v10 v8 v9 v10 (mm_u I 98 ((v10).toNatClampNeg) (Int32.ofInt 0)) J))) ∧ (¬ ((v8 - v8 / v4 * v4) = Int32.ofInt 0) → w_X11_goesSo_176 SL xs d p s q Q v1 v2 v3 v4 (v5 + Int32.ofInt (-1)) v6 v10 v8 v9 v10 (mm_u I 98 ((v10).toNatClampNeg) (Int32.ofInt 0)) J))))))) ∧ (¬ (v10 = (I 97 (((v8 - (Int32.ofInt 1))).toNatClampNeg))) → Q (some (.int (Int32.ofInt 0))) (hp p s q I J))))) ∧ (¬ (v9 = Int32.ofInt 0) → (¬ v1 = 0 ∧ w_X11_goesSo_84 SL xs d p s q Q v1 v2 v3 v4 v5 v6 v7 v8 v9 ((v10 + v6) - (v10 + v6) / v1 * v1) I J)))) : w_X11_goesSo_97 SL xs d p s q Q v1 v2 v3 v4 v5 v6 v7 v8 v9 v10 I J := by
  unfold w_X11_goesSo_97
  refine sp_iload 99 rfl rfl rfl ?_
  refine sp_if_ne 102 rfl rfl (fun q_ => ?_) (fun q_ => ?_)
  · have k := k.2 q_
    refine sp_iload 107 rfl rfl rfl ?_
    refine sp_iload 109 rfl rfl rfl ?_
    refine sp_iadd 110 rfl rfl ?_
    refine sp_iload_n 111 rfl rfl rfl ?_
    have n6_ := k.1
    have k := k.2
    refine sp_irem 112 rfl n6_ rfl ?_
    refine hs_istore 114 (L2 := [some (.ref 65), some (.int v1), some (.int v2), some (.int v3), some (.int v4), some (.int v5), some (.int v6), some (.int v7), some (.int v8), some (.int v9), some (.int ((v10 + v6) - (v10 + v6) / v1 * v1))]) rfl rfl rfl rfl ?_
    refine sp_goto rfl ?_
    exact k
  · have k := k.1 q_
    refine sp_goto rfl ?_
    refine sp_iload 119 rfl rfl rfl ?_
    refine sp_aload_n 120 rfl rfl rfl ?_
    refine hq_getR 123 rfl rfl rfl rfl ?_
    refine sp_iload 125 rfl rfl rfl ?_
    refine sp_iconst 126 rfl rfl ?_
    refine sp_isub 127 rfl rfl ?_
    have n7_ := k.1
    have k := k.2
    refine hq_iald 128 rfl rfl n7_ rfl ?_
    refine sp_ic_eq 131 rfl rfl (fun q_ => ?_) (fun q_ => ?_)
    · have k := k.1 q_
      refine sp_aload_n 134 rfl rfl rfl ?_
      refine hq_getR 137 rfl rfl rfl rfl ?_
      refine sp_iload 139 rfl rfl rfl ?_
      refine sp_iconst 140 rfl rfl ?_
      have n8_ := k.1
      have k := k.2
      refine hq_zast 141 rfl rfl n8_ (by decide) rfl ?_
      refine hs_iinc 144 (L2 := [some (.ref 65), some (.int v1), some (.int v2), some (.int v3), some (.int v4), some (.int (v5 + Int32.ofInt (-1))), some (.int v6), some (.int v7), some (.int v8), some (.int v9), some (.int v10)]) rfl rfl rfl rfl rfl ?_
      refine sp_iload 146 rfl rfl rfl ?_
      refine hs_istore 148 (L2 := [some (.ref 65), some (.int v1), some (.int v2), some (.int v3), some (.int v4), some (.int (v5 + Int32.ofInt (-1))), some (.int v6), some (.int v10), some (.int v8), some (.int v9), some (.int v10)]) rfl rfl rfl rfl ?_
      refine sp_iload 150 rfl rfl rfl ?_
      refine sp_if_le 153 rfl rfl (fun q_ => ?_) (fun q_ => ?_)
      · have k := k.1 q_
        exact k
      · have k := k.2 q_
        refine sp_iload 155 rfl rfl rfl ?_
        refine sp_iload 157 rfl rfl rfl ?_
        have n9_ := k.1
        have k := k.2
        refine sp_irem 158 rfl n9_ rfl ?_
        refine sp_if_ne 161 rfl rfl (fun q_ => ?_) (fun q_ => ?_)
        · have k := k.2 q_
          exact k
        · have k := k.1 q_
          refine sp_iload 163 rfl rfl rfl ?_
          refine sp_iconst 164 rfl rfl ?_
          refine sp_ic_ne 167 rfl rfl (fun q_ => ?_) (fun q_ => ?_)
          · have k := k.2 q_
            refine sp_iconst 174 rfl rfl ?_
            refine hs_istore 176 (L2 := [some (.ref 65), some (.int v1), some (.int v2), some (.int v3), some (.int v4), some (.int (v5 + Int32.ofInt (-1))), some (.int (Int32.ofInt 1)), some (.int v10), some (.int v8), some (.int v9), some (.int v10)]) rfl rfl rfl rfl ?_
            exact k
          · have k := k.1 q_
            refine sp_iload_n 168 rfl rfl rfl ?_
            refine sp_iconst 169 rfl rfl ?_
            refine sp_isub 170 rfl rfl ?_
            refine sp_goto rfl ?_
            refine hs_istore 176 (L2 := [some (.ref 65), some (.int v1), some (.int v2), some (.int v3), some (.int v4), some (.int (v5 + Int32.ofInt (-1))), some (.int (v1 - (Int32.ofInt 1))), some (.int v10), some (.int v8), some (.int v9), some (.int v10)]) rfl rfl rfl rfl ?_
            exact k
    · have k := k.2 q_
      refine sp_iconst 132 rfl rfl ?_
      exact st_zret rfl rfl (by decide) (Nat.le_refl _) (Nat.le_refl _) k
theorem sg_X11_goesSo_176 {SL : Nat} {xs : Nat → Int32} {d : Nat} {p s q : Nat} {Q : Option Value → mm_H → Prop} {v1 : Int32} {v2 : Int32} {v3 : Int32} {v4 : Int32} {v5 : Int32} {v6 : Int32} {v7 : Int32} {v8 : Int32} {v9 : Int32} {v10 : Int32} {I : Nat → Nat → Int32} {J : Nat → Nat → Int64}  (k : w_X11_goesSo_35 SL xs d p s q Q v1 v2 v3 v4 v5 v6 v7 (v8 + Int32.ofInt 1) I J) : w_X11_goesSo_176 SL xs d p s q Q v1 v2 v3 v4 v5 v6 v7 v8 v9 v10 I J := by
  unfold w_X11_goesSo_176
  refine hs_iinc 179 (L2 := [some (.ref 65), some (.int v1), some (.int v2), some (.int v3), some (.int v4), some (.int v5), some (.int v6), some (.int v7), some (.int (v8 + Int32.ofInt 1)), some (.int v9), some (.int v10)]) rfl rfl rfl rfl rfl ?_
  refine sp_goto rfl ?_
  refine st_wk (L1 := [some (.ref 65), some (.int v1), some (.int v2), some (.int v3), some (.int v4), some (.int v5), some (.int v6), some (.int v7), some (.int (v8 + Int32.ofInt 1)), none, none]) ⟨.inr rfl, .inr rfl, .inr rfl, .inr rfl, .inr rfl, .inr rfl, .inr rfl, .inr rfl, .inr rfl, .inl rfl, .inl rfl, trivial⟩ ?_
  exact k
def w_X11_lastOf_4 (SL : Nat) (xs : Nat → Int32) (d : Nat) (p s q : Nat) (Q : Option Value → mm_H → Prop) (v0 : Int32) (v1 : Int32) (v2 : Int32) (v3 : Int32) (I : Nat → Nat → Int32) (J : Nat → Nat → Int64) : Prop := mm_w SL xs (mm_s SL xs (d + 0)) mm_am kX11_lastOf 0 0 (some .int) Q 4 [some (.int v0), some (.int v1), some (.int v2), some (.int v3)] [] (hp p s q I J) 0 0
theorem sg_X11_lastOf {SL : Nat} {xs : Nat → Int32} {d : Nat} {p s q : Nat} {Q : Option Value → mm_H → Prop} {a0 : Int32} {a1 : Int32} {I : Nat → Nat → Int32} {J : Nat → Nat → Int64}  (k : w_X11_lastOf_4 SL xs d p s q Q a0 a1 (Int32.ofInt 0) (Int32.ofInt 2) I J) : mm_s SL xs (d + 1) 248 [.int a0, .int a1] (hp p s q I J) Q := by
  refine e_X11_lastOf rfl ?_
  refine hs_L (L2 := [some (.int a0), some (.int a1), none, none]) rfl ?_
  refine sp_iconst 1 rfl rfl ?_
  refine hs_istore_n 2 (L2 := [some (.int a0), some (.int a1), some (.int (Int32.ofInt 0)), none]) rfl rfl rfl rfl ?_
  refine sp_iconst 3 rfl rfl ?_
  refine hs_istore_n 4 (L2 := [some (.int a0), some (.int a1), some (.int (Int32.ofInt 0)), some (.int (Int32.ofInt 2))]) rfl rfl rfl rfl ?_
  exact k
theorem sg_X11_lastOf_4 {SL : Nat} {xs : Nat → Int32} {d : Nat} {p s q : Nat} {Q : Option Value → mm_H → Prop} {v0 : Int32} {v1 : Int32} {v2 : Int32} {v3 : Int32} {I : Nat → Nat → Int32} {J : Nat → Nat → Int64}  (k : ((v0 < v3 → Q (some (.int v2)) (hp p s q I J)) ∧ (¬ (v0 < v3) → (¬ v3 = 0 ∧ w_X11_lastOf_4 SL xs d p s q Q v0 v1 ((v2 + v1) - (v2 + v1) / v3 * v3) (v3 + Int32.ofInt 1) I J)))) : w_X11_lastOf_4 SL xs d p s q Q v0 v1 v2 v3 I J := by
  unfold w_X11_lastOf_4
  refine sp_iload_n 5 rfl rfl rfl ?_
  refine sp_iload_n 6 rfl rfl rfl ?_
  refine sp_ic_gt 9 rfl rfl (fun q_ => ?_) (fun q_ => ?_)
  · have k := k.1 q_
    refine sp_iload_n 22 rfl rfl rfl ?_
    exact st_iret rfl rfl (Nat.le_refl _) (Nat.le_refl _) k
  · have k := k.2 q_
    refine sp_iload_n 10 rfl rfl rfl ?_
    refine sp_iload_n 11 rfl rfl rfl ?_
    refine sp_iadd 12 rfl rfl ?_
    refine sp_iload_n 13 rfl rfl rfl ?_
    have n1_ := k.1
    have k := k.2
    refine sp_irem 14 rfl n1_ rfl ?_
    refine hs_istore_n 15 (L2 := [some (.int v0), some (.int v1), some (.int ((v2 + v1) - (v2 + v1) / v3 * v3)), some (.int v3)]) rfl rfl rfl rfl ?_
    refine hs_iinc 18 (L2 := [some (.int v0), some (.int v1), some (.int ((v2 + v1) - (v2 + v1) / v3 * v3)), some (.int (v3 + Int32.ofInt 1))]) rfl rfl rfl rfl rfl ?_
    refine sp_goto rfl ?_
    exact k
def w_X11_allWeight_4 (SL : Nat) (xs : Nat → Int32) (d : Nat) (p s q : Nat) (Q : Option Value → mm_H → Prop) (v1 : Int32) (v2 : Int32) (I : Nat → Nat → Int32) (J : Nat → Nat → Int64) : Prop := mm_w SL xs (mm_s SL xs (d + 0)) mm_am kX11_allWeight 0 0 (some .int) Q 4 [some (.ref 65), some (.int v1), some (.int v2)] [] (hp p s q I J) 0 0
theorem sg_X11_allWeight {SL : Nat} {xs : Nat → Int32} {d : Nat} {p s q : Nat} {Q : Option Value → mm_H → Prop}  {I : Nat → Nat → Int32} {J : Nat → Nat → Int64}  (k : w_X11_allWeight_4 SL xs d p s q Q (Int32.ofInt 0) (Int32.ofInt 0) I J) : mm_s SL xs (d + 1) 254 [.ref 65] (hp p s q I J) Q := by
  refine e_X11_allWeight rfl ?_
  refine hs_L (L2 := [some (.ref 65), none, none]) rfl ?_
  refine sp_iconst 1 rfl rfl ?_
  refine hs_istore_n 2 (L2 := [some (.ref 65), some (.int (Int32.ofInt 0)), none]) rfl rfl rfl rfl ?_
  refine sp_iconst 3 rfl rfl ?_
  refine hs_istore_n 4 (L2 := [some (.ref 65), some (.int (Int32.ofInt 0)), some (.int (Int32.ofInt 0))]) rfl rfl rfl rfl ?_
  exact k
theorem sg_X11_allWeight_4 {SL : Nat} {xs : Nat → Int32} {d : Nat} {p s q : Nat} {Q : Option Value → mm_H → Prop} {v1 : Int32} {v2 : Int32} {I : Nat → Nat → Int32} {J : Nat → Nat → Int64}  (k : (((I 65 44) ≤ v2 → Q (some (.int v1)) (hp p s q I J)) ∧ (¬ ((I 65 44) ≤ v2) → (vp_in v2 12 ∧ w_X11_allWeight_4 SL xs d p s q Q (v1 + (I 84 ((v2).toNatClampNeg))) (v2 + Int32.ofInt 1) I J)))) : w_X11_allWeight_4 SL xs d p s q Q v1 v2 I J := by
  unfold w_X11_allWeight_4
  refine sp_iload_n 5 rfl rfl rfl ?_
  refine sp_aload_n 6 rfl rfl rfl ?_
  refine hq_getI 9 rfl rfl rfl ?_
  refine sp_ic_ge 12 rfl rfl (fun q_ => ?_) (fun q_ => ?_)
  · have k := k.1 q_
    refine sp_iload_n 28 rfl rfl rfl ?_
    exact st_iret rfl rfl (Nat.le_refl _) (Nat.le_refl _) k
  · have k := k.2 q_
    refine sp_iload_n 13 rfl rfl rfl ?_
    refine sp_aload_n 14 rfl rfl rfl ?_
    refine hq_getR 17 rfl rfl rfl rfl ?_
    refine sp_iload_n 18 rfl rfl rfl ?_
    have n1_ := k.1
    have k := k.2
    refine hq_iald 19 rfl rfl n1_ rfl ?_
    refine sp_iadd 20 rfl rfl ?_
    refine hs_istore_n 21 (L2 := [some (.ref 65), some (.int (v1 + (I 84 ((v2).toNatClampNeg)))), some (.int v2)]) rfl rfl rfl rfl ?_
    refine hs_iinc 24 (L2 := [some (.ref 65), some (.int (v1 + (I 84 ((v2).toNatClampNeg)))), some (.int (v2 + Int32.ofInt 1))]) rfl rfl rfl rfl rfl ?_
    refine sp_goto rfl ?_
    exact k
theorem sg_X11_untell {SL : Nat} {xs : Nat → Int32} {d : Nat} {p s q : Nat} {Q : Option Value → mm_H → Prop} {a0 : Int32} {I : Nat → Nat → Int32} {J : Nat → Nat → Int64}  (k : ((a0 < Int32.ofInt 0 → Q (some (.int (Int32.ofInt 0))) (hp p s q I J)) ∧ (¬ (a0 < Int32.ofInt 0) → (((I 65 88) ≤ a0 → Q (some (.int (Int32.ofInt 0))) (hp p s q I J)) ∧ (¬ ((I 65 88) ≤ a0) → (vp_in a0 40 ∧ (((I 104 ((a0).toNatClampNeg)) < Int32.ofInt 0 → Q (some (.int (Int32.ofInt 1))) (hp p s q (mm_u I 104 ((a0).toNatClampNeg) (I 65 89)) J)) ∧ (¬ ((I 104 ((a0).toNatClampNeg)) < Int32.ofInt 0) → Q (some (.int (Int32.ofInt 0))) (hp p s q I J))))))))) : mm_s SL xs (d + 1) 263 [.ref 65, .int a0] (hp p s q I J) Q := by
  refine e_X11_untell rfl ?_
  refine hs_L (L2 := [some (.ref 65), some (.int a0)]) rfl ?_
  refine sp_iload_n 1 rfl rfl rfl ?_
  refine sp_if_lt 4 rfl rfl (fun q_ => ?_) (fun q_ => ?_)
  · have k := k.1 q_
    refine sp_iconst 22 rfl rfl ?_
    exact st_zret rfl rfl (by decide) (Nat.le_refl _) (Nat.le_refl _) k
  · have k := k.2 q_
    refine sp_iload_n 5 rfl rfl rfl ?_
    refine sp_aload_n 6 rfl rfl rfl ?_
    refine hq_getI 9 rfl rfl rfl ?_
    refine sp_ic_ge 12 rfl rfl (fun q_ => ?_) (fun q_ => ?_)
    · have k := k.1 q_
      refine sp_iconst 22 rfl rfl ?_
      exact st_zret rfl rfl (by decide) (Nat.le_refl _) (Nat.le_refl _) k
    · have k := k.2 q_
      refine sp_aload_n 13 rfl rfl rfl ?_
      refine hq_getR 16 rfl rfl rfl rfl ?_
      refine sp_iload_n 17 rfl rfl rfl ?_
      have n1_ := k.1
      have k := k.2
      refine hq_iald 18 rfl rfl n1_ rfl ?_
      refine sp_if_lt 21 rfl rfl (fun q_ => ?_) (fun q_ => ?_)
      · have k := k.1 q_
        refine sp_aload_n 24 rfl rfl rfl ?_
        refine hq_getR 27 rfl rfl rfl rfl ?_
        refine sp_iload_n 28 rfl rfl rfl ?_
        refine sp_aload_n 29 rfl rfl rfl ?_
        refine hq_getI 32 rfl rfl rfl ?_
        refine hq_iast 33 rfl rfl n1_ rfl ?_
        refine sp_iconst 34 rfl rfl ?_
        exact st_zret rfl rfl (by decide) (Nat.le_refl _) (Nat.le_refl _) k
      · have k := k.2 q_
        refine sp_iconst 22 rfl rfl ?_
        exact st_zret rfl rfl (by decide) (Nat.le_refl _) (Nat.le_refl _) k
theorem sg_X11_later {SL : Nat} {xs : Nat → Int32} {d : Nat} {p s q : Nat} {Q : Option Value → mm_H → Prop} {a0 : Int32} {I : Nat → Nat → Int32} {J : Nat → Nat → Int64}  (k : ((a0 < Int32.ofInt 0 → Q (some (.int (Int32.ofInt (-1)))) (hp p s q I J)) ∧ (¬ (a0 < Int32.ofInt 0) → (((Int32.ofInt 1000) < a0 → Q (some (.int (Int32.ofInt (-1)))) (hp p s q I J)) ∧ (¬ ((Int32.ofInt 1000) < a0) → ((((I 65 89) + a0) ≤ (Int32.ofInt 100000) → Q (some (.int ((I 65 89) + a0))) (hp p s q (mm_u I 65 89 ((I 65 89) + a0)) J)) ∧ (¬ (((I 65 89) + a0) ≤ (Int32.ofInt 100000)) → Q (some (.int (Int32.ofInt (-1)))) (hp p s q I J)))))))) : mm_s SL xs (d + 1) 264 [.ref 65, .int a0] (hp p s q I J) Q := by
  refine e_X11_later rfl ?_
  refine hs_L (L2 := [some (.ref 65), some (.int a0)]) rfl ?_
  refine sp_iload_n 1 rfl rfl rfl ?_
  refine sp_if_lt 4 rfl rfl (fun q_ => ?_) (fun q_ => ?_)
  · have k := k.1 q_
    refine sp_iconst 24 rfl rfl ?_
    exact st_iret rfl rfl (Nat.le_refl _) (Nat.le_refl _) k
  · have k := k.2 q_
    refine sp_iload_n 5 rfl rfl rfl ?_
    refine sp_sipush 8 rfl rfl ?_
    refine sp_I (y := Int32.ofInt 1000) rfl ?_
    refine sp_ic_gt 11 rfl rfl (fun q_ => ?_) (fun q_ => ?_)
    · have k := k.1 q_
      refine sp_iconst 24 rfl rfl ?_
      exact st_iret rfl rfl (Nat.le_refl _) (Nat.le_refl _) k
    · have k := k.2 q_
      refine sp_aload_n 12 rfl rfl rfl ?_
      refine hq_getI 15 rfl rfl rfl ?_
      refine sp_iload_n 16 rfl rfl rfl ?_
      refine sp_iadd 17 rfl rfl ?_
      refine sp_ldcw 20 rfl rfl ?_
      refine sp_ic_le 23 rfl rfl (fun q_ => ?_) (fun q_ => ?_)
      · have k := k.1 q_
        refine sp_aload_n 26 rfl rfl rfl ?_
        refine sp_dup 27 rfl rfl rfl ?_
        refine hq_getI 30 rfl rfl rfl ?_
        refine sp_iload_n 31 rfl rfl rfl ?_
        refine sp_iadd 32 rfl rfl ?_
        refine hq_putI 35 rfl rfl rfl ?_
        refine sp_aload_n 36 rfl rfl rfl ?_
        refine hq_getI 39 rfl rfl rfl ?_
        refine sp_I (y := ((I 65 89) + a0)) (by simp [mm_u]) ?_
        exact st_iret rfl rfl (Nat.le_refl _) (Nat.le_refl _) k
      · have k := k.2 q_
        refine sp_iconst 24 rfl rfl ?_
        exact st_iret rfl rfl (Nat.le_refl _) (Nat.le_refl _) k
theorem sg_X11_counts {SL : Nat} {xs : Nat → Int32} {d : Nat} {p s q : Nat} {Q : Option Value → mm_H → Prop} {a0 : Int32} {a1 : Int32} {I : Nat → Nat → Int32} {J : Nat → Nat → Int64}  (k : (vp_in a0 40 ∧ ((a1 < (I 103 ((a0).toNatClampNeg)) → Q (some (.int (Int32.ofInt 0))) (hp p s q I J)) ∧ (¬ (a1 < (I 103 ((a0).toNatClampNeg))) → (((I 104 ((a0).toNatClampNeg)) < Int32.ofInt 0 → Q (some (.int (Int32.ofInt 1))) (hp p s q I J)) ∧ (¬ ((I 104 ((a0).toNatClampNeg)) < Int32.ofInt 0) → (((I 104 ((a0).toNatClampNeg)) ≤ a1 → Q (some (.int (Int32.ofInt 0))) (hp p s q I J)) ∧ (¬ ((I 104 ((a0).toNatClampNeg)) ≤ a1) → Q (some (.int (Int32.ofInt 1))) (hp p s q I J))))))))) : mm_s SL xs (d + 1) 265 [.ref 65, .int a0, .int a1] (hp p s q I J) Q := by
  refine e_X11_counts rfl ?_
  refine hs_L (L2 := [some (.ref 65), some (.int a0), some (.int a1)]) rfl ?_
  refine sp_aload_n 1 rfl rfl rfl ?_
  refine hq_getR 4 rfl rfl rfl rfl ?_
  refine sp_iload_n 5 rfl rfl rfl ?_
  have n1_ := k.1
  have k := k.2
  refine hq_iald 6 rfl rfl n1_ rfl ?_
  refine sp_iload_n 7 rfl rfl rfl ?_
  refine sp_ic_gt 10 rfl rfl (fun q_ => ?_) (fun q_ => ?_)
  · have k := k.1 q_
    refine sp_iconst 34 rfl rfl ?_
    exact st_zret rfl rfl (by decide) (Nat.le_refl _) (Nat.le_refl _) k
  · have k := k.2 q_
    refine sp_aload_n 11 rfl rfl rfl ?_
    refine hq_getR 14 rfl rfl rfl rfl ?_
    refine sp_iload_n 15 rfl rfl rfl ?_
    refine hq_iald 16 rfl rfl n1_ rfl ?_
    refine sp_if_lt 19 rfl rfl (fun q_ => ?_) (fun q_ => ?_)
    · have k := k.1 q_
      refine sp_iconst 30 rfl rfl ?_
      refine sp_goto rfl ?_
      exact st_zret rfl rfl (by decide) (Nat.le_refl _) (Nat.le_refl _) k
    · have k := k.2 q_
      refine sp_aload_n 20 rfl rfl rfl ?_
      refine hq_getR 23 rfl rfl rfl rfl ?_
      refine sp_iload_n 24 rfl rfl rfl ?_
      refine hq_iald 25 rfl rfl n1_ rfl ?_
      refine sp_iload_n 26 rfl rfl rfl ?_
      refine sp_ic_le 29 rfl rfl (fun q_ => ?_) (fun q_ => ?_)
      · have k := k.1 q_
        refine sp_iconst 34 rfl rfl ?_
        exact st_zret rfl rfl (by decide) (Nat.le_refl _) (Nat.le_refl _) k
      · have k := k.2 q_
        refine sp_iconst 30 rfl rfl ?_
        refine sp_goto rfl ?_
        exact st_zret rfl rfl (by decide) (Nat.le_refl _) (Nat.le_refl _) k
theorem sg_X11_about {SL : Nat} {xs : Nat → Int32} {d : Nat} {p s q : Nat} {Q : Option Value → mm_H → Prop} {a0 : Int32} {I : Nat → Nat → Int32} {J : Nat → Nat → Int64}  (k : ((a0 = Int32.ofInt 0 → Q (some (.int (I 65 47))) (hp p s q I J)) ∧ (a0 = Int32.ofInt 1 → Q (some (.int (I 65 59))) (hp p s q I J)) ∧ (a0 = Int32.ofInt 2 → Q (some (.int (I 65 60))) (hp p s q I J)) ∧ (a0 = Int32.ofInt 3 → Q (some (.int (I 65 43))) (hp p s q I J)) ∧ (a0 = Int32.ofInt 4 → Q (some (.int (I 65 44))) (hp p s q I J)) ∧ (a0 = Int32.ofInt 5 → Q (some (.int (I 65 88))) (hp p s q I J)) ∧ (a0 = Int32.ofInt 6 → Q (some (.int (I 65 89))) (hp p s q I J)) ∧ (a0 = Int32.ofInt 7 → Q (some (.int (I 65 1))) (hp p s q I J)) ∧ (a0 = Int32.ofInt 8 → Q (some (.int (I 65 80))) (hp p s q I J)) ∧ (a0 = Int32.ofInt 9 → Q (some (.int (I 65 21))) (hp p s q I J)) ∧ (a0 = Int32.ofInt 10 → (vp_in (Int32.ofInt 0) 2 ∧ Q (some (.int (I 90 (((Int32.ofInt 0)).toNatClampNeg)))) (hp p s q I J))) ∧ (a0 = Int32.ofInt 11 → (vp_in (Int32.ofInt 1) 2 ∧ Q (some (.int (I 90 (((Int32.ofInt 1)).toNatClampNeg)))) (hp p s q I J))) ∧ (a0 = Int32.ofInt 12 → (((I 65 64) = Int32.ofInt 0 → Q (some (.int (Int32.ofInt 0))) (hp p s q I J)) ∧ (¬ ((I 65 64) = Int32.ofInt 0) → Q (some (.int (Int32.ofInt 1))) (hp p s q I J)))) ∧ (¬ a0 = Int32.ofInt 0 → ¬ a0 = Int32.ofInt 1 → ¬ a0 = Int32.ofInt 2 → ¬ a0 = Int32.ofInt 3 → ¬ a0 = Int32.ofInt 4 → ¬ a0 = Int32.ofInt 5 → ¬ a0 = Int32.ofInt 6 → ¬ a0 = Int32.ofInt 7 → ¬ a0 = Int32.ofInt 8 → ¬ a0 = Int32.ofInt 9 → ¬ a0 = Int32.ofInt 10 → ¬ a0 = Int32.ofInt 11 → ¬ a0 = Int32.ofInt 12 → Q (some (.int (Int32.ofInt (-1)))) (hp p s q I J)))) : mm_s SL xs (d + 1) 273 [.ref 65, .int a0] (hp p s q I J) Q := by
  refine e_X11_about rfl ?_
  refine hs_L (L2 := [some (.ref 65), some (.int a0)]) rfl ?_
  refine sp_iload_n 1 rfl rfl rfl ?_
  by_cases q1_0 : a0 = Int32.ofInt 0
  · have k := k.1 q1_0
    refine sp_table (t := 68) rfl (by rw [q1_0]; rfl) ?_
    refine sp_aload_n 69 rfl rfl rfl ?_
    refine hq_getI 72 rfl rfl rfl ?_
    exact st_iret rfl rfl (Nat.le_refl _) (Nat.le_refl _) k
  · skip
    by_cases q1_1 : a0 = Int32.ofInt 1
    · have k := k.2.1 q1_1
      refine sp_table (t := 73) rfl (by rw [q1_1]; rfl) ?_
      refine sp_aload_n 74 rfl rfl rfl ?_
      refine hq_getI 77 rfl rfl rfl ?_
      exact st_iret rfl rfl (Nat.le_refl _) (Nat.le_refl _) k
    · skip
      by_cases q1_2 : a0 = Int32.ofInt 2
      · have k := k.2.2.1 q1_2
        refine sp_table (t := 78) rfl (by rw [q1_2]; rfl) ?_
        refine sp_aload_n 79 rfl rfl rfl ?_
        refine hq_getI 82 rfl rfl rfl ?_
        exact st_iret rfl rfl (Nat.le_refl _) (Nat.le_refl _) k
      · skip
        by_cases q1_3 : a0 = Int32.ofInt 3
        · have k := k.2.2.2.1 q1_3
          refine sp_table (t := 83) rfl (by rw [q1_3]; rfl) ?_
          refine sp_aload_n 84 rfl rfl rfl ?_
          refine hq_getI 87 rfl rfl rfl ?_
          exact st_iret rfl rfl (Nat.le_refl _) (Nat.le_refl _) k
        · skip
          by_cases q1_4 : a0 = Int32.ofInt 4
          · have k := k.2.2.2.2.1 q1_4
            refine sp_table (t := 88) rfl (by rw [q1_4]; rfl) ?_
            refine sp_aload_n 89 rfl rfl rfl ?_
            refine hq_getI 92 rfl rfl rfl ?_
            exact st_iret rfl rfl (Nat.le_refl _) (Nat.le_refl _) k
          · skip
            by_cases q1_5 : a0 = Int32.ofInt 5
            · have k := k.2.2.2.2.2.1 q1_5
              refine sp_table (t := 93) rfl (by rw [q1_5]; rfl) ?_
              refine sp_aload_n 94 rfl rfl rfl ?_
              refine hq_getI 97 rfl rfl rfl ?_
              exact st_iret rfl rfl (Nat.le_refl _) (Nat.le_refl _) k
            · skip
              by_cases q1_6 : a0 = Int32.ofInt 6
              · have k := k.2.2.2.2.2.2.1 q1_6
                refine sp_table (t := 98) rfl (by rw [q1_6]; rfl) ?_
                refine sp_aload_n 99 rfl rfl rfl ?_
                refine hq_getI 102 rfl rfl rfl ?_
                exact st_iret rfl rfl (Nat.le_refl _) (Nat.le_refl _) k
              · skip
                by_cases q1_7 : a0 = Int32.ofInt 7
                · have k := k.2.2.2.2.2.2.2.1 q1_7
                  refine sp_table (t := 103) rfl (by rw [q1_7]; rfl) ?_
                  refine sp_aload_n 104 rfl rfl rfl ?_
                  refine hq_getI 107 rfl rfl rfl ?_
                  exact st_iret rfl rfl (Nat.le_refl _) (Nat.le_refl _) k
                · skip
                  by_cases q1_8 : a0 = Int32.ofInt 8
                  · have k := k.2.2.2.2.2.2.2.2.1 q1_8
                    refine sp_table (t := 108) rfl (by rw [q1_8]; rfl) ?_
                    refine sp_aload_n 109 rfl rfl rfl ?_
                    refine hq_getI 112 rfl rfl rfl ?_
                    exact st_iret rfl rfl (Nat.le_refl _) (Nat.le_refl _) k
                  · skip
                    by_cases q1_9 : a0 = Int32.ofInt 9
                    · have k := k.2.2.2.2.2.2.2.2.2.1 q1_9
                      refine sp_table (t := 113) rfl (by rw [q1_9]; rfl) ?_
                      refine sp_aload_n 114 rfl rfl rfl ?_
                      refine hq_getI 117 rfl rfl rfl ?_
                      exact st_iret rfl rfl (Nat.le_refl _) (Nat.le_refl _) k
                    · skip
                      by_cases q1_10 : a0 = Int32.ofInt 10
                      · have k := k.2.2.2.2.2.2.2.2.2.2.1 q1_10
                        refine sp_table (t := 118) rfl (by rw [q1_10]; rfl) ?_
                        refine sp_aload_n 119 rfl rfl rfl ?_
                        refine hq_getR 122 rfl rfl rfl rfl ?_
                        refine sp_iconst 123 rfl rfl ?_
                        have n1_ := k.1
                        have k := k.2
                        refine hq_iald 124 rfl rfl n1_ rfl ?_
                        exact st_iret rfl rfl (Nat.le_refl _) (Nat.le_refl _) k
                      · skip
                        by_cases q1_11 : a0 = Int32.ofInt 11
                        · have k := k.2.2.2.2.2.2.2.2.2.2.2.1 q1_11
                          refine sp_table (t := 125) rfl (by rw [q1_11]; rfl) ?_
                          refine sp_aload_n 126 rfl rfl rfl ?_
                          refine hq_getR 129 rfl rfl rfl rfl ?_
                          refine sp_iconst 130 rfl rfl ?_
                          have n2_ := k.1
                          have k := k.2
                          refine hq_iald 131 rfl rfl n2_ rfl ?_
                          exact st_iret rfl rfl (Nat.le_refl _) (Nat.le_refl _) k
                        · skip
                          by_cases q1_12 : a0 = Int32.ofInt 12
                          · have k := k.2.2.2.2.2.2.2.2.2.2.2.2.1 q1_12
                            refine sp_table (t := 132) rfl (by rw [q1_12]; rfl) ?_
                            refine sp_aload_n 133 rfl rfl rfl ?_
                            refine hq_getI 136 rfl rfl rfl ?_
                            refine sp_if_eq 139 rfl rfl (fun q_ => ?_) (fun q_ => ?_)
                            · have k := k.1 q_
                              refine sp_iconst 144 rfl rfl ?_
                              exact st_iret rfl rfl (Nat.le_refl _) (Nat.le_refl _) k
                            · have k := k.2 q_
                              refine sp_iconst 140 rfl rfl ?_
                              refine sp_goto rfl ?_
                              exact st_iret rfl rfl (Nat.le_refl _) (Nat.le_refl _) k
                          · skip
                            have k := k.2.2.2.2.2.2.2.2.2.2.2.2.2 q1_0 q1_1 q1_2 q1_3 q1_4 q1_5 q1_6 q1_7 q1_8 q1_9 q1_10 q1_11 q1_12
                            refine sp_table (t := 145) rfl (by unfold mm_tab; rw [if_pos (by have := tb_ne q1_0; have := tb_ne q1_1; have := tb_ne q1_2; have := tb_ne q1_3; have := tb_ne q1_4; have := tb_ne q1_5; have := tb_ne q1_6; have := tb_ne q1_7; have := tb_ne q1_8; have := tb_ne q1_9; have := tb_ne q1_10; have := tb_ne q1_11; have := tb_ne q1_12; omega)]; rfl) ?_
                            refine sp_iconst 146 rfl rfl ?_
                            exact st_iret rfl rfl (Nat.le_refl _) (Nat.le_refl _) k
theorem sg_X11_feed {SL : Nat} {xs : Nat → Int32} {d : Nat} {p s q : Nat} {Q : Option Value → mm_H → Prop} {a0 : Int32} {a1 : Int32} {a2 : Int32} {a3 : Int32} {a4 : Int32} {I : Nat → Nat → Int32} {J : Nat → Nat → Int64}  (k : ((((I 65 1) + (Int32.ofInt 20)) ≤ (Int32.ofInt 1200) → (mm_s SL xs (d + 1) 166 [.ref 65, .int a0] (hp p s q I J) (fun r_ h_ => ∃ I1 J1, r_ = none ∧ h_ = hp p s q I1 J1 ∧ (mm_s SL xs (d + 1) 166 [.ref 65, .int a1] (hp p s q I1 J1) (fun r_ h_ => ∃ I2 J2, r_ = none ∧ h_ = hp p s q I2 J2 ∧ (mm_s SL xs (d + 1) 166 [.ref 65, .int a2] (hp p s q I2 J2) (fun r_ h_ => ∃ I3 J3, r_ = none ∧ h_ = hp p s q I3 J3 ∧ (mm_s SL xs (d + 1) 166 [.ref 65, .int a3] (hp p s q I3 J3) (fun r_ h_ => ∃ I4 J4, r_ = none ∧ h_ = hp p s q I4 J4 ∧ (mm_s SL xs (d + 1) 166 [.ref 65, .int a4] (hp p s q I4 J4) (fun r_ h_ => ∃ I5 J5, r_ = none ∧ h_ = hp p s q I5 J5 ∧ Q (some (.int (I5 65 1))) (hp p s q I5 J5)))))))))))) ∧ (¬ (((I 65 1) + (Int32.ofInt 20)) ≤ (Int32.ofInt 1200)) → Q (some (.int (Int32.ofInt (-1)))) (hp p s q I J)))) : mm_s SL xs (d + 2) 165 [.ref 65, .int a0, .int a1, .int a2, .int a3, .int a4] (hp p s q I J) Q := by
  refine e_X11_feed rfl ?_
  refine hs_L (L2 := [some (.ref 65), some (.int a0), some (.int a1), some (.int a2), some (.int a3), some (.int a4)]) rfl ?_
  refine sp_aload_n 1 rfl rfl rfl ?_
  refine hq_getI 4 rfl rfl rfl ?_
  refine sp_bipush 6 rfl rfl ?_
  refine sp_I (y := Int32.ofInt 20) rfl ?_
  refine sp_iadd 7 rfl rfl ?_
  refine sp_sipush 10 rfl rfl ?_
  refine sp_I (y := Int32.ofInt 1200) rfl ?_
  refine sp_ic_le 13 rfl rfl (fun q_ => ?_) (fun q_ => ?_)
  · have k := k.1 q_
    refine sp_aload_n 16 rfl rfl rfl ?_
    refine sp_iload_n 17 rfl rfl rfl ?_
    refine sc_V 20 rfl rfl rfl rfl rfl (Nat.le_refl _) (Nat.le_refl _) rfl ?_
    refine mm_s_mono _ _ _ _ _ _ ?_ k
    rintro r_ h_ ⟨I1, J1, rfl, rfl, k⟩
    refine hs_S (st2 := []) rfl ?_
    refine sp_aload_n 21 rfl rfl rfl ?_
    refine sp_iload_n 22 rfl rfl rfl ?_
    refine sc_V 25 rfl rfl rfl rfl rfl (Nat.le_refl _) (Nat.le_refl _) rfl ?_
    refine mm_s_mono _ _ _ _ _ _ ?_ k
    rintro r_ h_ ⟨I2, J2, rfl, rfl, k⟩
    refine hs_S (st2 := []) rfl ?_
    refine sp_aload_n 26 rfl rfl rfl ?_
    refine sp_iload_n 27 rfl rfl rfl ?_
    refine sc_V 30 rfl rfl rfl rfl rfl (Nat.le_refl _) (Nat.le_refl _) rfl ?_
    refine mm_s_mono _ _ _ _ _ _ ?_ k
    rintro r_ h_ ⟨I3, J3, rfl, rfl, k⟩
    refine hs_S (st2 := []) rfl ?_
    refine sp_aload_n 31 rfl rfl rfl ?_
    refine sp_iload 33 rfl rfl rfl ?_
    refine sc_V 36 rfl rfl rfl rfl rfl (Nat.le_refl _) (Nat.le_refl _) rfl ?_
    refine mm_s_mono _ _ _ _ _ _ ?_ k
    rintro r_ h_ ⟨I4, J4, rfl, rfl, k⟩
    refine hs_S (st2 := []) rfl ?_
    refine sp_aload_n 37 rfl rfl rfl ?_
    refine sp_iload 39 rfl rfl rfl ?_
    refine sc_V 42 rfl rfl rfl rfl rfl (Nat.le_refl _) (Nat.le_refl _) rfl ?_
    refine mm_s_mono _ _ _ _ _ _ ?_ k
    rintro r_ h_ ⟨I5, J5, rfl, rfl, k⟩
    refine hs_S (st2 := []) rfl ?_
    refine sp_aload_n 43 rfl rfl rfl ?_
    refine hq_getI 46 rfl rfl rfl ?_
    exact st_iret rfl rfl (Nat.le_refl _) (Nat.le_refl _) k
  · have k := k.2 q_
    refine sp_iconst 14 rfl rfl ?_
    exact st_iret rfl rfl (Nat.le_refl _) (Nat.le_refl _) k
