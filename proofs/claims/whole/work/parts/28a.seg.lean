theorem sg_X10_end {SL : Nat} {xs : Nat → Int32} {d : Nat} {p s q : Nat} {Q : Option Value → mm_H → Prop} {a0 : Int32} {I : Nat → Nat → Int32} {J : Nat → Nat → Int64}  (k : ((a0 < Int32.ofInt 0 → Q (some (.int (Int32.ofInt (-1)))) (hp p s q I J)) ∧ (¬ (a0 < Int32.ofInt 0) → ((a0 ≤ (I 4 1) → Q (some (.int a0)) (hp p s q (mm_u I 4 1 a0) J)) ∧ (¬ (a0 ≤ (I 4 1)) → Q (some (.int (Int32.ofInt (-1)))) (hp p s q I J)))))) : mm_s SL xs (d + 1) 117 [.ref 2, .int a0] (hp p s q I J) Q := by
  refine e_X10_end rfl ?_
  refine hs_L (L2 := [some (.ref 2), some (.int a0), none]) rfl ?_
  refine sp_aload_n 1 rfl rfl rfl ?_
  refine hq_getR 4 rfl rfl rfl rfl ?_
  refine hq_getR 7 rfl rfl rfl rfl ?_
  refine hs_astore_n 8 (L2 := [some (.ref 2), some (.int a0), some (.ref 4)]) rfl rfl rfl rfl ?_
  refine sp_iload_n 9 rfl rfl rfl ?_
  refine sp_if_lt 12 rfl rfl (fun q_ => ?_) (fun q_ => ?_)
  · have k := k.1 q_
    refine sp_iconst 21 rfl rfl ?_
    exact st_iret rfl rfl (Nat.le_refl _) (Nat.le_refl _) k
  · have k := k.2 q_
    refine sp_iload_n 13 rfl rfl rfl ?_
    refine sp_aload_n 14 rfl rfl rfl ?_
    refine hq_getI 17 rfl rfl rfl ?_
    refine sp_ic_le 20 rfl rfl (fun q_ => ?_) (fun q_ => ?_)
    · have k := k.1 q_
      refine sp_aload_n 23 rfl rfl rfl ?_
      refine sp_iload_n 24 rfl rfl rfl ?_
      refine hq_putI 27 rfl rfl rfl ?_
      refine sp_iload_n 28 rfl rfl rfl ?_
      exact st_iret rfl rfl (Nat.le_refl _) (Nat.le_refl _) k
    · have k := k.2 q_
      refine sp_iconst 21 rfl rfl ?_
      exact st_iret rfl rfl (Nat.le_refl _) (Nat.le_refl _) k
theorem sg_X10_went {SL : Nat} {xs : Nat → Int32} {d : Nat} {p s q : Nat} {Q : Option Value → mm_H → Prop} {a0 : Int32} {I : Nat → Nat → Int32} {J : Nat → Nat → Int64}  (k : ((a0 < Int32.ofInt 0 → Q (some (.int (Int32.ofInt (-1)))) (hp p s q I J)) ∧ (¬ (a0 < Int32.ofInt 0) → (((I 15 5) ≤ a0 → Q (some (.int (Int32.ofInt (-1)))) (hp p s q I J)) ∧ (¬ ((I 15 5) ≤ a0) → (((Int32.ofInt 60) ≤ a0 → Q (some (.int (Int32.ofInt (-1)))) (hp p s q I J)) ∧ (¬ ((Int32.ofInt 60) ≤ a0) → (vp_in a0 60 ∧ Q (some (.int (I 18 ((a0).toNatClampNeg)))) (hp p s q I J))))))))) : mm_s SL xs (d + 1) 122 [.ref 2, .int a0] (hp p s q I J) Q := by
  refine e_X10_went rfl ?_
  refine hs_L (L2 := [some (.ref 2), some (.int a0)]) rfl ?_
  refine sp_iload_n 1 rfl rfl rfl ?_
  refine sp_if_lt 4 rfl rfl (fun q_ => ?_) (fun q_ => ?_)
  · have k := k.1 q_
    refine sp_iconst 34 rfl rfl ?_
    exact st_iret rfl rfl (Nat.le_refl _) (Nat.le_refl _) k
  · have k := k.2 q_
    refine sp_iload_n 5 rfl rfl rfl ?_
    refine sp_aload_n 6 rfl rfl rfl ?_
    refine hq_getR 9 rfl rfl rfl rfl ?_
    refine hq_getI 12 rfl rfl rfl ?_
    refine sp_ic_ge 15 rfl rfl (fun q_ => ?_) (fun q_ => ?_)
    · have k := k.1 q_
      refine sp_iconst 34 rfl rfl ?_
      exact st_iret rfl rfl (Nat.le_refl _) (Nat.le_refl _) k
    · have k := k.2 q_
      refine sp_iload_n 16 rfl rfl rfl ?_
      refine sp_bipush 18 rfl rfl ?_
      refine sp_I (y := Int32.ofInt 60) rfl ?_
      refine sp_ic_ge 21 rfl rfl (fun q_ => ?_) (fun q_ => ?_)
      · have k := k.1 q_
        refine sp_iconst 34 rfl rfl ?_
        exact st_iret rfl rfl (Nat.le_refl _) (Nat.le_refl _) k
      · have k := k.2 q_
        refine sp_aload_n 22 rfl rfl rfl ?_
        refine hq_getR 25 rfl rfl rfl rfl ?_
        refine hq_getR 28 rfl rfl rfl rfl ?_
        refine sp_iload_n 29 rfl rfl rfl ?_
        have n1_ := k.1
        have k := k.2
        refine hq_iald 30 rfl rfl n1_ rfl ?_
        refine sp_goto rfl ?_
        exact st_iret rfl rfl (Nat.le_refl _) (Nat.le_refl _) k
theorem sg_X10_order {SL : Nat} {xs : Nat → Int32} {d : Nat} {p s q : Nat} {Q : Option Value → mm_H → Prop} {a0 : Int32} {I : Nat → Nat → Int32} {J : Nat → Nat → Int64}  (k : ((a0 < Int32.ofInt 0 → Q (some (.int (Int32.ofInt (-1)))) (hp p s q I J)) ∧ (¬ (a0 < Int32.ofInt 0) → (((Int32.ofInt 60) ≤ a0 → Q (some (.int (Int32.ofInt (-1)))) (hp p s q I J)) ∧ (¬ ((Int32.ofInt 60) ≤ a0) → (((I 29 1) < (Int32.ofInt 60) → (vp_in (I 29 1) 60 ∧ Q (some (.int ((I 29 1) + (Int32.ofInt 1)))) (hp p s q (mm_u (mm_u I 30 (((I 29 1)).toNatClampNeg) a0) 29 1 ((I 29 1) + (Int32.ofInt 1))) J))) ∧ (¬ ((I 29 1) < (Int32.ofInt 60)) → Q (some (.int (Int32.ofInt (-1)))) (hp p s q I J)))))))) : mm_s SL xs (d + 1) 131 [.ref 2, .int a0] (hp p s q I J) Q := by
  refine e_X10_order rfl ?_
  refine hs_L (L2 := [some (.ref 2), some (.int a0)]) rfl ?_
  refine sp_iload_n 1 rfl rfl rfl ?_
  refine sp_if_lt 4 rfl rfl (fun q_ => ?_) (fun q_ => ?_)
  · have k := k.1 q_
    refine sp_iconst 23 rfl rfl ?_
    exact st_iret rfl rfl (Nat.le_refl _) (Nat.le_refl _) k
  · have k := k.2 q_
    refine sp_iload_n 5 rfl rfl rfl ?_
    refine sp_bipush 7 rfl rfl ?_
    refine sp_I (y := Int32.ofInt 60) rfl ?_
    refine sp_ic_ge 10 rfl rfl (fun q_ => ?_) (fun q_ => ?_)
    · have k := k.1 q_
      refine sp_iconst 23 rfl rfl ?_
      exact st_iret rfl rfl (Nat.le_refl _) (Nat.le_refl _) k
    · have k := k.2 q_
      refine sp_aload_n 11 rfl rfl rfl ?_
      refine hq_getR 14 rfl rfl rfl rfl ?_
      refine hq_getI 17 rfl rfl rfl ?_
      refine sp_bipush 19 rfl rfl ?_
      refine sp_I (y := Int32.ofInt 60) rfl ?_
      refine sp_ic_lt 22 rfl rfl (fun q_ => ?_) (fun q_ => ?_)
      · have k := k.1 q_
        refine sp_aload_n 25 rfl rfl rfl ?_
        refine hq_getR 28 rfl rfl rfl rfl ?_
        refine hq_getR 31 rfl rfl rfl rfl ?_
        refine sp_aload_n 32 rfl rfl rfl ?_
        refine hq_getR 35 rfl rfl rfl rfl ?_
        refine hq_getI 38 rfl rfl rfl ?_
        refine sp_iload_n 39 rfl rfl rfl ?_
        have n1_ := k.1
        have k := k.2
        refine hq_iast 40 rfl rfl n1_ rfl ?_
        refine sp_aload_n 41 rfl rfl rfl ?_
        refine hq_getR 44 rfl rfl rfl rfl ?_
        refine sp_dup 45 rfl rfl rfl ?_
        refine hq_getI 48 rfl rfl rfl ?_
        refine sp_I (y := (I 29 1)) (by simp [mm_u]) ?_
        refine sp_iconst 49 rfl rfl ?_
        refine sp_iadd 50 rfl rfl ?_
        refine hq_putI 53 rfl rfl rfl ?_
        refine sp_aload_n 54 rfl rfl rfl ?_
        refine hq_getR 57 rfl rfl rfl rfl ?_
        refine hq_getI 60 rfl rfl rfl ?_
        refine sp_I (y := ((I 29 1) + (Int32.ofInt 1))) (by simp [mm_u]) ?_
        exact st_iret rfl rfl (Nat.le_refl _) (Nat.le_refl _) k
      · have k := k.2 q_
        refine sp_iconst 23 rfl rfl ?_
        exact st_iret rfl rfl (Nat.le_refl _) (Nat.le_refl _) k
theorem sg_X10_keep {SL : Nat} {xs : Nat → Int32} {d : Nat} {p s q : Nat} {Q : Option Value → mm_H → Prop} {a0 : Int32} {I : Nat → Nat → Int32} {J : Nat → Nat → Int64}  (k : ((a0 < Int32.ofInt 0 → Q (some (.int (Int32.ofInt (-1)))) (hp p s q I J)) ∧ (¬ (a0 < Int32.ofInt 0) → ((a0 ≤ (I 29 1) → Q (some (.int a0)) (hp p s q (mm_u I 29 1 a0) J)) ∧ (¬ (a0 ≤ (I 29 1)) → Q (some (.int (Int32.ofInt (-1)))) (hp p s q I J)))))) : mm_s SL xs (d + 1) 132 [.ref 2, .int a0] (hp p s q I J) Q := by
  refine e_X10_keep rfl ?_
  refine hs_L (L2 := [some (.ref 2), some (.int a0)]) rfl ?_
  refine sp_iload_n 1 rfl rfl rfl ?_
  refine sp_if_lt 4 rfl rfl (fun q_ => ?_) (fun q_ => ?_)
  · have k := k.1 q_
    refine sp_iconst 16 rfl rfl ?_
    exact st_iret rfl rfl (Nat.le_refl _) (Nat.le_refl _) k
  · have k := k.2 q_
    refine sp_iload_n 5 rfl rfl rfl ?_
    refine sp_aload_n 6 rfl rfl rfl ?_
    refine hq_getR 9 rfl rfl rfl rfl ?_
    refine hq_getI 12 rfl rfl rfl ?_
    refine sp_ic_le 15 rfl rfl (fun q_ => ?_) (fun q_ => ?_)
    · have k := k.1 q_
      refine sp_aload_n 18 rfl rfl rfl ?_
      refine hq_getR 21 rfl rfl rfl rfl ?_
      refine sp_iload_n 22 rfl rfl rfl ?_
      refine hq_putI 25 rfl rfl rfl ?_
      refine sp_iload_n 26 rfl rfl rfl ?_
      exact st_iret rfl rfl (Nat.le_refl _) (Nat.le_refl _) k
    · have k := k.2 q_
      refine sp_iconst 16 rfl rfl ?_
      exact st_iret rfl rfl (Nat.le_refl _) (Nat.le_refl _) k
theorem sg_X10_later {SL : Nat} {xs : Nat → Int32} {d : Nat} {p s q : Nat} {Q : Option Value → mm_H → Prop} {a0 : Int32} {I : Nat → Nat → Int32} {J : Nat → Nat → Int64}  (k : ((a0 < Int32.ofInt 0 → Q (some (.int (Int32.ofInt (-1)))) (hp p s q I J)) ∧ (¬ (a0 < Int32.ofInt 0) → (((Int32.ofInt 1000) < a0 → Q (some (.int (Int32.ofInt (-1)))) (hp p s q I J)) ∧ (¬ ((Int32.ofInt 1000) < a0) → ((a0 ≤ ((Int32.ofInt 100000) - (I 2 9)) → Q (some (.int ((I 2 9) + a0))) (hp p s q (mm_u I 2 9 ((I 2 9) + a0)) J)) ∧ (¬ (a0 ≤ ((Int32.ofInt 100000) - (I 2 9))) → Q (some (.int (Int32.ofInt (-1)))) (hp p s q I J)))))))) : mm_s SL xs (d + 1) 149 [.ref 2, .int a0] (hp p s q I J) Q := by
  refine e_X10_later rfl ?_
  refine hs_L (L2 := [some (.ref 2), some (.int a0)]) rfl ?_
  refine sp_iload_n 1 rfl rfl rfl ?_
  refine sp_if_lt 4 rfl rfl (fun q_ => ?_) (fun q_ => ?_)
  · have k := k.1 q_
    refine sp_iconst 24 rfl rfl ?_
    exact st_iret rfl rfl (Nat.le_refl _) (Nat.le_refl _) k
  · have k := k.2 q_
    refine sp_iload_n 5 rfl rfl rfl ?_
    refine sp_sipush 8 rfl rfl ?_
    refine sp_I (y := Int32.ofInt 1000) rfl ?_
    refine sp_ic_gt 11 rfl rfl (fun q_ => ?_) (fun q_ => ?_)
    · have k := k.1 q_
      refine sp_iconst 24 rfl rfl ?_
      exact st_iret rfl rfl (Nat.le_refl _) (Nat.le_refl _) k
    · have k := k.2 q_
      refine sp_iload_n 12 rfl rfl rfl ?_
      refine sp_ldcw 15 rfl rfl ?_
      refine sp_aload_n 16 rfl rfl rfl ?_
      refine hq_getI 19 rfl rfl rfl ?_
      refine sp_isub 20 rfl rfl ?_
      refine sp_ic_le 23 rfl rfl (fun q_ => ?_) (fun q_ => ?_)
      · have k := k.1 q_
        refine sp_aload_n 26 rfl rfl rfl ?_
        refine sp_dup 27 rfl rfl rfl ?_
        refine hq_getI 30 rfl rfl rfl ?_
        refine sp_iload_n 31 rfl rfl rfl ?_
        refine sp_iadd 32 rfl rfl ?_
        refine hq_putI 35 rfl rfl rfl ?_
        refine sp_aload_n 36 rfl rfl rfl ?_
        refine hq_getI 39 rfl rfl rfl ?_
        refine sp_I (y := ((I 2 9) + a0)) (by simp [mm_u]) ?_
        exact st_iret rfl rfl (Nat.le_refl _) (Nat.le_refl _) k
      · have k := k.2 q_
        refine sp_iconst 24 rfl rfl ?_
        exact st_iret rfl rfl (Nat.le_refl _) (Nat.le_refl _) k
theorem sg_X10_isPost {SL : Nat} {xs : Nat → Int32} {d : Nat} {p s q : Nat} {Q : Option Value → mm_H → Prop} {a0 : Int32} {I : Nat → Nat → Int32} {J : Nat → Nat → Int64} (h_p : isP p) (k : ((a0 < Int32.ofInt 0 → Q (some (.int (Int32.ofInt 0))) (hp p s q I J)) ∧ (¬ (a0 < Int32.ofInt 0) → (((I p 0) ≤ a0 → Q (some (.int (Int32.ofInt 0))) (hp p s q I J)) ∧ (¬ ((I p 0) ≤ a0) → (((Int32.ofInt 60) ≤ a0 → Q (some (.int (Int32.ofInt 0))) (hp p s q I J)) ∧ (¬ ((Int32.ofInt 60) ≤ a0) → Q (some (.int (Int32.ofInt 1))) (hp p s q I J)))))))) : mm_s SL xs (d + 1) 157 [.ref 2, .int a0] (hp p s q I J) Q := by
  refine e_X10_isPost rfl ?_
  refine hs_L (L2 := [some (.ref 2), some (.int a0)]) rfl ?_
  refine sp_iload_n 1 rfl rfl rfl ?_
  refine sp_if_lt 4 rfl rfl (fun q_ => ?_) (fun q_ => ?_)
  · have k := k.1 q_
    refine sp_iconst 26 rfl rfl ?_
    exact st_zret rfl rfl (by decide) (Nat.le_refl _) (Nat.le_refl _) k
  · have k := k.2 q_
    refine sp_iload_n 5 rfl rfl rfl ?_
    refine sp_aload_n 6 rfl rfl rfl ?_
    refine hq_getR 9 rfl rfl rfl rfl ?_
    refine hq_getI 12 rfl (kP0 h_p) rfl ?_
    refine sp_ic_ge 15 rfl rfl (fun q_ => ?_) (fun q_ => ?_)
    · have k := k.1 q_
      refine sp_iconst 26 rfl rfl ?_
      exact st_zret rfl rfl (by decide) (Nat.le_refl _) (Nat.le_refl _) k
    · have k := k.2 q_
      refine sp_iload_n 16 rfl rfl rfl ?_
      refine sp_bipush 18 rfl rfl ?_
      refine sp_I (y := Int32.ofInt 60) rfl ?_
      refine sp_ic_ge 21 rfl rfl (fun q_ => ?_) (fun q_ => ?_)
      · have k := k.1 q_
        refine sp_iconst 26 rfl rfl ?_
        exact st_zret rfl rfl (by decide) (Nat.le_refl _) (Nat.le_refl _) k
      · have k := k.2 q_
        refine sp_iconst 22 rfl rfl ?_
        refine sp_goto rfl ?_
        exact st_zret rfl rfl (by decide) (Nat.le_refl _) (Nat.le_refl _) k
theorem sg_X10_feed {SL : Nat} {xs : Nat → Int32} {d : Nat} {p s q : Nat} {Q : Option Value → mm_H → Prop} {a0 : Int32} {a1 : Int32} {a2 : Int32} {a3 : Int32} {a4 : Int32} {I : Nat → Nat → Int32} {J : Nat → Nat → Int64}  (k : (((I 4 1) ≤ (Int32.ofInt 1180) → (mm_s SL xs (d + 1) 103 [.ref 4, .int a0] (hp p s q I J) (fun r_ h_ => ∃ I1 J1, r_ = none ∧ h_ = hp p s q I1 J1 ∧ (mm_s SL xs (d + 1) 103 [.ref 4, .int a1] (hp p s q I1 J1) (fun r_ h_ => ∃ I2 J2, r_ = none ∧ h_ = hp p s q I2 J2 ∧ (mm_s SL xs (d + 1) 103 [.ref 4, .int a2] (hp p s q I2 J2) (fun r_ h_ => ∃ I3 J3, r_ = none ∧ h_ = hp p s q I3 J3 ∧ (mm_s SL xs (d + 1) 103 [.ref 4, .int a3] (hp p s q I3 J3) (fun r_ h_ => ∃ I4 J4, r_ = none ∧ h_ = hp p s q I4 J4 ∧ (mm_s SL xs (d + 1) 103 [.ref 4, .int a4] (hp p s q I4 J4) (fun r_ h_ => ∃ I5 J5, r_ = none ∧ h_ = hp p s q I5 J5 ∧ Q (some (.int (I5 4 1))) (hp p s q I5 J5)))))))))))) ∧ (¬ ((I 4 1) ≤ (Int32.ofInt 1180)) → Q (some (.int (Int32.ofInt (-1)))) (hp p s q I J)))) : mm_s SL xs (d + 2) 116 [.ref 2, .int a0, .int a1, .int a2, .int a3, .int a4] (hp p s q I J) Q := by
  refine e_X10_feed rfl ?_
  refine hs_L (L2 := [some (.ref 2), some (.int a0), some (.int a1), some (.int a2), some (.int a3), some (.int a4), none]) rfl ?_
  refine sp_aload_n 1 rfl rfl rfl ?_
  refine hq_getR 4 rfl rfl rfl rfl ?_
  refine hq_getR 7 rfl rfl rfl rfl ?_
  refine hs_astore 9 (L2 := [some (.ref 2), some (.int a0), some (.int a1), some (.int a2), some (.int a3), some (.int a4), some (.ref 4)]) rfl rfl rfl rfl ?_
  refine sp_aload 11 rfl rfl rfl ?_
  refine hq_getI 14 rfl rfl rfl ?_
  refine sp_sipush 17 rfl rfl ?_
  refine sp_I (y := Int32.ofInt 1180) rfl ?_
  refine sp_ic_le 20 rfl rfl (fun q_ => ?_) (fun q_ => ?_)
  · have k := k.1 q_
    refine sp_aload 24 rfl rfl rfl ?_
    refine sp_iload_n 25 rfl rfl rfl ?_
    refine sc_V 28 rfl rfl rfl rfl rfl (Nat.le_refl _) (Nat.le_refl _) rfl ?_
    refine mm_s_mono _ _ _ _ _ _ ?_ k
    rintro r_ h_ ⟨I1, J1, rfl, rfl, k⟩
    refine hs_S (st2 := []) rfl ?_
    refine sp_aload 30 rfl rfl rfl ?_
    refine sp_iload_n 31 rfl rfl rfl ?_
    refine sc_V 34 rfl rfl rfl rfl rfl (Nat.le_refl _) (Nat.le_refl _) rfl ?_
    refine mm_s_mono _ _ _ _ _ _ ?_ k
    rintro r_ h_ ⟨I2, J2, rfl, rfl, k⟩
    refine hs_S (st2 := []) rfl ?_
    refine sp_aload 36 rfl rfl rfl ?_
    refine sp_iload_n 37 rfl rfl rfl ?_
    refine sc_V 40 rfl rfl rfl rfl rfl (Nat.le_refl _) (Nat.le_refl _) rfl ?_
    refine mm_s_mono _ _ _ _ _ _ ?_ k
    rintro r_ h_ ⟨I3, J3, rfl, rfl, k⟩
    refine hs_S (st2 := []) rfl ?_
    refine sp_aload 42 rfl rfl rfl ?_
    refine sp_iload 44 rfl rfl rfl ?_
    refine sc_V 47 rfl rfl rfl rfl rfl (Nat.le_refl _) (Nat.le_refl _) rfl ?_
    refine mm_s_mono _ _ _ _ _ _ ?_ k
    rintro r_ h_ ⟨I4, J4, rfl, rfl, k⟩
    refine hs_S (st2 := []) rfl ?_
    refine sp_aload 49 rfl rfl rfl ?_
    refine sp_iload 51 rfl rfl rfl ?_
    refine sc_V 54 rfl rfl rfl rfl rfl (Nat.le_refl _) (Nat.le_refl _) rfl ?_
    refine mm_s_mono _ _ _ _ _ _ ?_ k
    rintro r_ h_ ⟨I5, J5, rfl, rfl, k⟩
    refine hs_S (st2 := []) rfl ?_
    refine sp_aload 56 rfl rfl rfl ?_
    refine hq_getI 59 rfl rfl rfl ?_
    exact st_iret rfl rfl (Nat.le_refl _) (Nat.le_refl _) k
  · have k := k.2 q_
    refine sp_iconst 21 rfl rfl ?_
    exact st_iret rfl rfl (Nat.le_refl _) (Nat.le_refl _) k
theorem sg_X10_far {SL : Nat} {xs : Nat → Int32} {d : Nat} {p s q : Nat} {Q : Option Value → mm_H → Prop} {a0 : Int64} {a1 : Int32} {a2 : Int64} {I : Nat → Nat → Int32} {J : Nat → Nat → Int64}  (k : (((sx_X10_isLarge a0 a1) = Int32.ofInt 0 → Q (some (.long (Int64.ofInt (-1)))) (hp p s q I J)) ∧ (¬ ((sx_X10_isLarge a0 a1) = Int32.ofInt 0) → ((a2 < (Int64.ofInt 1) → Q (some (.long (Int64.ofInt (-1)))) (hp p s q I J)) ∧ (¬ (a2 < (Int64.ofInt 1)) → ((a2 ≤ a0 → (mm_s SL xs (d + 1) 41 [.long a0, .int a1, .long a2] (hp p s q I J) (fun r_ h_ => ∃ x1 I1 J1, r_ = some (.long x1) ∧ h_ = hp p s q I1 J1 ∧ Q (some (.long x1)) (hp p s q I1 J1)))) ∧ (¬ (a2 ≤ a0) → Q (some (.long (Int64.ofInt (-1)))) (hp p s q I J)))))))) : mm_s SL xs (d + 2) 134 [.ref 2, .long a0, .int a1, .long a2] (hp p s q I J) Q := by
  refine e_X10_far rfl ?_
  refine hs_L (L2 := [some (.ref 2), some (.long a0), none, some (.int a1), some (.long a2), none]) rfl ?_
  refine sp_lload_n 1 rfl rfl rfl ?_
  refine sp_iload_n 2 rfl rfl rfl ?_
  refine sc_S 5 rfl rfl rfl rfl (Nat.le_refl _) (Nat.le_refl _) rfl ?_
  refine cx_X10_isLarge ?_
  refine hs_S (st2 := [.int (sx_X10_isLarge a0 a1)]) rfl ?_
  refine sp_if_eq 8 rfl rfl (fun q_ => ?_) (fun q_ => ?_)
  · have k := k.1 q_
    refine sp_ldc2 25 rfl rfl ?_
    exact st_lret rfl rfl (Nat.le_refl _) (Nat.le_refl _) k
  · have k := k.2 q_
    refine sp_lload 10 rfl rfl rfl ?_
    refine sp_lconst 11 rfl rfl ?_
    refine sp_J (y := Int64.ofInt 1) rfl ?_
    refine sp_lcmp 12 rfl rfl ?_
    refine sp_if_lt 15 rfl rfl (fun q_ => ?_) (fun q_ => ?_)
    · have k := k.1 ((lg_cmp_lt _ _).mp q_)
      refine sp_ldc2 25 rfl rfl ?_
      exact st_lret rfl rfl (Nat.le_refl _) (Nat.le_refl _) k
    · have k := k.2 (fun z_ => q_ ((lg_cmp_lt _ _).mpr z_))
      refine sp_lload 17 rfl rfl rfl ?_
      refine sp_lload_n 18 rfl rfl rfl ?_
      refine sp_lcmp 19 rfl rfl ?_
      refine sp_if_le 22 rfl rfl (fun q_ => ?_) (fun q_ => ?_)
      · have k := k.1 ((lg_cmp_le _ _).mp q_)
        refine sp_lload_n 27 rfl rfl rfl ?_
        refine sp_iload_n 28 rfl rfl rfl ?_
        refine sp_lload 30 rfl rfl rfl ?_
        refine sc_S 33 rfl rfl rfl rfl (Nat.le_refl _) (Nat.le_refl _) rfl ?_
        refine mm_s_mono _ _ _ _ _ _ ?_ k
        rintro r_ h_ ⟨x1, I1, J1, rfl, rfl, k⟩
        refine hs_S (st2 := [.long x1]) rfl ?_
        exact st_lret rfl rfl (Nat.le_refl _) (Nat.le_refl _) k
      · have k := k.2 (fun z_ => q_ ((lg_cmp_le _ _).mpr z_))
        refine sp_ldc2 25 rfl rfl ?_
        exact st_lret rfl rfl (Nat.le_refl _) (Nat.le_refl _) k
theorem sg_X10_at {SL : Nat} {xs : Nat → Int32} {d : Nat} {p s q : Nat} {Q : Option Value → mm_H → Prop} {a0 : Int64} {a1 : Int32} {a2 : Int64} {I : Nat → Nat → Int32} {J : Nat → Nat → Int64}  (k : (((sx_X10_isLarge a0 a1) = Int32.ofInt 0 → Q (some (.long (Int64.ofInt (-1)))) (hp p s q I J)) ∧ (¬ ((sx_X10_isLarge a0 a1) = Int32.ofInt 0) → ((a2 < (Int64.ofInt 0) → Q (some (.long (Int64.ofInt (-1)))) (hp p s q I J)) ∧ (¬ (a2 < (Int64.ofInt 0)) → ((a2 < a0 → (mm_s SL xs (d + 1) 42 [.long a0, .int a1, .long a2] (hp p s q I J) (fun r_ h_ => ∃ x1 I1 J1, r_ = some (.long x1) ∧ h_ = hp p s q I1 J1 ∧ Q (some (.long x1)) (hp p s q I1 J1)))) ∧ (¬ (a2 < a0) → Q (some (.long (Int64.ofInt (-1)))) (hp p s q I J)))))))) : mm_s SL xs (d + 2) 135 [.ref 2, .long a0, .int a1, .long a2] (hp p s q I J) Q := by
  refine e_X10_at rfl ?_
  refine hs_L (L2 := [some (.ref 2), some (.long a0), none, some (.int a1), some (.long a2), none]) rfl ?_
  refine sp_lload_n 1 rfl rfl rfl ?_
  refine sp_iload_n 2 rfl rfl rfl ?_
  refine sc_S 5 rfl rfl rfl rfl (Nat.le_refl _) (Nat.le_refl _) rfl ?_
  refine cx_X10_isLarge ?_
  refine hs_S (st2 := [.int (sx_X10_isLarge a0 a1)]) rfl ?_
  refine sp_if_eq 8 rfl rfl (fun q_ => ?_) (fun q_ => ?_)
  · have k := k.1 q_
    refine sp_ldc2 25 rfl rfl ?_
    exact st_lret rfl rfl (Nat.le_refl _) (Nat.le_refl _) k
  · have k := k.2 q_
    refine sp_lload 10 rfl rfl rfl ?_
    refine sp_lconst 11 rfl rfl ?_
    refine sp_J (y := Int64.ofInt 0) rfl ?_
    refine sp_lcmp 12 rfl rfl ?_
    refine sp_if_lt 15 rfl rfl (fun q_ => ?_) (fun q_ => ?_)
    · have k := k.1 ((lg_cmp_lt _ _).mp q_)
      refine sp_ldc2 25 rfl rfl ?_
      exact st_lret rfl rfl (Nat.le_refl _) (Nat.le_refl _) k
    · have k := k.2 (fun z_ => q_ ((lg_cmp_lt _ _).mpr z_))
      refine sp_lload 17 rfl rfl rfl ?_
      refine sp_lload_n 18 rfl rfl rfl ?_
      refine sp_lcmp 19 rfl rfl ?_
      refine sp_if_lt 22 rfl rfl (fun q_ => ?_) (fun q_ => ?_)
      · have k := k.1 ((lg_cmp_lt _ _).mp q_)
        refine sp_lload_n 27 rfl rfl rfl ?_
        refine sp_iload_n 28 rfl rfl rfl ?_
        refine sp_lload 30 rfl rfl rfl ?_
        refine sc_S 33 rfl rfl rfl rfl (Nat.le_refl _) (Nat.le_refl _) rfl ?_
        refine mm_s_mono _ _ _ _ _ _ ?_ k
        rintro r_ h_ ⟨x1, I1, J1, rfl, rfl, k⟩
        refine hs_S (st2 := [.long x1]) rfl ?_
        exact st_lret rfl rfl (Nat.le_refl _) (Nat.le_refl _) k
      · have k := k.2 (fun z_ => q_ ((lg_cmp_lt _ _).mpr z_))
        refine sp_ldc2 25 rfl rfl ?_
        exact st_lret rfl rfl (Nat.le_refl _) (Nat.le_refl _) k
theorem sg_X10_size {SL : Nat} {xs : Nat → Int32} {d : Nat} {p s q : Nat} {Q : Option Value → mm_H → Prop} {a0 : Int32} {a1 : Int32} {a2 : Int32} {I : Nat → Nat → Int32} {J : Nat → Nat → Int64}  (k : ((a0 < (Int32.ofInt 1) → Q (some (.int (Int32.ofInt (-1)))) (hp p s q I J)) ∧ (¬ (a0 < (Int32.ofInt 1)) → (((Int32.ofInt 1000) < a0 → Q (some (.int (Int32.ofInt (-1)))) (hp p s q I J)) ∧ (¬ ((Int32.ofInt 1000) < a0) → ((a1 < Int32.ofInt 0 → Q (some (.int (Int32.ofInt (-1)))) (hp p s q I J)) ∧ (¬ (a1 < Int32.ofInt 0) → (((Int32.ofInt 5000) ≤ a1 → Q (some (.int (Int32.ofInt (-1)))) (hp p s q I J)) ∧ (¬ ((Int32.ofInt 5000) ≤ a1) → ((Int32.ofInt 0 ≤ a2 → (mm_s SL xs (d + 1) 43 [.int a0, .int a1, .int a2] (hp p s q I J) (fun r_ h_ => ∃ x1 I1 J1, r_ = some (.int x1) ∧ h_ = hp p s q I1 J1 ∧ Q (some (.int x1)) (hp p s q I1 J1)))) ∧ (¬ (Int32.ofInt 0 ≤ a2) → Q (some (.int (Int32.ofInt (-1)))) (hp p s q I J)))))))))))) : mm_s SL xs (d + 2) 136 [.ref 2, .int a0, .int a1, .int a2] (hp p s q I J) Q := by
  refine e_X10_size rfl ?_
  refine hs_L (L2 := [some (.ref 2), some (.int a0), some (.int a1), some (.int a2)]) rfl ?_
  refine sp_iload_n 1 rfl rfl rfl ?_
  refine sp_iconst 2 rfl rfl ?_
  refine sp_ic_lt 5 rfl rfl (fun q_ => ?_) (fun q_ => ?_)
  · have k := k.1 q_
    refine sp_iconst 28 rfl rfl ?_
    exact st_iret rfl rfl (Nat.le_refl _) (Nat.le_refl _) k
  · have k := k.2 q_
    refine sp_iload_n 6 rfl rfl rfl ?_
    refine sp_sipush 9 rfl rfl ?_
    refine sp_I (y := Int32.ofInt 1000) rfl ?_
    refine sp_ic_gt 12 rfl rfl (fun q_ => ?_) (fun q_ => ?_)
    · have k := k.1 q_
      refine sp_iconst 28 rfl rfl ?_
      exact st_iret rfl rfl (Nat.le_refl _) (Nat.le_refl _) k
    · have k := k.2 q_
      refine sp_iload_n 13 rfl rfl rfl ?_
      refine sp_if_lt 16 rfl rfl (fun q_ => ?_) (fun q_ => ?_)
      · have k := k.1 q_
        refine sp_iconst 28 rfl rfl ?_
        exact st_iret rfl rfl (Nat.le_refl _) (Nat.le_refl _) k
      · have k := k.2 q_
        refine sp_iload_n 17 rfl rfl rfl ?_
        refine sp_sipush 20 rfl rfl ?_
        refine sp_I (y := Int32.ofInt 5000) rfl ?_
        refine sp_ic_ge 23 rfl rfl (fun q_ => ?_) (fun q_ => ?_)
        · have k := k.1 q_
          refine sp_iconst 28 rfl rfl ?_
          exact st_iret rfl rfl (Nat.le_refl _) (Nat.le_refl _) k
        · have k := k.2 q_
          refine sp_iload_n 24 rfl rfl rfl ?_
          refine sp_if_ge 27 rfl rfl (fun q_ => ?_) (fun q_ => ?_)
          · have k := k.1 q_
            refine sp_iload_n 30 rfl rfl rfl ?_
            refine sp_iload_n 31 rfl rfl rfl ?_
            refine sp_iload_n 32 rfl rfl rfl ?_
            refine sc_S 35 rfl rfl rfl rfl (Nat.le_refl _) (Nat.le_refl _) rfl ?_
            refine mm_s_mono _ _ _ _ _ _ ?_ k
            rintro r_ h_ ⟨x1, I1, J1, rfl, rfl, k⟩
            refine hs_S (st2 := [.int x1]) rfl ?_
            exact st_iret rfl rfl (Nat.le_refl _) (Nat.le_refl _) k
          · have k := k.2 q_
            refine sp_iconst 28 rfl rfl ?_
            exact st_iret rfl rfl (Nat.le_refl _) (Nat.le_refl _) k
theorem sg_X10_untell {SL : Nat} {xs : Nat → Int32} {d : Nat} {p s q : Nat} {Q : Option Value → mm_H → Prop} {a0 : Int32} {I : Nat → Nat → Int32} {J : Nat → Nat → Int64}  (k : (mm_s SL xs (d + 1) 94 [.ref 33, .int a0, .int (I 2 9)] (hp p s q I J) (fun r_ h_ => ∃ x1 I1 J1, r_ = some (.int x1) ∧ h_ = hp p s q I1 J1 ∧ ((x1 = 0 ∨ x1 = 1) ∧ Q (some (.int x1)) (hp p s q I1 J1))))) : mm_s SL xs (d + 2) 148 [.ref 2, .int a0] (hp p s q I J) Q := by
  refine e_X10_untell rfl ?_
  refine hs_L (L2 := [some (.ref 2), some (.int a0)]) rfl ?_
  refine sp_aload_n 1 rfl rfl rfl ?_
  refine hq_getR 4 rfl rfl rfl rfl ?_
  refine sp_iload_n 5 rfl rfl rfl ?_
  refine sp_aload_n 6 rfl rfl rfl ?_
  refine hq_getI 9 rfl rfl rfl ?_
  refine sc_V 12 rfl rfl rfl rfl rfl (Nat.le_refl _) (Nat.le_refl _) rfl ?_
  refine mm_s_mono _ _ _ _ _ _ ?_ k
  rintro r_ h_ ⟨x1, I1, J1, rfl, rfl, k⟩
  refine hs_S (st2 := [.int x1]) rfl ?_
  exact st_zret rfl rfl k.1 (Nat.le_refl _) (Nat.le_refl _) k.2
theorem sg_X10_isChooser {SL : Nat} {xs : Nat → Int32} {d : Nat} {p s q : Nat} {Q : Option Value → mm_H → Prop} {a0 : Int32} {a1 : Int32} {I : Nat → Nat → Int32} {J : Nat → Nat → Int64} (h_p : isP p) (k : (((sx_X10_isPlain a0) = Int32.ofInt 0 → Q (some (.int (Int32.ofInt 0))) (hp p s q I J)) ∧ (¬ ((sx_X10_isPlain a0) = Int32.ofInt 0) → ((a1 < Int32.ofInt 0 → Q (some (.int (Int32.ofInt 0))) (hp p s q I J)) ∧ (¬ (a1 < Int32.ofInt 0) → (((I p 10) ≤ a1 → Q (some (.int (Int32.ofInt 0))) (hp p s q I J)) ∧ (¬ ((I p 10) ≤ a1) → (((Int32.ofInt 9) ≤ a1 → Q (some (.int (Int32.ofInt 0))) (hp p s q I J)) ∧ (¬ ((Int32.ofInt 9) ≤ a1) → ((a0 ≤ a1 → Q (some (.int (Int32.ofInt 0))) (hp p s q I J)) ∧ (¬ (a0 ≤ a1) → (((I p 11) ≤ Int32.ofInt 0 → Q (some (.int (Int32.ofInt 0))) (hp p s q I J)) ∧ (¬ ((I p 11) ≤ Int32.ofInt 0) → Q (some (.int (Int32.ofInt 1))) (hp p s q I J)))))))))))))) : mm_s SL xs (d + 2) 158 [.ref 2, .int a0, .int a1] (hp p s q I J) Q := by
  refine e_X10_isChooser rfl ?_
  refine hs_L (L2 := [some (.ref 2), some (.int a0), some (.int a1)]) rfl ?_
  refine sp_iload_n 1 rfl rfl rfl ?_
  refine sc_S 4 rfl rfl rfl rfl (Nat.le_refl _) (Nat.le_refl _) rfl ?_
  refine cx_X10_isPlain ?_
  refine hs_S (st2 := [.int (sx_X10_isPlain a0)]) rfl ?_
  refine sp_if_eq 7 rfl rfl (fun q_ => ?_) (fun q_ => ?_)
  · have k := k.1 q_
    refine sp_iconst 48 rfl rfl ?_
    exact st_zret rfl rfl (by decide) (Nat.le_refl _) (Nat.le_refl _) k
  · have k := k.2 q_
    refine sp_iload_n 8 rfl rfl rfl ?_
    refine sp_if_lt 11 rfl rfl (fun q_ => ?_) (fun q_ => ?_)
    · have k := k.1 q_
      refine sp_iconst 48 rfl rfl ?_
      exact st_zret rfl rfl (by decide) (Nat.le_refl _) (Nat.le_refl _) k
    · have k := k.2 q_
      refine sp_iload_n 12 rfl rfl rfl ?_
      refine sp_aload_n 13 rfl rfl rfl ?_
      refine hq_getR 16 rfl rfl rfl rfl ?_
      refine hq_getI 19 rfl (kP0 h_p) rfl ?_
      refine sp_ic_ge 22 rfl rfl (fun q_ => ?_) (fun q_ => ?_)
      · have k := k.1 q_
        refine sp_iconst 48 rfl rfl ?_
        exact st_zret rfl rfl (by decide) (Nat.le_refl _) (Nat.le_refl _) k
      · have k := k.2 q_
        refine sp_iload_n 23 rfl rfl rfl ?_
        refine sp_bipush 25 rfl rfl ?_
        refine sp_I (y := Int32.ofInt 9) rfl ?_
        refine sp_ic_ge 28 rfl rfl (fun q_ => ?_) (fun q_ => ?_)
        · have k := k.1 q_
          refine sp_iconst 48 rfl rfl ?_
          exact st_zret rfl rfl (by decide) (Nat.le_refl _) (Nat.le_refl _) k
        · have k := k.2 q_
          refine sp_iload_n 29 rfl rfl rfl ?_
          refine sp_iload_n 30 rfl rfl rfl ?_
          refine sp_ic_ge 33 rfl rfl (fun q_ => ?_) (fun q_ => ?_)
          · have k := k.1 q_
            refine sp_iconst 48 rfl rfl ?_
            exact st_zret rfl rfl (by decide) (Nat.le_refl _) (Nat.le_refl _) k
          · have k := k.2 q_
            refine sp_aload_n 34 rfl rfl rfl ?_
            refine hq_getR 37 rfl rfl rfl rfl ?_
            refine hq_getI 40 rfl (kP0 h_p) rfl ?_
            refine sp_if_le 43 rfl rfl (fun q_ => ?_) (fun q_ => ?_)
            · have k := k.1 q_
              refine sp_iconst 48 rfl rfl ?_
              exact st_zret rfl rfl (by decide) (Nat.le_refl _) (Nat.le_refl _) k
            · have k := k.2 q_
              refine sp_iconst 44 rfl rfl ?_
              refine sp_goto rfl ?_
              exact st_zret rfl rfl (by decide) (Nat.le_refl _) (Nat.le_refl _) k
theorem sg_X10_post {SL : Nat} {xs : Nat → Int32} {d : Nat} {p s q : Nat} {Q : Option Value → mm_H → Prop} {a0 : Int32} {a1 : Int32} {I : Nat → Nat → Int32} {J : Nat → Nat → Int64}  (k : (mm_s SL xs (d + 2) 157 [.ref 2, .int a0] (hp p s q I J) (fun r_ h_ => ∃ x1 I1 J1, r_ = some (.int x1) ∧ h_ = hp p s q I1 J1 ∧ ((x1 = Int32.ofInt 0 → Q (some (.int (Int32.ofInt (-1)))) (hp p s q I1 J1)) ∧ (¬ (x1 = Int32.ofInt 0) → ((a1 = Int32.ofInt 0 → (((sy_X1_standsAt 15 a0 I1 J1) = Int32.ofInt 0 → Q (some (.int (Int32.ofInt 0))) (hp p s q I1 J1)) ∧ (¬ ((sy_X1_standsAt 15 a0 I1 J1) = Int32.ofInt 0) → Q (some (.int (Int32.ofInt 1))) (hp p s q I1 J1)))) ∧ (a1 = Int32.ofInt 1 → (vp_in a0 60 ∧ Q (some (.int (I1 16 ((a0).toNatClampNeg)))) (hp p s q I1 J1))) ∧ (a1 = Int32.ofInt 2 → (vp_in a0 60 ∧ Q (some (.int (I1 17 ((a0).toNatClampNeg)))) (hp p s q I1 J1))) ∧ (¬ a1 = Int32.ofInt 0 → ¬ a1 = Int32.ofInt 1 → ¬ a1 = Int32.ofInt 2 → Q (some (.int (Int32.ofInt (-1)))) (hp p s q I1 J1)))))))) : mm_s SL xs (d + 3) 121 [.ref 2, .int a0, .int a1] (hp p s q I J) Q := by
  refine e_X10_post rfl ?_
  refine hs_L (L2 := [some (.ref 2), some (.int a0), some (.int a1)]) rfl ?_
  refine sp_aload_n 1 rfl rfl rfl ?_
  refine sp_iload_n 2 rfl rfl rfl ?_
  refine sc_V 5 rfl rfl rfl rfl rfl (Nat.le_refl _) (Nat.le_refl _) rfl ?_
  refine mm_s_mono _ _ _ _ _ _ ?_ k
  rintro r_ h_ ⟨x1, I1, J1, rfl, rfl, k⟩
  refine hs_S (st2 := [.int x1]) rfl ?_
  refine sp_if_ne 8 rfl rfl (fun q_ => ?_) (fun q_ => ?_)
  · have k := k.2 q_
    refine sp_iload_n 11 rfl rfl rfl ?_
    by_cases q11_0 : a1 = Int32.ofInt 0
    · have k := k.1 q11_0
      refine sp_table (t := 36) rfl (by rw [q11_0]; rfl) ?_
      refine sp_aload_n 37 rfl rfl rfl ?_
      refine hq_getR 40 rfl rfl rfl rfl ?_
      refine sp_iload_n 41 rfl rfl rfl ?_
      refine sc_V 44 rfl rfl rfl rfl rfl (Nat.le_refl _) (Nat.le_refl _) rfl ?_
      refine cy_X1_standsAt isC_15 ?_
      refine sp_if_eq 47 rfl rfl (fun q_ => ?_) (fun q_ => ?_)
      · have k := k.1 q_
        refine sp_iconst 52 rfl rfl ?_
        exact st_iret rfl rfl (Nat.le_refl _) (Nat.le_refl _) k
      · have k := k.2 q_
        refine sp_iconst 48 rfl rfl ?_
        refine sp_goto rfl ?_
        exact st_iret rfl rfl (Nat.le_refl _) (Nat.le_refl _) k
    · skip
      by_cases q11_1 : a1 = Int32.ofInt 1
      · have k := k.2.1 q11_1
        refine sp_table (t := 53) rfl (by rw [q11_1]; rfl) ?_
        refine sp_aload_n 54 rfl rfl rfl ?_
        refine hq_getR 57 rfl rfl rfl rfl ?_
        refine hq_getR 60 rfl rfl rfl rfl ?_
        refine sp_iload_n 61 rfl rfl rfl ?_
        have n1_ := k.1
        have k := k.2
        refine hq_iald 62 rfl rfl n1_ rfl ?_
        exact st_iret rfl rfl (Nat.le_refl _) (Nat.le_refl _) k
      · skip
        by_cases q11_2 : a1 = Int32.ofInt 2
        · have k := k.2.2.1 q11_2
          refine sp_table (t := 63) rfl (by rw [q11_2]; rfl) ?_
          refine sp_aload_n 64 rfl rfl rfl ?_
          refine hq_getR 67 rfl rfl rfl rfl ?_
          refine hq_getR 70 rfl rfl rfl rfl ?_
          refine sp_iload_n 71 rfl rfl rfl ?_
          have n2_ := k.1
          have k := k.2
          refine hq_iald 72 rfl rfl n2_ rfl ?_
          exact st_iret rfl rfl (Nat.le_refl _) (Nat.le_refl _) k
        · skip
          have k := k.2.2.2 q11_0 q11_1 q11_2
          refine sp_table (t := 73) rfl (by unfold mm_tab; rw [if_pos (by have := tb_ne q11_0; have := tb_ne q11_1; have := tb_ne q11_2; omega)]; rfl) ?_
          refine sp_iconst 74 rfl rfl ?_
          exact st_iret rfl rfl (Nat.le_refl _) (Nat.le_refl _) k
  · have k := k.1 q_
    refine sp_iconst 9 rfl rfl ?_
    exact st_iret rfl rfl (Nat.le_refl _) (Nat.le_refl _) k
theorem sg_X10_never {SL : Nat} {xs : Nat → Int32} {d : Nat} {p s q : Nat} {Q : Option Value → mm_H → Prop} {a0 : Int32} {a1 : Int32} {I : Nat → Nat → Int32} {J : Nat → Nat → Int64}  (k : (((sx_X10_isPlain a0) = Int32.ofInt 0 → Q (some (.long (Int64.ofInt (-1)))) (hp p s q I J)) ∧ (¬ ((sx_X10_isPlain a0) = Int32.ofInt 0) → (((sx_X10_isStep a1) = Int32.ofInt 0 → Q (some (.long (Int64.ofInt (-1)))) (hp p s q I J)) ∧ (¬ ((sx_X10_isStep a1) = Int32.ofInt 0) → (mm_s SL xs (d + 2) 47 [.int a0, .int a1] (hp p s q I J) (fun r_ h_ => ∃ x1 I1 J1, r_ = some (.long x1) ∧ h_ = hp p s q I1 J1 ∧ Q (some (.long x1)) (hp p s q I1 J1)))))))) : mm_s SL xs (d + 3) 141 [.ref 2, .int a0, .int a1] (hp p s q I J) Q := by
  refine e_X10_never rfl ?_
  refine hs_L (L2 := [some (.ref 2), some (.int a0), some (.int a1)]) rfl ?_
  refine sp_iload_n 1 rfl rfl rfl ?_
  refine sc_S 4 rfl rfl rfl rfl (Nat.le_refl _) (Nat.le_refl _) rfl ?_
  refine cx_X10_isPlain ?_
  refine hs_S (st2 := [.int (sx_X10_isPlain a0)]) rfl ?_
  refine sp_if_eq 7 rfl rfl (fun q_ => ?_) (fun q_ => ?_)
  · have k := k.1 q_
    refine sp_ldc2 25 rfl rfl ?_
    exact st_lret rfl rfl (Nat.le_refl _) (Nat.le_refl _) k
  · have k := k.2 q_
    refine sp_iload_n 8 rfl rfl rfl ?_
    refine sc_S 11 rfl rfl rfl rfl (Nat.le_refl _) (Nat.le_refl _) rfl ?_
    refine cx_X10_isStep ?_
    refine hs_S (st2 := [.int (sx_X10_isStep a1)]) rfl ?_
    refine sp_if_eq 14 rfl rfl (fun q_ => ?_) (fun q_ => ?_)
    · have k := k.1 q_
      refine sp_ldc2 25 rfl rfl ?_
      exact st_lret rfl rfl (Nat.le_refl _) (Nat.le_refl _) k
    · have k := k.2 q_
      refine sp_iload_n 15 rfl rfl rfl ?_
      refine sp_iload_n 16 rfl rfl rfl ?_
      refine sc_S 19 rfl rfl rfl rfl (Nat.le_refl _) (Nat.le_refl _) rfl ?_
      refine mm_s_mono _ _ _ _ _ _ ?_ k
      rintro r_ h_ ⟨x1, I1, J1, rfl, rfl, k⟩
      refine hs_S (st2 := [.long x1]) rfl ?_
      refine sp_goto rfl ?_
      exact st_lret rfl rfl (Nat.le_refl _) (Nat.le_refl _) k
theorem sg_X10_ever {SL : Nat} {xs : Nat → Int32} {d : Nat} {p s q : Nat} {Q : Option Value → mm_H → Prop} {a0 : Int32} {I : Nat → Nat → Int32} {J : Nat → Nat → Int64}  (k : (((sx_X10_isPlain a0) = Int32.ofInt 0 → Q (some (.int (Int32.ofInt (-1)))) (hp p s q I J)) ∧ (¬ ((sx_X10_isPlain a0) = Int32.ofInt 0) → (mm_s SL xs (d + 2) 48 [.int a0] (hp p s q I J) (fun r_ h_ => ∃ x1 I1 J1, r_ = some (.int x1) ∧ h_ = hp p s q I1 J1 ∧ Q (some (.int x1)) (hp p s q I1 J1)))))) : mm_s SL xs (d + 3) 143 [.ref 2, .int a0] (hp p s q I J) Q := by
  refine e_X10_ever rfl ?_
  refine hs_L (L2 := [some (.ref 2), some (.int a0)]) rfl ?_
  refine sp_iload_n 1 rfl rfl rfl ?_
  refine sc_S 4 rfl rfl rfl rfl (Nat.le_refl _) (Nat.le_refl _) rfl ?_
  refine cx_X10_isPlain ?_
  refine hs_S (st2 := [.int (sx_X10_isPlain a0)]) rfl ?_
  refine sp_if_eq 7 rfl rfl (fun q_ => ?_) (fun q_ => ?_)
  · have k := k.1 q_
    refine sp_iconst 15 rfl rfl ?_
    exact st_iret rfl rfl (Nat.le_refl _) (Nat.le_refl _) k
  · have k := k.2 q_
    refine sp_iload_n 8 rfl rfl rfl ?_
    refine sc_S 11 rfl rfl rfl rfl (Nat.le_refl _) (Nat.le_refl _) rfl ?_
    refine mm_s_mono _ _ _ _ _ _ ?_ k
    rintro r_ h_ ⟨x1, I1, J1, rfl, rfl, k⟩
    refine hs_S (st2 := [.int x1]) rfl ?_
    refine sp_goto rfl ?_
    exact st_iret rfl rfl (Nat.le_refl _) (Nat.le_refl _) k
theorem sg_X10_sight {SL : Nat} {xs : Nat → Int32} {d : Nat} {p s q : Nat} {Q : Option Value → mm_H → Prop} {a0 : Int32} {a1 : Int32} {a2 : Int32} {I : Nat → Nat → Int32} {J : Nat → Nat → Int64}  (k : (((sx_X10_isPlain a0) = Int32.ofInt 0 → Q (some (.int (Int32.ofInt (-1)))) (hp p s q I J)) ∧ (¬ ((sx_X10_isPlain a0) = Int32.ofInt 0) → ((a1 < (Int32.ofInt 1) → Q (some (.int (Int32.ofInt (-1)))) (hp p s q I J)) ∧ (¬ (a1 < (Int32.ofInt 1)) → ((a0 < a1 → Q (some (.int (Int32.ofInt (-1)))) (hp p s q I J)) ∧ (¬ (a0 < a1) → ((a2 < Int32.ofInt 0 → Q (some (.int (Int32.ofInt (-1)))) (hp p s q I J)) ∧ (¬ (a2 < Int32.ofInt 0) → ((a2 < a0 → (mm_s SL xs (d + 2) 93 [.ref 33, .int a0, .int a1, .int a2, .int (I 2 9)] (hp p s q I J) (fun r_ h_ => ∃ x1 I1 J1, r_ = some (.int x1) ∧ h_ = hp p s q I1 J1 ∧ Q (some (.int x1)) (hp p s q I1 J1)))) ∧ (¬ (a2 < a0) → Q (some (.int (Int32.ofInt (-1)))) (hp p s q I J)))))))))))) : mm_s SL xs (d + 3) 147 [.ref 2, .int a0, .int a1, .int a2] (hp p s q I J) Q := by
  refine e_X10_sight rfl ?_
  refine hs_L (L2 := [some (.ref 2), some (.int a0), some (.int a1), some (.int a2)]) rfl ?_
  refine sp_iload_n 1 rfl rfl rfl ?_
  refine sc_S 4 rfl rfl rfl rfl (Nat.le_refl _) (Nat.le_refl _) rfl ?_
  refine cx_X10_isPlain ?_
  refine hs_S (st2 := [.int (sx_X10_isPlain a0)]) rfl ?_
  refine sp_if_eq 7 rfl rfl (fun q_ => ?_) (fun q_ => ?_)
  · have k := k.1 q_
    refine sp_iconst 27 rfl rfl ?_
    exact st_iret rfl rfl (Nat.le_refl _) (Nat.le_refl _) k
  · have k := k.2 q_
    refine sp_iload_n 8 rfl rfl rfl ?_
    refine sp_iconst 9 rfl rfl ?_
    refine sp_ic_lt 12 rfl rfl (fun q_ => ?_) (fun q_ => ?_)
    · have k := k.1 q_
      refine sp_iconst 27 rfl rfl ?_
      exact st_iret rfl rfl (Nat.le_refl _) (Nat.le_refl _) k
    · have k := k.2 q_
      refine sp_iload_n 13 rfl rfl rfl ?_
      refine sp_iload_n 14 rfl rfl rfl ?_
      refine sp_ic_gt 17 rfl rfl (fun q_ => ?_) (fun q_ => ?_)
      · have k := k.1 q_
        refine sp_iconst 27 rfl rfl ?_
        exact st_iret rfl rfl (Nat.le_refl _) (Nat.le_refl _) k
      · have k := k.2 q_
        refine sp_iload_n 18 rfl rfl rfl ?_
        refine sp_if_lt 21 rfl rfl (fun q_ => ?_) (fun q_ => ?_)
        · have k := k.1 q_
          refine sp_iconst 27 rfl rfl ?_
          exact st_iret rfl rfl (Nat.le_refl _) (Nat.le_refl _) k
        · have k := k.2 q_
          refine sp_iload_n 22 rfl rfl rfl ?_
          refine sp_iload_n 23 rfl rfl rfl ?_
          refine sp_ic_lt 26 rfl rfl (fun q_ => ?_) (fun q_ => ?_)
          · have k := k.1 q_
            refine sp_aload_n 29 rfl rfl rfl ?_
            refine hq_getR 32 rfl rfl rfl rfl ?_
            refine sp_iload_n 33 rfl rfl rfl ?_
            refine sp_iload_n 34 rfl rfl rfl ?_
            refine sp_iload_n 35 rfl rfl rfl ?_
            refine sp_aload_n 36 rfl rfl rfl ?_
            refine hq_getI 39 rfl rfl rfl ?_
            refine sc_V 42 rfl rfl rfl rfl rfl (Nat.le_refl _) (Nat.le_refl _) rfl ?_
            refine mm_s_mono _ _ _ _ _ _ ?_ k
            rintro r_ h_ ⟨x1, I1, J1, rfl, rfl, k⟩
            refine hs_S (st2 := [.int x1]) rfl ?_
            exact st_iret rfl rfl (Nat.le_refl _) (Nat.le_refl _) k
          · have k := k.2 q_
            refine sp_iconst 27 rfl rfl ?_
            exact st_iret rfl rfl (Nat.le_refl _) (Nat.le_refl _) k
theorem sg_X10_fits {SL : Nat} {xs : Nat → Int32} {d : Nat} {p s q : Nat} {Q : Option Value → mm_H → Prop} {a0 : Int32} {a1 : Int32} {I : Nat → Nat → Int32} {J : Nat → Nat → Int64}  (k : (((sx_X10_isZeroOrOne a0) = Int32.ofInt 0 → Q (some (.int (Int32.ofInt (-1)))) (hp p s q I J)) ∧ (¬ ((sx_X10_isZeroOrOne a0) = Int32.ofInt 0) → (mm_s SL xs (d + 2) 95 [.ref 33, .int a1] (hp p s q I J) (fun r_ h_ => ∃ I1 J1, r_ = none ∧ h_ = hp p s q I1 J1 ∧ ((a0 = Int32.ofInt 0 → (mm_s SL xs (d + 2) 97 [.ref 33] (hp p s q I1 J1) (fun r_ h_ => ∃ x3 I3 J3, r_ = some (.int x3) ∧ h_ = hp p s q I3 J3 ∧ Q (some (.int x3)) (hp p s q I3 J3)))) ∧ (¬ (a0 = Int32.ofInt 0) → (mm_s SL xs (d + 2) 98 [.ref 33] (hp p s q I1 J1) (fun r_ h_ => ∃ x2 I2 J2, r_ = some (.int x2) ∧ h_ = hp p s q I2 J2 ∧ Q (some (.int x2)) (hp p s q I2 J2)))))))))) : mm_s SL xs (d + 3) 150 [.ref 2, .int a0, .int a1] (hp p s q I J) Q := by
  refine e_X10_fits rfl ?_
  refine hs_L (L2 := [some (.ref 2), some (.int a0), some (.int a1)]) rfl ?_
  refine sp_iload_n 1 rfl rfl rfl ?_
  refine sc_S 4 rfl rfl rfl rfl (Nat.le_refl _) (Nat.le_refl _) rfl ?_
  refine cx_X10_isZeroOrOne ?_
  refine hs_S (st2 := [.int (sx_X10_isZeroOrOne a0)]) rfl ?_
  refine sp_if_ne 7 rfl rfl (fun q_ => ?_) (fun q_ => ?_)
  · have k := k.2 q_
    refine sp_aload_n 10 rfl rfl rfl ?_
    refine hq_getR 13 rfl rfl rfl rfl ?_
    refine sp_iload_n 14 rfl rfl rfl ?_
    refine sc_V 17 rfl rfl rfl rfl rfl (Nat.le_refl _) (Nat.le_refl _) rfl ?_
    refine mm_s_mono _ _ _ _ _ _ ?_ k
    rintro r_ h_ ⟨I1, J1, rfl, rfl, k⟩
    refine hs_S (st2 := []) rfl ?_
    refine sp_iload_n 18 rfl rfl rfl ?_
    refine sp_if_ne 21 rfl rfl (fun q_ => ?_) (fun q_ => ?_)
    · have k := k.2 q_
      refine sp_aload_n 32 rfl rfl rfl ?_
      refine hq_getR 35 rfl rfl rfl rfl ?_
      refine sc_V 38 rfl rfl rfl rfl rfl (Nat.le_refl _) (Nat.le_refl _) rfl ?_
      refine mm_s_mono _ _ _ _ _ _ ?_ k
      rintro r_ h_ ⟨x2, I2, J2, rfl, rfl, k⟩
      refine hs_S (st2 := [.int x2]) rfl ?_
      exact st_iret rfl rfl (Nat.le_refl _) (Nat.le_refl _) k
    · have k := k.1 q_
      refine sp_aload_n 22 rfl rfl rfl ?_
      refine hq_getR 25 rfl rfl rfl rfl ?_
      refine sc_V 28 rfl rfl rfl rfl rfl (Nat.le_refl _) (Nat.le_refl _) rfl ?_
      refine mm_s_mono _ _ _ _ _ _ ?_ k
      rintro r_ h_ ⟨x3, I3, J3, rfl, rfl, k⟩
      refine hs_S (st2 := [.int x3]) rfl ?_
      refine sp_goto rfl ?_
      exact st_iret rfl rfl (Nat.le_refl _) (Nat.le_refl _) k
  · have k := k.1 q_
    refine sp_iconst 8 rfl rfl ?_
    exact st_iret rfl rfl (Nat.le_refl _) (Nat.le_refl _) k
theorem sg_X10_about {SL : Nat} {xs : Nat → Int32} {d : Nat} {p s q : Nat} {Q : Option Value → mm_H → Prop} {a0 : Int32} {I : Nat → Nat → Int32} {J : Nat → Nat → Int64} (h_p : isP p) (k : ((a0 = Int32.ofInt 0 → Q (some (.int (I p 0))) (hp p s q I J)) ∧ (a0 = Int32.ofInt 1 → Q (some (.int (sy_X1_standing 15 I J))) (hp p s q I J)) ∧ (a0 = Int32.ofInt 2 → Q (some (.int (I 15 2))) (hp p s q I J)) ∧ (a0 = Int32.ofInt 3 → Q (some (.int (I p 10))) (hp p s q I J)) ∧ (a0 = Int32.ofInt 4 → Q (some (.int (I p 11))) (hp p s q I J)) ∧ (a0 = Int32.ofInt 5 → Q (some (.int (I 33 0))) (hp p s q I J)) ∧ (a0 = Int32.ofInt 6 → Q (some (.int (I 2 9))) (hp p s q I J)) ∧ (a0 = Int32.ofInt 7 → Q (some (.int (I 4 1))) (hp p s q I J)) ∧ (a0 = Int32.ofInt 8 → Q (some (.int (I 29 1))) (hp p s q I J)) ∧ (a0 = Int32.ofInt 9 → Q (some (.int (I p 9))) (hp p s q I J)) ∧ (a0 = Int32.ofInt 10 → Q (some (.int (I 15 3))) (hp p s q I J)) ∧ (a0 = Int32.ofInt 11 → Q (some (.int (I 15 4))) (hp p s q I J)) ∧ (a0 = Int32.ofInt 12 → (mm_s SL xs (d + 2) 17 [.ref 15, .ref p] (hp p s q I J) (fun r_ h_ => ∃ x1 I1 J1, r_ = some (.int x1) ∧ h_ = hp p s q I1 J1 ∧ ((x1 = Int32.ofInt 0 → Q (some (.int (Int32.ofInt 0))) (hp p s q I1 J1)) ∧ (¬ (x1 = Int32.ofInt 0) → Q (some (.int (Int32.ofInt 1))) (hp p s q I1 J1)))))) ∧ (¬ a0 = Int32.ofInt 0 → ¬ a0 = Int32.ofInt 1 → ¬ a0 = Int32.ofInt 2 → ¬ a0 = Int32.ofInt 3 → ¬ a0 = Int32.ofInt 4 → ¬ a0 = Int32.ofInt 5 → ¬ a0 = Int32.ofInt 6 → ¬ a0 = Int32.ofInt 7 → ¬ a0 = Int32.ofInt 8 → ¬ a0 = Int32.ofInt 9 → ¬ a0 = Int32.ofInt 10 → ¬ a0 = Int32.ofInt 11 → ¬ a0 = Int32.ofInt 12 → Q (some (.int (Int32.ofInt (-1)))) (hp p s q I J)))) : mm_s SL xs (d + 3) 154 [.ref 2, .int a0] (hp p s q I J) Q := by
  refine e_X10_about rfl ?_
  refine hs_L (L2 := [some (.ref 2), some (.int a0)]) rfl ?_
  refine sp_iload_n 1 rfl rfl rfl ?_
  by_cases q1_0 : a0 = Int32.ofInt 0
  · have k := k.1 q1_0
    refine sp_table (t := 68) rfl (by rw [q1_0]; rfl) ?_
    refine sp_aload_n 69 rfl rfl rfl ?_
    refine hq_getR 72 rfl rfl rfl rfl ?_
    refine hq_getI 75 rfl (kP0 h_p) rfl ?_
    exact st_iret rfl rfl (Nat.le_refl _) (Nat.le_refl _) k
  · skip
    by_cases q1_1 : a0 = Int32.ofInt 1
    · have k := k.2.1 q1_1
      refine sp_table (t := 76) rfl (by rw [q1_1]; rfl) ?_
      refine sp_aload_n 77 rfl rfl rfl ?_
      refine hq_getR 80 rfl rfl rfl rfl ?_
      refine sc_V 83 rfl rfl rfl rfl rfl (Nat.le_refl _) (Nat.le_refl _) rfl ?_
      refine cy_X1_standing isC_15 ?_
      exact st_iret rfl rfl (Nat.le_refl _) (Nat.le_refl _) k
    · skip
      by_cases q1_2 : a0 = Int32.ofInt 2
      · have k := k.2.2.1 q1_2
        refine sp_table (t := 84) rfl (by rw [q1_2]; rfl) ?_
        refine sp_aload_n 85 rfl rfl rfl ?_
        refine hq_getR 88 rfl rfl rfl rfl ?_
        refine hq_getI 91 rfl rfl rfl ?_
        exact st_iret rfl rfl (Nat.le_refl _) (Nat.le_refl _) k
      · skip
        by_cases q1_3 : a0 = Int32.ofInt 3
        · have k := k.2.2.2.1 q1_3
          refine sp_table (t := 92) rfl (by rw [q1_3]; rfl) ?_
          refine sp_aload_n 93 rfl rfl rfl ?_
          refine hq_getR 96 rfl rfl rfl rfl ?_
          refine hq_getI 99 rfl (kP0 h_p) rfl ?_
          exact st_iret rfl rfl (Nat.le_refl _) (Nat.le_refl _) k
        · skip
          by_cases q1_4 : a0 = Int32.ofInt 4
          · have k := k.2.2.2.2.1 q1_4
            refine sp_table (t := 100) rfl (by rw [q1_4]; rfl) ?_
            refine sp_aload_n 101 rfl rfl rfl ?_
            refine hq_getR 104 rfl rfl rfl rfl ?_
            refine hq_getI 107 rfl (kP0 h_p) rfl ?_
            exact st_iret rfl rfl (Nat.le_refl _) (Nat.le_refl _) k
          · skip
            by_cases q1_5 : a0 = Int32.ofInt 5
            · have k := k.2.2.2.2.2.1 q1_5
              refine sp_table (t := 108) rfl (by rw [q1_5]; rfl) ?_
              refine sp_aload_n 109 rfl rfl rfl ?_
              refine hq_getR 112 rfl rfl rfl rfl ?_
              refine hq_getI 115 rfl rfl rfl ?_
              exact st_iret rfl rfl (Nat.le_refl _) (Nat.le_refl _) k
            · skip
              by_cases q1_6 : a0 = Int32.ofInt 6
              · have k := k.2.2.2.2.2.2.1 q1_6
                refine sp_table (t := 116) rfl (by rw [q1_6]; rfl) ?_
                refine sp_aload_n 117 rfl rfl rfl ?_
                refine hq_getI 120 rfl rfl rfl ?_
                exact st_iret rfl rfl (Nat.le_refl _) (Nat.le_refl _) k
              · skip
                by_cases q1_7 : a0 = Int32.ofInt 7
                · have k := k.2.2.2.2.2.2.2.1 q1_7
                  refine sp_table (t := 121) rfl (by rw [q1_7]; rfl) ?_
                  refine sp_aload_n 122 rfl rfl rfl ?_
                  refine hq_getR 125 rfl rfl rfl rfl ?_
                  refine hq_getR 128 rfl rfl rfl rfl ?_
                  refine hq_getI 131 rfl rfl rfl ?_
                  exact st_iret rfl rfl (Nat.le_refl _) (Nat.le_refl _) k
                · skip
                  by_cases q1_8 : a0 = Int32.ofInt 8
                  · have k := k.2.2.2.2.2.2.2.2.1 q1_8
                    refine sp_table (t := 132) rfl (by rw [q1_8]; rfl) ?_
                    refine sp_aload_n 133 rfl rfl rfl ?_
                    refine hq_getR 136 rfl rfl rfl rfl ?_
                    refine hq_getI 139 rfl rfl rfl ?_
                    exact st_iret rfl rfl (Nat.le_refl _) (Nat.le_refl _) k
                  · skip
                    by_cases q1_9 : a0 = Int32.ofInt 9
                    · have k := k.2.2.2.2.2.2.2.2.2.1 q1_9
                      refine sp_table (t := 140) rfl (by rw [q1_9]; rfl) ?_
                      refine sp_aload_n 141 rfl rfl rfl ?_
                      refine hq_getR 144 rfl rfl rfl rfl ?_
                      refine hq_getI 147 rfl (kP0 h_p) rfl ?_
                      exact st_iret rfl rfl (Nat.le_refl _) (Nat.le_refl _) k
                    · skip
                      by_cases q1_10 : a0 = Int32.ofInt 10
                      · have k := k.2.2.2.2.2.2.2.2.2.2.1 q1_10
                        refine sp_table (t := 148) rfl (by rw [q1_10]; rfl) ?_
                        refine sp_aload_n 149 rfl rfl rfl ?_
                        refine hq_getR 152 rfl rfl rfl rfl ?_
                        refine hq_getI 155 rfl rfl rfl ?_
                        exact st_iret rfl rfl (Nat.le_refl _) (Nat.le_refl _) k
                      · skip
                        by_cases q1_11 : a0 = Int32.ofInt 11
                        · have k := k.2.2.2.2.2.2.2.2.2.2.2.1 q1_11
                          refine sp_table (t := 156) rfl (by rw [q1_11]; rfl) ?_
                          refine sp_aload_n 157 rfl rfl rfl ?_
                          refine hq_getR 160 rfl rfl rfl rfl ?_
                          refine hq_getI 163 rfl rfl rfl ?_
                          exact st_iret rfl rfl (Nat.le_refl _) (Nat.le_refl _) k
                        · skip
                          by_cases q1_12 : a0 = Int32.ofInt 12
                          · have k := k.2.2.2.2.2.2.2.2.2.2.2.2.1 q1_12
                            refine sp_table (t := 164) rfl (by rw [q1_12]; rfl) ?_
                            refine sp_aload_n 165 rfl rfl rfl ?_
                            refine hq_getR 168 rfl rfl rfl rfl ?_
                            refine sp_aload_n 169 rfl rfl rfl ?_
                            refine hq_getR 172 rfl rfl rfl rfl ?_
                            refine sc_V 175 rfl rfl rfl rfl rfl (Nat.le_refl _) (Nat.le_refl _) rfl ?_
                            refine mm_s_mono _ _ _ _ _ _ ?_ k
                            rintro r_ h_ ⟨x1, I1, J1, rfl, rfl, k⟩
                            refine hs_S (st2 := [.int x1]) rfl ?_
                            refine sp_if_eq 178 rfl rfl (fun q_ => ?_) (fun q_ => ?_)
                            · have k := k.1 q_
                              refine sp_iconst 183 rfl rfl ?_
                              exact st_iret rfl rfl (Nat.le_refl _) (Nat.le_refl _) k
                            · have k := k.2 q_
                              refine sp_iconst 179 rfl rfl ?_
                              refine sp_goto rfl ?_
                              exact st_iret rfl rfl (Nat.le_refl _) (Nat.le_refl _) k
                          · skip
                            have k := k.2.2.2.2.2.2.2.2.2.2.2.2.2 q1_0 q1_1 q1_2 q1_3 q1_4 q1_5 q1_6 q1_7 q1_8 q1_9 q1_10 q1_11 q1_12
                            refine sp_table (t := 184) rfl (by unfold mm_tab; rw [if_pos (by have := tb_ne q1_0; have := tb_ne q1_1; have := tb_ne q1_2; have := tb_ne q1_3; have := tb_ne q1_4; have := tb_ne q1_5; have := tb_ne q1_6; have := tb_ne q1_7; have := tb_ne q1_8; have := tb_ne q1_9; have := tb_ne q1_10; have := tb_ne q1_11; have := tb_ne q1_12; omega)]; rfl) ?_
                            refine sp_iconst 185 rfl rfl ?_
                            exact st_iret rfl rfl (Nat.le_refl _) (Nat.le_refl _) k
theorem sg_X10_often {SL : Nat} {xs : Nat → Int32} {d : Nat} {p s q : Nat} {Q : Option Value → mm_H → Prop} {a0 : Int32} {a1 : Int32} {a2 : Int32} {I : Nat → Nat → Int32} {J : Nat → Nat → Int64}  (k : (((sx_X10_isPlain a0) = Int32.ofInt 0 → Q (some (.int (Int32.ofInt (-1)))) (hp p s q I J)) ∧ (¬ ((sx_X10_isPlain a0) = Int32.ofInt 0) → (((sx_X10_isStep a1) = Int32.ofInt 0 → Q (some (.int (Int32.ofInt (-1)))) (hp p s q I J)) ∧ (¬ ((sx_X10_isStep a1) = Int32.ofInt 0) → (((sx_X10_isZeroOrOne a2) = Int32.ofInt 0 → Q (some (.int (Int32.ofInt (-1)))) (hp p s q I J)) ∧ (¬ ((sx_X10_isZeroOrOne a2) = Int32.ofInt 0) → (mm_s SL xs (d + 3) 27 [.ref 31, .int a0, .int a1] (hp p s q I J) (fun r_ h_ => ∃ I1 J1, r_ = none ∧ h_ = hp p s q I1 J1 ∧ (mm_s SL xs (d + 3) 30 [.ref 31, .int a0, .long (Int64.ofInt 0)] (hp p s q I1 J1) (fun r_ h_ => ∃ x2 I2 J2, r_ = some (.int x2) ∧ h_ = hp p s q I2 J2 ∧ ((a2 = Int32.ofInt 0 → Q (some (.int x2)) (hp p s q I2 J2)) ∧ (¬ (a2 = Int32.ofInt 0) → (mm_s SL xs (d + 3) 29 [.ref 31, .int x2] (hp p s q I2 J2) (fun r_ h_ => ∃ x3 I3 J3, r_ = some (.int x3) ∧ h_ = hp p s q I3 J3 ∧ Q (some (.int x3)) (hp p s q I3 J3)))))))))))))))) : mm_s SL xs (d + 4) 142 [.ref 2, .int a0, .int a1, .int a2] (hp p s q I J) Q := by
  refine e_X10_often rfl ?_
  refine hs_L (L2 := [some (.ref 2), some (.int a0), some (.int a1), some (.int a2), none]) rfl ?_
  refine sp_iload_n 1 rfl rfl rfl ?_
  refine sc_S 4 rfl rfl rfl rfl (Nat.le_refl _) (Nat.le_refl _) rfl ?_
  refine cx_X10_isPlain ?_
  refine hs_S (st2 := [.int (sx_X10_isPlain a0)]) rfl ?_
  refine sp_if_eq 7 rfl rfl (fun q_ => ?_) (fun q_ => ?_)
  · have k := k.1 q_
    refine sp_iconst 22 rfl rfl ?_
    exact st_iret rfl rfl (Nat.le_refl _) (Nat.le_refl _) k
  · have k := k.2 q_
    refine sp_iload_n 8 rfl rfl rfl ?_
    refine sc_S 11 rfl rfl rfl rfl (Nat.le_refl _) (Nat.le_refl _) rfl ?_
    refine cx_X10_isStep ?_
    refine hs_S (st2 := [.int (sx_X10_isStep a1)]) rfl ?_
    refine sp_if_eq 14 rfl rfl (fun q_ => ?_) (fun q_ => ?_)
    · have k := k.1 q_
      refine sp_iconst 22 rfl rfl ?_
      exact st_iret rfl rfl (Nat.le_refl _) (Nat.le_refl _) k
    · have k := k.2 q_
      refine sp_iload_n 15 rfl rfl rfl ?_
      refine sc_S 18 rfl rfl rfl rfl (Nat.le_refl _) (Nat.le_refl _) rfl ?_
      refine cx_X10_isZeroOrOne ?_
      refine hs_S (st2 := [.int (sx_X10_isZeroOrOne a2)]) rfl ?_
      refine sp_if_ne 21 rfl rfl (fun q_ => ?_) (fun q_ => ?_)
      · have k := k.2 q_
        refine sp_aload_n 24 rfl rfl rfl ?_
        refine hq_getR 27 rfl rfl rfl rfl ?_
        refine sp_iload_n 28 rfl rfl rfl ?_
        refine sp_iload_n 29 rfl rfl rfl ?_
        refine sc_V 32 rfl rfl rfl rfl rfl (Nat.le_refl _) (Nat.le_refl _) rfl ?_
        refine mm_s_mono _ _ _ _ _ _ ?_ k
        rintro r_ h_ ⟨I1, J1, rfl, rfl, k⟩
        refine hs_S (st2 := []) rfl ?_
        refine sp_aload_n 33 rfl rfl rfl ?_
        refine hq_getR 36 rfl rfl rfl rfl ?_
        refine sp_iload_n 37 rfl rfl rfl ?_
        refine sp_lconst 38 rfl rfl ?_
        refine sp_J (y := Int64.ofInt 0) rfl ?_
        refine sc_V 41 rfl rfl rfl rfl rfl (Nat.le_refl _) (Nat.le_refl _) rfl ?_
        refine mm_s_mono _ _ _ _ _ _ ?_ k
        rintro r_ h_ ⟨x2, I2, J2, rfl, rfl, k⟩
        refine hs_S (st2 := [.int x2]) rfl ?_
        refine hs_istore 43 (L2 := [some (.ref 2), some (.int a0), some (.int a1), some (.int a2), some (.int x2)]) rfl rfl rfl rfl ?_
        refine sp_iload_n 44 rfl rfl rfl ?_
        refine sp_if_ne 47 rfl rfl (fun q_ => ?_) (fun q_ => ?_)
        · have k := k.2 q_
          refine sp_aload_n 53 rfl rfl rfl ?_
          refine hq_getR 56 rfl rfl rfl rfl ?_
          refine sp_iload 58 rfl rfl rfl ?_
          refine sc_V 61 rfl rfl rfl rfl rfl (Nat.le_refl _) (Nat.le_refl _) rfl ?_
          refine mm_s_mono _ _ _ _ _ _ ?_ k
          rintro r_ h_ ⟨x3, I3, J3, rfl, rfl, k⟩
          refine hs_S (st2 := [.int x3]) rfl ?_
          exact st_iret rfl rfl (Nat.le_refl _) (Nat.le_refl _) k
        · have k := k.1 q_
          refine sp_iload 49 rfl rfl rfl ?_
          refine sp_goto rfl ?_
          exact st_iret rfl rfl (Nat.le_refl _) (Nat.le_refl _) k
      · have k := k.1 q_
        refine sp_iconst 22 rfl rfl ?_
        exact st_iret rfl rfl (Nat.le_refl _) (Nat.le_refl _) k
theorem sg_X10_chance {SL : Nat} {xs : Nat → Int32} {d : Nat} {p s q : Nat} {Q : Option Value → mm_H → Prop} {a0 : Int32} {a1 : Int32} {a2 : Int32} {I : Nat → Nat → Int32} {J : Nat → Nat → Int64} (h_p : isP p) (k : (((sx_X10_isPlain a0) = Int32.ofInt 0 → Q (some (.int (Int32.ofInt (-1)))) (hp p s q I J)) ∧ (¬ ((sx_X10_isPlain a0) = Int32.ofInt 0) → ((a1 < Int32.ofInt 0 → Q (some (.int (Int32.ofInt (-1)))) (hp p s q I J)) ∧ (¬ (a1 < Int32.ofInt 0) → ((a0 ≤ a1 → Q (some (.int (Int32.ofInt (-1)))) (hp p s q I J)) ∧ (¬ (a0 ≤ a1) → (((sx_X10_isZeroOrOne a2) = Int32.ofInt 0 → Q (some (.int (Int32.ofInt (-1)))) (hp p s q I J)) ∧ (¬ ((sx_X10_isZeroOrOne a2) = Int32.ofInt 0) → (((I p 11) = Int32.ofInt 0 → Q (some (.int (Int32.ofInt (-1)))) (hp p s q I J)) ∧ (¬ ((I p 11) = Int32.ofInt 0) → (mm_s SL xs (d + 3) 28 [.ref 31, .int a0, .ref p] (hp p s q I J) (fun r_ h_ => ∃ I1 J1, r_ = none ∧ h_ = hp p s q I1 J1 ∧ (mm_s SL xs (d + 3) 29 [.ref 31, .int a1] (hp p s q I1 J1) (fun r_ h_ => ∃ x2 I2 J2, r_ = some (.int x2) ∧ h_ = hp p s q I2 J2 ∧ (mm_s SL xs (d + 3) 32 [.int x2, .int (I2 31 1), .int a2] (hp p s q I2 J2) (fun r_ h_ => ∃ x3 I3 J3, r_ = some (.int x3) ∧ h_ = hp p s q I3 J3 ∧ Q (some (.int x3)) (hp p s q I3 J3)))))))))))))))))) : mm_s SL xs (d + 4) 144 [.ref 2, .int a0, .int a1, .int a2] (hp p s q I J) Q := by
  refine e_X10_chance rfl ?_
  refine hs_L (L2 := [some (.ref 2), some (.int a0), some (.int a1), some (.int a2)]) rfl ?_
  refine sp_iload_n 1 rfl rfl rfl ?_
  refine sc_S 4 rfl rfl rfl rfl (Nat.le_refl _) (Nat.le_refl _) rfl ?_
  refine cx_X10_isPlain ?_
  refine hs_S (st2 := [.int (sx_X10_isPlain a0)]) rfl ?_
  refine sp_if_eq 7 rfl rfl (fun q_ => ?_) (fun q_ => ?_)
  · have k := k.1 q_
    refine sp_iconst 34 rfl rfl ?_
    exact st_iret rfl rfl (Nat.le_refl _) (Nat.le_refl _) k
  · have k := k.2 q_
    refine sp_iload_n 8 rfl rfl rfl ?_
    refine sp_if_lt 11 rfl rfl (fun q_ => ?_) (fun q_ => ?_)
    · have k := k.1 q_
      refine sp_iconst 34 rfl rfl ?_
      exact st_iret rfl rfl (Nat.le_refl _) (Nat.le_refl _) k
    · have k := k.2 q_
      refine sp_iload_n 12 rfl rfl rfl ?_
      refine sp_iload_n 13 rfl rfl rfl ?_
      refine sp_ic_ge 16 rfl rfl (fun q_ => ?_) (fun q_ => ?_)
      · have k := k.1 q_
        refine sp_iconst 34 rfl rfl ?_
        exact st_iret rfl rfl (Nat.le_refl _) (Nat.le_refl _) k
      · have k := k.2 q_
        refine sp_iload_n 17 rfl rfl rfl ?_
        refine sc_S 20 rfl rfl rfl rfl (Nat.le_refl _) (Nat.le_refl _) rfl ?_
        refine cx_X10_isZeroOrOne ?_
        refine hs_S (st2 := [.int (sx_X10_isZeroOrOne a2)]) rfl ?_
        refine sp_if_eq 23 rfl rfl (fun q_ => ?_) (fun q_ => ?_)
        · have k := k.1 q_
          refine sp_iconst 34 rfl rfl ?_
          exact st_iret rfl rfl (Nat.le_refl _) (Nat.le_refl _) k
        · have k := k.2 q_
          refine sp_aload_n 24 rfl rfl rfl ?_
          refine hq_getR 27 rfl rfl rfl rfl ?_
          refine hq_getI 30 rfl (kP0 h_p) rfl ?_
          refine sp_if_ne 33 rfl rfl (fun q_ => ?_) (fun q_ => ?_)
          · have k := k.2 q_
            refine sp_aload_n 36 rfl rfl rfl ?_
            refine hq_getR 39 rfl rfl rfl rfl ?_
            refine sp_iload_n 40 rfl rfl rfl ?_
            refine sp_aload_n 41 rfl rfl rfl ?_
            refine hq_getR 44 rfl rfl rfl rfl ?_
            refine sc_V 47 rfl rfl rfl rfl rfl (Nat.le_refl _) (Nat.le_refl _) rfl ?_
            refine mm_s_mono _ _ _ _ _ _ ?_ k
            rintro r_ h_ ⟨I1, J1, rfl, rfl, k⟩
            refine hs_S (st2 := []) rfl ?_
            refine sp_aload_n 48 rfl rfl rfl ?_
            refine hq_getR 51 rfl rfl rfl rfl ?_
            refine sp_iload_n 52 rfl rfl rfl ?_
            refine sc_V 55 rfl rfl rfl rfl rfl (Nat.le_refl _) (Nat.le_refl _) rfl ?_
            refine mm_s_mono _ _ _ _ _ _ ?_ k
            rintro r_ h_ ⟨x2, I2, J2, rfl, rfl, k⟩
            refine hs_S (st2 := [.int x2]) rfl ?_
            refine sp_aload_n 56 rfl rfl rfl ?_
            refine hq_getR 59 rfl rfl rfl rfl ?_
            refine hq_getI 62 rfl rfl rfl ?_
            refine sp_iload_n 63 rfl rfl rfl ?_
            refine sc_S 66 rfl rfl rfl rfl (Nat.le_refl _) (Nat.le_refl _) rfl ?_
            refine mm_s_mono _ _ _ _ _ _ ?_ k
            rintro r_ h_ ⟨x3, I3, J3, rfl, rfl, k⟩
            refine hs_S (st2 := [.int x3]) rfl ?_
            exact st_iret rfl rfl (Nat.le_refl _) (Nat.le_refl _) k
          · have k := k.1 q_
            refine sp_iconst 34 rfl rfl ?_
            exact st_iret rfl rfl (Nat.le_refl _) (Nat.le_refl _) k
theorem sg_X10_number {SL : Nat} {xs : Nat → Int32} {d : Nat} {p s q : Nat} {Q : Option Value → mm_H → Prop} {a0 : Int32} {I : Nat → Nat → Int32} {J : Nat → Nat → Int64}  (k : (((sx_X10_isPlain a0) = Int32.ofInt 0 → Q (some (.long (Int64.ofInt (-1)))) (hp p s q I J)) ∧ (¬ ((sx_X10_isPlain a0) = Int32.ofInt 0) → (mm_s SL xs (d + 4) 35 [.ref 29, .int a0] (hp p s q I J) (fun r_ h_ => ∃ x1 I1 J1, r_ = some (.long x1) ∧ h_ = hp p s q I1 J1 ∧ Q (some (.long x1)) (hp p s q I1 J1)))))) : mm_s SL xs (d + 5) 139 [.ref 2, .int a0] (hp p s q I J) Q := by
  refine e_X10_number rfl ?_
  refine hs_L (L2 := [some (.ref 2), some (.int a0)]) rfl ?_
  refine sp_iload_n 1 rfl rfl rfl ?_
  refine sc_S 4 rfl rfl rfl rfl (Nat.le_refl _) (Nat.le_refl _) rfl ?_
  refine cx_X10_isPlain ?_
  refine hs_S (st2 := [.int (sx_X10_isPlain a0)]) rfl ?_
  refine sp_if_eq 7 rfl rfl (fun q_ => ?_) (fun q_ => ?_)
  · have k := k.1 q_
    refine sp_ldc2 21 rfl rfl ?_
    exact st_lret rfl rfl (Nat.le_refl _) (Nat.le_refl _) k
  · have k := k.2 q_
    refine sp_aload_n 8 rfl rfl rfl ?_
    refine hq_getR 11 rfl rfl rfl rfl ?_
    refine sp_iload_n 12 rfl rfl rfl ?_
    refine sc_V 15 rfl rfl rfl rfl rfl (Nat.le_refl _) (Nat.le_refl _) rfl ?_
    refine mm_s_mono _ _ _ _ _ _ ?_ k
    rintro r_ h_ ⟨x1, I1, J1, rfl, rfl, k⟩
    refine hs_S (st2 := [.long x1]) rfl ?_
    refine sp_goto rfl ?_
    exact st_lret rfl rfl (Nat.le_refl _) (Nat.le_refl _) k
theorem sg_X10_choice {SL : Nat} {xs : Nat → Int32} {d : Nat} {p s q : Nat} {Q : Option Value → mm_H → Prop} {a0 : Int32} {a1 : Int32} {I : Nat → Nat → Int32} {J : Nat → Nat → Int64}  (k : (mm_s SL xs (d + 4) 158 [.ref 2, .int a0, .int a1] (hp p s q I J) (fun r_ h_ => ∃ x1 I1 J1, r_ = some (.int x1) ∧ h_ = hp p s q I1 J1 ∧ ((x1 = Int32.ofInt 0 → Q (some (.int (Int32.ofInt (-1)))) (hp p s q I1 J1)) ∧ (¬ (x1 = Int32.ofInt 0) → (mm_s SL xs (d + 4) 31 [.ref 31, .int a0, .ref p, .int a1] (hp p s q I1 J1) (fun r_ h_ => ∃ x2 I2 J2, r_ = some (.int x2) ∧ h_ = hp p s q I2 J2 ∧ Q (some (.int x2)) (hp p s q I2 J2)))))))) : mm_s SL xs (d + 5) 145 [.ref 2, .int a0, .int a1] (hp p s q I J) Q := by
  refine e_X10_choice rfl ?_
  refine hs_L (L2 := [some (.ref 2), some (.int a0), some (.int a1)]) rfl ?_
  refine sp_aload_n 1 rfl rfl rfl ?_
  refine sp_iload_n 2 rfl rfl rfl ?_
  refine sp_iload_n 3 rfl rfl rfl ?_
  refine sc_V 6 rfl rfl rfl rfl rfl (Nat.le_refl _) (Nat.le_refl _) rfl ?_
  refine mm_s_mono _ _ _ _ _ _ ?_ k
  rintro r_ h_ ⟨x1, I1, J1, rfl, rfl, k⟩
  refine hs_S (st2 := [.int x1]) rfl ?_
  refine sp_if_eq 9 rfl rfl (fun q_ => ?_) (fun q_ => ?_)
  · have k := k.1 q_
    refine sp_iconst 26 rfl rfl ?_
    exact st_iret rfl rfl (Nat.le_refl _) (Nat.le_refl _) k
  · have k := k.2 q_
    refine sp_aload_n 10 rfl rfl rfl ?_
    refine hq_getR 13 rfl rfl rfl rfl ?_
    refine sp_iload_n 14 rfl rfl rfl ?_
    refine sp_aload_n 15 rfl rfl rfl ?_
    refine hq_getR 18 rfl rfl rfl rfl ?_
    refine sp_iload_n 19 rfl rfl rfl ?_
    refine sc_V 22 rfl rfl rfl rfl rfl (Nat.le_refl _) (Nat.le_refl _) rfl ?_
    refine mm_s_mono _ _ _ _ _ _ ?_ k
    rintro r_ h_ ⟨x2, I2, J2, rfl, rfl, k⟩
    refine hs_S (st2 := [.int x2]) rfl ?_
    refine sp_goto rfl ?_
    exact st_iret rfl rfl (Nat.le_refl _) (Nat.le_refl _) k
theorem sg_X10_expected {SL : Nat} {xs : Nat → Int32} {d : Nat} {p s q : Nat} {Q : Option Value → mm_H → Prop} {a0 : Int32} {a1 : Int32} {a2 : Int32} {I : Nat → Nat → Int32} {J : Nat → Nat → Int64} (h_p : isP p) (k : (mm_s SL xs (d + 4) 158 [.ref 2, .int a0, .int a1] (hp p s q I J) (fun r_ h_ => ∃ x1 I1 J1, r_ = some (.int x1) ∧ h_ = hp p s q I1 J1 ∧ ((x1 = Int32.ofInt 0 → Q (some (.int (Int32.ofInt (-1)))) (hp p s q I1 J1)) ∧ (¬ (x1 = Int32.ofInt 0) → (((sx_X10_isZeroOrOne a2) = Int32.ofInt 0 → Q (some (.int (Int32.ofInt (-1)))) (hp p s q I1 J1)) ∧ (¬ ((sx_X10_isZeroOrOne a2) = Int32.ofInt 0) → (mm_s SL xs (d + 4) 31 [.ref 31, .int a0, .ref p, .int a1] (hp p s q I1 J1) (fun r_ h_ => ∃ x2 I2 J2, r_ = some (.int x2) ∧ h_ = hp p s q I2 J2 ∧ (vp_in a1 9 ∧ (mm_s SL xs (d + 4) 29 [.ref 31, .int x2] (hp p s q I2 J2) (fun r_ h_ => ∃ x3 I3 J3, r_ = some (.int x3) ∧ h_ = hp p s q I3 J3 ∧ (mm_s SL xs (d + 4) 32 [.int ((I2 (p + 2) ((a1).toNatClampNeg)) * x3), .int (I3 31 1), .int a2] (hp p s q I3 J3) (fun r_ h_ => ∃ x4 I4 J4, r_ = some (.int x4) ∧ h_ = hp p s q I4 J4 ∧ Q (some (.int x4)) (hp p s q I4 J4))))))))))))))) : mm_s SL xs (d + 5) 146 [.ref 2, .int a0, .int a1, .int a2] (hp p s q I J) Q := by
  refine e_X10_expected rfl ?_
  refine hs_L (L2 := [some (.ref 2), some (.int a0), some (.int a1), some (.int a2), none]) rfl ?_
  refine sp_aload_n 1 rfl rfl rfl ?_
  refine sp_iload_n 2 rfl rfl rfl ?_
  refine sp_iload_n 3 rfl rfl rfl ?_
  refine sc_V 6 rfl rfl rfl rfl rfl (Nat.le_refl _) (Nat.le_refl _) rfl ?_
  refine mm_s_mono _ _ _ _ _ _ ?_ k
  rintro r_ h_ ⟨x1, I1, J1, rfl, rfl, k⟩
  refine hs_S (st2 := [.int x1]) rfl ?_
  refine sp_if_eq 9 rfl rfl (fun q_ => ?_) (fun q_ => ?_)
  · have k := k.1 q_
    refine sp_iconst 17 rfl rfl ?_
    exact st_iret rfl rfl (Nat.le_refl _) (Nat.le_refl _) k
  · have k := k.2 q_
    refine sp_iload_n 10 rfl rfl rfl ?_
    refine sc_S 13 rfl rfl rfl rfl (Nat.le_refl _) (Nat.le_refl _) rfl ?_
    refine cx_X10_isZeroOrOne ?_
    refine hs_S (st2 := [.int (sx_X10_isZeroOrOne a2)]) rfl ?_
    refine sp_if_ne 16 rfl rfl (fun q_ => ?_) (fun q_ => ?_)
    · have k := k.2 q_
      refine sp_aload_n 19 rfl rfl rfl ?_
      refine hq_getR 22 rfl rfl rfl rfl ?_
      refine sp_iload_n 23 rfl rfl rfl ?_
      refine sp_aload_n 24 rfl rfl rfl ?_
      refine hq_getR 27 rfl rfl rfl rfl ?_
      refine sp_iload_n 28 rfl rfl rfl ?_
      refine sc_V 31 rfl rfl rfl rfl rfl (Nat.le_refl _) (Nat.le_refl _) rfl ?_
      refine mm_s_mono _ _ _ _ _ _ ?_ k
      rintro r_ h_ ⟨x2, I2, J2, rfl, rfl, k⟩
      refine hs_S (st2 := [.int x2]) rfl ?_
      refine hs_istore 33 (L2 := [some (.ref 2), some (.int a0), some (.int a1), some (.int a2), some (.int x2)]) rfl rfl rfl rfl ?_
      refine sp_aload_n 34 rfl rfl rfl ?_
      refine hq_getR 37 rfl rfl rfl rfl ?_
      refine hq_getR 40 rfl (kP0 h_p) (rP2 h_p) rfl ?_
      refine sp_iload_n 41 rfl rfl rfl ?_
      have n1_ := k.1
      have k := k.2
      refine hq_iald 42 rfl (kP2 h_p) n1_ rfl ?_
      refine sp_aload_n 43 rfl rfl rfl ?_
      refine hq_getR 46 rfl rfl rfl rfl ?_
      refine sp_iload 48 rfl rfl rfl ?_
      refine sc_V 51 rfl rfl rfl rfl rfl (Nat.le_refl _) (Nat.le_refl _) rfl ?_
      refine mm_s_mono _ _ _ _ _ _ ?_ k
      rintro r_ h_ ⟨x3, I3, J3, rfl, rfl, k⟩
      refine hs_S (st2 := [.int x3, .int (I2 (p + 2) ((a1).toNatClampNeg))]) rfl ?_
      refine sp_imul 52 rfl rfl ?_
      refine sp_aload_n 53 rfl rfl rfl ?_
      refine hq_getR 56 rfl rfl rfl rfl ?_
      refine hq_getI 59 rfl rfl rfl ?_
      refine sp_iload_n 60 rfl rfl rfl ?_
      refine sc_S 63 rfl rfl rfl rfl (Nat.le_refl _) (Nat.le_refl _) rfl ?_
      refine mm_s_mono _ _ _ _ _ _ ?_ k
      rintro r_ h_ ⟨x4, I4, J4, rfl, rfl, k⟩
      refine hs_S (st2 := [.int x4]) rfl ?_
      exact st_iret rfl rfl (Nat.le_refl _) (Nat.le_refl _) k
    · have k := k.1 q_
      refine sp_iconst 17 rfl rfl ?_
      exact st_iret rfl rfl (Nat.le_refl _) (Nat.le_refl _) k
theorem sg_X10_keeps {SL : Nat} {xs : Nat → Int32} {d : Nat} {p s q : Nat} {Q : Option Value → mm_H → Prop} {a0 : Int32} {a1 : Int64} {I : Nat → Nat → Int32} {J : Nat → Nat → Int64}  (k : (((sx_X10_isPlain a0) = Int32.ofInt 0 → Q (some (.int (Int32.ofInt (-1)))) (hp p s q I J)) ∧ (¬ ((sx_X10_isPlain a0) = Int32.ofInt 0) → (((sx_X10_isSet a0 a1) = Int32.ofInt 0 → Q (some (.int (Int32.ofInt (-1)))) (hp p s q I J)) ∧ (¬ ((sx_X10_isSet a0 a1) = Int32.ofInt 0) → (mm_s SL xs (d + 5) 44 [.int a0, .long ((sx_X6_all a0) &&& (a1 ^^^ (Int64.ofInt (-1))))] (hp p s q I J) (fun r_ h_ => ∃ x1 I1 J1, r_ = some (.int x1) ∧ h_ = hp p s q I1 J1 ∧ Q (some (.int x1)) (hp p s q I1 J1)))))))) : mm_s SL xs (d + 6) 137 [.ref 2, .int a0, .long a1] (hp p s q I J) Q := by
  refine e_X10_keeps rfl ?_
  refine hs_L (L2 := [some (.ref 2), some (.int a0), some (.long a1), none]) rfl ?_
  refine sp_iload_n 1 rfl rfl rfl ?_
  refine sc_S 4 rfl rfl rfl rfl (Nat.le_refl _) (Nat.le_refl _) rfl ?_
  refine cx_X10_isPlain ?_
  refine hs_S (st2 := [.int (sx_X10_isPlain a0)]) rfl ?_
  refine sp_if_eq 7 rfl rfl (fun q_ => ?_) (fun q_ => ?_)
  · have k := k.1 q_
    refine sp_iconst 16 rfl rfl ?_
    exact st_iret rfl rfl (Nat.le_refl _) (Nat.le_refl _) k
  · have k := k.2 q_
    refine sp_iload_n 8 rfl rfl rfl ?_
    refine sp_lload_n 9 rfl rfl rfl ?_
    refine sc_S 12 rfl rfl rfl rfl (Nat.le_refl _) (Nat.le_refl _) rfl ?_
    refine cx_X10_isSet ?_
    refine hs_S (st2 := [.int (sx_X10_isSet a0 a1)]) rfl ?_
    refine sp_if_ne 15 rfl rfl (fun q_ => ?_) (fun q_ => ?_)
    · have k := k.2 q_
      refine sp_iload_n 18 rfl rfl rfl ?_
      refine sp_iload_n 19 rfl rfl rfl ?_
      refine sc_S 22 rfl rfl rfl rfl (Nat.le_refl _) (Nat.le_refl _) rfl ?_
      refine cx_X6_all ?_
      refine hs_S (st2 := [.long (sx_X6_all a0), .int a0]) rfl ?_
      refine sp_lload_n 23 rfl rfl rfl ?_
      refine sp_ldc2 26 rfl rfl ?_
      refine sp_lxor 27 rfl rfl ?_
      refine sp_land 28 rfl rfl ?_
      refine sc_S 31 rfl rfl rfl rfl (Nat.le_refl _) (Nat.le_refl _) rfl ?_
      refine mm_s_mono _ _ _ _ _ _ ?_ k
      rintro r_ h_ ⟨x1, I1, J1, rfl, rfl, k⟩
      refine hs_S (st2 := [.int x1]) rfl ?_
      exact st_iret rfl rfl (Nat.le_refl _) (Nat.le_refl _) k
    · have k := k.1 q_
      refine sp_iconst 16 rfl rfl ?_
      exact st_iret rfl rfl (Nat.le_refl _) (Nat.le_refl _) k
theorem sg_X10_first {SL : Nat} {xs : Nat → Int32} {d : Nat} {p s q : Nat} {Q : Option Value → mm_H → Prop} {a0 : Int32} {a1 : Int64} {I : Nat → Nat → Int32} {J : Nat → Nat → Int64}  (k : (((sx_X10_isPlain a0) = Int32.ofInt 0 → Q (some (.int (Int32.ofInt (-1)))) (hp p s q I J)) ∧ (¬ ((sx_X10_isPlain a0) = Int32.ofInt 0) → (((sx_X10_isSet a0 a1) = Int32.ofInt 0 → Q (some (.int (Int32.ofInt (-1)))) (hp p s q I J)) ∧ (¬ ((sx_X10_isSet a0 a1) = Int32.ofInt 0) → (mm_s SL xs (d + 5) 44 [.int a0, .long a1] (hp p s q I J) (fun r_ h_ => ∃ x1 I1 J1, r_ = some (.int x1) ∧ h_ = hp p s q I1 J1 ∧ Q (some (.int x1)) (hp p s q I1 J1)))))))) : mm_s SL xs (d + 6) 138 [.ref 2, .int a0, .long a1] (hp p s q I J) Q := by
  refine e_X10_first rfl ?_
  refine hs_L (L2 := [some (.ref 2), some (.int a0), some (.long a1), none]) rfl ?_
  refine sp_iload_n 1 rfl rfl rfl ?_
  refine sc_S 4 rfl rfl rfl rfl (Nat.le_refl _) (Nat.le_refl _) rfl ?_
  refine cx_X10_isPlain ?_
  refine hs_S (st2 := [.int (sx_X10_isPlain a0)]) rfl ?_
  refine sp_if_eq 7 rfl rfl (fun q_ => ?_) (fun q_ => ?_)
  · have k := k.1 q_
    refine sp_iconst 16 rfl rfl ?_
    exact st_iret rfl rfl (Nat.le_refl _) (Nat.le_refl _) k
  · have k := k.2 q_
    refine sp_iload_n 8 rfl rfl rfl ?_
    refine sp_lload_n 9 rfl rfl rfl ?_
    refine sc_S 12 rfl rfl rfl rfl (Nat.le_refl _) (Nat.le_refl _) rfl ?_
    refine cx_X10_isSet ?_
    refine hs_S (st2 := [.int (sx_X10_isSet a0 a1)]) rfl ?_
    refine sp_if_ne 15 rfl rfl (fun q_ => ?_) (fun q_ => ?_)
    · have k := k.2 q_
      refine sp_iload_n 18 rfl rfl rfl ?_
      refine sp_lload_n 19 rfl rfl rfl ?_
      refine sc_S 22 rfl rfl rfl rfl (Nat.le_refl _) (Nat.le_refl _) rfl ?_
      refine mm_s_mono _ _ _ _ _ _ ?_ k
      rintro r_ h_ ⟨x1, I1, J1, rfl, rfl, k⟩
      refine hs_S (st2 := [.int x1]) rfl ?_
      exact st_iret rfl rfl (Nat.le_refl _) (Nat.le_refl _) k
    · have k := k.1 q_
      refine sp_iconst 16 rfl rfl ?_
      exact st_iret rfl rfl (Nat.le_refl _) (Nat.le_refl _) k
theorem sg_X10_ask {SL : Nat} {xs : Nat → Int32} {d : Nat} {p s q : Nat} {Q : Option Value → mm_H → Prop} {a0 : Int32} {a1 : Int32} {a2 : Int32} {I : Nat → Nat → Int32} {J : Nat → Nat → Int64}  (k : (((sx_X10_isPlain a0) = Int32.ofInt 0 → Q (some (.int (Int32.ofInt (-1)))) (hp p s q I J)) ∧ (¬ ((sx_X10_isPlain a0) = Int32.ofInt 0) → (((sx_X10_isZeroOrOne a1) = Int32.ofInt 0 → Q (some (.int (Int32.ofInt (-1)))) (hp p s q I J)) ∧ (¬ ((sx_X10_isZeroOrOne a1) = Int32.ofInt 0) → (mm_s SL xs (d + 5) 95 [.ref 33, .int a2] (hp p s q I J) (fun r_ h_ => ∃ I1 J1, r_ = none ∧ h_ = hp p s q I1 J1 ∧ (mm_s SL xs (d + 5) 97 [.ref 33] (hp p s q I1 J1) (fun r_ h_ => ∃ x2 I2 J2, r_ = some (.int x2) ∧ h_ = hp p s q I2 J2 ∧ ((x2 = Int32.ofInt 0 → Q (some (.int (Int32.ofInt (-1)))) (hp p s q I2 J2)) ∧ (¬ (x2 = Int32.ofInt 0) → (mm_s SL xs (d + 5) 99 [.ref 33, .int a0] (hp p s q I2 J2) (fun r_ h_ => ∃ x3 I3 J3, r_ = some (.int x3) ∧ h_ = hp p s q I3 J3 ∧ ((a1 = Int32.ofInt 0 → Q (some (.int x3)) (hp p s q I3 J3)) ∧ (¬ (a1 = Int32.ofInt 0) → (mm_s SL xs (d + 5) 101 [.ref 33, .int a0, .int x3] (hp p s q I3 J3) (fun r_ h_ => ∃ x4 I4 J4, r_ = some (.int x4) ∧ h_ = hp p s q I4 J4 ∧ Q (some (.int x4)) (hp p s q I4 J4)))))))))))))))))) : mm_s SL xs (d + 6) 151 [.ref 2, .int a0, .int a1, .int a2] (hp p s q I J) Q := by
  refine e_X10_ask rfl ?_
  refine hs_L (L2 := [some (.ref 2), some (.int a0), some (.int a1), some (.int a2), none]) rfl ?_
  refine sp_iload_n 1 rfl rfl rfl ?_
  refine sc_S 4 rfl rfl rfl rfl (Nat.le_refl _) (Nat.le_refl _) rfl ?_
  refine cx_X10_isPlain ?_
  refine hs_S (st2 := [.int (sx_X10_isPlain a0)]) rfl ?_
  refine sp_if_eq 7 rfl rfl (fun q_ => ?_) (fun q_ => ?_)
  · have k := k.1 q_
    refine sp_iconst 15 rfl rfl ?_
    exact st_iret rfl rfl (Nat.le_refl _) (Nat.le_refl _) k
  · have k := k.2 q_
    refine sp_iload_n 8 rfl rfl rfl ?_
    refine sc_S 11 rfl rfl rfl rfl (Nat.le_refl _) (Nat.le_refl _) rfl ?_
    refine cx_X10_isZeroOrOne ?_
    refine hs_S (st2 := [.int (sx_X10_isZeroOrOne a1)]) rfl ?_
    refine sp_if_ne 14 rfl rfl (fun q_ => ?_) (fun q_ => ?_)
    · have k := k.2 q_
      refine sp_aload_n 17 rfl rfl rfl ?_
      refine hq_getR 20 rfl rfl rfl rfl ?_
      refine sp_iload_n 21 rfl rfl rfl ?_
      refine sc_V 24 rfl rfl rfl rfl rfl (Nat.le_refl _) (Nat.le_refl _) rfl ?_
      refine mm_s_mono _ _ _ _ _ _ ?_ k
      rintro r_ h_ ⟨I1, J1, rfl, rfl, k⟩
      refine hs_S (st2 := []) rfl ?_
      refine sp_aload_n 25 rfl rfl rfl ?_
      refine hq_getR 28 rfl rfl rfl rfl ?_
      refine sc_V 31 rfl rfl rfl rfl rfl (Nat.le_refl _) (Nat.le_refl _) rfl ?_
      refine mm_s_mono _ _ _ _ _ _ ?_ k
      rintro r_ h_ ⟨x2, I2, J2, rfl, rfl, k⟩
      refine hs_S (st2 := [.int x2]) rfl ?_
      refine sp_if_ne 34 rfl rfl (fun q_ => ?_) (fun q_ => ?_)
      · have k := k.2 q_
        refine sp_aload_n 37 rfl rfl rfl ?_
        refine hq_getR 40 rfl rfl rfl rfl ?_
        refine sp_iload_n 41 rfl rfl rfl ?_
        refine sc_V 44 rfl rfl rfl rfl rfl (Nat.le_refl _) (Nat.le_refl _) rfl ?_
        refine mm_s_mono _ _ _ _ _ _ ?_ k
        rintro r_ h_ ⟨x3, I3, J3, rfl, rfl, k⟩
        refine hs_S (st2 := [.int x3]) rfl ?_
        refine hs_istore 46 (L2 := [some (.ref 2), some (.int a0), some (.int a1), some (.int a2), some (.int x3)]) rfl rfl rfl rfl ?_
        refine sp_iload_n 47 rfl rfl rfl ?_
        refine sp_if_ne 50 rfl rfl (fun q_ => ?_) (fun q_ => ?_)
        · have k := k.2 q_
          refine sp_aload_n 56 rfl rfl rfl ?_
          refine hq_getR 59 rfl rfl rfl rfl ?_
          refine sp_iload_n 60 rfl rfl rfl ?_
          refine sp_iload 62 rfl rfl rfl ?_
          refine sc_V 65 rfl rfl rfl rfl rfl (Nat.le_refl _) (Nat.le_refl _) rfl ?_
          refine mm_s_mono _ _ _ _ _ _ ?_ k
          rintro r_ h_ ⟨x4, I4, J4, rfl, rfl, k⟩
          refine hs_S (st2 := [.int x4]) rfl ?_
          exact st_iret rfl rfl (Nat.le_refl _) (Nat.le_refl _) k
        · have k := k.1 q_
          refine sp_iload 52 rfl rfl rfl ?_
          refine sp_goto rfl ?_
          exact st_iret rfl rfl (Nat.le_refl _) (Nat.le_refl _) k
      · have k := k.1 q_
        refine sp_iconst 35 rfl rfl ?_
        exact st_iret rfl rfl (Nat.le_refl _) (Nat.le_refl _) k
    · have k := k.1 q_
      refine sp_iconst 15 rfl rfl ?_
      exact st_iret rfl rfl (Nat.le_refl _) (Nat.le_refl _) k
theorem sg_X10_go {SL : Nat} {xs : Nat → Int32} {d : Nat} {p s q : Nat} {Q : Option Value → mm_H → Prop} {a0 : Int32} {I : Nat → Nat → Int32} {J : Nat → Nat → Int64} (h_p : isP p) (k : ((a0 < Int32.ofInt 0 → Q (some (.int (Int32.ofInt (-1)))) (hp p s q I J)) ∧ (¬ (a0 < Int32.ofInt 0) → ((a0 ≤ (Int32.ofInt 1000) → (mm_s SL xs (d + 6) 19 [.ref 15, .ref p, .int (I p 2), .int a0] (hp p s q I J) (fun r_ h_ => ∃ x1 I1 J1, r_ = some (.int x1) ∧ h_ = hp p s q I1 J1 ∧ Q (some (.int x1)) (hp p s q I1 J1)))) ∧ (¬ (a0 ≤ (Int32.ofInt 1000)) → Q (some (.int (Int32.ofInt (-1)))) (hp p s q I J)))))) : mm_s SL xs (d + 7) 120 [.ref 2, .int a0] (hp p s q I J) Q := by
  refine e_X10_go rfl ?_
  refine hs_L (L2 := [some (.ref 2), some (.int a0)]) rfl ?_
  refine sp_iload_n 1 rfl rfl rfl ?_
  refine sp_if_lt 4 rfl rfl (fun q_ => ?_) (fun q_ => ?_)
  · have k := k.1 q_
    refine sp_iconst 12 rfl rfl ?_
    exact st_iret rfl rfl (Nat.le_refl _) (Nat.le_refl _) k
  · have k := k.2 q_
    refine sp_iload_n 5 rfl rfl rfl ?_
    refine sp_sipush 8 rfl rfl ?_
    refine sp_I (y := Int32.ofInt 1000) rfl ?_
    refine sp_ic_le 11 rfl rfl (fun q_ => ?_) (fun q_ => ?_)
    · have k := k.1 q_
      refine sp_aload_n 14 rfl rfl rfl ?_
      refine hq_getR 17 rfl rfl rfl rfl ?_
      refine sp_aload_n 18 rfl rfl rfl ?_
      refine hq_getR 21 rfl rfl rfl rfl ?_
      refine sp_aload_n 22 rfl rfl rfl ?_
      refine hq_getR 25 rfl rfl rfl rfl ?_
      refine hq_getI 28 rfl (kP0 h_p) rfl ?_
      refine sp_iload_n 29 rfl rfl rfl ?_
      refine sc_V 32 rfl rfl rfl rfl rfl (Nat.le_refl _) (Nat.le_refl _) rfl ?_
      refine mm_s_mono _ _ _ _ _ _ ?_ k
      rintro r_ h_ ⟨x1, I1, J1, rfl, rfl, k⟩
      refine hs_S (st2 := [.int x1]) rfl ?_
      exact st_iret rfl rfl (Nat.le_refl _) (Nat.le_refl _) k
    · have k := k.2 q_
      refine sp_iconst 12 rfl rfl ?_
      exact st_iret rfl rfl (Nat.le_refl _) (Nat.le_refl _) k
theorem sg_X10_meet {SL : Nat} {xs : Nat → Int32} {d : Nat} {p s q : Nat} {Q : Option Value → mm_H → Prop}  {I : Nat → Nat → Int32} {J : Nat → Nat → Int64}  (k : (mm_s SL xs (d + 6) 6 [.ref 20, .ref p, .ref 15] (hp p s q I J) (fun r_ h_ => ∃ x1 I1 J1, r_ = some (.int x1) ∧ h_ = hp p s q I1 J1 ∧ Q (some (.int x1)) (hp p s q I1 J1)))) : mm_s SL xs (d + 7) 128 [.ref 2] (hp p s q I J) Q := by
  refine e_X10_meet rfl ?_
  refine hs_L (L2 := [some (.ref 2)]) rfl ?_
  refine sp_aload_n 1 rfl rfl rfl ?_
  refine hq_getR 4 rfl rfl rfl rfl ?_
  refine sp_aload_n 5 rfl rfl rfl ?_
  refine hq_getR 8 rfl rfl rfl rfl ?_
  refine sp_aload_n 9 rfl rfl rfl ?_
  refine hq_getR 12 rfl rfl rfl rfl ?_
  refine sc_V 15 rfl rfl rfl rfl rfl (Nat.le_refl _) (Nat.le_refl _) rfl ?_
  refine mm_s_mono _ _ _ _ _ _ ?_ k
  rintro r_ h_ ⟨x1, I1, J1, rfl, rfl, k⟩
  refine hs_S (st2 := [.int x1]) rfl ?_
  exact st_iret rfl rfl (Nat.le_refl _) (Nat.le_refl _) k
theorem sg_X10_guess {SL : Nat} {xs : Nat → Int32} {d : Nat} {p s q : Nat} {Q : Option Value → mm_H → Prop} {a0 : Int32} {a1 : Int32} {I : Nat → Nat → Int32} {J : Nat → Nat → Int64}  (k : (((sx_X10_isPlain a0) = Int32.ofInt 0 → Q (some (.int (Int32.ofInt (-1)))) (hp p s q I J)) ∧ (¬ ((sx_X10_isPlain a0) = Int32.ofInt 0) → (((sx_X10_isZeroOrOne a1) = Int32.ofInt 0 → Q (some (.int (Int32.ofInt (-1)))) (hp p s q I J)) ∧ (¬ ((sx_X10_isZeroOrOne a1) = Int32.ofInt 0) → (mm_s SL xs (d + 6) 38 [.ref 29, .int a0] (hp p s q I J) (fun r_ h_ => ∃ I1 J1, r_ = none ∧ h_ = hp p s q I1 J1 ∧ ((a1 = Int32.ofInt 0 → Q (some (.int (I1 29 2))) (hp p s q I1 J1)) ∧ (¬ (a1 = Int32.ofInt 0) → Q (some (.int (I1 29 3))) (hp p s q I1 J1)))))))))) : mm_s SL xs (d + 7) 140 [.ref 2, .int a0, .int a1] (hp p s q I J) Q := by
  refine e_X10_guess rfl ?_
  refine hs_L (L2 := [some (.ref 2), some (.int a0), some (.int a1)]) rfl ?_
  refine sp_iload_n 1 rfl rfl rfl ?_
  refine sc_S 4 rfl rfl rfl rfl (Nat.le_refl _) (Nat.le_refl _) rfl ?_
  refine cx_X10_isPlain ?_
  refine hs_S (st2 := [.int (sx_X10_isPlain a0)]) rfl ?_
  refine sp_if_eq 7 rfl rfl (fun q_ => ?_) (fun q_ => ?_)
  · have k := k.1 q_
    refine sp_iconst 15 rfl rfl ?_
    exact st_iret rfl rfl (Nat.le_refl _) (Nat.le_refl _) k
  · have k := k.2 q_
    refine sp_iload_n 8 rfl rfl rfl ?_
    refine sc_S 11 rfl rfl rfl rfl (Nat.le_refl _) (Nat.le_refl _) rfl ?_
    refine cx_X10_isZeroOrOne ?_
    refine hs_S (st2 := [.int (sx_X10_isZeroOrOne a1)]) rfl ?_
    refine sp_if_ne 14 rfl rfl (fun q_ => ?_) (fun q_ => ?_)
    · have k := k.2 q_
      refine sp_aload_n 17 rfl rfl rfl ?_
      refine hq_getR 20 rfl rfl rfl rfl ?_
      refine sp_iload_n 21 rfl rfl rfl ?_
      refine sc_V 24 rfl rfl rfl rfl rfl (Nat.le_refl _) (Nat.le_refl _) rfl ?_
      refine mm_s_mono _ _ _ _ _ _ ?_ k
      rintro r_ h_ ⟨I1, J1, rfl, rfl, k⟩
      refine hs_S (st2 := []) rfl ?_
      refine sp_iload_n 25 rfl rfl rfl ?_
      refine sp_if_ne 28 rfl rfl (fun q_ => ?_) (fun q_ => ?_)
      · have k := k.2 q_
        refine sp_aload_n 39 rfl rfl rfl ?_
        refine hq_getR 42 rfl rfl rfl rfl ?_
        refine hq_getI 45 rfl rfl rfl ?_
        exact st_iret rfl rfl (Nat.le_refl _) (Nat.le_refl _) k
      · have k := k.1 q_
        refine sp_aload_n 29 rfl rfl rfl ?_
        refine hq_getR 32 rfl rfl rfl rfl ?_
        refine hq_getI 35 rfl rfl rfl ?_
        refine sp_goto rfl ?_
        exact st_iret rfl rfl (Nat.le_refl _) (Nat.le_refl _) k
    · have k := k.1 q_
      refine sp_iconst 15 rfl rfl ?_
      exact st_iret rfl rfl (Nat.le_refl _) (Nat.le_refl _) k
