def w_X0_meeting_20 (SL : Nat) (xs : Nat → Int32) (d : Nat) (p s q : Nat) (Q : Option Value → mm_H → Prop) (a0 : Nat) (a1 : Nat) (v3 : Int32) (I : Nat → Nat → Int32) (J : Nat → Nat → Int64) : Prop := mm_w SL xs (mm_s SL xs (d + 5)) mm_am kX0_meeting 0 0 (some .int) Q 20 [some (.ref 20), some (.ref a0), some (.ref a1), some (.int v3)] [] (hp p s q I J) 0 0
theorem sg_X0_meeting {SL : Nat} {xs : Nat → Int32} {d : Nat} {p s q : Nat} {Q : Option Value → mm_H → Prop} {a0 : Nat} {a1 : Nat} {I : Nat → Nat → Int32} {J : Nat → Nat → Int64} (h_a0 : isP a0) (k : (((I a0 5) = (Int32.ofInt (-1)) → Q (some (.int (Int32.ofInt (-1)))) (hp p s q I J)) ∧ (¬ ((I a0 5) = (Int32.ofInt (-1))) → (mm_s SL xs (d + 5) 14 [.ref 21, .ref a1] (hp p s q I J) (fun r_ h_ => ∃ I1 J1, r_ = none ∧ h_ = hp p s q I1 J1 ∧ w_X0_meeting_20 SL xs d p s q Q a0 a1 (Int32.ofInt 0) I1 J1))))) : mm_s SL xs (d + 6) 6 [.ref 20, .ref a0, .ref a1] (hp p s q I J) Q := by
  refine e_X0_meeting rfl ?_
  refine hs_L (L2 := [some (.ref 20), some (.ref a0), some (.ref a1), none]) rfl ?_
  refine sp_aload_n 1 rfl rfl rfl ?_
  refine hq_getI 4 rfl (kP0 h_a0) rfl ?_
  refine sp_iconst 5 rfl rfl ?_
  refine sp_ic_ne 8 rfl rfl (fun q_ => ?_) (fun q_ => ?_)
  · have k := k.2 q_
    refine sp_aload_n 11 rfl rfl rfl ?_
    refine hq_getR 14 rfl rfl rfl rfl ?_
    refine sp_aload_n 15 rfl rfl rfl ?_
    refine sc_V 18 rfl rfl rfl rfl rfl (Nat.le_refl _) (Nat.le_refl _) rfl ?_
    refine mm_s_mono _ _ _ _ _ _ ?_ k
    rintro r_ h_ ⟨I1, J1, rfl, rfl, k⟩
    refine hs_S (st2 := []) rfl ?_
    refine sp_iconst 19 rfl rfl ?_
    refine hs_istore_n 20 (L2 := [some (.ref 20), some (.ref a0), some (.ref a1), some (.int (Int32.ofInt 0))]) rfl rfl rfl rfl ?_
    exact k
  · have k := k.1 q_
    refine sp_iconst 9 rfl rfl ?_
    exact st_iret rfl rfl (Nat.le_refl _) (Nat.le_refl _) k
theorem sg_X0_meeting_20 {SL : Nat} {xs : Nat → Int32} {d : Nat} {p s q : Nat} {Q : Option Value → mm_H → Prop} {a0 : Nat} {a1 : Nat} {v3 : Int32} {I : Nat → Nat → Int32} {J : Nat → Nat → Int64} (h_a0 : isP a0) (k : (((Int32.ofInt 1000) ≤ v3 → Q (some (.int (Int32.ofInt (-1)))) (hp p s q I J)) ∧ (¬ ((Int32.ofInt 1000) ≤ v3) → (((sy_X1_standing 21 I J) ≤ (I a0 2) → Q (some (.int (Int32.ofInt (-1)))) (hp p s q I J)) ∧ (¬ ((sy_X1_standing 21 I J) ≤ (I a0 2)) → (mm_s SL xs (d + 5) 20 [.ref 21, .ref a0] (hp p s q I J) (fun r_ h_ => ∃ x1 I1 J1, r_ = some (.int x1) ∧ h_ = hp p s q I1 J1 ∧ (mm_s SL xs (d + 5) 21 [.ref 21, .ref a0, .int x1] (hp p s q I1 J1) (fun r_ h_ => ∃ I2 J2, r_ = none ∧ h_ = hp p s q I2 J2 ∧ (((sy_X0_areNear (I2 a0 0) I2 J2) = Int32.ofInt 0 → w_X0_meeting_20 SL xs d p s q Q a0 a1 (v3 + Int32.ofInt 1) I2 J2) ∧ (¬ ((sy_X0_areNear (I2 a0 0) I2 J2) = Int32.ofInt 0) → Q (some (.int (I2 21 2))) (hp p s q I2 J2)))))))))))) : w_X0_meeting_20 SL xs d p s q Q a0 a1 v3 I J := by
  unfold w_X0_meeting_20
  refine sp_iload_n 21 rfl rfl rfl ?_
  refine sp_sipush 24 rfl rfl ?_
  refine sp_I (y := Int32.ofInt 1000) rfl ?_
  refine sp_ic_ge 27 rfl rfl (fun q_ => ?_) (fun q_ => ?_)
  · have k := k.1 q_
    refine sp_iconst 83 rfl rfl ?_
    exact st_iret rfl rfl (Nat.le_refl _) (Nat.le_refl _) k
  · have k := k.2 q_
    refine sp_aload_n 28 rfl rfl rfl ?_
    refine hq_getR 31 rfl rfl rfl rfl ?_
    refine sc_V 34 rfl rfl rfl rfl rfl (Nat.le_refl _) (Nat.le_refl _) rfl ?_
    refine cy_X1_standing isC_21 ?_
    refine sp_aload_n 35 rfl rfl rfl ?_
    refine hq_getI 38 rfl (kP0 h_a0) rfl ?_
    refine sp_ic_le 41 rfl rfl (fun q_ => ?_) (fun q_ => ?_)
    · have k := k.1 q_
      refine sp_iconst 83 rfl rfl ?_
      exact st_iret rfl rfl (Nat.le_refl _) (Nat.le_refl _) k
    · have k := k.2 q_
      refine sp_aload_n 42 rfl rfl rfl ?_
      refine hq_getR 45 rfl rfl rfl rfl ?_
      refine sp_aload_n 46 rfl rfl rfl ?_
      refine sp_aload_n 47 rfl rfl rfl ?_
      refine hq_getR 50 rfl rfl rfl rfl ?_
      refine sp_aload_n 51 rfl rfl rfl ?_
      refine sc_V 54 rfl rfl rfl rfl rfl (Nat.le_refl _) (Nat.le_refl _) rfl ?_
      refine mm_s_mono _ _ _ _ _ _ ?_ k
      rintro r_ h_ ⟨x1, I1, J1, rfl, rfl, k⟩
      refine hs_S (st2 := [.int x1, .ref a0, .ref 21]) rfl ?_
      refine sc_V 57 rfl rfl rfl rfl rfl (Nat.le_refl _) (Nat.le_refl _) rfl ?_
      refine mm_s_mono _ _ _ _ _ _ ?_ k
      rintro r_ h_ ⟨I2, J2, rfl, rfl, k⟩
      refine hs_S (st2 := []) rfl ?_
      refine sp_aload_n 58 rfl rfl rfl ?_
      refine sp_aload_n 59 rfl rfl rfl ?_
      refine hq_getI 62 rfl (kP0 h_a0) rfl ?_
      refine sc_V 65 rfl rfl rfl rfl rfl (Nat.le_refl _) (Nat.le_refl _) rfl ?_
      refine cy_X0_areNear ?_
      refine sp_if_eq 68 rfl rfl (fun q_ => ?_) (fun q_ => ?_)
      · have k := k.1 q_
        refine hs_iinc 79 (L2 := [some (.ref 20), some (.ref a0), some (.ref a1), some (.int (v3 + Int32.ofInt 1))]) rfl rfl rfl rfl rfl ?_
        refine sp_goto rfl ?_
        exact k
      · have k := k.2 q_
        refine sp_aload_n 69 rfl rfl rfl ?_
        refine hq_getR 72 rfl rfl rfl rfl ?_
        refine hq_getI 75 rfl rfl rfl ?_
        exact st_iret rfl rfl (Nat.le_refl _) (Nat.le_refl _) k
def w_X0_keepsAll_15 (SL : Nat) (xs : Nat → Int32) (d : Nat) (p s q : Nat) (Q : Option Value → mm_H → Prop) (a0 : Nat) (v2 : Int64) (v4 : Int32) (v5 : Int32) (I : Nat → Nat → Int32) (J : Nat → Nat → Int64) : Prop := mm_w SL xs (mm_s SL xs (d + 5)) mm_am kX0_keepsAll 0 0 (some .boolean) Q 15 [some (.ref 20), some (.ref a0), some (.long v2), none, some (.int v4), some (.int v5)] [] (hp p s q I J) 0 0
theorem sg_X0_keepsAll {SL : Nat} {xs : Nat → Int32} {d : Nat} {p s q : Nat} {Q : Option Value → mm_H → Prop} {a0 : Nat} {a1 : Int64} {a2 : Int32} {I : Nat → Nat → Int32} {J : Nat → Nat → Int64} (h_a0 : isP a0) (k : (mm_s SL xs (d + 5) 13 [.ref 21, .ref a0, .int (I a0 1)] (hp p s q I J) (fun r_ h_ => ∃ I1 J1, r_ = none ∧ h_ = hp p s q I1 J1 ∧ w_X0_keepsAll_15 SL xs d p s q Q a0 a1 a2 (Int32.ofInt 0) I1 J1))) : mm_s SL xs (d + 6) 10 [.ref 20, .ref a0, .long a1, .int a2] (hp p s q I J) Q := by
  refine e_X0_keepsAll rfl ?_
  refine hs_L (L2 := [some (.ref 20), some (.ref a0), some (.long a1), none, some (.int a2), none]) rfl ?_
  refine sp_aload_n 1 rfl rfl rfl ?_
  refine hq_getR 4 rfl rfl rfl rfl ?_
  refine sp_aload_n 5 rfl rfl rfl ?_
  refine sp_aload_n 6 rfl rfl rfl ?_
  refine hq_getI 9 rfl (kP0 h_a0) rfl ?_
  refine sc_V 12 rfl rfl rfl rfl rfl (Nat.le_refl _) (Nat.le_refl _) rfl ?_
  refine mm_s_mono _ _ _ _ _ _ ?_ k
  rintro r_ h_ ⟨I1, J1, rfl, rfl, k⟩
  refine hs_S (st2 := []) rfl ?_
  refine sp_iconst 13 rfl rfl ?_
  refine hs_istore 15 (L2 := [some (.ref 20), some (.ref a0), some (.long a1), none, some (.int a2), some (.int (Int32.ofInt 0))]) rfl rfl rfl rfl ?_
  exact k
theorem sg_X0_keepsAll_15 {SL : Nat} {xs : Nat → Int32} {d : Nat} {p s q : Nat} {Q : Option Value → mm_H → Prop} {a0 : Nat} {v2 : Int64} {v4 : Int32} {v5 : Int32} {I : Nat → Nat → Int32} {J : Nat → Nat → Int64} (h_a0 : isP a0) (k : (((Int32.ofInt 1000) ≤ v5 → Q (some (.int (Int32.ofInt 1))) (hp p s q I J)) ∧ (¬ ((Int32.ofInt 1000) ≤ v5) → (((sy_X1_standing 21 I J) ≤ (I a0 2) → Q (some (.int (Int32.ofInt 1))) (hp p s q I J)) ∧ (¬ ((sy_X1_standing 21 I J) ≤ (I a0 2)) → (mm_s SL xs (d + 5) 21 [.ref 21, .ref a0, .int v4] (hp p s q I J) (fun r_ h_ => ∃ I1 J1, r_ = none ∧ h_ = hp p s q I1 J1 ∧ (((v2 &&& ((J1 21 1) ^^^ (Int64.ofInt (-1)))) = (Int64.ofInt 0) → w_X0_keepsAll_15 SL xs d p s q Q a0 v2 v4 (v5 + Int32.ofInt 1) I1 J1) ∧ (¬ ((v2 &&& ((J1 21 1) ^^^ (Int64.ofInt (-1)))) = (Int64.ofInt 0)) → Q (some (.int (Int32.ofInt 0))) (hp p s q I1 J1)))))))))) : w_X0_keepsAll_15 SL xs d p s q Q a0 v2 v4 v5 I J := by
  unfold w_X0_keepsAll_15
  refine sp_iload 17 rfl rfl rfl ?_
  refine sp_sipush 20 rfl rfl ?_
  refine sp_I (y := Int32.ofInt 1000) rfl ?_
  refine sp_ic_ge 23 rfl rfl (fun q_ => ?_) (fun q_ => ?_)
  · have k := k.1 q_
    refine sp_iconst 74 rfl rfl ?_
    exact st_zret rfl rfl (by decide) (Nat.le_refl _) (Nat.le_refl _) k
  · have k := k.2 q_
    refine sp_aload_n 24 rfl rfl rfl ?_
    refine hq_getR 27 rfl rfl rfl rfl ?_
    refine sc_V 30 rfl rfl rfl rfl rfl (Nat.le_refl _) (Nat.le_refl _) rfl ?_
    refine cy_X1_standing isC_21 ?_
    refine sp_aload_n 31 rfl rfl rfl ?_
    refine hq_getI 34 rfl (kP0 h_a0) rfl ?_
    refine sp_ic_le 37 rfl rfl (fun q_ => ?_) (fun q_ => ?_)
    · have k := k.1 q_
      refine sp_iconst 74 rfl rfl ?_
      exact st_zret rfl rfl (by decide) (Nat.le_refl _) (Nat.le_refl _) k
    · have k := k.2 q_
      refine sp_aload_n 38 rfl rfl rfl ?_
      refine hq_getR 41 rfl rfl rfl rfl ?_
      refine sp_aload_n 42 rfl rfl rfl ?_
      refine sp_iload 44 rfl rfl rfl ?_
      refine sc_V 47 rfl rfl rfl rfl rfl (Nat.le_refl _) (Nat.le_refl _) rfl ?_
      refine mm_s_mono _ _ _ _ _ _ ?_ k
      rintro r_ h_ ⟨I1, J1, rfl, rfl, k⟩
      refine hs_S (st2 := []) rfl ?_
      refine sp_lload_n 48 rfl rfl rfl ?_
      refine sp_aload_n 49 rfl rfl rfl ?_
      refine hq_getR 52 rfl rfl rfl rfl ?_
      refine hq_getJ 55 rfl rfl rfl ?_
      refine sp_ldc2 58 rfl rfl ?_
      refine sp_lxor 59 rfl rfl ?_
      refine sp_land 60 rfl rfl ?_
      refine sp_lconst 61 rfl rfl ?_
      refine sp_J (y := Int64.ofInt 0) rfl ?_
      refine sp_lcmp 62 rfl rfl ?_
      refine sp_if_eq 65 rfl rfl (fun q_ => ?_) (fun q_ => ?_)
      · have k := k.1 ((lg_cmp_eq _ _).mp q_)
        refine hs_iinc 70 (L2 := [some (.ref 20), some (.ref a0), some (.long v2), none, some (.int v4), some (.int (v5 + Int32.ofInt 1))]) rfl rfl rfl rfl rfl ?_
        refine sp_goto rfl ?_
        exact k
      · have k := k.2 (fun z_ => q_ ((lg_cmp_eq _ _).mpr z_))
        refine sp_iconst 66 rfl rfl ?_
        exact st_zret rfl rfl (by decide) (Nat.le_refl _) (Nat.le_refl _) k
def w_X1_goOn_3 (SL : Nat) (xs : Nat → Int32) (d : Nat) (p s q : Nat) (Q : Option Value → mm_H → Prop) (o : Nat) (a0 : Nat) (v2 : Int32) (v3 : Int32) (v4 : Int32) (I : Nat → Nat → Int32) (J : Nat → Nat → Int64) : Prop := mm_w SL xs (mm_s SL xs (d + 5)) mm_am kX1_goOn 0 0 (some .int) Q 3 [some (.ref o), some (.ref a0), some (.int v2), some (.int v3), some (.int v4)] [] (hp p s q I J) 0 0
theorem sg_X1_goOn {SL : Nat} {xs : Nat → Int32} {d : Nat} {p s q : Nat} {Q : Option Value → mm_H → Prop} {o : Nat} {a0 : Nat} {a1 : Int32} {a2 : Int32} {I : Nat → Nat → Int32} {J : Nat → Nat → Int64}  (k : w_X1_goOn_3 SL xs d p s q Q o a0 a1 a2 (Int32.ofInt 0) I J) : mm_s SL xs (d + 6) 19 [.ref o, .ref a0, .int a1, .int a2] (hp p s q I J) Q := by
  refine e_X1_goOn rfl ?_
  refine hs_L (L2 := [some (.ref o), some (.ref a0), some (.int a1), some (.int a2), none]) rfl ?_
  refine sp_iconst 1 rfl rfl ?_
  refine hs_istore 3 (L2 := [some (.ref o), some (.ref a0), some (.int a1), some (.int a2), some (.int (Int32.ofInt 0))]) rfl rfl rfl rfl ?_
  exact k
theorem sg_X1_goOn_3 {SL : Nat} {xs : Nat → Int32} {d : Nat} {p s q : Nat} {Q : Option Value → mm_H → Prop} {o : Nat} {a0 : Nat} {v2 : Int32} {v3 : Int32} {v4 : Int32} {I : Nat → Nat → Int32} {J : Nat → Nat → Int64} (h_o : isC o) (k : ((v3 ≤ v4 → Q (some (.int v4)) (hp p s q I J)) ∧ (¬ (v3 ≤ v4) → (((sy_X1_standing o I J) ≤ v2 → Q (some (.int v4)) (hp p s q I J)) ∧ (¬ ((sy_X1_standing o I J) ≤ v2) → (mm_s SL xs (d + 5) 20 [.ref o, .ref a0] (hp p s q I J) (fun r_ h_ => ∃ x1 I1 J1, r_ = some (.int x1) ∧ h_ = hp p s q I1 J1 ∧ (mm_s SL xs (d + 5) 21 [.ref o, .ref a0, .int x1] (hp p s q I1 J1) (fun r_ h_ => ∃ I2 J2, r_ = none ∧ h_ = hp p s q I2 J2 ∧ w_X1_goOn_3 SL xs d p s q Q o a0 v2 v3 (v4 + Int32.ofInt 1) I2 J2))))))))) : w_X1_goOn_3 SL xs d p s q Q o a0 v2 v3 v4 I J := by
  unfold w_X1_goOn_3
  refine sp_iload 5 rfl rfl rfl ?_
  refine sp_iload_n 6 rfl rfl rfl ?_
  refine sp_ic_ge 9 rfl rfl (fun q_ => ?_) (fun q_ => ?_)
  · have k := k.1 q_
    refine sp_iload 35 rfl rfl rfl ?_
    exact st_iret rfl rfl (Nat.le_refl _) (Nat.le_refl _) k
  · have k := k.2 q_
    refine sp_aload_n 10 rfl rfl rfl ?_
    refine sc_V 13 rfl rfl (kC0 h_o) rfl rfl (Nat.le_refl _) (Nat.le_refl _) rfl ?_
    refine cy_X1_standing h_o ?_
    refine sp_iload_n 14 rfl rfl rfl ?_
    refine sp_ic_le 17 rfl rfl (fun q_ => ?_) (fun q_ => ?_)
    · have k := k.1 q_
      refine sp_iload 35 rfl rfl rfl ?_
      exact st_iret rfl rfl (Nat.le_refl _) (Nat.le_refl _) k
    · have k := k.2 q_
      refine sp_aload_n 18 rfl rfl rfl ?_
      refine sp_aload_n 19 rfl rfl rfl ?_
      refine sp_aload_n 20 rfl rfl rfl ?_
      refine sp_aload_n 21 rfl rfl rfl ?_
      refine sc_V 24 rfl rfl (kC0 h_o) rfl rfl (Nat.le_refl _) (Nat.le_refl _) rfl ?_
      refine mm_s_mono _ _ _ _ _ _ ?_ k
      rintro r_ h_ ⟨x1, I1, J1, rfl, rfl, k⟩
      refine hs_S (st2 := [.int x1, .ref a0, .ref o]) rfl ?_
      refine sc_V 27 rfl rfl (kC0 h_o) rfl rfl (Nat.le_refl _) (Nat.le_refl _) rfl ?_
      refine mm_s_mono _ _ _ _ _ _ ?_ k
      rintro r_ h_ ⟨I2, J2, rfl, rfl, k⟩
      refine hs_S (st2 := []) rfl ?_
      refine hs_iinc 30 (L2 := [some (.ref o), some (.ref a0), some (.int v2), some (.int v3), some (.int (v4 + Int32.ofInt 1))]) rfl rfl rfl rfl rfl ?_
      refine sp_goto rfl ?_
      exact k
def w_X3_tryRules_31 (SL : Nat) (xs : Nat → Int32) (d : Nat) (p s q : Nat) (Q : Option Value → mm_H → Prop) (v1 : Int32) (v2 : Int32) (v3 : Int32) (I : Nat → Nat → Int32) (J : Nat → Nat → Int64) : Prop := mm_w SL xs (mm_s SL xs (d + 5)) mm_am kX3_tryRules 0 0 none Q 31 [some (.ref 29), some (.int v1), some (.int v2), some (.int v3), none, none] [] (hp p s q I J) 0 0
def w_X3_tryRules_40 (SL : Nat) (xs : Nat → Int32) (d : Nat) (p s q : Nat) (Q : Option Value → mm_H → Prop) (v1 : Int32) (v2 : Int32) (v3 : Int32) (v4 : Int32) (I : Nat → Nat → Int32) (J : Nat → Nat → Int64) : Prop := mm_w SL xs (mm_s SL xs (d + 5)) mm_am kX3_tryRules 0 0 none Q 40 [some (.ref 29), some (.int v1), some (.int v2), some (.int v3), some (.int v4), none] [] (hp p s q I J) 0 0
def w_X3_tryRules_50 (SL : Nat) (xs : Nat → Int32) (d : Nat) (p s q : Nat) (Q : Option Value → mm_H → Prop) (v1 : Int32) (v2 : Int32) (v3 : Int32) (v4 : Int32) (v5 : Int32) (I : Nat → Nat → Int32) (J : Nat → Nat → Int64) : Prop := mm_w SL xs (mm_s SL xs (d + 5)) mm_am kX3_tryRules 0 0 none Q 50 [some (.ref 29), some (.int v1), some (.int v2), some (.int v3), some (.int v4), some (.int v5)] [] (hp p s q I J) 0 0
theorem sg_X3_tryRules {SL : Nat} {xs : Nat → Int32} {d : Nat} {p s q : Nat} {Q : Option Value → mm_H → Prop} {a0 : Int32} {I : Nat → Nat → Int32} {J : Nat → Nat → Int64}  (k : (((I 29 1) = Int32.ofInt 0 → Q none (hp p s q (mm_u (mm_u I 29 2 (Int32.ofInt 0)) 29 3 (Int32.ofInt (-1))) J)) ∧ (¬ ((I 29 1) = Int32.ofInt 0) → (((I 29 1) ≤ a0 → w_X3_tryRules_31 SL xs d p s q Q a0 (Int32.ofInt 2147483647) (Int32.ofInt 1) (mm_u (mm_u I 29 2 (Int32.ofInt 0)) 29 3 (Int32.ofInt (-1))) J) ∧ (¬ ((I 29 1) ≤ a0) → Q none (hp p s q (mm_u (mm_u I 29 2 (Int32.ofInt 0)) 29 3 (Int32.ofInt (-1))) J)))))) : mm_s SL xs (d + 6) 38 [.ref 29, .int a0] (hp p s q I J) Q := by
  refine e_X3_tryRules rfl ?_
  refine hs_L (L2 := [some (.ref 29), some (.int a0), none, none, none, none]) rfl ?_
  refine sp_aload_n 1 rfl rfl rfl ?_
  refine sp_iconst 2 rfl rfl ?_
  refine hq_putI 5 rfl rfl rfl ?_
  refine sp_aload_n 6 rfl rfl rfl ?_
  refine sp_iconst 7 rfl rfl ?_
  refine hq_putI 10 rfl rfl rfl ?_
  refine sp_aload_n 11 rfl rfl rfl ?_
  refine hq_getI 14 rfl rfl rfl ?_
  refine sp_I (y := (I 29 1)) (by simp [mm_u]) ?_
  refine sp_if_eq 17 rfl rfl (fun q_ => ?_) (fun q_ => ?_)
  · have k := k.1 q_
    exact st_vret rfl rfl (Nat.le_refl _) (Nat.le_refl _) k
  · have k := k.2 q_
    refine sp_aload_n 18 rfl rfl rfl ?_
    refine hq_getI 21 rfl rfl rfl ?_
    refine sp_I (y := (I 29 1)) (by simp [mm_u]) ?_
    refine sp_iload_n 22 rfl rfl rfl ?_
    refine sp_ic_le 25 rfl rfl (fun q_ => ?_) (fun q_ => ?_)
    · have k := k.1 q_
      refine sp_ldc 28 rfl rfl ?_
      refine hs_istore_n 29 (L2 := [some (.ref 29), some (.int a0), some (.int (Int32.ofInt 2147483647)), none, none, none]) rfl rfl rfl rfl ?_
      refine sp_iconst 30 rfl rfl ?_
      refine hs_istore_n 31 (L2 := [some (.ref 29), some (.int a0), some (.int (Int32.ofInt 2147483647)), some (.int (Int32.ofInt 1)), none, none]) rfl rfl rfl rfl ?_
      exact k
    · have k := k.2 q_
      exact st_vret rfl rfl (Nat.le_refl _) (Nat.le_refl _) k
theorem sg_X3_tryRules_31 {SL : Nat} {xs : Nat → Int32} {d : Nat} {p s q : Nat} {Q : Option Value → mm_H → Prop} {v1 : Int32} {v2 : Int32} {v3 : Int32} {I : Nat → Nat → Int32} {J : Nat → Nat → Int64}  (k : (((Int32.ofInt 12) < v3 → Q none (hp p s q I J)) ∧ (¬ ((Int32.ofInt 12) < v3) → w_X3_tryRules_40 SL xs d p s q Q v1 v2 v3 (Int32.ofInt 1) I J))) : w_X3_tryRules_31 SL xs d p s q Q v1 v2 v3 I J := by
  unfold w_X3_tryRules_31
  refine sp_iload_n 32 rfl rfl rfl ?_
  refine sp_bipush 34 rfl rfl ?_
  refine sp_I (y := Int32.ofInt 12) rfl ?_
  refine sp_ic_gt 37 rfl rfl (fun q_ => ?_) (fun q_ => ?_)
  · have k := k.1 q_
    exact st_vret rfl rfl (Nat.le_refl _) (Nat.le_refl _) k
  · have k := k.2 q_
    refine sp_iconst 38 rfl rfl ?_
    refine hs_istore 40 (L2 := [some (.ref 29), some (.int v1), some (.int v2), some (.int v3), some (.int (Int32.ofInt 1)), none]) rfl rfl rfl rfl ?_
    exact k
theorem sg_X3_tryRules_40 {SL : Nat} {xs : Nat → Int32} {d : Nat} {p s q : Nat} {Q : Option Value → mm_H → Prop} {v1 : Int32} {v2 : Int32} {v3 : Int32} {v4 : Int32} {I : Nat → Nat → Int32} {J : Nat → Nat → Int64}  (k : (((Int32.ofInt 12) < v4 → w_X3_tryRules_31 SL xs d p s q Q v1 v2 (v3 + Int32.ofInt 1) I J) ∧ (¬ ((Int32.ofInt 12) < v4) → w_X3_tryRules_50 SL xs d p s q Q v1 v2 v3 v4 (Int32.ofInt 0) I J))) : w_X3_tryRules_40 SL xs d p s q Q v1 v2 v3 v4 I J := by
  unfold w_X3_tryRules_40
  refine sp_iload 42 rfl rfl rfl ?_
  refine sp_bipush 44 rfl rfl ?_
  refine sp_I (y := Int32.ofInt 12) rfl ?_
  refine sp_ic_gt 47 rfl rfl (fun q_ => ?_) (fun q_ => ?_)
  · have k := k.1 q_
    refine hs_iinc 132 (L2 := [some (.ref 29), some (.int v1), some (.int v2), some (.int (v3 + Int32.ofInt 1)), some (.int v4), none]) rfl rfl rfl rfl rfl ?_
    refine sp_goto rfl ?_
    refine st_wk (L1 := [some (.ref 29), some (.int v1), some (.int v2), some (.int (v3 + Int32.ofInt 1)), none, none]) ⟨.inr rfl, .inr rfl, .inr rfl, .inr rfl, .inl rfl, .inl rfl, trivial⟩ ?_
    exact k
  · have k := k.2 q_
    refine sp_iconst 48 rfl rfl ?_
    refine hs_istore 50 (L2 := [some (.ref 29), some (.int v1), some (.int v2), some (.int v3), some (.int v4), some (.int (Int32.ofInt 0))]) rfl rfl rfl rfl ?_
    exact k
theorem sg_X3_tryRules_50 {SL : Nat} {xs : Nat → Int32} {d : Nat} {p s q : Nat} {Q : Option Value → mm_H → Prop} {v1 : Int32} {v2 : Int32} {v3 : Int32} {v4 : Int32} {v5 : Int32} {I : Nat → Nat → Int32} {J : Nat → Nat → Int64}  (k : (((Int32.ofInt 6) < v5 → w_X3_tryRules_40 SL xs d p s q Q v1 v2 v3 (v4 + Int32.ofInt 1) I J) ∧ (¬ ((Int32.ofInt 6) < v5) → (mm_s SL xs (d + 5) 39 [.ref 29, .int v1, .int v3, .int v4, .int v5] (hp p s q I J) (fun r_ h_ => ∃ x1 I1 J1, r_ = some (.int x1) ∧ h_ = hp p s q I1 J1 ∧ ((x1 = Int32.ofInt 0 → w_X3_tryRules_50 SL xs d p s q Q v1 v2 v3 v4 (v5 + Int32.ofInt 1) I1 J1) ∧ (¬ (x1 = Int32.ofInt 0) → ((v2 ≤ ((v3 + v4) + v5) → w_X3_tryRules_50 SL xs d p s q Q v1 v2 v3 v4 (v5 + Int32.ofInt 1) (mm_u I1 29 2 ((I1 29 2) + (Int32.ofInt 1))) J1) ∧ (¬ (v2 ≤ ((v3 + v4) + v5)) → w_X3_tryRules_50 SL xs d p s q Q v1 ((v3 + v4) + v5) v3 v4 (v5 + Int32.ofInt 1) (mm_u (mm_u I1 29 2 ((I1 29 2) + (Int32.ofInt 1))) 29 3 ((((Int32.ofInt 10000) * v3) + ((Int32.ofInt 100) * v4)) + v5)) J1))))))))) : w_X3_tryRules_50 SL xs d p s q Q v1 v2 v3 v4 v5 I J := by
  unfold w_X3_tryRules_50
  refine sp_iload 52 rfl rfl rfl ?_
  refine sp_bipush 54 rfl rfl ?_
  refine sp_I (y := Int32.ofInt 6) rfl ?_
  refine sp_ic_gt 57 rfl rfl (fun q_ => ?_) (fun q_ => ?_)
  · have k := k.1 q_
    refine hs_iinc 126 (L2 := [some (.ref 29), some (.int v1), some (.int v2), some (.int v3), some (.int (v4 + Int32.ofInt 1)), some (.int v5)]) rfl rfl rfl rfl rfl ?_
    refine sp_goto rfl ?_
    refine st_wk (L1 := [some (.ref 29), some (.int v1), some (.int v2), some (.int v3), some (.int (v4 + Int32.ofInt 1)), none]) ⟨.inr rfl, .inr rfl, .inr rfl, .inr rfl, .inr rfl, .inl rfl, trivial⟩ ?_
    exact k
  · have k := k.2 q_
    refine sp_aload_n 58 rfl rfl rfl ?_
    refine sp_iload_n 59 rfl rfl rfl ?_
    refine sp_iload_n 60 rfl rfl rfl ?_
    refine sp_iload 62 rfl rfl rfl ?_
    refine sp_iload 64 rfl rfl rfl ?_
    refine sc_V 67 rfl rfl rfl rfl rfl (Nat.le_refl _) (Nat.le_refl _) rfl ?_
    refine mm_s_mono _ _ _ _ _ _ ?_ k
    rintro r_ h_ ⟨x1, I1, J1, rfl, rfl, k⟩
    refine hs_S (st2 := [.int x1]) rfl ?_
    refine sp_if_eq 70 rfl rfl (fun q_ => ?_) (fun q_ => ?_)
    · have k := k.1 q_
      refine hs_iinc 120 (L2 := [some (.ref 29), some (.int v1), some (.int v2), some (.int v3), some (.int v4), some (.int (v5 + Int32.ofInt 1))]) rfl rfl rfl rfl rfl ?_
      refine sp_goto rfl ?_
      exact k
    · have k := k.2 q_
      refine sp_aload_n 71 rfl rfl rfl ?_
      refine sp_dup 72 rfl rfl rfl ?_
      refine hq_getI 75 rfl rfl rfl ?_
      refine sp_iconst 76 rfl rfl ?_
      refine sp_iadd 77 rfl rfl ?_
      refine hq_putI 80 rfl rfl rfl ?_
      refine sp_iload_n 81 rfl rfl rfl ?_
      refine sp_iload 83 rfl rfl rfl ?_
      refine sp_iadd 84 rfl rfl ?_
      refine sp_iload 86 rfl rfl rfl ?_
      refine sp_iadd 87 rfl rfl ?_
      refine sp_iload_n 88 rfl rfl rfl ?_
      refine sp_ic_ge 91 rfl rfl (fun q_ => ?_) (fun q_ => ?_)
      · have k := k.1 q_
        refine hs_iinc 120 (L2 := [some (.ref 29), some (.int v1), some (.int v2), some (.int v3), some (.int v4), some (.int (v5 + Int32.ofInt 1))]) rfl rfl rfl rfl rfl ?_
        refine sp_goto rfl ?_
        exact k
      · have k := k.2 q_
        refine sp_iload_n 92 rfl rfl rfl ?_
        refine sp_iload 94 rfl rfl rfl ?_
        refine sp_iadd 95 rfl rfl ?_
        refine sp_iload 97 rfl rfl rfl ?_
        refine sp_iadd 98 rfl rfl ?_
        refine hs_istore_n 99 (L2 := [some (.ref 29), some (.int v1), some (.int ((v3 + v4) + v5)), some (.int v3), some (.int v4), some (.int v5)]) rfl rfl rfl rfl ?_
        refine sp_aload_n 100 rfl rfl rfl ?_
        refine sp_sipush 103 rfl rfl ?_
        refine sp_I (y := Int32.ofInt 10000) rfl ?_
        refine sp_iload_n 104 rfl rfl rfl ?_
        refine sp_imul 105 rfl rfl ?_
        refine sp_bipush 107 rfl rfl ?_
        refine sp_I (y := Int32.ofInt 100) rfl ?_
        refine sp_iload 109 rfl rfl rfl ?_
        refine sp_imul 110 rfl rfl ?_
        refine sp_iadd 111 rfl rfl ?_
        refine sp_iload 113 rfl rfl rfl ?_
        refine sp_iadd 114 rfl rfl ?_
        refine hq_putI 117 rfl rfl rfl ?_
        refine hs_iinc 120 (L2 := [some (.ref 29), some (.int v1), some (.int ((v3 + v4) + v5)), some (.int v3), some (.int v4), some (.int (v5 + Int32.ofInt 1))]) rfl rfl rfl rfl rfl ?_
        refine sp_goto rfl ?_
        exact k
theorem sg_X0_leftOf {SL : Nat} {xs : Nat → Int32} {d : Nat} {p s q : Nat} {Q : Option Value → mm_H → Prop} {a0 : Nat} {a1 : Nat} {a2 : Int32} {I : Nat → Nat → Int32} {J : Nat → Nat → Int64}  (k : (mm_s SL xs (d + 6) 14 [.ref 21, .ref a1] (hp p s q I J) (fun r_ h_ => ∃ I1 J1, r_ = none ∧ h_ = hp p s q I1 J1 ∧ (mm_s SL xs (d + 6) 19 [.ref 21, .ref a0, .int a2, .int (Int32.ofInt 1000)] (hp p s q I1 J1) (fun r_ h_ => ∃ x2 I2 J2, r_ = some (.int x2) ∧ h_ = hp p s q I2 J2 ∧ Q (some (.long (J2 21 1))) (hp p s q I2 J2)))))) : mm_s SL xs (d + 7) 1 [.ref 20, .ref a0, .ref a1, .int a2] (hp p s q I J) Q := by
  refine e_X0_leftOf rfl ?_
  refine hs_L (L2 := [some (.ref 20), some (.ref a0), some (.ref a1), some (.int a2)]) rfl ?_
  refine sp_aload_n 1 rfl rfl rfl ?_
  refine hq_getR 4 rfl rfl rfl rfl ?_
  refine sp_aload_n 5 rfl rfl rfl ?_
  refine sc_V 8 rfl rfl rfl rfl rfl (Nat.le_refl _) (Nat.le_refl _) rfl ?_
  refine mm_s_mono _ _ _ _ _ _ ?_ k
  rintro r_ h_ ⟨I1, J1, rfl, rfl, k⟩
  refine hs_S (st2 := []) rfl ?_
  refine sp_aload_n 9 rfl rfl rfl ?_
  refine hq_getR 12 rfl rfl rfl rfl ?_
  refine sp_aload_n 13 rfl rfl rfl ?_
  refine sp_iload_n 14 rfl rfl rfl ?_
  refine sp_sipush 17 rfl rfl ?_
  refine sp_I (y := Int32.ofInt 1000) rfl ?_
  refine sc_V 20 rfl rfl rfl rfl rfl (Nat.le_refl _) (Nat.le_refl _) rfl ?_
  refine mm_s_mono _ _ _ _ _ _ ?_ k
  rintro r_ h_ ⟨x2, I2, J2, rfl, rfl, k⟩
  refine hs_S (st2 := [.int x2]) rfl ?_
  refine sp_pop 21 rfl rfl rfl ?_
  refine sp_aload_n 22 rfl rfl rfl ?_
  refine hq_getR 25 rfl rfl rfl rfl ?_
  refine hq_getJ 28 rfl rfl rfl ?_
  exact st_lret rfl rfl (Nat.le_refl _) (Nat.le_refl _) k
def w_X0_goodFor_28 (SL : Nat) (xs : Nat → Int32) (d : Nat) (p s q : Nat) (Q : Option Value → mm_H → Prop) (a0 : Nat) (a1 : Nat) (v3 : Int32) (v4 : Int64) (v6 : Int32) (I : Nat → Nat → Int32) (J : Nat → Nat → Int64) : Prop := mm_w SL xs (mm_s SL xs (d + 6)) mm_am kX0_goodFor 0 0 (some .long) Q 28 [some (.ref 20), some (.ref a0), some (.ref a1), some (.int v3), some (.long v4), none, some (.int v6)] [] (hp p s q I J) 0 0
theorem sg_X0_goodFor {SL : Nat} {xs : Nat → Int32} {d : Nat} {p s q : Nat} {Q : Option Value → mm_H → Prop} {a0 : Nat} {a1 : Nat} {a2 : Int32} {I : Nat → Nat → Int32} {J : Nat → Nat → Int64} (h_a0 : isP a0) (k : (mm_s SL xs (d + 6) 14 [.ref 21, .ref a1] (hp p s q I J) (fun r_ h_ => ∃ I1 J1, r_ = none ∧ h_ = hp p s q I1 J1 ∧ (mm_s SL xs (d + 6) 19 [.ref 21, .ref a0, .int (I1 a0 2), .int a2] (hp p s q I1 J1) (fun r_ h_ => ∃ x2 I2 J2, r_ = some (.int x2) ∧ h_ = hp p s q I2 J2 ∧ w_X0_goodFor_28 SL xs d p s q Q a0 a1 a2 (Int64.ofInt 0) (Int32.ofInt 0) I2 J2))))) : mm_s SL xs (d + 7) 3 [.ref 20, .ref a0, .ref a1, .int a2] (hp p s q I J) Q := by
  refine e_X0_goodFor rfl ?_
  refine hs_L (L2 := [some (.ref 20), some (.ref a0), some (.ref a1), some (.int a2), none, none, none]) rfl ?_
  refine sp_aload_n 1 rfl rfl rfl ?_
  refine hq_getR 4 rfl rfl rfl rfl ?_
  refine sp_aload_n 5 rfl rfl rfl ?_
  refine sc_V 8 rfl rfl rfl rfl rfl (Nat.le_refl _) (Nat.le_refl _) rfl ?_
  refine mm_s_mono _ _ _ _ _ _ ?_ k
  rintro r_ h_ ⟨I1, J1, rfl, rfl, k⟩
  refine hs_S (st2 := []) rfl ?_
  refine sp_aload_n 9 rfl rfl rfl ?_
  refine hq_getR 12 rfl rfl rfl rfl ?_
  refine sp_aload_n 13 rfl rfl rfl ?_
  refine sp_aload_n 14 rfl rfl rfl ?_
  refine hq_getI 17 rfl (kP0 h_a0) rfl ?_
  refine sp_iload_n 18 rfl rfl rfl ?_
  refine sc_V 21 rfl rfl rfl rfl rfl (Nat.le_refl _) (Nat.le_refl _) rfl ?_
  refine mm_s_mono _ _ _ _ _ _ ?_ k
  rintro r_ h_ ⟨x2, I2, J2, rfl, rfl, k⟩
  refine hs_S (st2 := [.int x2]) rfl ?_
  refine sp_pop 22 rfl rfl rfl ?_
  refine sp_lconst 23 rfl rfl ?_
  refine sp_J (y := Int64.ofInt 0) rfl ?_
  refine hs_lstore 25 (L2 := [some (.ref 20), some (.ref a0), some (.ref a1), some (.int a2), some (.long (Int64.ofInt 0)), none, none]) rfl rfl rfl rfl ?_
  refine sp_iconst 26 rfl rfl ?_
  refine hs_istore 28 (L2 := [some (.ref 20), some (.ref a0), some (.ref a1), some (.int a2), some (.long (Int64.ofInt 0)), none, some (.int (Int32.ofInt 0))]) rfl rfl rfl rfl ?_
  exact k
theorem sg_X0_goodFor_28 {SL : Nat} {xs : Nat → Int32} {d : Nat} {p s q : Nat} {Q : Option Value → mm_H → Prop} {a0 : Nat} {a1 : Nat} {v3 : Int32} {v4 : Int64} {v6 : Int32} {I : Nat → Nat → Int32} {J : Nat → Nat → Int64} (h_a0 : isP a0) (k : (((I a0 0) ≤ v6 → Q (some (.long v4)) (hp p s q I J)) ∧ (¬ ((I a0 0) ≤ v6) → (((sy_X1_standsAt 21 v6 I J) = Int32.ofInt 0 → (mm_s SL xs (d + 6) 14 [.ref 25, .ref 21] (hp p s q I J) (fun r_ h_ => ∃ I1 J1, r_ = none ∧ h_ = hp p s q I1 J1 ∧ (mm_s SL xs (d + 6) 18 [.ref 25, .int v6] (hp p s q I1 J1) (fun r_ h_ => ∃ I2 J2, r_ = none ∧ h_ = hp p s q I2 J2 ∧ (mm_s SL xs (d + 6) 5 [.ref 20, .ref a0, .int v6] (hp p s q I2 J2) (fun r_ h_ => ∃ x3 I3 J3, r_ = some (.int x3) ∧ h_ = hp p s q I3 J3 ∧ ((x3 = Int32.ofInt 0 → w_X0_goodFor_28 SL xs d p s q Q a0 a1 v3 v4 (v6 + Int32.ofInt 1) I3 J3) ∧ (¬ (x3 = Int32.ofInt 0) → w_X0_goodFor_28 SL xs d p s q Q a0 a1 v3 (v4 ||| (sx_X6_bit v6)) (v6 + Int32.ofInt 1) I3 J3))))))))) ∧ (¬ ((sy_X1_standsAt 21 v6 I J) = Int32.ofInt 0) → w_X0_goodFor_28 SL xs d p s q Q a0 a1 v3 v4 (v6 + Int32.ofInt 1) I J))))) : w_X0_goodFor_28 SL xs d p s q Q a0 a1 v3 v4 v6 I J := by
  unfold w_X0_goodFor_28
  refine sp_iload 30 rfl rfl rfl ?_
  refine sp_aload_n 31 rfl rfl rfl ?_
  refine hq_getI 34 rfl (kP0 h_a0) rfl ?_
  refine sp_ic_ge 37 rfl rfl (fun q_ => ?_) (fun q_ => ?_)
  · have k := k.1 q_
    refine sp_lload 97 rfl rfl rfl ?_
    exact st_lret rfl rfl (Nat.le_refl _) (Nat.le_refl _) k
  · have k := k.2 q_
    refine sp_aload_n 38 rfl rfl rfl ?_
    refine hq_getR 41 rfl rfl rfl rfl ?_
    refine sp_iload 43 rfl rfl rfl ?_
    refine sc_V 46 rfl rfl rfl rfl rfl (Nat.le_refl _) (Nat.le_refl _) rfl ?_
    refine cy_X1_standsAt isC_21 ?_
    refine sp_if_ne 49 rfl rfl (fun q_ => ?_) (fun q_ => ?_)
    · have k := k.2 q_
      refine hs_iinc 92 (L2 := [some (.ref 20), some (.ref a0), some (.ref a1), some (.int v3), some (.long v4), none, some (.int (v6 + Int32.ofInt 1))]) rfl rfl rfl rfl rfl ?_
      refine sp_goto rfl ?_
      exact k
    · have k := k.1 q_
      refine sp_aload_n 50 rfl rfl rfl ?_
      refine hq_getR 53 rfl rfl rfl rfl ?_
      refine sp_aload_n 54 rfl rfl rfl ?_
      refine hq_getR 57 rfl rfl rfl rfl ?_
      refine sc_V 60 rfl rfl rfl rfl rfl (Nat.le_refl _) (Nat.le_refl _) rfl ?_
      refine mm_s_mono _ _ _ _ _ _ ?_ k
      rintro r_ h_ ⟨I1, J1, rfl, rfl, k⟩
      refine hs_S (st2 := []) rfl ?_
      refine sp_aload_n 61 rfl rfl rfl ?_
      refine hq_getR 64 rfl rfl rfl rfl ?_
      refine sp_iload 66 rfl rfl rfl ?_
      refine sc_V 69 rfl rfl rfl rfl rfl (Nat.le_refl _) (Nat.le_refl _) rfl ?_
      refine mm_s_mono _ _ _ _ _ _ ?_ k
      rintro r_ h_ ⟨I2, J2, rfl, rfl, k⟩
      refine hs_S (st2 := []) rfl ?_
      refine sp_aload_n 70 rfl rfl rfl ?_
      refine sp_aload_n 71 rfl rfl rfl ?_
      refine sp_iload 73 rfl rfl rfl ?_
      refine sc_V 76 rfl rfl rfl rfl rfl (Nat.le_refl _) (Nat.le_refl _) rfl ?_
      refine mm_s_mono _ _ _ _ _ _ ?_ k
      rintro r_ h_ ⟨x3, I3, J3, rfl, rfl, k⟩
      refine hs_S (st2 := [.int x3]) rfl ?_
      refine sp_if_eq 79 rfl rfl (fun q_ => ?_) (fun q_ => ?_)
      · have k := k.1 q_
        refine hs_iinc 92 (L2 := [some (.ref 20), some (.ref a0), some (.ref a1), some (.int v3), some (.long v4), none, some (.int (v6 + Int32.ofInt 1))]) rfl rfl rfl rfl rfl ?_
        refine sp_goto rfl ?_
        exact k
      · have k := k.2 q_
        refine sp_lload 81 rfl rfl rfl ?_
        refine sp_iload 83 rfl rfl rfl ?_
        refine sc_S 86 rfl rfl rfl rfl (Nat.le_refl _) (Nat.le_refl _) rfl ?_
        refine cx_X6_bit ?_
        refine hs_S (st2 := [.long (sx_X6_bit v6), .long v4]) rfl ?_
        refine sp_lor 87 rfl rfl ?_
        refine hs_lstore 89 (L2 := [some (.ref 20), some (.ref a0), some (.ref a1), some (.int v3), some (.long (v4 ||| (sx_X6_bit v6))), none, some (.int v6)]) rfl rfl rfl rfl ?_
        refine hs_iinc 92 (L2 := [some (.ref 20), some (.ref a0), some (.ref a1), some (.int v3), some (.long (v4 ||| (sx_X6_bit v6))), none, some (.int (v6 + Int32.ofInt 1))]) rfl rfl rfl rfl rfl ?_
        refine sp_goto rfl ?_
        exact k
def w_X0_beginsFor_5 (SL : Nat) (xs : Nat → Int32) (d : Nat) (p s q : Nat) (Q : Option Value → mm_H → Prop) (a0 : Nat) (v2 : Int32) (v3 : Int64) (v5 : Int32) (I : Nat → Nat → Int32) (J : Nat → Nat → Int64) : Prop := mm_w SL xs (mm_s SL xs (d + 6)) mm_am kX0_beginsFor 0 0 (some .long) Q 5 [some (.ref 20), some (.ref a0), some (.int v2), some (.long v3), none, some (.int v5)] [] (hp p s q I J) 0 0
theorem sg_X0_beginsFor {SL : Nat} {xs : Nat → Int32} {d : Nat} {p s q : Nat} {Q : Option Value → mm_H → Prop} {a0 : Nat} {a1 : Int32} {I : Nat → Nat → Int32} {J : Nat → Nat → Int64}  (k : w_X0_beginsFor_5 SL xs d p s q Q a0 a1 (Int64.ofInt 0) (Int32.ofInt 0) I J) : mm_s SL xs (d + 7) 8 [.ref 20, .ref a0, .int a1] (hp p s q I J) Q := by
  refine e_X0_beginsFor rfl ?_
  refine hs_L (L2 := [some (.ref 20), some (.ref a0), some (.int a1), none, none, none]) rfl ?_
  refine sp_lconst 1 rfl rfl ?_
  refine sp_J (y := Int64.ofInt 0) rfl ?_
  refine hs_lstore_n 2 (L2 := [some (.ref 20), some (.ref a0), some (.int a1), some (.long (Int64.ofInt 0)), none, none]) rfl rfl rfl rfl ?_
  refine sp_iconst 3 rfl rfl ?_
  refine hs_istore 5 (L2 := [some (.ref 20), some (.ref a0), some (.int a1), some (.long (Int64.ofInt 0)), none, some (.int (Int32.ofInt 0))]) rfl rfl rfl rfl ?_
  exact k
theorem sg_X0_beginsFor_5 {SL : Nat} {xs : Nat → Int32} {d : Nat} {p s q : Nat} {Q : Option Value → mm_H → Prop} {a0 : Nat} {v2 : Int32} {v3 : Int64} {v5 : Int32} {I : Nat → Nat → Int32} {J : Nat → Nat → Int64} (h_a0 : isP a0) (k : (((I a0 0) ≤ v5 → Q (some (.long v3)) (hp p s q I J)) ∧ (¬ ((I a0 0) ≤ v5) → (mm_s SL xs (d + 6) 13 [.ref 25, .ref a0, .int v5] (hp p s q I J) (fun r_ h_ => ∃ I1 J1, r_ = none ∧ h_ = hp p s q I1 J1 ∧ (mm_s SL xs (d + 6) 5 [.ref 20, .ref a0, .int v2] (hp p s q I1 J1) (fun r_ h_ => ∃ x2 I2 J2, r_ = some (.int x2) ∧ h_ = hp p s q I2 J2 ∧ ((x2 = Int32.ofInt 0 → w_X0_beginsFor_5 SL xs d p s q Q a0 v2 v3 (v5 + Int32.ofInt 1) I2 J2) ∧ (¬ (x2 = Int32.ofInt 0) → w_X0_beginsFor_5 SL xs d p s q Q a0 v2 (v3 ||| (sx_X6_bit v5)) (v5 + Int32.ofInt 1) I2 J2))))))))) : w_X0_beginsFor_5 SL xs d p s q Q a0 v2 v3 v5 I J := by
  unfold w_X0_beginsFor_5
  refine sp_iload 7 rfl rfl rfl ?_
  refine sp_aload_n 8 rfl rfl rfl ?_
  refine hq_getI 11 rfl (kP0 h_a0) rfl ?_
  refine sp_ic_ge 14 rfl rfl (fun q_ => ?_) (fun q_ => ?_)
  · have k := k.1 q_
    refine sp_lload_n 48 rfl rfl rfl ?_
    exact st_lret rfl rfl (Nat.le_refl _) (Nat.le_refl _) k
  · have k := k.2 q_
    refine sp_aload_n 15 rfl rfl rfl ?_
    refine hq_getR 18 rfl rfl rfl rfl ?_
    refine sp_aload_n 19 rfl rfl rfl ?_
    refine sp_iload 21 rfl rfl rfl ?_
    refine sc_V 24 rfl rfl rfl rfl rfl (Nat.le_refl _) (Nat.le_refl _) rfl ?_
    refine mm_s_mono _ _ _ _ _ _ ?_ k
    rintro r_ h_ ⟨I1, J1, rfl, rfl, k⟩
    refine hs_S (st2 := []) rfl ?_
    refine sp_aload_n 25 rfl rfl rfl ?_
    refine sp_aload_n 26 rfl rfl rfl ?_
    refine sp_iload_n 27 rfl rfl rfl ?_
    refine sc_V 30 rfl rfl rfl rfl rfl (Nat.le_refl _) (Nat.le_refl _) rfl ?_
    refine mm_s_mono _ _ _ _ _ _ ?_ k
    rintro r_ h_ ⟨x2, I2, J2, rfl, rfl, k⟩
    refine hs_S (st2 := [.int x2]) rfl ?_
    refine sp_if_eq 33 rfl rfl (fun q_ => ?_) (fun q_ => ?_)
    · have k := k.1 q_
      refine hs_iinc 44 (L2 := [some (.ref 20), some (.ref a0), some (.int v2), some (.long v3), none, some (.int (v5 + Int32.ofInt 1))]) rfl rfl rfl rfl rfl ?_
      refine sp_goto rfl ?_
      exact k
    · have k := k.2 q_
      refine sp_lload_n 34 rfl rfl rfl ?_
      refine sp_iload 36 rfl rfl rfl ?_
      refine sc_S 39 rfl rfl rfl rfl (Nat.le_refl _) (Nat.le_refl _) rfl ?_
      refine cx_X6_bit ?_
      refine hs_S (st2 := [.long (sx_X6_bit v5), .long v3]) rfl ?_
      refine sp_lor 40 rfl rfl ?_
      refine hs_lstore_n 41 (L2 := [some (.ref 20), some (.ref a0), some (.int v2), some (.long (v3 ||| (sx_X6_bit v5))), none, some (.int v5)]) rfl rfl rfl rfl ?_
      refine hs_iinc 44 (L2 := [some (.ref 20), some (.ref a0), some (.int v2), some (.long (v3 ||| (sx_X6_bit v5))), none, some (.int (v5 + Int32.ofInt 1))]) rfl rfl rfl rfl rfl ?_
      refine sp_goto rfl ?_
      exact k
def w_X0_choiceFor_16 (SL : Nat) (xs : Nat → Int32) (d : Nat) (p s q : Nat) (Q : Option Value → mm_H → Prop) (a0 : Nat) (v2 : Int64) (v4 : Int32) (I : Nat → Nat → Int32) (J : Nat → Nat → Int64) : Prop := mm_w SL xs (mm_s SL xs (d + 6)) mm_am kX0_choiceFor 0 0 (some .int) Q 16 [some (.ref 20), some (.ref a0), some (.long v2), none, some (.int v4)] [] (hp p s q I J) 0 0
theorem sg_X0_choiceFor {SL : Nat} {xs : Nat → Int32} {d : Nat} {p s q : Nat} {Q : Option Value → mm_H → Prop} {a0 : Nat} {a1 : Int64} {I : Nat → Nat → Int32} {J : Nat → Nat → Int64} (h_a0 : isP a0) (k : (((sx_J13_bitCount_95d88 a1) ≤ (I a0 2) → w_X0_choiceFor_16 SL xs d p s q Q a0 a1 (Int32.ofInt 1) I J) ∧ (¬ ((sx_J13_bitCount_95d88 a1) ≤ (I a0 2)) → Q (some (.int (Int32.ofInt (-1)))) (hp p s q I J)))) : mm_s SL xs (d + 7) 9 [.ref 20, .ref a0, .long a1] (hp p s q I J) Q := by
  refine e_X0_choiceFor rfl ?_
  refine hs_L (L2 := [some (.ref 20), some (.ref a0), some (.long a1), none, none]) rfl ?_
  refine sp_lload_n 1 rfl rfl rfl ?_
  refine sc_S 4 rfl rfl rfl rfl (Nat.le_refl _) (Nat.le_refl _) rfl ?_
  refine cx_J13_bitCount_95d88 ?_
  refine hs_S (st2 := [.int (sx_J13_bitCount_95d88 a1)]) rfl ?_
  refine sp_aload_n 5 rfl rfl rfl ?_
  refine hq_getI 8 rfl (kP0 h_a0) rfl ?_
  refine sp_ic_le 11 rfl rfl (fun q_ => ?_) (fun q_ => ?_)
  · have k := k.1 q_
    refine sp_iconst 14 rfl rfl ?_
    refine hs_istore 16 (L2 := [some (.ref 20), some (.ref a0), some (.long a1), none, some (.int (Int32.ofInt 1))]) rfl rfl rfl rfl ?_
    exact k
  · have k := k.2 q_
    refine sp_iconst 12 rfl rfl ?_
    exact st_iret rfl rfl (Nat.le_refl _) (Nat.le_refl _) k
theorem sg_X0_choiceFor_16 {SL : Nat} {xs : Nat → Int32} {d : Nat} {p s q : Nat} {Q : Option Value → mm_H → Prop} {a0 : Nat} {v2 : Int64} {v4 : Int32} {I : Nat → Nat → Int32} {J : Nat → Nat → Int64}  (k : (((Int32.ofInt 999) < v4 → Q (some (.int (Int32.ofInt (-1)))) (hp p s q I J)) ∧ (¬ ((Int32.ofInt 999) < v4) → (mm_s SL xs (d + 6) 10 [.ref 20, .ref a0, .long v2, .int v4] (hp p s q I J) (fun r_ h_ => ∃ x1 I1 J1, r_ = some (.int x1) ∧ h_ = hp p s q I1 J1 ∧ ((x1 = Int32.ofInt 0 → w_X0_choiceFor_16 SL xs d p s q Q a0 v2 (v4 + Int32.ofInt 1) I1 J1) ∧ (¬ (x1 = Int32.ofInt 0) → Q (some (.int v4)) (hp p s q I1 J1)))))))) : w_X0_choiceFor_16 SL xs d p s q Q a0 v2 v4 I J := by
  unfold w_X0_choiceFor_16
  refine sp_iload 18 rfl rfl rfl ?_
  refine sp_sipush 21 rfl rfl ?_
  refine sp_I (y := Int32.ofInt 999) rfl ?_
  refine sp_ic_gt 24 rfl rfl (fun q_ => ?_) (fun q_ => ?_)
  · have k := k.1 q_
    refine sp_iconst 45 rfl rfl ?_
    exact st_iret rfl rfl (Nat.le_refl _) (Nat.le_refl _) k
  · have k := k.2 q_
    refine sp_aload_n 25 rfl rfl rfl ?_
    refine sp_aload_n 26 rfl rfl rfl ?_
    refine sp_lload_n 27 rfl rfl rfl ?_
    refine sp_iload 29 rfl rfl rfl ?_
    refine sc_V 32 rfl rfl rfl rfl rfl (Nat.le_refl _) (Nat.le_refl _) rfl ?_
    refine mm_s_mono _ _ _ _ _ _ ?_ k
    rintro r_ h_ ⟨x1, I1, J1, rfl, rfl, k⟩
    refine hs_S (st2 := [.int x1]) rfl ?_
    refine sp_if_eq 35 rfl rfl (fun q_ => ?_) (fun q_ => ?_)
    · have k := k.1 q_
      refine hs_iinc 41 (L2 := [some (.ref 20), some (.ref a0), some (.long v2), none, some (.int (v4 + Int32.ofInt 1))]) rfl rfl rfl rfl rfl ?_
      refine sp_goto rfl ?_
      exact k
    · have k := k.2 q_
      refine sp_iload 37 rfl rfl rfl ?_
      exact st_iret rfl rfl (Nat.le_refl _) (Nat.le_refl _) k
theorem sg_X0_wholeCourse {SL : Nat} {xs : Nat → Int32} {d : Nat} {p s q : Nat} {Q : Option Value → mm_H → Prop} {a0 : Nat} {I : Nat → Nat → Int32} {J : Nat → Nat → Int64} (h_a0 : isP a0) (k : (mm_s SL xs (d + 6) 13 [.ref 21, .ref a0, .int (I a0 1)] (hp p s q I J) (fun r_ h_ => ∃ I1 J1, r_ = none ∧ h_ = hp p s q I1 J1 ∧ (mm_s SL xs (d + 6) 19 [.ref 21, .ref a0, .int (I1 a0 2), .int (Int32.ofInt 1000)] (hp p s q I1 J1) (fun r_ h_ => ∃ x2 I2 J2, r_ = some (.int x2) ∧ h_ = hp p s q I2 J2 ∧ Q (some (.ref 21)) (hp p s q I2 J2)))))) : mm_s SL xs (d + 7) 11 [.ref 20, .ref a0] (hp p s q I J) Q := by
  refine e_X0_wholeCourse rfl ?_
  refine hs_L (L2 := [some (.ref 20), some (.ref a0)]) rfl ?_
  refine sp_aload_n 1 rfl rfl rfl ?_
  refine hq_getR 4 rfl rfl rfl rfl ?_
  refine sp_aload_n 5 rfl rfl rfl ?_
  refine sp_aload_n 6 rfl rfl rfl ?_
  refine hq_getI 9 rfl (kP0 h_a0) rfl ?_
  refine sc_V 12 rfl rfl rfl rfl rfl (Nat.le_refl _) (Nat.le_refl _) rfl ?_
  refine mm_s_mono _ _ _ _ _ _ ?_ k
  rintro r_ h_ ⟨I1, J1, rfl, rfl, k⟩
  refine hs_S (st2 := []) rfl ?_
  refine sp_aload_n 13 rfl rfl rfl ?_
  refine hq_getR 16 rfl rfl rfl rfl ?_
  refine sp_aload_n 17 rfl rfl rfl ?_
  refine sp_aload_n 18 rfl rfl rfl ?_
  refine hq_getI 21 rfl (kP0 h_a0) rfl ?_
  refine sp_sipush 24 rfl rfl ?_
  refine sp_I (y := Int32.ofInt 1000) rfl ?_
  refine sc_V 27 rfl rfl rfl rfl rfl (Nat.le_refl _) (Nat.le_refl _) rfl ?_
  refine mm_s_mono _ _ _ _ _ _ ?_ k
  rintro r_ h_ ⟨x2, I2, J2, rfl, rfl, k⟩
  refine hs_S (st2 := [.int x2]) rfl ?_
  refine sp_pop 28 rfl rfl rfl ?_
  refine sp_aload_n 29 rfl rfl rfl ?_
  refine hq_getR 32 rfl rfl rfl rfl ?_
  exact st_aret rfl rfl (Nat.le_refl _) (Nat.le_refl _) k
theorem sg_X0_goingOf {SL : Nat} {xs : Nat → Int32} {d : Nat} {p s q : Nat} {Q : Option Value → mm_H → Prop} {a0 : Nat} {a1 : Nat} {a2 : Int32} {I : Nat → Nat → Int32} {J : Nat → Nat → Int64} (h_a0 : isP a0) (h_a1 : isC a1) (k : (((sy_X1_standsAt a1 a2 I J) = Int32.ofInt 0 → Q (some (.int (Int32.ofInt (-1)))) (hp p s q I J)) ∧ (¬ ((sy_X1_standsAt a1 a2 I J) = Int32.ofInt 0) → ((a2 < Int32.ofInt 0 → Q (some (.int (Int32.ofInt (-1)))) (hp p s q I J)) ∧ (¬ (a2 < Int32.ofInt 0) → ((a2 < (Int32.ofInt 60) → (mm_s SL xs (d + 7) 1 [.ref 20, .ref a0, .ref a1, .int (I a0 2)] (hp p s q I J) (fun r_ h_ => ∃ x1 I1 J1, r_ = some (.long x1) ∧ h_ = hp p s q I1 J1 ∧ (vp_in a2 60 ∧ Q (some (.int (I1 23 ((a2).toNatClampNeg)))) (hp p s q I1 J1))))) ∧ (¬ (a2 < (Int32.ofInt 60)) → Q (some (.int (Int32.ofInt (-1)))) (hp p s q I J)))))))) : mm_s SL xs (d + 8) 2 [.ref 20, .ref a0, .ref a1, .int a2] (hp p s q I J) Q := by
  refine e_X0_goingOf rfl ?_
  refine hs_L (L2 := [some (.ref 20), some (.ref a0), some (.ref a1), some (.int a2)]) rfl ?_
  refine sp_aload_n 1 rfl rfl rfl ?_
  refine sp_iload_n 2 rfl rfl rfl ?_
  refine sc_V 5 rfl rfl (kC0 h_a1) rfl rfl (Nat.le_refl _) (Nat.le_refl _) rfl ?_
  refine cy_X1_standsAt h_a1 ?_
  refine sp_if_eq 8 rfl rfl (fun q_ => ?_) (fun q_ => ?_)
  · have k := k.1 q_
    refine sp_iconst 19 rfl rfl ?_
    exact st_iret rfl rfl (Nat.le_refl _) (Nat.le_refl _) k
  · have k := k.2 q_
    refine sp_iload_n 9 rfl rfl rfl ?_
    refine sp_if_lt 12 rfl rfl (fun q_ => ?_) (fun q_ => ?_)
    · have k := k.1 q_
      refine sp_iconst 19 rfl rfl ?_
      exact st_iret rfl rfl (Nat.le_refl _) (Nat.le_refl _) k
    · have k := k.2 q_
      refine sp_iload_n 13 rfl rfl rfl ?_
      refine sp_bipush 15 rfl rfl ?_
      refine sp_I (y := Int32.ofInt 60) rfl ?_
      refine sp_ic_lt 18 rfl rfl (fun q_ => ?_) (fun q_ => ?_)
      · have k := k.1 q_
        refine sp_aload_n 21 rfl rfl rfl ?_
        refine sp_aload_n 22 rfl rfl rfl ?_
        refine sp_aload_n 23 rfl rfl rfl ?_
        refine sp_aload_n 24 rfl rfl rfl ?_
        refine hq_getI 27 rfl (kP0 h_a0) rfl ?_
        refine sc_V 30 rfl rfl rfl rfl rfl (Nat.le_refl _) (Nat.le_refl _) rfl ?_
        refine mm_s_mono _ _ _ _ _ _ ?_ k
        rintro r_ h_ ⟨x1, I1, J1, rfl, rfl, k⟩
        refine hs_S (st2 := [.long x1]) rfl ?_
        refine sp_pop2 31 rfl rfl rfl ?_
        refine sp_aload_n 32 rfl rfl rfl ?_
        refine hq_getR 35 rfl rfl rfl rfl ?_
        refine hq_getR 38 rfl rfl rfl rfl ?_
        refine sp_iload_n 39 rfl rfl rfl ?_
        have n1_ := k.1
        have k := k.2
        refine hq_iald 40 rfl rfl n1_ rfl ?_
        exact st_iret rfl rfl (Nat.le_refl _) (Nat.le_refl _) k
      · have k := k.2 q_
        refine sp_iconst 19 rfl rfl ?_
        exact st_iret rfl rfl (Nat.le_refl _) (Nat.le_refl _) k
def w_X0_bribeFor_38 (SL : Nat) (xs : Nat → Int32) (d : Nat) (p s q : Nat) (Q : Option Value → mm_H → Prop) (a0 : Nat) (a1 : Nat) (v3 : Int32) (v4 : Int32) (I : Nat → Nat → Int32) (J : Nat → Nat → Int64) : Prop := mm_w SL xs (mm_s SL xs (d + 7)) mm_am kX0_bribeFor 0 0 (some .int) Q 38 [some (.ref 20), some (.ref a0), some (.ref a1), some (.int v3), some (.int v4), none] [] (hp p s q I J) 0 0
theorem sg_X0_bribeFor {SL : Nat} {xs : Nat → Int32} {d : Nat} {p s q : Nat} {Q : Option Value → mm_H → Prop} {a0 : Nat} {a1 : Nat} {a2 : Int32} {I : Nat → Nat → Int32} {J : Nat → Nat → Int64} (h_a0 : isP a0) (h_a1 : isC a1) (k : (((sy_X1_standsAt a1 a2 I J) = Int32.ofInt 0 → Q (some (.int (Int32.ofInt (-1)))) (hp p s q I J)) ∧ (¬ ((sy_X1_standsAt a1 a2 I J) = Int32.ofInt 0) → (mm_s SL xs (d + 7) 1 [.ref 20, .ref a0, .ref a1, .int (I a0 2)] (hp p s q I J) (fun r_ h_ => ∃ x1 I1 J1, r_ = some (.long x1) ∧ h_ = hp p s q I1 J1 ∧ (((sx_X6_has x1 a2) = Int32.ofInt 0 → (mm_s SL xs (d + 7) 14 [.ref 21, .ref a1] (hp p s q I1 J1) (fun r_ h_ => ∃ I2 J2, r_ = none ∧ h_ = hp p s q I2 J2 ∧ w_X0_bribeFor_38 SL xs d p s q Q a0 a1 a2 (Int32.ofInt 0) I2 J2))) ∧ (¬ ((sx_X6_has x1 a2) = Int32.ofInt 0) → Q (some (.int (Int32.ofInt (-1)))) (hp p s q I1 J1)))))))) : mm_s SL xs (d + 8) 4 [.ref 20, .ref a0, .ref a1, .int a2] (hp p s q I J) Q := by
  refine e_X0_bribeFor rfl ?_
  refine hs_L (L2 := [some (.ref 20), some (.ref a0), some (.ref a1), some (.int a2), none, none]) rfl ?_
  refine sp_aload_n 1 rfl rfl rfl ?_
  refine sp_iload_n 2 rfl rfl rfl ?_
  refine sc_V 5 rfl rfl (kC0 h_a1) rfl rfl (Nat.le_refl _) (Nat.le_refl _) rfl ?_
  refine cy_X1_standsAt h_a1 ?_
  refine sp_if_eq 8 rfl rfl (fun q_ => ?_) (fun q_ => ?_)
  · have k := k.1 q_
    refine sp_iconst 26 rfl rfl ?_
    exact st_iret rfl rfl (Nat.le_refl _) (Nat.le_refl _) k
  · have k := k.2 q_
    refine sp_aload_n 9 rfl rfl rfl ?_
    refine sp_aload_n 10 rfl rfl rfl ?_
    refine sp_aload_n 11 rfl rfl rfl ?_
    refine sp_aload_n 12 rfl rfl rfl ?_
    refine hq_getI 15 rfl (kP0 h_a0) rfl ?_
    refine sc_V 18 rfl rfl rfl rfl rfl (Nat.le_refl _) (Nat.le_refl _) rfl ?_
    refine mm_s_mono _ _ _ _ _ _ ?_ k
    rintro r_ h_ ⟨x1, I1, J1, rfl, rfl, k⟩
    refine hs_S (st2 := [.long x1]) rfl ?_
    refine sp_iload_n 19 rfl rfl rfl ?_
    refine sc_S 22 rfl rfl rfl rfl (Nat.le_refl _) (Nat.le_refl _) rfl ?_
    refine cx_X6_has ?_
    refine hs_S (st2 := [.int (sx_X6_has x1 a2)]) rfl ?_
    refine sp_if_eq 25 rfl rfl (fun q_ => ?_) (fun q_ => ?_)
    · have k := k.1 q_
      refine sp_aload_n 28 rfl rfl rfl ?_
      refine hq_getR 31 rfl rfl rfl rfl ?_
      refine sp_aload_n 32 rfl rfl rfl ?_
      refine sc_V 35 rfl rfl rfl rfl rfl (Nat.le_refl _) (Nat.le_refl _) rfl ?_
      refine mm_s_mono _ _ _ _ _ _ ?_ k
      rintro r_ h_ ⟨I2, J2, rfl, rfl, k⟩
      refine hs_S (st2 := []) rfl ?_
      refine sp_iconst 36 rfl rfl ?_
      refine hs_istore 38 (L2 := [some (.ref 20), some (.ref a0), some (.ref a1), some (.int a2), some (.int (Int32.ofInt 0)), none]) rfl rfl rfl rfl ?_
      exact k
    · have k := k.2 q_
      refine sp_iconst 26 rfl rfl ?_
      exact st_iret rfl rfl (Nat.le_refl _) (Nat.le_refl _) k
theorem sg_X0_bribeFor_38 {SL : Nat} {xs : Nat → Int32} {d : Nat} {p s q : Nat} {Q : Option Value → mm_H → Prop} {a0 : Nat} {a1 : Nat} {v3 : Int32} {v4 : Int32} {I : Nat → Nat → Int32} {J : Nat → Nat → Int64}  (k : (((Int32.ofInt 1000) ≤ v4 → Q (some (.int (Int32.ofInt (-1)))) (hp p s q I J)) ∧ (¬ ((Int32.ofInt 1000) ≤ v4) → (((sy_X1_standsAt 21 v3 I J) = Int32.ofInt 0 → Q (some (.int (Int32.ofInt (-1)))) (hp p s q I J)) ∧ (¬ ((sy_X1_standsAt 21 v3 I J) = Int32.ofInt 0) → (mm_s SL xs (d + 7) 20 [.ref 21, .ref a0] (hp p s q I J) (fun r_ h_ => ∃ x1 I1 J1, r_ = some (.int x1) ∧ h_ = hp p s q I1 J1 ∧ (mm_s SL xs (d + 7) 14 [.ref 25, .ref 21] (hp p s q I1 J1) (fun r_ h_ => ∃ I2 J2, r_ = none ∧ h_ = hp p s q I2 J2 ∧ (mm_s SL xs (d + 7) 21 [.ref 25, .ref a0, .int (x1 + (Int32.ofInt 1))] (hp p s q I2 J2) (fun r_ h_ => ∃ I3 J3, r_ = none ∧ h_ = hp p s q I3 J3 ∧ (mm_s SL xs (d + 7) 5 [.ref 20, .ref a0, .int v3] (hp p s q I3 J3) (fun r_ h_ => ∃ x4 I4 J4, r_ = some (.int x4) ∧ h_ = hp p s q I4 J4 ∧ ((x4 = Int32.ofInt 0 → (mm_s SL xs (d + 7) 21 [.ref 21, .ref a0, .int x1] (hp p s q I4 J4) (fun r_ h_ => ∃ I5 J5, r_ = none ∧ h_ = hp p s q I5 J5 ∧ w_X0_bribeFor_38 SL xs d p s q Q a0 a1 v3 (v4 + Int32.ofInt 1) I5 J5))) ∧ (¬ (x4 = Int32.ofInt 0) → Q (some (.int ((I4 21 2) + (Int32.ofInt 1)))) (hp p s q I4 J4)))))))))))))))) : w_X0_bribeFor_38 SL xs d p s q Q a0 a1 v3 v4 I J := by
  unfold w_X0_bribeFor_38
  refine sp_iload 40 rfl rfl rfl ?_
  refine sp_sipush 43 rfl rfl ?_
  refine sp_I (y := Int32.ofInt 1000) rfl ?_
  refine sp_ic_ge 46 rfl rfl (fun q_ => ?_) (fun q_ => ?_)
  · have k := k.1 q_
    refine sp_iconst 126 rfl rfl ?_
    exact st_iret rfl rfl (Nat.le_refl _) (Nat.le_refl _) k
  · have k := k.2 q_
    refine sp_aload_n 47 rfl rfl rfl ?_
    refine hq_getR 50 rfl rfl rfl rfl ?_
    refine sp_iload_n 51 rfl rfl rfl ?_
    refine sc_V 54 rfl rfl rfl rfl rfl (Nat.le_refl _) (Nat.le_refl _) rfl ?_
    refine cy_X1_standsAt isC_21 ?_
    refine sp_if_eq 57 rfl rfl (fun q_ => ?_) (fun q_ => ?_)
    · have k := k.1 q_
      refine sp_iconst 126 rfl rfl ?_
      exact st_iret rfl rfl (Nat.le_refl _) (Nat.le_refl _) k
    · have k := k.2 q_
      refine sp_aload_n 58 rfl rfl rfl ?_
      refine hq_getR 61 rfl rfl rfl rfl ?_
      refine sp_aload_n 62 rfl rfl rfl ?_
      refine sc_V 65 rfl rfl rfl rfl rfl (Nat.le_refl _) (Nat.le_refl _) rfl ?_
      refine mm_s_mono _ _ _ _ _ _ ?_ k
      rintro r_ h_ ⟨x1, I1, J1, rfl, rfl, k⟩
      refine hs_S (st2 := [.int x1]) rfl ?_
      refine hs_istore 67 (L2 := [some (.ref 20), some (.ref a0), some (.ref a1), some (.int v3), some (.int v4), some (.int x1)]) rfl rfl rfl rfl ?_
      refine sp_aload_n 68 rfl rfl rfl ?_
      refine hq_getR 71 rfl rfl rfl rfl ?_
      refine sp_aload_n 72 rfl rfl rfl ?_
      refine hq_getR 75 rfl rfl rfl rfl ?_
      refine sc_V 78 rfl rfl rfl rfl rfl (Nat.le_refl _) (Nat.le_refl _) rfl ?_
      refine mm_s_mono _ _ _ _ _ _ ?_ k
      rintro r_ h_ ⟨I2, J2, rfl, rfl, k⟩
      refine hs_S (st2 := []) rfl ?_
      refine sp_aload_n 79 rfl rfl rfl ?_
      refine hq_getR 82 rfl rfl rfl rfl ?_
      refine sp_aload_n 83 rfl rfl rfl ?_
      refine sp_iload 85 rfl rfl rfl ?_
      refine sp_iconst 86 rfl rfl ?_
      refine sp_iadd 87 rfl rfl ?_
      refine sc_V 90 rfl rfl rfl rfl rfl (Nat.le_refl _) (Nat.le_refl _) rfl ?_
      refine mm_s_mono _ _ _ _ _ _ ?_ k
      rintro r_ h_ ⟨I3, J3, rfl, rfl, k⟩
      refine hs_S (st2 := []) rfl ?_
      refine sp_aload_n 91 rfl rfl rfl ?_
      refine sp_aload_n 92 rfl rfl rfl ?_
      refine sp_iload_n 93 rfl rfl rfl ?_
      refine sc_V 96 rfl rfl rfl rfl rfl (Nat.le_refl _) (Nat.le_refl _) rfl ?_
      refine mm_s_mono _ _ _ _ _ _ ?_ k
      rintro r_ h_ ⟨x4, I4, J4, rfl, rfl, k⟩
      refine hs_S (st2 := [.int x4]) rfl ?_
      refine sp_if_eq 99 rfl rfl (fun q_ => ?_) (fun q_ => ?_)
      · have k := k.1 q_
        refine sp_aload_n 110 rfl rfl rfl ?_
        refine hq_getR 113 rfl rfl rfl rfl ?_
        refine sp_aload_n 114 rfl rfl rfl ?_
        refine sp_iload 116 rfl rfl rfl ?_
        refine sc_V 119 rfl rfl rfl rfl rfl (Nat.le_refl _) (Nat.le_refl _) rfl ?_
        refine mm_s_mono _ _ _ _ _ _ ?_ k
        rintro r_ h_ ⟨I5, J5, rfl, rfl, k⟩
        refine hs_S (st2 := []) rfl ?_
        refine hs_iinc 122 (L2 := [some (.ref 20), some (.ref a0), some (.ref a1), some (.int v3), some (.int (v4 + Int32.ofInt 1)), some (.int x1)]) rfl rfl rfl rfl rfl ?_
        refine sp_goto rfl ?_
        refine st_wk (L1 := [some (.ref 20), some (.ref a0), some (.ref a1), some (.int v3), some (.int (v4 + Int32.ofInt 1)), none]) ⟨.inr rfl, .inr rfl, .inr rfl, .inr rfl, .inr rfl, .inl rfl, trivial⟩ ?_
        exact k
      · have k := k.2 q_
        refine sp_aload_n 100 rfl rfl rfl ?_
        refine hq_getR 103 rfl rfl rfl rfl ?_
        refine hq_getI 106 rfl rfl rfl ?_
        refine sp_iconst 107 rfl rfl ?_
        refine sp_iadd 108 rfl rfl ?_
        exact st_iret rfl rfl (Nat.le_refl _) (Nat.le_refl _) k
theorem sg_X7_readNot {SL : Nat} {xs : Nat → Int32} {d : Nat} {p s q : Nat} {Q : Option Value → mm_H → Prop} {a0 : Int32} {I : Nat → Nat → Int32} {J : Nat → Nat → Int64} (h_q : isP q) (k : ((a0 < (Int32.ofInt 7) → (mm_s SL xs (d + 90) 105 [.ref 4] (hp p s q I J) (fun r_ h_ => ∃ I1 J1, r_ = none ∧ h_ = hp p s q I1 J1 ∧ (mm_s SL xs (d + 90) 86 [.ref 3, .int (a0 + (Int32.ofInt 1))] (hp p s q I1 J1) (fun r_ h_ => ∃ x2 I2 J2, r_ = some (.int x2) ∧ h_ = hp p s q I2 J2 ∧ (mm_s SL xs (d + 90) 58 [.ref q, .int (Int32.ofInt (-144))] (hp p s q I2 J2) (fun r_ h_ => ∃ I3 J3, r_ = none ∧ h_ = hp p s q I3 J3 ∧ ((x2 = 0 ∨ x2 = 1) ∧ Q (some (.int x2)) (hp p s q I3 J3))))))))) ∧ (¬ (a0 < (Int32.ofInt 7)) → (mm_s SL xs (d + 90) 74 [.ref 3, .int (Int32.ofInt 2)] (hp p s q I J) (fun r_ h_ => ∃ x4 I4 J4, r_ = some (.int x4) ∧ h_ = hp p s q I4 J4 ∧ ((x4 = 0 ∨ x4 = 1) ∧ Q (some (.int x4)) (hp p s q I4 J4))))))) : mm_s SL xs (d + 91) 87 [.ref 3, .int a0] (hp p s q I J) Q := by
  refine e_X7_readNot rfl ?_
  refine hs_L (L2 := [some (.ref 3), some (.int a0), none]) rfl ?_
  refine sp_iload_n 1 rfl rfl rfl ?_
  refine sp_bipush 3 rfl rfl ?_
  refine sp_I (y := Int32.ofInt 7) rfl ?_
  refine sp_ic_lt 6 rfl rfl (fun q_ => ?_) (fun q_ => ?_)
  · have k := k.1 q_
    refine sp_aload_n 13 rfl rfl rfl ?_
    refine hq_getR 16 rfl rfl rfl rfl ?_
    refine sc_V 19 rfl rfl rfl rfl rfl (Nat.le_refl _) (Nat.le_refl _) rfl ?_
    refine mm_s_mono _ _ _ _ _ _ ?_ k
    rintro r_ h_ ⟨I1, J1, rfl, rfl, k⟩
    refine hs_S (st2 := []) rfl ?_
    refine sp_aload_n 20 rfl rfl rfl ?_
    refine sp_iload_n 21 rfl rfl rfl ?_
    refine sp_iconst 22 rfl rfl ?_
    refine sp_iadd 23 rfl rfl ?_
    refine sc_V 26 rfl rfl rfl rfl rfl (Nat.le_refl _) (Nat.le_refl _) rfl ?_
    refine mm_s_mono _ _ _ _ _ _ ?_ k
    rintro r_ h_ ⟨x2, I2, J2, rfl, rfl, k⟩
    refine hs_S (st2 := [.int x2]) rfl ?_
    refine hs_istore_n 27 (L2 := [some (.ref 3), some (.int a0), some (.int x2)]) rfl rfl rfl rfl ?_
    refine sp_aload_n 28 rfl rfl rfl ?_
    refine hq_getR 31 rfl rfl rfl rfl ?_
    refine sp_sipush 34 rfl rfl ?_
    refine sp_I (y := Int32.ofInt (-144)) rfl ?_
    refine sc_V 37 rfl rfl (kP0 h_q) rfl rfl (Nat.le_refl _) (Nat.le_refl _) rfl ?_
    refine mm_s_mono _ _ _ _ _ _ ?_ k
    rintro r_ h_ ⟨I3, J3, rfl, rfl, k⟩
    refine hs_S (st2 := []) rfl ?_
    refine sp_iload_n 38 rfl rfl rfl ?_
    exact st_zret rfl rfl k.1 (Nat.le_refl _) (Nat.le_refl _) k.2
  · have k := k.2 q_
    refine sp_aload_n 7 rfl rfl rfl ?_
    refine sp_iconst 8 rfl rfl ?_
    refine sc_V 11 rfl rfl rfl rfl rfl (Nat.le_refl _) (Nat.le_refl _) rfl ?_
    refine mm_s_mono _ _ _ _ _ _ ?_ k
    rintro r_ h_ ⟨x4, I4, J4, rfl, rfl, k⟩
    refine hs_S (st2 := [.int x4]) rfl ?_
    exact st_zret rfl rfl k.1 (Nat.le_refl _) (Nat.le_refl _) k.2
theorem sg_X7_readUnit {SL : Nat} {xs : Nat → Int32} {d : Nat} {p s q : Nat} {Q : Option Value → mm_H → Prop} {a0 : Int32} {I : Nat → Nat → Int32} {J : Nat → Nat → Int64} (h_q : isP q) (k : (((sx_X7_isUnit (I 4 2)) = Int32.ofInt 0 → (mm_s SL xs (d + 90) 74 [.ref 3, .int (Int32.ofInt 2)] (hp p s q I J) (fun r_ h_ => ∃ x1 I1 J1, r_ = some (.int x1) ∧ h_ = hp p s q I1 J1 ∧ ((x1 = 0 ∨ x1 = 1) ∧ Q (some (.int x1)) (hp p s q I1 J1))))) ∧ (¬ ((sx_X7_isUnit (I 4 2)) = Int32.ofInt 0) → (((Int32.ofInt 40) ≤ (I q 9) → (mm_s SL xs (d + 90) 74 [.ref 3, .int (Int32.ofInt 2)] (hp p s q I J) (fun r_ h_ => ∃ x2 I2 J2, r_ = some (.int x2) ∧ h_ = hp p s q I2 J2 ∧ ((x2 = 0 ∨ x2 = 1) ∧ Q (some (.int x2)) (hp p s q I2 J2))))) ∧ (¬ ((Int32.ofInt 40) ≤ (I q 9)) → (((I 4 2) = (Int32.ofInt 40) → ((a0 < (Int32.ofInt 7) → (((I 4 2) = (Int32.ofInt 40) → (mm_s SL xs (d + 90) 105 [.ref 4] (hp p s q (mm_u I q 9 ((I q 9) + (Int32.ofInt 1))) J) (fun r_ h_ => ∃ I14 J14, r_ = none ∧ h_ = hp p s q I14 J14 ∧ (mm_s SL xs (d + 90) 84 [.ref 3, .int (a0 + (Int32.ofInt 1))] (hp p s q I14 J14) (fun r_ h_ => ∃ x15 I15 J15, r_ = some (.int x15) ∧ h_ = hp p s q I15 J15 ∧ ((x15 = Int32.ofInt 0 → Q (some (.int (Int32.ofInt 0))) (hp p s q I15 J15)) ∧ (¬ (x15 = Int32.ofInt 0) → (mm_s SL xs (d + 90) 75 [.ref 3, .int (Int32.ofInt 41)] (hp p s q I15 J15) (fun r_ h_ => ∃ x16 I16 J16, r_ = some (.int x16) ∧ h_ = hp p s q I16 J16 ∧ ((x16 = Int32.ofInt 0 → Q (some (.int (Int32.ofInt 0))) (hp p s q I16 J16)) ∧ (¬ (x16 = Int32.ofInt 0) → Q (some (.int (Int32.ofInt 1))) (hp p s q I16 J16)))))))))))) ∧ (¬ ((I 4 2) = (Int32.ofInt 40)) → (((I 4 2) = (Int32.ofInt 2) → (mm_s SL xs (d + 90) 58 [.ref q, .int ((mm_u I q 9 ((I q 9) + (Int32.ofInt 1))) 4 4)] (hp p s q (mm_u I q 9 ((I q 9) + (Int32.ofInt 1))) J) (fun r_ h_ => ∃ I12 J12, r_ = none ∧ h_ = hp p s q I12 J12 ∧ (mm_s SL xs (d + 90) 105 [.ref 4] (hp p s q I12 J12) (fun r_ h_ => ∃ I13 J13, r_ = none ∧ h_ = hp p s q I13 J13 ∧ Q (some (.int (Int32.ofInt 1))) (hp p s q I13 J13)))))) ∧ (¬ ((I 4 2) = (Int32.ofInt 2)) → (mm_s SL xs (d + 90) 58 [.ref q, .int (-(I 4 2))] (hp p s q (mm_u I q 9 ((I q 9) + (Int32.ofInt 1))) J) (fun r_ h_ => ∃ I10 J10, r_ = none ∧ h_ = hp p s q I10 J10 ∧ (mm_s SL xs (d + 90) 105 [.ref 4] (hp p s q I10 J10) (fun r_ h_ => ∃ I11 J11, r_ = none ∧ h_ = hp p s q I11 J11 ∧ Q (some (.int (Int32.ofInt 1))) (hp p s q I11 J11)))))))))) ∧ (¬ (a0 < (Int32.ofInt 7)) → (mm_s SL xs (d + 90) 74 [.ref 3, .int (Int32.ofInt 2)] (hp p s q I J) (fun r_ h_ => ∃ x17 I17 J17, r_ = some (.int x17) ∧ h_ = hp p s q I17 J17 ∧ ((x17 = 0 ∨ x17 = 1) ∧ Q (some (.int x17)) (hp p s q I17 J17))))))) ∧ (¬ ((I 4 2) = (Int32.ofInt 40)) → (((I 4 2) = (Int32.ofInt 40) → (mm_s SL xs (d + 90) 105 [.ref 4] (hp p s q (mm_u I q 9 ((I q 9) + (Int32.ofInt 1))) J) (fun r_ h_ => ∃ I7 J7, r_ = none ∧ h_ = hp p s q I7 J7 ∧ (mm_s SL xs (d + 90) 84 [.ref 3, .int (a0 + (Int32.ofInt 1))] (hp p s q I7 J7) (fun r_ h_ => ∃ x8 I8 J8, r_ = some (.int x8) ∧ h_ = hp p s q I8 J8 ∧ ((x8 = Int32.ofInt 0 → Q (some (.int (Int32.ofInt 0))) (hp p s q I8 J8)) ∧ (¬ (x8 = Int32.ofInt 0) → (mm_s SL xs (d + 90) 75 [.ref 3, .int (Int32.ofInt 41)] (hp p s q I8 J8) (fun r_ h_ => ∃ x9 I9 J9, r_ = some (.int x9) ∧ h_ = hp p s q I9 J9 ∧ ((x9 = Int32.ofInt 0 → Q (some (.int (Int32.ofInt 0))) (hp p s q I9 J9)) ∧ (¬ (x9 = Int32.ofInt 0) → Q (some (.int (Int32.ofInt 1))) (hp p s q I9 J9)))))))))))) ∧ (¬ ((I 4 2) = (Int32.ofInt 40)) → (((I 4 2) = (Int32.ofInt 2) → (mm_s SL xs (d + 90) 58 [.ref q, .int ((mm_u I q 9 ((I q 9) + (Int32.ofInt 1))) 4 4)] (hp p s q (mm_u I q 9 ((I q 9) + (Int32.ofInt 1))) J) (fun r_ h_ => ∃ I5 J5, r_ = none ∧ h_ = hp p s q I5 J5 ∧ (mm_s SL xs (d + 90) 105 [.ref 4] (hp p s q I5 J5) (fun r_ h_ => ∃ I6 J6, r_ = none ∧ h_ = hp p s q I6 J6 ∧ Q (some (.int (Int32.ofInt 1))) (hp p s q I6 J6)))))) ∧ (¬ ((I 4 2) = (Int32.ofInt 2)) → (mm_s SL xs (d + 90) 58 [.ref q, .int (-(I 4 2))] (hp p s q (mm_u I q 9 ((I q 9) + (Int32.ofInt 1))) J) (fun r_ h_ => ∃ I3 J3, r_ = none ∧ h_ = hp p s q I3 J3 ∧ (mm_s SL xs (d + 90) 105 [.ref 4] (hp p s q I3 J3) (fun r_ h_ => ∃ I4 J4, r_ = none ∧ h_ = hp p s q I4 J4 ∧ Q (some (.int (Int32.ofInt 1))) (hp p s q I4 J4)))))))))))))))) : mm_s SL xs (d + 91) 90 [.ref 3, .int a0] (hp p s q I J) Q := by
  refine e_X7_readUnit rfl ?_
  refine hs_L (L2 := [some (.ref 3), some (.int a0), none]) rfl ?_
  refine sp_aload_n 1 rfl rfl rfl ?_
  refine hq_getR 4 rfl rfl rfl rfl ?_
  refine hq_getI 7 rfl rfl rfl ?_
  refine hs_istore_n 8 (L2 := [some (.ref 3), some (.int a0), some (.int (I 4 2))]) rfl rfl rfl rfl ?_
  refine sp_iload_n 9 rfl rfl rfl ?_
  refine sc_S 12 rfl rfl rfl rfl (Nat.le_refl _) (Nat.le_refl _) rfl ?_
  refine cx_X7_isUnit ?_
  refine hs_S (st2 := [.int (sx_X7_isUnit (I 4 2))]) rfl ?_
  refine sp_if_eq 15 rfl rfl (fun q_ => ?_) (fun q_ => ?_)
  · have k := k.1 q_
    refine sp_aload_n 40 rfl rfl rfl ?_
    refine sp_iconst 41 rfl rfl ?_
    refine sc_V 44 rfl rfl rfl rfl rfl (Nat.le_refl _) (Nat.le_refl _) rfl ?_
    refine mm_s_mono _ _ _ _ _ _ ?_ k
    rintro r_ h_ ⟨x1, I1, J1, rfl, rfl, k⟩
    refine hs_S (st2 := [.int x1]) rfl ?_
    exact st_zret rfl rfl k.1 (Nat.le_refl _) (Nat.le_refl _) k.2
  · have k := k.2 q_
    refine sp_aload_n 16 rfl rfl rfl ?_
    refine hq_getR 19 rfl rfl rfl rfl ?_
    refine hq_getI 22 rfl (kP0 h_q) rfl ?_
    refine sp_bipush 24 rfl rfl ?_
    refine sp_I (y := Int32.ofInt 40) rfl ?_
    refine sp_ic_ge 27 rfl rfl (fun q_ => ?_) (fun q_ => ?_)
    · have k := k.1 q_
      refine sp_aload_n 40 rfl rfl rfl ?_
      refine sp_iconst 41 rfl rfl ?_
      refine sc_V 44 rfl rfl rfl rfl rfl (Nat.le_refl _) (Nat.le_refl _) rfl ?_
      refine mm_s_mono _ _ _ _ _ _ ?_ k
      rintro r_ h_ ⟨x2, I2, J2, rfl, rfl, k⟩
      refine hs_S (st2 := [.int x2]) rfl ?_
      exact st_zret rfl rfl k.1 (Nat.le_refl _) (Nat.le_refl _) k.2
    · have k := k.2 q_
      refine sp_iload_n 28 rfl rfl rfl ?_
      refine sp_bipush 30 rfl rfl ?_
      refine sp_I (y := Int32.ofInt 40) rfl ?_
      refine sp_ic_ne 33 rfl rfl (fun q_ => ?_) (fun q_ => ?_)
      · have k := k.2 q_
        refine sp_aload_n 46 rfl rfl rfl ?_
        refine hq_getR 49 rfl rfl rfl rfl ?_
        refine sp_dup 50 rfl rfl rfl ?_
        refine hq_getI 53 rfl (kP0 h_q) rfl ?_
        refine sp_iconst 54 rfl rfl ?_
        refine sp_iadd 55 rfl rfl ?_
        refine hq_putI 58 rfl (kP0 h_q) rfl ?_
        refine sp_iload_n 59 rfl rfl rfl ?_
        refine sp_bipush 61 rfl rfl ?_
        refine sp_I (y := Int32.ofInt 40) rfl ?_
        refine sp_ic_ne 64 rfl rfl (fun q_ => ?_) (fun q_ => ?_)
        · have k := k.2 q_
          refine sp_aload_n 97 rfl rfl rfl ?_
          refine hq_getR 100 rfl rfl rfl rfl ?_
          refine sp_iload_n 101 rfl rfl rfl ?_
          refine sp_iconst 102 rfl rfl ?_
          refine sp_ic_ne 105 rfl rfl (fun q_ => ?_) (fun q_ => ?_)
          · have k := k.2 q_
            refine sp_iload_n 116 rfl rfl rfl ?_
            refine sp_ineg 117 rfl rfl ?_
            refine sc_V 120 rfl rfl (kP0 h_q) rfl rfl (Nat.le_refl _) (Nat.le_refl _) rfl ?_
            refine mm_s_mono _ _ _ _ _ _ ?_ k
            rintro r_ h_ ⟨I3, J3, rfl, rfl, k⟩
            refine hs_S (st2 := []) rfl ?_
            refine sp_aload_n 121 rfl rfl rfl ?_
            refine hq_getR 124 rfl rfl rfl rfl ?_
            refine sc_V 127 rfl rfl rfl rfl rfl (Nat.le_refl _) (Nat.le_refl _) rfl ?_
            refine mm_s_mono _ _ _ _ _ _ ?_ k
            rintro r_ h_ ⟨I4, J4, rfl, rfl, k⟩
            refine hs_S (st2 := []) rfl ?_
            refine sp_iconst 128 rfl rfl ?_
            exact st_zret rfl rfl (by decide) (Nat.le_refl _) (Nat.le_refl _) k
          · have k := k.1 q_
            refine sp_aload_n 106 rfl rfl rfl ?_
            refine hq_getR 109 rfl rfl rfl rfl ?_
            refine hq_getI 112 rfl rfl rfl ?_
            refine sp_goto rfl ?_
            refine sc_V 120 rfl rfl (kP0 h_q) rfl rfl (Nat.le_refl _) (Nat.le_refl _) rfl ?_
            refine mm_s_mono _ _ _ _ _ _ ?_ k
            rintro r_ h_ ⟨I5, J5, rfl, rfl, k⟩
            refine hs_S (st2 := []) rfl ?_
            refine sp_aload_n 121 rfl rfl rfl ?_
            refine hq_getR 124 rfl rfl rfl rfl ?_
            refine sc_V 127 rfl rfl rfl rfl rfl (Nat.le_refl _) (Nat.le_refl _) rfl ?_
            refine mm_s_mono _ _ _ _ _ _ ?_ k
            rintro r_ h_ ⟨I6, J6, rfl, rfl, k⟩
            refine hs_S (st2 := []) rfl ?_
            refine sp_iconst 128 rfl rfl ?_
            exact st_zret rfl rfl (by decide) (Nat.le_refl _) (Nat.le_refl _) k
        · have k := k.1 q_
          refine sp_aload_n 65 rfl rfl rfl ?_
          refine hq_getR 68 rfl rfl rfl rfl ?_
          refine sc_V 71 rfl rfl rfl rfl rfl (Nat.le_refl _) (Nat.le_refl _) rfl ?_
          refine mm_s_mono _ _ _ _ _ _ ?_ k
          rintro r_ h_ ⟨I7, J7, rfl, rfl, k⟩
          refine hs_S (st2 := []) rfl ?_
          refine sp_aload_n 72 rfl rfl rfl ?_
          refine sp_iload_n 73 rfl rfl rfl ?_
          refine sp_iconst 74 rfl rfl ?_
          refine sp_iadd 75 rfl rfl ?_
          refine sc_V 78 rfl rfl rfl rfl rfl (Nat.le_refl _) (Nat.le_refl _) rfl ?_
          refine mm_s_mono _ _ _ _ _ _ ?_ k
          rintro r_ h_ ⟨x8, I8, J8, rfl, rfl, k⟩
          refine hs_S (st2 := [.int x8]) rfl ?_
          refine sp_if_eq 81 rfl rfl (fun q_ => ?_) (fun q_ => ?_)
          · have k := k.1 q_
            refine sp_iconst 95 rfl rfl ?_
            exact st_zret rfl rfl (by decide) (Nat.le_refl _) (Nat.le_refl _) k
          · have k := k.2 q_
            refine sp_aload_n 82 rfl rfl rfl ?_
            refine sp_bipush 84 rfl rfl ?_
            refine sp_I (y := Int32.ofInt 41) rfl ?_
            refine sc_V 87 rfl rfl rfl rfl rfl (Nat.le_refl _) (Nat.le_refl _) rfl ?_
            refine mm_s_mono _ _ _ _ _ _ ?_ k
            rintro r_ h_ ⟨x9, I9, J9, rfl, rfl, k⟩
            refine hs_S (st2 := [.int x9]) rfl ?_
            refine sp_if_eq 90 rfl rfl (fun q_ => ?_) (fun q_ => ?_)
            · have k := k.1 q_
              refine sp_iconst 95 rfl rfl ?_
              exact st_zret rfl rfl (by decide) (Nat.le_refl _) (Nat.le_refl _) k
            · have k := k.2 q_
              refine sp_iconst 91 rfl rfl ?_
              refine sp_goto rfl ?_
              exact st_zret rfl rfl (by decide) (Nat.le_refl _) (Nat.le_refl _) k
      · have k := k.1 q_
        refine sp_iload_n 34 rfl rfl rfl ?_
        refine sp_bipush 36 rfl rfl ?_
        refine sp_I (y := Int32.ofInt 7) rfl ?_
        refine sp_ic_lt 39 rfl rfl (fun q_ => ?_) (fun q_ => ?_)
        · have k := k.1 q_
          refine sp_aload_n 46 rfl rfl rfl ?_
          refine hq_getR 49 rfl rfl rfl rfl ?_
          refine sp_dup 50 rfl rfl rfl ?_
          refine hq_getI 53 rfl (kP0 h_q) rfl ?_
          refine sp_iconst 54 rfl rfl ?_
          refine sp_iadd 55 rfl rfl ?_
          refine hq_putI 58 rfl (kP0 h_q) rfl ?_
          refine sp_iload_n 59 rfl rfl rfl ?_
          refine sp_bipush 61 rfl rfl ?_
          refine sp_I (y := Int32.ofInt 40) rfl ?_
          refine sp_ic_ne 64 rfl rfl (fun q_ => ?_) (fun q_ => ?_)
          · have k := k.2 q_
            refine sp_aload_n 97 rfl rfl rfl ?_
            refine hq_getR 100 rfl rfl rfl rfl ?_
            refine sp_iload_n 101 rfl rfl rfl ?_
            refine sp_iconst 102 rfl rfl ?_
            refine sp_ic_ne 105 rfl rfl (fun q_ => ?_) (fun q_ => ?_)
            · have k := k.2 q_
              refine sp_iload_n 116 rfl rfl rfl ?_
              refine sp_ineg 117 rfl rfl ?_
              refine sc_V 120 rfl rfl (kP0 h_q) rfl rfl (Nat.le_refl _) (Nat.le_refl _) rfl ?_
              refine mm_s_mono _ _ _ _ _ _ ?_ k
              rintro r_ h_ ⟨I10, J10, rfl, rfl, k⟩
              refine hs_S (st2 := []) rfl ?_
              refine sp_aload_n 121 rfl rfl rfl ?_
              refine hq_getR 124 rfl rfl rfl rfl ?_
              refine sc_V 127 rfl rfl rfl rfl rfl (Nat.le_refl _) (Nat.le_refl _) rfl ?_
              refine mm_s_mono _ _ _ _ _ _ ?_ k
              rintro r_ h_ ⟨I11, J11, rfl, rfl, k⟩
              refine hs_S (st2 := []) rfl ?_
              refine sp_iconst 128 rfl rfl ?_
              exact st_zret rfl rfl (by decide) (Nat.le_refl _) (Nat.le_refl _) k
            · have k := k.1 q_
              refine sp_aload_n 106 rfl rfl rfl ?_
              refine hq_getR 109 rfl rfl rfl rfl ?_
              refine hq_getI 112 rfl rfl rfl ?_
              refine sp_goto rfl ?_
              refine sc_V 120 rfl rfl (kP0 h_q) rfl rfl (Nat.le_refl _) (Nat.le_refl _) rfl ?_
              refine mm_s_mono _ _ _ _ _ _ ?_ k
              rintro r_ h_ ⟨I12, J12, rfl, rfl, k⟩
              refine hs_S (st2 := []) rfl ?_
              refine sp_aload_n 121 rfl rfl rfl ?_
              refine hq_getR 124 rfl rfl rfl rfl ?_
              refine sc_V 127 rfl rfl rfl rfl rfl (Nat.le_refl _) (Nat.le_refl _) rfl ?_
              refine mm_s_mono _ _ _ _ _ _ ?_ k
              rintro r_ h_ ⟨I13, J13, rfl, rfl, k⟩
              refine hs_S (st2 := []) rfl ?_
              refine sp_iconst 128 rfl rfl ?_
              exact st_zret rfl rfl (by decide) (Nat.le_refl _) (Nat.le_refl _) k
          · have k := k.1 q_
            refine sp_aload_n 65 rfl rfl rfl ?_
            refine hq_getR 68 rfl rfl rfl rfl ?_
            refine sc_V 71 rfl rfl rfl rfl rfl (Nat.le_refl _) (Nat.le_refl _) rfl ?_
            refine mm_s_mono _ _ _ _ _ _ ?_ k
            rintro r_ h_ ⟨I14, J14, rfl, rfl, k⟩
            refine hs_S (st2 := []) rfl ?_
            refine sp_aload_n 72 rfl rfl rfl ?_
            refine sp_iload_n 73 rfl rfl rfl ?_
            refine sp_iconst 74 rfl rfl ?_
            refine sp_iadd 75 rfl rfl ?_
            refine sc_V 78 rfl rfl rfl rfl rfl (Nat.le_refl _) (Nat.le_refl _) rfl ?_
            refine mm_s_mono _ _ _ _ _ _ ?_ k
            rintro r_ h_ ⟨x15, I15, J15, rfl, rfl, k⟩
            refine hs_S (st2 := [.int x15]) rfl ?_
            refine sp_if_eq 81 rfl rfl (fun q_ => ?_) (fun q_ => ?_)
            · have k := k.1 q_
              refine sp_iconst 95 rfl rfl ?_
              exact st_zret rfl rfl (by decide) (Nat.le_refl _) (Nat.le_refl _) k
            · have k := k.2 q_
              refine sp_aload_n 82 rfl rfl rfl ?_
              refine sp_bipush 84 rfl rfl ?_
              refine sp_I (y := Int32.ofInt 41) rfl ?_
              refine sc_V 87 rfl rfl rfl rfl rfl (Nat.le_refl _) (Nat.le_refl _) rfl ?_
              refine mm_s_mono _ _ _ _ _ _ ?_ k
              rintro r_ h_ ⟨x16, I16, J16, rfl, rfl, k⟩
              refine hs_S (st2 := [.int x16]) rfl ?_
              refine sp_if_eq 90 rfl rfl (fun q_ => ?_) (fun q_ => ?_)
              · have k := k.1 q_
                refine sp_iconst 95 rfl rfl ?_
                exact st_zret rfl rfl (by decide) (Nat.le_refl _) (Nat.le_refl _) k
              · have k := k.2 q_
                refine sp_iconst 91 rfl rfl ?_
                refine sp_goto rfl ?_
                exact st_zret rfl rfl (by decide) (Nat.le_refl _) (Nat.le_refl _) k
        · have k := k.2 q_
          refine sp_aload_n 40 rfl rfl rfl ?_
          refine sp_iconst 41 rfl rfl ?_
          refine sc_V 44 rfl rfl rfl rfl rfl (Nat.le_refl _) (Nat.le_refl _) rfl ?_
          refine mm_s_mono _ _ _ _ _ _ ?_ k
          rintro r_ h_ ⟨x17, I17, J17, rfl, rfl, k⟩
          refine hs_S (st2 := [.int x17]) rfl ?_
          exact st_zret rfl rfl k.1 (Nat.le_refl _) (Nat.le_refl _) k.2
def w_X7_readTerm_8 (SL : Nat) (xs : Nat → Int32) (d : Nat) (p s q : Nat) (Q : Option Value → mm_H → Prop) (v1 : Int32) (v2 : Int32) (v3 : Int32) (I : Nat → Nat → Int32) (J : Nat → Nat → Int64) : Prop := mm_w SL xs (mm_s SL xs (d + 90)) mm_am kX7_readTerm 0 0 (some .boolean) Q 8 [some (.ref 3), some (.int v1), some (.int v2), some (.int v3), none] [] (hp p s q I J) 0 0
theorem sg_X7_readTerm {SL : Nat} {xs : Nat → Int32} {d : Nat} {p s q : Nat} {Q : Option Value → mm_H → Prop} {a0 : Int32} {I : Nat → Nat → Int32} {J : Nat → Nat → Int64}  (k : (mm_s SL xs (d + 90) 90 [.ref 3, .int a0] (hp p s q I J) (fun r_ h_ => ∃ x1 I1 J1, r_ = some (.int x1) ∧ h_ = hp p s q I1 J1 ∧ w_X7_readTerm_8 SL xs d p s q Q a0 x1 (Int32.ofInt 0) I1 J1))) : mm_s SL xs (d + 91) 89 [.ref 3, .int a0] (hp p s q I J) Q := by
  refine e_X7_readTerm rfl ?_
  refine hs_L (L2 := [some (.ref 3), some (.int a0), none, none, none]) rfl ?_
  refine sp_aload_n 1 rfl rfl rfl ?_
  refine sp_iload_n 2 rfl rfl rfl ?_
  refine sc_V 5 rfl rfl rfl rfl rfl (Nat.le_refl _) (Nat.le_refl _) rfl ?_
  refine mm_s_mono _ _ _ _ _ _ ?_ k
  rintro r_ h_ ⟨x1, I1, J1, rfl, rfl, k⟩
  refine hs_S (st2 := [.int x1]) rfl ?_
  refine hs_istore_n 6 (L2 := [some (.ref 3), some (.int a0), some (.int x1), none, none]) rfl rfl rfl rfl ?_
  refine sp_iconst 7 rfl rfl ?_
  refine hs_istore_n 8 (L2 := [some (.ref 3), some (.int a0), some (.int x1), some (.int (Int32.ofInt 0)), none]) rfl rfl rfl rfl ?_
  exact k
theorem sg_X7_readTerm_8 {SL : Nat} {xs : Nat → Int32} {d : Nat} {p s q : Nat} {Q : Option Value → mm_H → Prop} {v1 : Int32} {v2 : Int32} {v3 : Int32} {I : Nat → Nat → Int32} {J : Nat → Nat → Int64} (h_q : isP q) (k : (((Int32.ofInt 40) ≤ v3 → ((v2 = 0 ∨ v2 = 1) ∧ Q (some (.int v2)) (hp p s q I J))) ∧ (¬ ((Int32.ofInt 40) ≤ v3) → ((v2 = Int32.ofInt 0 → ((v2 = 0 ∨ v2 = 1) ∧ Q (some (.int v2)) (hp p s q I J))) ∧ (¬ (v2 = Int32.ofInt 0) → (((I 4 2) = (Int32.ofInt 42) → (mm_s SL xs (d + 90) 105 [.ref 4] (hp p s q I J) (fun r_ h_ => ∃ I1 J1, r_ = none ∧ h_ = hp p s q I1 J1 ∧ (mm_s SL xs (d + 90) 90 [.ref 3, .int v1] (hp p s q I1 J1) (fun r_ h_ => ∃ x2 I2 J2, r_ = some (.int x2) ∧ h_ = hp p s q I2 J2 ∧ (mm_s SL xs (d + 90) 58 [.ref q, .int (-(I 4 2))] (hp p s q I2 J2) (fun r_ h_ => ∃ I3 J3, r_ = none ∧ h_ = hp p s q I3 J3 ∧ w_X7_readTerm_8 SL xs d p s q Q v1 x2 (v3 + Int32.ofInt 1) I3 J3))))))) ∧ (¬ ((I 4 2) = (Int32.ofInt 42)) → (((I 4 2) = (Int32.ofInt 47) → (mm_s SL xs (d + 90) 105 [.ref 4] (hp p s q I J) (fun r_ h_ => ∃ I4 J4, r_ = none ∧ h_ = hp p s q I4 J4 ∧ (mm_s SL xs (d + 90) 90 [.ref 3, .int v1] (hp p s q I4 J4) (fun r_ h_ => ∃ x5 I5 J5, r_ = some (.int x5) ∧ h_ = hp p s q I5 J5 ∧ (mm_s SL xs (d + 90) 58 [.ref q, .int (-(I 4 2))] (hp p s q I5 J5) (fun r_ h_ => ∃ I6 J6, r_ = none ∧ h_ = hp p s q I6 J6 ∧ w_X7_readTerm_8 SL xs d p s q Q v1 x5 (v3 + Int32.ofInt 1) I6 J6))))))) ∧ (¬ ((I 4 2) = (Int32.ofInt 47)) → ((v2 = 0 ∨ v2 = 1) ∧ Q (some (.int v2)) (hp p s q I J))))))))))) : w_X7_readTerm_8 SL xs d p s q Q v1 v2 v3 I J := by
  unfold w_X7_readTerm_8
  refine sp_iload_n 9 rfl rfl rfl ?_
  refine sp_bipush 11 rfl rfl ?_
  refine sp_I (y := Int32.ofInt 40) rfl ?_
  refine sp_ic_ge 14 rfl rfl (fun q_ => ?_) (fun q_ => ?_)
  · have k := k.1 q_
    refine sp_iload_n 81 rfl rfl rfl ?_
    exact st_zret rfl rfl k.1 (Nat.le_refl _) (Nat.le_refl _) k.2
  · have k := k.2 q_
    refine sp_iload_n 15 rfl rfl rfl ?_
    refine sp_if_eq 18 rfl rfl (fun q_ => ?_) (fun q_ => ?_)
    · have k := k.1 q_
      refine sp_iload_n 81 rfl rfl rfl ?_
      exact st_zret rfl rfl k.1 (Nat.le_refl _) (Nat.le_refl _) k.2
    · have k := k.2 q_
      refine sp_aload_n 19 rfl rfl rfl ?_
      refine hq_getR 22 rfl rfl rfl rfl ?_
      refine hq_getI 25 rfl rfl rfl ?_
      refine sp_bipush 27 rfl rfl ?_
      refine sp_I (y := Int32.ofInt 42) rfl ?_
      refine sp_ic_eq 30 rfl rfl (fun q_ => ?_) (fun q_ => ?_)
      · have k := k.1 q_
        refine sp_aload_n 43 rfl rfl rfl ?_
        refine hq_getR 46 rfl rfl rfl rfl ?_
        refine hq_getI 49 rfl rfl rfl ?_
        refine hs_istore 51 (L2 := [some (.ref 3), some (.int v1), some (.int v2), some (.int v3), some (.int (I 4 2))]) rfl rfl rfl rfl ?_
        refine sp_aload_n 52 rfl rfl rfl ?_
        refine hq_getR 55 rfl rfl rfl rfl ?_
        refine sc_V 58 rfl rfl rfl rfl rfl (Nat.le_refl _) (Nat.le_refl _) rfl ?_
        refine mm_s_mono _ _ _ _ _ _ ?_ k
        rintro r_ h_ ⟨I1, J1, rfl, rfl, k⟩
        refine hs_S (st2 := []) rfl ?_
        refine sp_aload_n 59 rfl rfl rfl ?_
        refine sp_iload_n 60 rfl rfl rfl ?_
        refine sc_V 63 rfl rfl rfl rfl rfl (Nat.le_refl _) (Nat.le_refl _) rfl ?_
        refine mm_s_mono _ _ _ _ _ _ ?_ k
        rintro r_ h_ ⟨x2, I2, J2, rfl, rfl, k⟩
        refine hs_S (st2 := [.int x2]) rfl ?_
        refine hs_istore_n 64 (L2 := [some (.ref 3), some (.int v1), some (.int x2), some (.int v3), some (.int (I 4 2))]) rfl rfl rfl rfl ?_
        refine sp_aload_n 65 rfl rfl rfl ?_
        refine hq_getR 68 rfl rfl rfl rfl ?_
        refine sp_iload 70 rfl rfl rfl ?_
        refine sp_ineg 71 rfl rfl ?_
        refine sc_V 74 rfl rfl (kP0 h_q) rfl rfl (Nat.le_refl _) (Nat.le_refl _) rfl ?_
        refine mm_s_mono _ _ _ _ _ _ ?_ k
        rintro r_ h_ ⟨I3, J3, rfl, rfl, k⟩
        refine hs_S (st2 := []) rfl ?_
        refine hs_iinc 77 (L2 := [some (.ref 3), some (.int v1), some (.int x2), some (.int (v3 + Int32.ofInt 1)), some (.int (I 4 2))]) rfl rfl rfl rfl rfl ?_
        refine sp_goto rfl ?_
        refine st_wk (L1 := [some (.ref 3), some (.int v1), some (.int x2), some (.int (v3 + Int32.ofInt 1)), none]) ⟨.inr rfl, .inr rfl, .inr rfl, .inr rfl, .inl rfl, trivial⟩ ?_
        exact k
      · have k := k.2 q_
        refine sp_aload_n 31 rfl rfl rfl ?_
        refine hq_getR 34 rfl rfl rfl rfl ?_
        refine hq_getI 37 rfl rfl rfl ?_
        refine sp_bipush 39 rfl rfl ?_
        refine sp_I (y := Int32.ofInt 47) rfl ?_
        refine sp_ic_ne 42 rfl rfl (fun q_ => ?_) (fun q_ => ?_)
        · have k := k.2 q_
          refine sp_iload_n 81 rfl rfl rfl ?_
          exact st_zret rfl rfl k.1 (Nat.le_refl _) (Nat.le_refl _) k.2
        · have k := k.1 q_
          refine sp_aload_n 43 rfl rfl rfl ?_
          refine hq_getR 46 rfl rfl rfl rfl ?_
          refine hq_getI 49 rfl rfl rfl ?_
          refine hs_istore 51 (L2 := [some (.ref 3), some (.int v1), some (.int v2), some (.int v3), some (.int (I 4 2))]) rfl rfl rfl rfl ?_
          refine sp_aload_n 52 rfl rfl rfl ?_
          refine hq_getR 55 rfl rfl rfl rfl ?_
          refine sc_V 58 rfl rfl rfl rfl rfl (Nat.le_refl _) (Nat.le_refl _) rfl ?_
          refine mm_s_mono _ _ _ _ _ _ ?_ k
          rintro r_ h_ ⟨I4, J4, rfl, rfl, k⟩
          refine hs_S (st2 := []) rfl ?_
          refine sp_aload_n 59 rfl rfl rfl ?_
          refine sp_iload_n 60 rfl rfl rfl ?_
          refine sc_V 63 rfl rfl rfl rfl rfl (Nat.le_refl _) (Nat.le_refl _) rfl ?_
          refine mm_s_mono _ _ _ _ _ _ ?_ k
          rintro r_ h_ ⟨x5, I5, J5, rfl, rfl, k⟩
          refine hs_S (st2 := [.int x5]) rfl ?_
          refine hs_istore_n 64 (L2 := [some (.ref 3), some (.int v1), some (.int x5), some (.int v3), some (.int (I 4 2))]) rfl rfl rfl rfl ?_
          refine sp_aload_n 65 rfl rfl rfl ?_
          refine hq_getR 68 rfl rfl rfl rfl ?_
          refine sp_iload 70 rfl rfl rfl ?_
          refine sp_ineg 71 rfl rfl ?_
          refine sc_V 74 rfl rfl (kP0 h_q) rfl rfl (Nat.le_refl _) (Nat.le_refl _) rfl ?_
          refine mm_s_mono _ _ _ _ _ _ ?_ k
          rintro r_ h_ ⟨I6, J6, rfl, rfl, k⟩
          refine hs_S (st2 := []) rfl ?_
          refine hs_iinc 77 (L2 := [some (.ref 3), some (.int v1), some (.int x5), some (.int (v3 + Int32.ofInt 1)), some (.int (I 4 2))]) rfl rfl rfl rfl rfl ?_
          refine sp_goto rfl ?_
          refine st_wk (L1 := [some (.ref 3), some (.int v1), some (.int x5), some (.int (v3 + Int32.ofInt 1)), none]) ⟨.inr rfl, .inr rfl, .inr rfl, .inr rfl, .inl rfl, trivial⟩ ?_
          exact k
