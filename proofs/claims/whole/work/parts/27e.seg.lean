theorem sg_X1_goOnce {SL : Nat} {xs : Nat → Int32} {d : Nat} {p s q : Nat} {Q : Option Value → mm_H → Prop} {o : Nat} {a0 : Nat} {a1 : Int32} {I : Nat → Nat → Int32} {J : Nat → Nat → Int64} (h_a0 : isP a0) (h_o : isC o) (k : (((I a0 5) = (Int32.ofInt (-1)) → (mm_s SL xs (d + 4) 17 [.ref o, .ref a0] (hp p s q I J) (fun r_ h_ => ∃ x1 I1 J1, r_ = some (.int x1) ∧ h_ = hp p s q I1 J1 ∧ (((Int32.ofInt 0) = x1 → (mm_s SL xs (d + 4) 70 [.long (J1 o 1), .int (sy_X1_firstLook o a0 (Int32.ofInt 0) (Int32.ofInt 1) I1 J1), .int (Int32.ofInt 1), .int a1] (hp p s q I1 J1) (fun r_ h_ => ∃ x4 I4 J4, r_ = some (.int x4) ∧ h_ = hp p s q I4 J4 ∧ (mm_s SL xs (d + 4) 23 [.ref o, .ref a0, .int x4] (hp p s q (mm_u (mm_u (mm_u I4 o 2 ((I4 o 2) + (Int32.ofInt 1))) o 10 a1) o 3 x4) J4) (fun r_ h_ => ∃ I5 J5, r_ = none ∧ h_ = hp p s q I5 J5 ∧ Q none (hp p s q I5 J5)))))) ∧ (¬ ((Int32.ofInt 0) = x1) → (mm_s SL xs (d + 4) 70 [.long (J1 o 1), .int (sy_X1_firstLook o a0 (Int32.ofInt 0) (Int32.ofInt 0) I1 J1), .int (Int32.ofInt 0), .int a1] (hp p s q I1 J1) (fun r_ h_ => ∃ x2 I2 J2, r_ = some (.int x2) ∧ h_ = hp p s q I2 J2 ∧ (mm_s SL xs (d + 4) 23 [.ref o, .ref a0, .int x2] (hp p s q (mm_u (mm_u (mm_u I2 o 2 ((I2 o 2) + (Int32.ofInt 1))) o 10 a1) o 3 x2) J2) (fun r_ h_ => ∃ I3 J3, r_ = none ∧ h_ = hp p s q I3 J3 ∧ Q none (hp p s q I3 J3)))))))))) ∧ (¬ ((I a0 5) = (Int32.ofInt (-1))) → ((((I o 2) - (I o 2) / (Int32.ofInt 2) * (Int32.ofInt 2)) = (Int32.ofInt 1) → (mm_s SL xs (d + 4) 17 [.ref o, .ref a0] (hp p s q I J) (fun r_ h_ => ∃ x11 I11 J11, r_ = some (.int x11) ∧ h_ = hp p s q I11 J11 ∧ (((Int32.ofInt 1) = x11 → (mm_s SL xs (d + 4) 70 [.long (J11 o 1), .int (sy_X1_firstLook o a0 (Int32.ofInt 1) (Int32.ofInt 1) I11 J11), .int (Int32.ofInt 1), .int a1] (hp p s q I11 J11) (fun r_ h_ => ∃ x14 I14 J14, r_ = some (.int x14) ∧ h_ = hp p s q I14 J14 ∧ (mm_s SL xs (d + 4) 23 [.ref o, .ref a0, .int x14] (hp p s q (mm_u (mm_u (mm_u I14 o 2 ((I14 o 2) + (Int32.ofInt 1))) o 10 a1) o 4 x14) J14) (fun r_ h_ => ∃ I15 J15, r_ = none ∧ h_ = hp p s q I15 J15 ∧ Q none (hp p s q I15 J15)))))) ∧ (¬ ((Int32.ofInt 1) = x11) → (mm_s SL xs (d + 4) 70 [.long (J11 o 1), .int (sy_X1_firstLook o a0 (Int32.ofInt 1) (Int32.ofInt 0) I11 J11), .int (Int32.ofInt 0), .int a1] (hp p s q I11 J11) (fun r_ h_ => ∃ x12 I12 J12, r_ = some (.int x12) ∧ h_ = hp p s q I12 J12 ∧ (mm_s SL xs (d + 4) 23 [.ref o, .ref a0, .int x12] (hp p s q (mm_u (mm_u (mm_u I12 o 2 ((I12 o 2) + (Int32.ofInt 1))) o 10 a1) o 4 x12) J12) (fun r_ h_ => ∃ I13 J13, r_ = none ∧ h_ = hp p s q I13 J13 ∧ Q none (hp p s q I13 J13)))))))))) ∧ (¬ (((I o 2) - (I o 2) / (Int32.ofInt 2) * (Int32.ofInt 2)) = (Int32.ofInt 1)) → (mm_s SL xs (d + 4) 17 [.ref o, .ref a0] (hp p s q I J) (fun r_ h_ => ∃ x6 I6 J6, r_ = some (.int x6) ∧ h_ = hp p s q I6 J6 ∧ (((Int32.ofInt 0) = x6 → (mm_s SL xs (d + 4) 70 [.long (J6 o 1), .int (sy_X1_firstLook o a0 (Int32.ofInt 0) (Int32.ofInt 1) I6 J6), .int (Int32.ofInt 1), .int a1] (hp p s q I6 J6) (fun r_ h_ => ∃ x9 I9 J9, r_ = some (.int x9) ∧ h_ = hp p s q I9 J9 ∧ (mm_s SL xs (d + 4) 23 [.ref o, .ref a0, .int x9] (hp p s q (mm_u (mm_u (mm_u I9 o 2 ((I9 o 2) + (Int32.ofInt 1))) o 10 a1) o 3 x9) J9) (fun r_ h_ => ∃ I10 J10, r_ = none ∧ h_ = hp p s q I10 J10 ∧ Q none (hp p s q I10 J10)))))) ∧ (¬ ((Int32.ofInt 0) = x6) → (mm_s SL xs (d + 4) 70 [.long (J6 o 1), .int (sy_X1_firstLook o a0 (Int32.ofInt 0) (Int32.ofInt 0) I6 J6), .int (Int32.ofInt 0), .int a1] (hp p s q I6 J6) (fun r_ h_ => ∃ x7 I7 J7, r_ = some (.int x7) ∧ h_ = hp p s q I7 J7 ∧ (mm_s SL xs (d + 4) 23 [.ref o, .ref a0, .int x7] (hp p s q (mm_u (mm_u (mm_u I7 o 2 ((I7 o 2) + (Int32.ofInt 1))) o 10 a1) o 3 x7) J7) (fun r_ h_ => ∃ I8 J8, r_ = none ∧ h_ = hp p s q I8 J8 ∧ Q none (hp p s q I8 J8)))))))))))))) : mm_s SL xs (d + 5) 21 [.ref o, .ref a0, .int a1] (hp p s q I J) Q := by
  refine e_X1_goOnce rfl ?_
  refine hs_L (L2 := [some (.ref o), some (.ref a0), some (.int a1), none, none, none]) rfl ?_
  refine sp_aload_n 1 rfl rfl rfl ?_
  refine hq_getI 4 rfl (kP0 h_a0) rfl ?_
  refine sp_iconst 5 rfl rfl ?_
  refine sp_ic_eq 8 rfl rfl (fun q_ => ?_) (fun q_ => ?_)
  · have k := k.1 q_
    refine sp_iconst 23 rfl rfl ?_
    refine hs_istore_n 24 (L2 := [some (.ref o), some (.ref a0), some (.int a1), some (.int (Int32.ofInt 0)), none, none]) rfl rfl rfl rfl ?_
    refine sp_iload_n 25 rfl rfl rfl ?_
    refine sp_aload_n 26 rfl rfl rfl ?_
    refine sp_aload_n 27 rfl rfl rfl ?_
    refine sc_V 30 rfl rfl (kC0 h_o) rfl rfl (Nat.le_refl _) (Nat.le_refl _) rfl ?_
    refine mm_s_mono _ _ _ _ _ _ ?_ k
    rintro r_ h_ ⟨x1, I1, J1, rfl, rfl, k⟩
    refine hs_S (st2 := [.int x1, .int (Int32.ofInt 0)]) rfl ?_
    refine sp_ic_ne 33 rfl rfl (fun q_ => ?_) (fun q_ => ?_)
    · have k := k.2 q_
      refine sp_iconst 38 rfl rfl ?_
      refine hs_istore 40 (L2 := [some (.ref o), some (.ref a0), some (.int a1), some (.int (Int32.ofInt 0)), some (.int (Int32.ofInt 0)), none]) rfl rfl rfl rfl ?_
      refine sp_aload_n 41 rfl rfl rfl ?_
      refine hq_getJ 44 rfl (kC0 h_o) rfl ?_
      refine sp_aload_n 45 rfl rfl rfl ?_
      refine sp_aload_n 46 rfl rfl rfl ?_
      refine sp_iload_n 47 rfl rfl rfl ?_
      refine sp_iload 49 rfl rfl rfl ?_
      refine sc_V 52 rfl rfl (kC0 h_o) rfl rfl (Nat.le_refl _) (Nat.le_refl _) rfl ?_
      refine cy_X1_firstLook h_a0 h_o ?_
      refine sp_iload 54 rfl rfl rfl ?_
      refine sp_iload_n 55 rfl rfl rfl ?_
      refine sc_S 58 rfl rfl rfl rfl (Nat.le_refl _) (Nat.le_refl _) rfl ?_
      refine mm_s_mono _ _ _ _ _ _ ?_ k
      rintro r_ h_ ⟨x2, I2, J2, rfl, rfl, k⟩
      refine hs_S (st2 := [.int x2]) rfl ?_
      refine hs_istore 60 (L2 := [some (.ref o), some (.ref a0), some (.int a1), some (.int (Int32.ofInt 0)), some (.int (Int32.ofInt 0)), some (.int x2)]) rfl rfl rfl rfl ?_
      refine sp_aload_n 61 rfl rfl rfl ?_
      refine sp_dup 62 rfl rfl rfl ?_
      refine hq_getI 65 rfl (kC0 h_o) rfl ?_
      refine sp_iconst 66 rfl rfl ?_
      refine sp_iadd 67 rfl rfl ?_
      refine hq_putI 70 rfl (kC0 h_o) rfl ?_
      refine sp_aload_n 71 rfl rfl rfl ?_
      refine sp_iload_n 72 rfl rfl rfl ?_
      refine hq_putI 75 rfl (kC0 h_o) rfl ?_
      refine sp_iload_n 76 rfl rfl rfl ?_
      refine sp_if_eq 79 rfl rfl (fun _ => ?_) (fun q_ => absurd q_ (by decide))
      refine sp_aload_n 89 rfl rfl rfl ?_
      refine sp_iload 91 rfl rfl rfl ?_
      refine hq_putI 94 rfl (kC0 h_o) rfl ?_
      refine sp_aload_n 95 rfl rfl rfl ?_
      refine sp_aload_n 96 rfl rfl rfl ?_
      refine sp_iload 98 rfl rfl rfl ?_
      refine sc_V 101 rfl rfl (kC0 h_o) rfl rfl (Nat.le_refl _) (Nat.le_refl _) rfl ?_
      refine mm_s_mono _ _ _ _ _ _ ?_ k
      rintro r_ h_ ⟨I3, J3, rfl, rfl, k⟩
      refine hs_S (st2 := []) rfl ?_
      exact st_vret rfl rfl (Nat.le_refl _) (Nat.le_refl _) k
    · have k := k.1 q_
      refine sp_iconst 34 rfl rfl ?_
      refine sp_goto rfl ?_
      refine hs_istore 40 (L2 := [some (.ref o), some (.ref a0), some (.int a1), some (.int (Int32.ofInt 0)), some (.int (Int32.ofInt 1)), none]) rfl rfl rfl rfl ?_
      refine sp_aload_n 41 rfl rfl rfl ?_
      refine hq_getJ 44 rfl (kC0 h_o) rfl ?_
      refine sp_aload_n 45 rfl rfl rfl ?_
      refine sp_aload_n 46 rfl rfl rfl ?_
      refine sp_iload_n 47 rfl rfl rfl ?_
      refine sp_iload 49 rfl rfl rfl ?_
      refine sc_V 52 rfl rfl (kC0 h_o) rfl rfl (Nat.le_refl _) (Nat.le_refl _) rfl ?_
      refine cy_X1_firstLook h_a0 h_o ?_
      refine sp_iload 54 rfl rfl rfl ?_
      refine sp_iload_n 55 rfl rfl rfl ?_
      refine sc_S 58 rfl rfl rfl rfl (Nat.le_refl _) (Nat.le_refl _) rfl ?_
      refine mm_s_mono _ _ _ _ _ _ ?_ k
      rintro r_ h_ ⟨x4, I4, J4, rfl, rfl, k⟩
      refine hs_S (st2 := [.int x4]) rfl ?_
      refine hs_istore 60 (L2 := [some (.ref o), some (.ref a0), some (.int a1), some (.int (Int32.ofInt 0)), some (.int (Int32.ofInt 1)), some (.int x4)]) rfl rfl rfl rfl ?_
      refine sp_aload_n 61 rfl rfl rfl ?_
      refine sp_dup 62 rfl rfl rfl ?_
      refine hq_getI 65 rfl (kC0 h_o) rfl ?_
      refine sp_iconst 66 rfl rfl ?_
      refine sp_iadd 67 rfl rfl ?_
      refine hq_putI 70 rfl (kC0 h_o) rfl ?_
      refine sp_aload_n 71 rfl rfl rfl ?_
      refine sp_iload_n 72 rfl rfl rfl ?_
      refine hq_putI 75 rfl (kC0 h_o) rfl ?_
      refine sp_iload_n 76 rfl rfl rfl ?_
      refine sp_if_eq 79 rfl rfl (fun _ => ?_) (fun q_ => absurd q_ (by decide))
      refine sp_aload_n 89 rfl rfl rfl ?_
      refine sp_iload 91 rfl rfl rfl ?_
      refine hq_putI 94 rfl (kC0 h_o) rfl ?_
      refine sp_aload_n 95 rfl rfl rfl ?_
      refine sp_aload_n 96 rfl rfl rfl ?_
      refine sp_iload 98 rfl rfl rfl ?_
      refine sc_V 101 rfl rfl (kC0 h_o) rfl rfl (Nat.le_refl _) (Nat.le_refl _) rfl ?_
      refine mm_s_mono _ _ _ _ _ _ ?_ k
      rintro r_ h_ ⟨I5, J5, rfl, rfl, k⟩
      refine hs_S (st2 := []) rfl ?_
      exact st_vret rfl rfl (Nat.le_refl _) (Nat.le_refl _) k
  · have k := k.2 q_
    refine sp_aload_n 9 rfl rfl rfl ?_
    refine hq_getI 12 rfl (kC0 h_o) rfl ?_
    refine sp_iconst 13 rfl rfl ?_
    refine sp_irem 14 rfl (by decide) rfl ?_
    refine sp_iconst 15 rfl rfl ?_
    refine sp_ic_ne 18 rfl rfl (fun q_ => ?_) (fun q_ => ?_)
    · have k := k.2 q_
      refine sp_iconst 23 rfl rfl ?_
      refine hs_istore_n 24 (L2 := [some (.ref o), some (.ref a0), some (.int a1), some (.int (Int32.ofInt 0)), none, none]) rfl rfl rfl rfl ?_
      refine sp_iload_n 25 rfl rfl rfl ?_
      refine sp_aload_n 26 rfl rfl rfl ?_
      refine sp_aload_n 27 rfl rfl rfl ?_
      refine sc_V 30 rfl rfl (kC0 h_o) rfl rfl (Nat.le_refl _) (Nat.le_refl _) rfl ?_
      refine mm_s_mono _ _ _ _ _ _ ?_ k
      rintro r_ h_ ⟨x6, I6, J6, rfl, rfl, k⟩
      refine hs_S (st2 := [.int x6, .int (Int32.ofInt 0)]) rfl ?_
      refine sp_ic_ne 33 rfl rfl (fun q_ => ?_) (fun q_ => ?_)
      · have k := k.2 q_
        refine sp_iconst 38 rfl rfl ?_
        refine hs_istore 40 (L2 := [some (.ref o), some (.ref a0), some (.int a1), some (.int (Int32.ofInt 0)), some (.int (Int32.ofInt 0)), none]) rfl rfl rfl rfl ?_
        refine sp_aload_n 41 rfl rfl rfl ?_
        refine hq_getJ 44 rfl (kC0 h_o) rfl ?_
        refine sp_aload_n 45 rfl rfl rfl ?_
        refine sp_aload_n 46 rfl rfl rfl ?_
        refine sp_iload_n 47 rfl rfl rfl ?_
        refine sp_iload 49 rfl rfl rfl ?_
        refine sc_V 52 rfl rfl (kC0 h_o) rfl rfl (Nat.le_refl _) (Nat.le_refl _) rfl ?_
        refine cy_X1_firstLook h_a0 h_o ?_
        refine sp_iload 54 rfl rfl rfl ?_
        refine sp_iload_n 55 rfl rfl rfl ?_
        refine sc_S 58 rfl rfl rfl rfl (Nat.le_refl _) (Nat.le_refl _) rfl ?_
        refine mm_s_mono _ _ _ _ _ _ ?_ k
        rintro r_ h_ ⟨x7, I7, J7, rfl, rfl, k⟩
        refine hs_S (st2 := [.int x7]) rfl ?_
        refine hs_istore 60 (L2 := [some (.ref o), some (.ref a0), some (.int a1), some (.int (Int32.ofInt 0)), some (.int (Int32.ofInt 0)), some (.int x7)]) rfl rfl rfl rfl ?_
        refine sp_aload_n 61 rfl rfl rfl ?_
        refine sp_dup 62 rfl rfl rfl ?_
        refine hq_getI 65 rfl (kC0 h_o) rfl ?_
        refine sp_iconst 66 rfl rfl ?_
        refine sp_iadd 67 rfl rfl ?_
        refine hq_putI 70 rfl (kC0 h_o) rfl ?_
        refine sp_aload_n 71 rfl rfl rfl ?_
        refine sp_iload_n 72 rfl rfl rfl ?_
        refine hq_putI 75 rfl (kC0 h_o) rfl ?_
        refine sp_iload_n 76 rfl rfl rfl ?_
        refine sp_if_eq 79 rfl rfl (fun _ => ?_) (fun q_ => absurd q_ (by decide))
        refine sp_aload_n 89 rfl rfl rfl ?_
        refine sp_iload 91 rfl rfl rfl ?_
        refine hq_putI 94 rfl (kC0 h_o) rfl ?_
        refine sp_aload_n 95 rfl rfl rfl ?_
        refine sp_aload_n 96 rfl rfl rfl ?_
        refine sp_iload 98 rfl rfl rfl ?_
        refine sc_V 101 rfl rfl (kC0 h_o) rfl rfl (Nat.le_refl _) (Nat.le_refl _) rfl ?_
        refine mm_s_mono _ _ _ _ _ _ ?_ k
        rintro r_ h_ ⟨I8, J8, rfl, rfl, k⟩
        refine hs_S (st2 := []) rfl ?_
        exact st_vret rfl rfl (Nat.le_refl _) (Nat.le_refl _) k
      · have k := k.1 q_
        refine sp_iconst 34 rfl rfl ?_
        refine sp_goto rfl ?_
        refine hs_istore 40 (L2 := [some (.ref o), some (.ref a0), some (.int a1), some (.int (Int32.ofInt 0)), some (.int (Int32.ofInt 1)), none]) rfl rfl rfl rfl ?_
        refine sp_aload_n 41 rfl rfl rfl ?_
        refine hq_getJ 44 rfl (kC0 h_o) rfl ?_
        refine sp_aload_n 45 rfl rfl rfl ?_
        refine sp_aload_n 46 rfl rfl rfl ?_
        refine sp_iload_n 47 rfl rfl rfl ?_
        refine sp_iload 49 rfl rfl rfl ?_
        refine sc_V 52 rfl rfl (kC0 h_o) rfl rfl (Nat.le_refl _) (Nat.le_refl _) rfl ?_
        refine cy_X1_firstLook h_a0 h_o ?_
        refine sp_iload 54 rfl rfl rfl ?_
        refine sp_iload_n 55 rfl rfl rfl ?_
        refine sc_S 58 rfl rfl rfl rfl (Nat.le_refl _) (Nat.le_refl _) rfl ?_
        refine mm_s_mono _ _ _ _ _ _ ?_ k
        rintro r_ h_ ⟨x9, I9, J9, rfl, rfl, k⟩
        refine hs_S (st2 := [.int x9]) rfl ?_
        refine hs_istore 60 (L2 := [some (.ref o), some (.ref a0), some (.int a1), some (.int (Int32.ofInt 0)), some (.int (Int32.ofInt 1)), some (.int x9)]) rfl rfl rfl rfl ?_
        refine sp_aload_n 61 rfl rfl rfl ?_
        refine sp_dup 62 rfl rfl rfl ?_
        refine hq_getI 65 rfl (kC0 h_o) rfl ?_
        refine sp_iconst 66 rfl rfl ?_
        refine sp_iadd 67 rfl rfl ?_
        refine hq_putI 70 rfl (kC0 h_o) rfl ?_
        refine sp_aload_n 71 rfl rfl rfl ?_
        refine sp_iload_n 72 rfl rfl rfl ?_
        refine hq_putI 75 rfl (kC0 h_o) rfl ?_
        refine sp_iload_n 76 rfl rfl rfl ?_
        refine sp_if_eq 79 rfl rfl (fun _ => ?_) (fun q_ => absurd q_ (by decide))
        refine sp_aload_n 89 rfl rfl rfl ?_
        refine sp_iload 91 rfl rfl rfl ?_
        refine hq_putI 94 rfl (kC0 h_o) rfl ?_
        refine sp_aload_n 95 rfl rfl rfl ?_
        refine sp_aload_n 96 rfl rfl rfl ?_
        refine sp_iload 98 rfl rfl rfl ?_
        refine sc_V 101 rfl rfl (kC0 h_o) rfl rfl (Nat.le_refl _) (Nat.le_refl _) rfl ?_
        refine mm_s_mono _ _ _ _ _ _ ?_ k
        rintro r_ h_ ⟨I10, J10, rfl, rfl, k⟩
        refine hs_S (st2 := []) rfl ?_
        exact st_vret rfl rfl (Nat.le_refl _) (Nat.le_refl _) k
    · have k := k.1 q_
      refine sp_iconst 19 rfl rfl ?_
      refine sp_goto rfl ?_
      refine hs_istore_n 24 (L2 := [some (.ref o), some (.ref a0), some (.int a1), some (.int (Int32.ofInt 1)), none, none]) rfl rfl rfl rfl ?_
      refine sp_iload_n 25 rfl rfl rfl ?_
      refine sp_aload_n 26 rfl rfl rfl ?_
      refine sp_aload_n 27 rfl rfl rfl ?_
      refine sc_V 30 rfl rfl (kC0 h_o) rfl rfl (Nat.le_refl _) (Nat.le_refl _) rfl ?_
      refine mm_s_mono _ _ _ _ _ _ ?_ k
      rintro r_ h_ ⟨x11, I11, J11, rfl, rfl, k⟩
      refine hs_S (st2 := [.int x11, .int (Int32.ofInt 1)]) rfl ?_
      refine sp_ic_ne 33 rfl rfl (fun q_ => ?_) (fun q_ => ?_)
      · have k := k.2 q_
        refine sp_iconst 38 rfl rfl ?_
        refine hs_istore 40 (L2 := [some (.ref o), some (.ref a0), some (.int a1), some (.int (Int32.ofInt 1)), some (.int (Int32.ofInt 0)), none]) rfl rfl rfl rfl ?_
        refine sp_aload_n 41 rfl rfl rfl ?_
        refine hq_getJ 44 rfl (kC0 h_o) rfl ?_
        refine sp_aload_n 45 rfl rfl rfl ?_
        refine sp_aload_n 46 rfl rfl rfl ?_
        refine sp_iload_n 47 rfl rfl rfl ?_
        refine sp_iload 49 rfl rfl rfl ?_
        refine sc_V 52 rfl rfl (kC0 h_o) rfl rfl (Nat.le_refl _) (Nat.le_refl _) rfl ?_
        refine cy_X1_firstLook h_a0 h_o ?_
        refine sp_iload 54 rfl rfl rfl ?_
        refine sp_iload_n 55 rfl rfl rfl ?_
        refine sc_S 58 rfl rfl rfl rfl (Nat.le_refl _) (Nat.le_refl _) rfl ?_
        refine mm_s_mono _ _ _ _ _ _ ?_ k
        rintro r_ h_ ⟨x12, I12, J12, rfl, rfl, k⟩
        refine hs_S (st2 := [.int x12]) rfl ?_
        refine hs_istore 60 (L2 := [some (.ref o), some (.ref a0), some (.int a1), some (.int (Int32.ofInt 1)), some (.int (Int32.ofInt 0)), some (.int x12)]) rfl rfl rfl rfl ?_
        refine sp_aload_n 61 rfl rfl rfl ?_
        refine sp_dup 62 rfl rfl rfl ?_
        refine hq_getI 65 rfl (kC0 h_o) rfl ?_
        refine sp_iconst 66 rfl rfl ?_
        refine sp_iadd 67 rfl rfl ?_
        refine hq_putI 70 rfl (kC0 h_o) rfl ?_
        refine sp_aload_n 71 rfl rfl rfl ?_
        refine sp_iload_n 72 rfl rfl rfl ?_
        refine hq_putI 75 rfl (kC0 h_o) rfl ?_
        refine sp_iload_n 76 rfl rfl rfl ?_
        refine sp_if_eq 79 rfl rfl (fun q_ => absurd q_ (by decide)) (fun _ => ?_)
        refine sp_aload_n 80 rfl rfl rfl ?_
        refine sp_iload 82 rfl rfl rfl ?_
        refine hq_putI 85 rfl (kC0 h_o) rfl ?_
        refine sp_goto rfl ?_
        refine sp_aload_n 95 rfl rfl rfl ?_
        refine sp_aload_n 96 rfl rfl rfl ?_
        refine sp_iload 98 rfl rfl rfl ?_
        refine sc_V 101 rfl rfl (kC0 h_o) rfl rfl (Nat.le_refl _) (Nat.le_refl _) rfl ?_
        refine mm_s_mono _ _ _ _ _ _ ?_ k
        rintro r_ h_ ⟨I13, J13, rfl, rfl, k⟩
        refine hs_S (st2 := []) rfl ?_
        exact st_vret rfl rfl (Nat.le_refl _) (Nat.le_refl _) k
      · have k := k.1 q_
        refine sp_iconst 34 rfl rfl ?_
        refine sp_goto rfl ?_
        refine hs_istore 40 (L2 := [some (.ref o), some (.ref a0), some (.int a1), some (.int (Int32.ofInt 1)), some (.int (Int32.ofInt 1)), none]) rfl rfl rfl rfl ?_
        refine sp_aload_n 41 rfl rfl rfl ?_
        refine hq_getJ 44 rfl (kC0 h_o) rfl ?_
        refine sp_aload_n 45 rfl rfl rfl ?_
        refine sp_aload_n 46 rfl rfl rfl ?_
        refine sp_iload_n 47 rfl rfl rfl ?_
        refine sp_iload 49 rfl rfl rfl ?_
        refine sc_V 52 rfl rfl (kC0 h_o) rfl rfl (Nat.le_refl _) (Nat.le_refl _) rfl ?_
        refine cy_X1_firstLook h_a0 h_o ?_
        refine sp_iload 54 rfl rfl rfl ?_
        refine sp_iload_n 55 rfl rfl rfl ?_
        refine sc_S 58 rfl rfl rfl rfl (Nat.le_refl _) (Nat.le_refl _) rfl ?_
        refine mm_s_mono _ _ _ _ _ _ ?_ k
        rintro r_ h_ ⟨x14, I14, J14, rfl, rfl, k⟩
        refine hs_S (st2 := [.int x14]) rfl ?_
        refine hs_istore 60 (L2 := [some (.ref o), some (.ref a0), some (.int a1), some (.int (Int32.ofInt 1)), some (.int (Int32.ofInt 1)), some (.int x14)]) rfl rfl rfl rfl ?_
        refine sp_aload_n 61 rfl rfl rfl ?_
        refine sp_dup 62 rfl rfl rfl ?_
        refine hq_getI 65 rfl (kC0 h_o) rfl ?_
        refine sp_iconst 66 rfl rfl ?_
        refine sp_iadd 67 rfl rfl ?_
        refine hq_putI 70 rfl (kC0 h_o) rfl ?_
        refine sp_aload_n 71 rfl rfl rfl ?_
        refine sp_iload_n 72 rfl rfl rfl ?_
        refine hq_putI 75 rfl (kC0 h_o) rfl ?_
        refine sp_iload_n 76 rfl rfl rfl ?_
        refine sp_if_eq 79 rfl rfl (fun q_ => absurd q_ (by decide)) (fun _ => ?_)
        refine sp_aload_n 80 rfl rfl rfl ?_
        refine sp_iload 82 rfl rfl rfl ?_
        refine hq_putI 85 rfl (kC0 h_o) rfl ?_
        refine sp_goto rfl ?_
        refine sp_aload_n 95 rfl rfl rfl ?_
        refine sp_aload_n 96 rfl rfl rfl ?_
        refine sp_iload 98 rfl rfl rfl ?_
        refine sc_V 101 rfl rfl (kC0 h_o) rfl rfl (Nat.le_refl _) (Nat.le_refl _) rfl ?_
        refine mm_s_mono _ _ _ _ _ _ ?_ k
        rintro r_ h_ ⟨I15, J15, rfl, rfl, k⟩
        refine hs_S (st2 := []) rfl ?_
        exact st_vret rfl rfl (Nat.le_refl _) (Nat.le_refl _) k
def w_X3_isBy_15 (SL : Nat) (xs : Nat → Int32) (d : Nat) (p s q : Nat) (Q : Option Value → mm_H → Prop) (v1 : Int32) (v2 : Int32) (v3 : Int32) (v4 : Int32) (v5 : Int64) (v7 : Int32) (v8 : Int32) (v9 : Int32) (I : Nat → Nat → Int32) (J : Nat → Nat → Int64) : Prop := mm_w SL xs (mm_s SL xs (d + 4)) mm_am kX3_isBy 0 0 (some .boolean) Q 15 [some (.ref 29), some (.int v1), some (.int v2), some (.int v3), some (.int v4), some (.long v5), none, some (.int v7), some (.int v8), some (.int v9), none] [] (hp p s q I J) 0 0
theorem sg_X3_isBy {SL : Nat} {xs : Nat → Int32} {d : Nat} {p s q : Nat} {Q : Option Value → mm_H → Prop} {a0 : Int32} {a1 : Int32} {a2 : Int32} {a3 : Int32} {I : Nat → Nat → Int32} {J : Nat → Nat → Int64}  (k : w_X3_isBy_15 SL xs d p s q Q a0 a1 a2 a3 (sx_X6_all a0) (Int32.ofInt 1) (Int32.ofInt 0) (Int32.ofInt 0) I J) : mm_s SL xs (d + 5) 39 [.ref 29, .int a0, .int a1, .int a2, .int a3] (hp p s q I J) Q := by
  refine e_X3_isBy rfl ?_
  refine hs_L (L2 := [some (.ref 29), some (.int a0), some (.int a1), some (.int a2), some (.int a3), none, none, none, none, none, none]) rfl ?_
  refine sp_iload_n 1 rfl rfl rfl ?_
  refine sc_S 4 rfl rfl rfl rfl (Nat.le_refl _) (Nat.le_refl _) rfl ?_
  refine cx_X6_all ?_
  refine hs_S (st2 := [.long (sx_X6_all a0)]) rfl ?_
  refine hs_lstore 6 (L2 := [some (.ref 29), some (.int a0), some (.int a1), some (.int a2), some (.int a3), some (.long (sx_X6_all a0)), none, none, none, none, none]) rfl rfl rfl rfl ?_
  refine sp_iconst 7 rfl rfl ?_
  refine hs_istore 9 (L2 := [some (.ref 29), some (.int a0), some (.int a1), some (.int a2), some (.int a3), some (.long (sx_X6_all a0)), none, some (.int (Int32.ofInt 1)), none, none, none]) rfl rfl rfl rfl ?_
  refine sp_iconst 10 rfl rfl ?_
  refine hs_istore 12 (L2 := [some (.ref 29), some (.int a0), some (.int a1), some (.int a2), some (.int a3), some (.long (sx_X6_all a0)), none, some (.int (Int32.ofInt 1)), some (.int (Int32.ofInt 0)), none, none]) rfl rfl rfl rfl ?_
  refine sp_iconst 13 rfl rfl ?_
  refine hs_istore 15 (L2 := [some (.ref 29), some (.int a0), some (.int a1), some (.int a2), some (.int a3), some (.long (sx_X6_all a0)), none, some (.int (Int32.ofInt 1)), some (.int (Int32.ofInt 0)), some (.int (Int32.ofInt 0)), none]) rfl rfl rfl rfl ?_
  exact k
theorem sg_X3_isBy_15 {SL : Nat} {xs : Nat → Int32} {d : Nat} {p s q : Nat} {Q : Option Value → mm_H → Prop} {v1 : Int32} {v2 : Int32} {v3 : Int32} {v4 : Int32} {v5 : Int64} {v7 : Int32} {v8 : Int32} {v9 : Int32} {I : Nat → Nat → Int32} {J : Nat → Nat → Int64}  (k : (((I 29 1) ≤ v9 → Q (some (.int (Int32.ofInt 1))) (hp p s q I J)) ∧ (¬ ((I 29 1) ≤ v9) → (((Int32.ofInt 60) ≤ v9 → Q (some (.int (Int32.ofInt 1))) (hp p s q I J)) ∧ (¬ ((Int32.ofInt 60) ≤ v9) → (((v9 - v9 / (Int32.ofInt 2) * (Int32.ofInt 2)) = Int32.ofInt 0 → (mm_s SL xs (d + 4) 70 [.long v5, .int v8, .int v7, .int v2] (hp p s q I J) (fun r_ h_ => ∃ x2 I2 J2, r_ = some (.int x2) ∧ h_ = hp p s q I2 J2 ∧ (vp_in v9 60 ∧ ((x2 = (I2 30 ((v9).toNatClampNeg)) → ((v4 ≤ Int32.ofInt 0 → w_X3_isBy_15 SL xs d p s q Q v1 v2 v3 v4 (v5 &&& ((sx_X6_bit x2) ^^^ (Int64.ofInt (-1)))) v7 (sx_X6_next x2 v1 v7) (v9 + Int32.ofInt 1) I2 J2) ∧ (¬ (v4 ≤ Int32.ofInt 0) → (¬ v4 = 0 ∧ ((((v9 + (Int32.ofInt 1)) - (v9 + (Int32.ofInt 1)) / v4 * v4) = Int32.ofInt 0 → ((v7 = Int32.ofInt 0 → w_X3_isBy_15 SL xs d p s q Q v1 v2 v3 v4 (v5 &&& ((sx_X6_bit x2) ^^^ (Int64.ofInt (-1)))) (Int32.ofInt 1) (sx_X6_next x2 v1 (Int32.ofInt 1)) (v9 + Int32.ofInt 1) I2 J2) ∧ (¬ (v7 = Int32.ofInt 0) → w_X3_isBy_15 SL xs d p s q Q v1 v2 v3 v4 (v5 &&& ((sx_X6_bit x2) ^^^ (Int64.ofInt (-1)))) (Int32.ofInt 0) (sx_X6_next x2 v1 (Int32.ofInt 0)) (v9 + Int32.ofInt 1) I2 J2))) ∧ (¬ (((v9 + (Int32.ofInt 1)) - (v9 + (Int32.ofInt 1)) / v4 * v4) = Int32.ofInt 0) → w_X3_isBy_15 SL xs d p s q Q v1 v2 v3 v4 (v5 &&& ((sx_X6_bit x2) ^^^ (Int64.ofInt (-1)))) v7 (sx_X6_next x2 v1 v7) (v9 + Int32.ofInt 1) I2 J2)))))) ∧ (¬ (x2 = (I2 30 ((v9).toNatClampNeg))) → Q (some (.int (Int32.ofInt 0))) (hp p s q I2 J2))))))) ∧ (¬ ((v9 - v9 / (Int32.ofInt 2) * (Int32.ofInt 2)) = Int32.ofInt 0) → (mm_s SL xs (d + 4) 70 [.long v5, .int v8, .int v7, .int v3] (hp p s q I J) (fun r_ h_ => ∃ x1 I1 J1, r_ = some (.int x1) ∧ h_ = hp p s q I1 J1 ∧ (vp_in v9 60 ∧ ((x1 = (I1 30 ((v9).toNatClampNeg)) → ((v4 ≤ Int32.ofInt 0 → w_X3_isBy_15 SL xs d p s q Q v1 v2 v3 v4 (v5 &&& ((sx_X6_bit x1) ^^^ (Int64.ofInt (-1)))) v7 (sx_X6_next x1 v1 v7) (v9 + Int32.ofInt 1) I1 J1) ∧ (¬ (v4 ≤ Int32.ofInt 0) → (¬ v4 = 0 ∧ ((((v9 + (Int32.ofInt 1)) - (v9 + (Int32.ofInt 1)) / v4 * v4) = Int32.ofInt 0 → ((v7 = Int32.ofInt 0 → w_X3_isBy_15 SL xs d p s q Q v1 v2 v3 v4 (v5 &&& ((sx_X6_bit x1) ^^^ (Int64.ofInt (-1)))) (Int32.ofInt 1) (sx_X6_next x1 v1 (Int32.ofInt 1)) (v9 + Int32.ofInt 1) I1 J1) ∧ (¬ (v7 = Int32.ofInt 0) → w_X3_isBy_15 SL xs d p s q Q v1 v2 v3 v4 (v5 &&& ((sx_X6_bit x1) ^^^ (Int64.ofInt (-1)))) (Int32.ofInt 0) (sx_X6_next x1 v1 (Int32.ofInt 0)) (v9 + Int32.ofInt 1) I1 J1))) ∧ (¬ (((v9 + (Int32.ofInt 1)) - (v9 + (Int32.ofInt 1)) / v4 * v4) = Int32.ofInt 0) → w_X3_isBy_15 SL xs d p s q Q v1 v2 v3 v4 (v5 &&& ((sx_X6_bit x1) ^^^ (Int64.ofInt (-1)))) v7 (sx_X6_next x1 v1 v7) (v9 + Int32.ofInt 1) I1 J1)))))) ∧ (¬ (x1 = (I1 30 ((v9).toNatClampNeg))) → Q (some (.int (Int32.ofInt 0))) (hp p s q I1 J1))))))))))))) : w_X3_isBy_15 SL xs d p s q Q v1 v2 v3 v4 v5 v7 v8 v9 I J := by
  unfold w_X3_isBy_15
  refine sp_iload 17 rfl rfl rfl ?_
  refine sp_aload_n 18 rfl rfl rfl ?_
  refine hq_getI 21 rfl rfl rfl ?_
  refine sp_ic_ge 24 rfl rfl (fun q_ => ?_) (fun q_ => ?_)
  · have k := k.1 q_
    refine sp_iconst 126 rfl rfl ?_
    exact st_zret rfl rfl (by decide) (Nat.le_refl _) (Nat.le_refl _) k
  · have k := k.2 q_
    refine sp_iload 26 rfl rfl rfl ?_
    refine sp_bipush 28 rfl rfl ?_
    refine sp_I (y := Int32.ofInt 60) rfl ?_
    refine sp_ic_ge 31 rfl rfl (fun q_ => ?_) (fun q_ => ?_)
    · have k := k.1 q_
      refine sp_iconst 126 rfl rfl ?_
      exact st_zret rfl rfl (by decide) (Nat.le_refl _) (Nat.le_refl _) k
    · have k := k.2 q_
      refine sp_lload 33 rfl rfl rfl ?_
      refine sp_iload 35 rfl rfl rfl ?_
      refine sp_iload 37 rfl rfl rfl ?_
      refine sp_iload 39 rfl rfl rfl ?_
      refine sp_iconst 40 rfl rfl ?_
      refine sp_irem 41 rfl (by decide) rfl ?_
      refine sp_if_ne 44 rfl rfl (fun q_ => ?_) (fun q_ => ?_)
      · have k := k.2 q_
        refine sp_iload_n 49 rfl rfl rfl ?_
        refine sc_S 52 rfl rfl rfl rfl (Nat.le_refl _) (Nat.le_refl _) rfl ?_
        refine mm_s_mono _ _ _ _ _ _ ?_ k
        rintro r_ h_ ⟨x1, I1, J1, rfl, rfl, k⟩
        refine hs_S (st2 := [.int x1]) rfl ?_
        refine hs_istore 54 (L2 := [some (.ref 29), some (.int v1), some (.int v2), some (.int v3), some (.int v4), some (.long v5), none, some (.int v7), some (.int v8), some (.int v9), some (.int x1)]) rfl rfl rfl rfl ?_
        refine sp_iload 56 rfl rfl rfl ?_
        refine sp_aload_n 57 rfl rfl rfl ?_
        refine hq_getR 60 rfl rfl rfl rfl ?_
        refine sp_iload 62 rfl rfl rfl ?_
        have n1_ := k.1
        have k := k.2
        refine hq_iald 63 rfl rfl n1_ rfl ?_
        refine sp_ic_eq 66 rfl rfl (fun q_ => ?_) (fun q_ => ?_)
        · have k := k.1 q_
          refine sp_lload 70 rfl rfl rfl ?_
          refine sp_iload 72 rfl rfl rfl ?_
          refine sc_S 75 rfl rfl rfl rfl (Nat.le_refl _) (Nat.le_refl _) rfl ?_
          refine cx_X6_bit ?_
          refine hs_S (st2 := [.long (sx_X6_bit x1), .long v5]) rfl ?_
          refine sp_ldc2 78 rfl rfl ?_
          refine sp_lxor 79 rfl rfl ?_
          refine sp_land 80 rfl rfl ?_
          refine hs_lstore 82 (L2 := [some (.ref 29), some (.int v1), some (.int v2), some (.int v3), some (.int v4), some (.long (v5 &&& ((sx_X6_bit x1) ^^^ (Int64.ofInt (-1))))), none, some (.int v7), some (.int v8), some (.int v9), some (.int x1)]) rfl rfl rfl rfl ?_
          refine sp_iload 84 rfl rfl rfl ?_
          refine sp_if_le 87 rfl rfl (fun q_ => ?_) (fun q_ => ?_)
          · have k := k.1 q_
            refine sp_iload 111 rfl rfl rfl ?_
            refine sp_iload_n 112 rfl rfl rfl ?_
            refine sp_iload 114 rfl rfl rfl ?_
            refine sc_S 117 rfl rfl rfl rfl (Nat.le_refl _) (Nat.le_refl _) rfl ?_
            refine cx_X6_next ?_
            refine hs_S (st2 := [.int (sx_X6_next x1 v1 v7)]) rfl ?_
            refine hs_istore 119 (L2 := [some (.ref 29), some (.int v1), some (.int v2), some (.int v3), some (.int v4), some (.long (v5 &&& ((sx_X6_bit x1) ^^^ (Int64.ofInt (-1))))), none, some (.int v7), some (.int (sx_X6_next x1 v1 v7)), some (.int v9), some (.int x1)]) rfl rfl rfl rfl ?_
            refine hs_iinc 122 (L2 := [some (.ref 29), some (.int v1), some (.int v2), some (.int v3), some (.int v4), some (.long (v5 &&& ((sx_X6_bit x1) ^^^ (Int64.ofInt (-1))))), none, some (.int v7), some (.int (sx_X6_next x1 v1 v7)), some (.int (v9 + Int32.ofInt 1)), some (.int x1)]) rfl rfl rfl rfl rfl ?_
            refine sp_goto rfl ?_
            refine st_wk (L1 := [some (.ref 29), some (.int v1), some (.int v2), some (.int v3), some (.int v4), some (.long (v5 &&& ((sx_X6_bit x1) ^^^ (Int64.ofInt (-1))))), none, some (.int v7), some (.int (sx_X6_next x1 v1 v7)), some (.int (v9 + Int32.ofInt 1)), none]) ⟨.inr rfl, .inr rfl, .inr rfl, .inr rfl, .inr rfl, .inr rfl, .inl rfl, .inr rfl, .inr rfl, .inr rfl, .inl rfl, trivial⟩ ?_
            exact k
          · have k := k.2 q_
            refine sp_iload 89 rfl rfl rfl ?_
            refine sp_iconst 90 rfl rfl ?_
            refine sp_iadd 91 rfl rfl ?_
            refine sp_iload 93 rfl rfl rfl ?_
            have n2_ := k.1
            have k := k.2
            refine sp_irem 94 rfl n2_ rfl ?_
            refine sp_if_ne 97 rfl rfl (fun q_ => ?_) (fun q_ => ?_)
            · have k := k.2 q_
              refine sp_iload 111 rfl rfl rfl ?_
              refine sp_iload_n 112 rfl rfl rfl ?_
              refine sp_iload 114 rfl rfl rfl ?_
              refine sc_S 117 rfl rfl rfl rfl (Nat.le_refl _) (Nat.le_refl _) rfl ?_
              refine cx_X6_next ?_
              refine hs_S (st2 := [.int (sx_X6_next x1 v1 v7)]) rfl ?_
              refine hs_istore 119 (L2 := [some (.ref 29), some (.int v1), some (.int v2), some (.int v3), some (.int v4), some (.long (v5 &&& ((sx_X6_bit x1) ^^^ (Int64.ofInt (-1))))), none, some (.int v7), some (.int (sx_X6_next x1 v1 v7)), some (.int v9), some (.int x1)]) rfl rfl rfl rfl ?_
              refine hs_iinc 122 (L2 := [some (.ref 29), some (.int v1), some (.int v2), some (.int v3), some (.int v4), some (.long (v5 &&& ((sx_X6_bit x1) ^^^ (Int64.ofInt (-1))))), none, some (.int v7), some (.int (sx_X6_next x1 v1 v7)), some (.int (v9 + Int32.ofInt 1)), some (.int x1)]) rfl rfl rfl rfl rfl ?_
              refine sp_goto rfl ?_
              refine st_wk (L1 := [some (.ref 29), some (.int v1), some (.int v2), some (.int v3), some (.int v4), some (.long (v5 &&& ((sx_X6_bit x1) ^^^ (Int64.ofInt (-1))))), none, some (.int v7), some (.int (sx_X6_next x1 v1 v7)), some (.int (v9 + Int32.ofInt 1)), none]) ⟨.inr rfl, .inr rfl, .inr rfl, .inr rfl, .inr rfl, .inr rfl, .inl rfl, .inr rfl, .inr rfl, .inr rfl, .inl rfl, trivial⟩ ?_
              exact k
            · have k := k.1 q_
              refine sp_iload 99 rfl rfl rfl ?_
              refine sp_if_ne 102 rfl rfl (fun q_ => ?_) (fun q_ => ?_)
              · have k := k.2 q_
                refine sp_iconst 107 rfl rfl ?_
                refine hs_istore 109 (L2 := [some (.ref 29), some (.int v1), some (.int v2), some (.int v3), some (.int v4), some (.long (v5 &&& ((sx_X6_bit x1) ^^^ (Int64.ofInt (-1))))), none, some (.int (Int32.ofInt 0)), some (.int v8), some (.int v9), some (.int x1)]) rfl rfl rfl rfl ?_
                refine sp_iload 111 rfl rfl rfl ?_
                refine sp_iload_n 112 rfl rfl rfl ?_
                refine sp_iload 114 rfl rfl rfl ?_
                refine sc_S 117 rfl rfl rfl rfl (Nat.le_refl _) (Nat.le_refl _) rfl ?_
                refine cx_X6_next ?_
                refine hs_S (st2 := [.int (sx_X6_next x1 v1 (Int32.ofInt 0))]) rfl ?_
                refine hs_istore 119 (L2 := [some (.ref 29), some (.int v1), some (.int v2), some (.int v3), some (.int v4), some (.long (v5 &&& ((sx_X6_bit x1) ^^^ (Int64.ofInt (-1))))), none, some (.int (Int32.ofInt 0)), some (.int (sx_X6_next x1 v1 (Int32.ofInt 0))), some (.int v9), some (.int x1)]) rfl rfl rfl rfl ?_
                refine hs_iinc 122 (L2 := [some (.ref 29), some (.int v1), some (.int v2), some (.int v3), some (.int v4), some (.long (v5 &&& ((sx_X6_bit x1) ^^^ (Int64.ofInt (-1))))), none, some (.int (Int32.ofInt 0)), some (.int (sx_X6_next x1 v1 (Int32.ofInt 0))), some (.int (v9 + Int32.ofInt 1)), some (.int x1)]) rfl rfl rfl rfl rfl ?_
                refine sp_goto rfl ?_
                refine st_wk (L1 := [some (.ref 29), some (.int v1), some (.int v2), some (.int v3), some (.int v4), some (.long (v5 &&& ((sx_X6_bit x1) ^^^ (Int64.ofInt (-1))))), none, some (.int (Int32.ofInt 0)), some (.int (sx_X6_next x1 v1 (Int32.ofInt 0))), some (.int (v9 + Int32.ofInt 1)), none]) ⟨.inr rfl, .inr rfl, .inr rfl, .inr rfl, .inr rfl, .inr rfl, .inl rfl, .inr rfl, .inr rfl, .inr rfl, .inl rfl, trivial⟩ ?_
                exact k
              · have k := k.1 q_
                refine sp_iconst 103 rfl rfl ?_
                refine sp_goto rfl ?_
                refine hs_istore 109 (L2 := [some (.ref 29), some (.int v1), some (.int v2), some (.int v3), some (.int v4), some (.long (v5 &&& ((sx_X6_bit x1) ^^^ (Int64.ofInt (-1))))), none, some (.int (Int32.ofInt 1)), some (.int v8), some (.int v9), some (.int x1)]) rfl rfl rfl rfl ?_
                refine sp_iload 111 rfl rfl rfl ?_
                refine sp_iload_n 112 rfl rfl rfl ?_
                refine sp_iload 114 rfl rfl rfl ?_
                refine sc_S 117 rfl rfl rfl rfl (Nat.le_refl _) (Nat.le_refl _) rfl ?_
                refine cx_X6_next ?_
                refine hs_S (st2 := [.int (sx_X6_next x1 v1 (Int32.ofInt 1))]) rfl ?_
                refine hs_istore 119 (L2 := [some (.ref 29), some (.int v1), some (.int v2), some (.int v3), some (.int v4), some (.long (v5 &&& ((sx_X6_bit x1) ^^^ (Int64.ofInt (-1))))), none, some (.int (Int32.ofInt 1)), some (.int (sx_X6_next x1 v1 (Int32.ofInt 1))), some (.int v9), some (.int x1)]) rfl rfl rfl rfl ?_
                refine hs_iinc 122 (L2 := [some (.ref 29), some (.int v1), some (.int v2), some (.int v3), some (.int v4), some (.long (v5 &&& ((sx_X6_bit x1) ^^^ (Int64.ofInt (-1))))), none, some (.int (Int32.ofInt 1)), some (.int (sx_X6_next x1 v1 (Int32.ofInt 1))), some (.int (v9 + Int32.ofInt 1)), some (.int x1)]) rfl rfl rfl rfl rfl ?_
                refine sp_goto rfl ?_
                refine st_wk (L1 := [some (.ref 29), some (.int v1), some (.int v2), some (.int v3), some (.int v4), some (.long (v5 &&& ((sx_X6_bit x1) ^^^ (Int64.ofInt (-1))))), none, some (.int (Int32.ofInt 1)), some (.int (sx_X6_next x1 v1 (Int32.ofInt 1))), some (.int (v9 + Int32.ofInt 1)), none]) ⟨.inr rfl, .inr rfl, .inr rfl, .inr rfl, .inr rfl, .inr rfl, .inl rfl, .inr rfl, .inr rfl, .inr rfl, .inl rfl, trivial⟩ ?_
                exact k
        · have k := k.2 q_
          refine sp_iconst 67 rfl rfl ?_
          exact st_zret rfl rfl (by decide) (Nat.le_refl _) (Nat.le_refl _) k
      · have k := k.1 q_
        refine sp_iload_n 45 rfl rfl rfl ?_
        refine sp_goto rfl ?_
        refine sc_S 52 rfl rfl rfl rfl (Nat.le_refl _) (Nat.le_refl _) rfl ?_
        refine mm_s_mono _ _ _ _ _ _ ?_ k
        rintro r_ h_ ⟨x2, I2, J2, rfl, rfl, k⟩
        refine hs_S (st2 := [.int x2]) rfl ?_
        refine hs_istore 54 (L2 := [some (.ref 29), some (.int v1), some (.int v2), some (.int v3), some (.int v4), some (.long v5), none, some (.int v7), some (.int v8), some (.int v9), some (.int x2)]) rfl rfl rfl rfl ?_
        refine sp_iload 56 rfl rfl rfl ?_
        refine sp_aload_n 57 rfl rfl rfl ?_
        refine hq_getR 60 rfl rfl rfl rfl ?_
        refine sp_iload 62 rfl rfl rfl ?_
        have n3_ := k.1
        have k := k.2
        refine hq_iald 63 rfl rfl n3_ rfl ?_
        refine sp_ic_eq 66 rfl rfl (fun q_ => ?_) (fun q_ => ?_)
        · have k := k.1 q_
          refine sp_lload 70 rfl rfl rfl ?_
          refine sp_iload 72 rfl rfl rfl ?_
          refine sc_S 75 rfl rfl rfl rfl (Nat.le_refl _) (Nat.le_refl _) rfl ?_
          refine cx_X6_bit ?_
          refine hs_S (st2 := [.long (sx_X6_bit x2), .long v5]) rfl ?_
          refine sp_ldc2 78 rfl rfl ?_
          refine sp_lxor 79 rfl rfl ?_
          refine sp_land 80 rfl rfl ?_
          refine hs_lstore 82 (L2 := [some (.ref 29), some (.int v1), some (.int v2), some (.int v3), some (.int v4), some (.long (v5 &&& ((sx_X6_bit x2) ^^^ (Int64.ofInt (-1))))), none, some (.int v7), some (.int v8), some (.int v9), some (.int x2)]) rfl rfl rfl rfl ?_
          refine sp_iload 84 rfl rfl rfl ?_
          refine sp_if_le 87 rfl rfl (fun q_ => ?_) (fun q_ => ?_)
          · have k := k.1 q_
            refine sp_iload 111 rfl rfl rfl ?_
            refine sp_iload_n 112 rfl rfl rfl ?_
            refine sp_iload 114 rfl rfl rfl ?_
            refine sc_S 117 rfl rfl rfl rfl (Nat.le_refl _) (Nat.le_refl _) rfl ?_
            refine cx_X6_next ?_
            refine hs_S (st2 := [.int (sx_X6_next x2 v1 v7)]) rfl ?_
            refine hs_istore 119 (L2 := [some (.ref 29), some (.int v1), some (.int v2), some (.int v3), some (.int v4), some (.long (v5 &&& ((sx_X6_bit x2) ^^^ (Int64.ofInt (-1))))), none, some (.int v7), some (.int (sx_X6_next x2 v1 v7)), some (.int v9), some (.int x2)]) rfl rfl rfl rfl ?_
            refine hs_iinc 122 (L2 := [some (.ref 29), some (.int v1), some (.int v2), some (.int v3), some (.int v4), some (.long (v5 &&& ((sx_X6_bit x2) ^^^ (Int64.ofInt (-1))))), none, some (.int v7), some (.int (sx_X6_next x2 v1 v7)), some (.int (v9 + Int32.ofInt 1)), some (.int x2)]) rfl rfl rfl rfl rfl ?_
            refine sp_goto rfl ?_
            refine st_wk (L1 := [some (.ref 29), some (.int v1), some (.int v2), some (.int v3), some (.int v4), some (.long (v5 &&& ((sx_X6_bit x2) ^^^ (Int64.ofInt (-1))))), none, some (.int v7), some (.int (sx_X6_next x2 v1 v7)), some (.int (v9 + Int32.ofInt 1)), none]) ⟨.inr rfl, .inr rfl, .inr rfl, .inr rfl, .inr rfl, .inr rfl, .inl rfl, .inr rfl, .inr rfl, .inr rfl, .inl rfl, trivial⟩ ?_
            exact k
          · have k := k.2 q_
            refine sp_iload 89 rfl rfl rfl ?_
            refine sp_iconst 90 rfl rfl ?_
            refine sp_iadd 91 rfl rfl ?_
            refine sp_iload 93 rfl rfl rfl ?_
            have n4_ := k.1
            have k := k.2
            refine sp_irem 94 rfl n4_ rfl ?_
            refine sp_if_ne 97 rfl rfl (fun q_ => ?_) (fun q_ => ?_)
            · have k := k.2 q_
              refine sp_iload 111 rfl rfl rfl ?_
              refine sp_iload_n 112 rfl rfl rfl ?_
              refine sp_iload 114 rfl rfl rfl ?_
              refine sc_S 117 rfl rfl rfl rfl (Nat.le_refl _) (Nat.le_refl _) rfl ?_
              refine cx_X6_next ?_
              refine hs_S (st2 := [.int (sx_X6_next x2 v1 v7)]) rfl ?_
              refine hs_istore 119 (L2 := [some (.ref 29), some (.int v1), some (.int v2), some (.int v3), some (.int v4), some (.long (v5 &&& ((sx_X6_bit x2) ^^^ (Int64.ofInt (-1))))), none, some (.int v7), some (.int (sx_X6_next x2 v1 v7)), some (.int v9), some (.int x2)]) rfl rfl rfl rfl ?_
              refine hs_iinc 122 (L2 := [some (.ref 29), some (.int v1), some (.int v2), some (.int v3), some (.int v4), some (.long (v5 &&& ((sx_X6_bit x2) ^^^ (Int64.ofInt (-1))))), none, some (.int v7), some (.int (sx_X6_next x2 v1 v7)), some (.int (v9 + Int32.ofInt 1)), some (.int x2)]) rfl rfl rfl rfl rfl ?_
              refine sp_goto rfl ?_
              refine st_wk (L1 := [some (.ref 29), some (.int v1), some (.int v2), some (.int v3), some (.int v4), some (.long (v5 &&& ((sx_X6_bit x2) ^^^ (Int64.ofInt (-1))))), none, some (.int v7), some (.int (sx_X6_next x2 v1 v7)), some (.int (v9 + Int32.ofInt 1)), none]) ⟨.inr rfl, .inr rfl, .inr rfl, .inr rfl, .inr rfl, .inr rfl, .inl rfl, .inr rfl, .inr rfl, .inr rfl, .inl rfl, trivial⟩ ?_
              exact k
            · have k := k.1 q_
              refine sp_iload 99 rfl rfl rfl ?_
              refine sp_if_ne 102 rfl rfl (fun q_ => ?_) (fun q_ => ?_)
              · have k := k.2 q_
                refine sp_iconst 107 rfl rfl ?_
                refine hs_istore 109 (L2 := [some (.ref 29), some (.int v1), some (.int v2), some (.int v3), some (.int v4), some (.long (v5 &&& ((sx_X6_bit x2) ^^^ (Int64.ofInt (-1))))), none, some (.int (Int32.ofInt 0)), some (.int v8), some (.int v9), some (.int x2)]) rfl rfl rfl rfl ?_
                refine sp_iload 111 rfl rfl rfl ?_
                refine sp_iload_n 112 rfl rfl rfl ?_
                refine sp_iload 114 rfl rfl rfl ?_
                refine sc_S 117 rfl rfl rfl rfl (Nat.le_refl _) (Nat.le_refl _) rfl ?_
                refine cx_X6_next ?_
                refine hs_S (st2 := [.int (sx_X6_next x2 v1 (Int32.ofInt 0))]) rfl ?_
                refine hs_istore 119 (L2 := [some (.ref 29), some (.int v1), some (.int v2), some (.int v3), some (.int v4), some (.long (v5 &&& ((sx_X6_bit x2) ^^^ (Int64.ofInt (-1))))), none, some (.int (Int32.ofInt 0)), some (.int (sx_X6_next x2 v1 (Int32.ofInt 0))), some (.int v9), some (.int x2)]) rfl rfl rfl rfl ?_
                refine hs_iinc 122 (L2 := [some (.ref 29), some (.int v1), some (.int v2), some (.int v3), some (.int v4), some (.long (v5 &&& ((sx_X6_bit x2) ^^^ (Int64.ofInt (-1))))), none, some (.int (Int32.ofInt 0)), some (.int (sx_X6_next x2 v1 (Int32.ofInt 0))), some (.int (v9 + Int32.ofInt 1)), some (.int x2)]) rfl rfl rfl rfl rfl ?_
                refine sp_goto rfl ?_
                refine st_wk (L1 := [some (.ref 29), some (.int v1), some (.int v2), some (.int v3), some (.int v4), some (.long (v5 &&& ((sx_X6_bit x2) ^^^ (Int64.ofInt (-1))))), none, some (.int (Int32.ofInt 0)), some (.int (sx_X6_next x2 v1 (Int32.ofInt 0))), some (.int (v9 + Int32.ofInt 1)), none]) ⟨.inr rfl, .inr rfl, .inr rfl, .inr rfl, .inr rfl, .inr rfl, .inl rfl, .inr rfl, .inr rfl, .inr rfl, .inl rfl, trivial⟩ ?_
                exact k
              · have k := k.1 q_
                refine sp_iconst 103 rfl rfl ?_
                refine sp_goto rfl ?_
                refine hs_istore 109 (L2 := [some (.ref 29), some (.int v1), some (.int v2), some (.int v3), some (.int v4), some (.long (v5 &&& ((sx_X6_bit x2) ^^^ (Int64.ofInt (-1))))), none, some (.int (Int32.ofInt 1)), some (.int v8), some (.int v9), some (.int x2)]) rfl rfl rfl rfl ?_
                refine sp_iload 111 rfl rfl rfl ?_
                refine sp_iload_n 112 rfl rfl rfl ?_
                refine sp_iload 114 rfl rfl rfl ?_
                refine sc_S 117 rfl rfl rfl rfl (Nat.le_refl _) (Nat.le_refl _) rfl ?_
                refine cx_X6_next ?_
                refine hs_S (st2 := [.int (sx_X6_next x2 v1 (Int32.ofInt 1))]) rfl ?_
                refine hs_istore 119 (L2 := [some (.ref 29), some (.int v1), some (.int v2), some (.int v3), some (.int v4), some (.long (v5 &&& ((sx_X6_bit x2) ^^^ (Int64.ofInt (-1))))), none, some (.int (Int32.ofInt 1)), some (.int (sx_X6_next x2 v1 (Int32.ofInt 1))), some (.int v9), some (.int x2)]) rfl rfl rfl rfl ?_
                refine hs_iinc 122 (L2 := [some (.ref 29), some (.int v1), some (.int v2), some (.int v3), some (.int v4), some (.long (v5 &&& ((sx_X6_bit x2) ^^^ (Int64.ofInt (-1))))), none, some (.int (Int32.ofInt 1)), some (.int (sx_X6_next x2 v1 (Int32.ofInt 1))), some (.int (v9 + Int32.ofInt 1)), some (.int x2)]) rfl rfl rfl rfl rfl ?_
                refine sp_goto rfl ?_
                refine st_wk (L1 := [some (.ref 29), some (.int v1), some (.int v2), some (.int v3), some (.int v4), some (.long (v5 &&& ((sx_X6_bit x2) ^^^ (Int64.ofInt (-1))))), none, some (.int (Int32.ofInt 1)), some (.int (sx_X6_next x2 v1 (Int32.ofInt 1))), some (.int (v9 + Int32.ofInt 1)), none]) ⟨.inr rfl, .inr rfl, .inr rfl, .inr rfl, .inr rfl, .inr rfl, .inl rfl, .inr rfl, .inr rfl, .inr rfl, .inl rfl, trivial⟩ ?_
                exact k
        · have k := k.2 q_
          refine sp_iconst 67 rfl rfl ?_
          exact st_zret rfl rfl (by decide) (Nat.le_refl _) (Nat.le_refl _) k
def w_X4_leastSending_8 (SL : Nat) (xs : Nat → Int32) (d : Nat) (p s q : Nat) (Q : Option Value → mm_H → Prop) (v0 : Int32) (v1 : Int64) (v3 : Int32) (v4 : Int32) (I : Nat → Nat → Int32) (J : Nat → Nat → Int64) : Prop := mm_w SL xs (mm_s SL xs (d + 4)) mm_am kX4_leastSending 0 0 (some .int) Q 8 [some (.int v0), some (.long v1), none, some (.int v3), some (.int v4)] [] (hp p s q I J) 0 0
theorem sg_X4_leastSending {SL : Nat} {xs : Nat → Int32} {d : Nat} {p s q : Nat} {Q : Option Value → mm_H → Prop} {a0 : Int32} {a1 : Int64} {I : Nat → Nat → Int32} {J : Nat → Nat → Int64}  (k : w_X4_leastSending_8 SL xs d p s q Q a0 a1 (sx_J13_bitCount_95d88 a1) (Int32.ofInt 1) I J) : mm_s SL xs (d + 5) 44 [.int a0, .long a1] (hp p s q I J) Q := by
  refine e_X4_leastSending rfl ?_
  refine hs_L (L2 := [some (.int a0), some (.long a1), none, none, none]) rfl ?_
  refine sp_lload_n 1 rfl rfl rfl ?_
  refine sc_S 4 rfl rfl rfl rfl (Nat.le_refl _) (Nat.le_refl _) rfl ?_
  refine cx_J13_bitCount_95d88 ?_
  refine hs_S (st2 := [.int (sx_J13_bitCount_95d88 a1)]) rfl ?_
  refine hs_istore_n 5 (L2 := [some (.int a0), some (.long a1), none, some (.int (sx_J13_bitCount_95d88 a1)), none]) rfl rfl rfl rfl ?_
  refine sp_iconst 6 rfl rfl ?_
  refine hs_istore 8 (L2 := [some (.int a0), some (.long a1), none, some (.int (sx_J13_bitCount_95d88 a1)), some (.int (Int32.ofInt 1))]) rfl rfl rfl rfl ?_
  exact k
theorem sg_X4_leastSending_8 {SL : Nat} {xs : Nat → Int32} {d : Nat} {p s q : Nat} {Q : Option Value → mm_H → Prop} {v0 : Int32} {v1 : Int64} {v3 : Int32} {v4 : Int32} {I : Nat → Nat → Int32} {J : Nat → Nat → Int64}  (k : (((Int32.ofInt 3000) < v4 → Q (some (.int (Int32.ofInt (-1)))) (hp p s q I J)) ∧ (¬ ((Int32.ofInt 3000) < v4) → (mm_s SL xs (d + 4) 45 [.int v0, .int v4, .long v1, .int v3] (hp p s q I J) (fun r_ h_ => ∃ x1 I1 J1, r_ = some (.int x1) ∧ h_ = hp p s q I1 J1 ∧ ((x1 = Int32.ofInt 0 → w_X4_leastSending_8 SL xs d p s q Q v0 v1 v3 (v4 + Int32.ofInt 1) I1 J1) ∧ (¬ (x1 = Int32.ofInt 0) → Q (some (.int v4)) (hp p s q I1 J1)))))))) : w_X4_leastSending_8 SL xs d p s q Q v0 v1 v3 v4 I J := by
  unfold w_X4_leastSending_8
  refine sp_iload 10 rfl rfl rfl ?_
  refine sp_sipush 13 rfl rfl ?_
  refine sp_I (y := Int32.ofInt 3000) rfl ?_
  refine sp_ic_gt 16 rfl rfl (fun q_ => ?_) (fun q_ => ?_)
  · have k := k.1 q_
    refine sp_iconst 37 rfl rfl ?_
    exact st_iret rfl rfl (Nat.le_refl _) (Nat.le_refl _) k
  · have k := k.2 q_
    refine sp_iload_n 17 rfl rfl rfl ?_
    refine sp_iload 19 rfl rfl rfl ?_
    refine sp_lload_n 20 rfl rfl rfl ?_
    refine sp_iload_n 21 rfl rfl rfl ?_
    refine sc_S 24 rfl rfl rfl rfl (Nat.le_refl _) (Nat.le_refl _) rfl ?_
    refine mm_s_mono _ _ _ _ _ _ ?_ k
    rintro r_ h_ ⟨x1, I1, J1, rfl, rfl, k⟩
    refine hs_S (st2 := [.int x1]) rfl ?_
    refine sp_if_eq 27 rfl rfl (fun q_ => ?_) (fun q_ => ?_)
    · have k := k.1 q_
      refine hs_iinc 33 (L2 := [some (.int v0), some (.long v1), none, some (.int v3), some (.int (v4 + Int32.ofInt 1))]) rfl rfl rfl rfl rfl ?_
      refine sp_goto rfl ?_
      exact k
    · have k := k.2 q_
      refine sp_iload 29 rfl rfl rfl ?_
      exact st_iret rfl rfl (Nat.le_refl _) (Nat.le_refl _) k
theorem sg_X7_readGuard {SL : Nat} {xs : Nat → Int32} {d : Nat} {p s q : Nat} {Q : Option Value → mm_H → Prop}  {I : Nat → Nat → Int32} {J : Nat → Nat → Int64} (h_q : isP q) (k : (mm_s SL xs (d + 4) 78 [.ref 3, .int (Int32.ofInt 0), .int (Int32.ofInt 59)] (hp p s q (mm_u I 3 5 ((I 3 5) + (Int32.ofInt 1))) J) (fun r_ h_ => ∃ x1 I1 J1, r_ = some (.int x1) ∧ h_ = hp p s q I1 J1 ∧ ((x1 = Int32.ofInt 0 → Q (some (.int (Int32.ofInt 0))) (hp p s q I1 J1)) ∧ (¬ (x1 = Int32.ofInt 0) → (mm_s SL xs (d + 4) 105 [.ref 4] (hp p s q I1 J1) (fun r_ h_ => ∃ I2 J2, r_ = none ∧ h_ = hp p s q I2 J2 ∧ (mm_s SL xs (d + 4) 75 [.ref 3, .int (Int32.ofInt 139)] (hp p s q I2 J2) (fun r_ h_ => ∃ x3 I3 J3, r_ = some (.int x3) ∧ h_ = hp p s q I3 J3 ∧ ((x3 = Int32.ofInt 0 → Q (some (.int (Int32.ofInt 0))) (hp p s q I3 J3)) ∧ (¬ (x3 = Int32.ofInt 0) → (mm_s SL xs (d + 4) 78 [.ref 3, .int (I1 4 4), .int (Int32.ofInt 59)] (hp p s q I3 J3) (fun r_ h_ => ∃ x4 I4 J4, r_ = some (.int x4) ∧ h_ = hp p s q I4 J4 ∧ ((x4 = Int32.ofInt 0 → Q (some (.int (Int32.ofInt 0))) (hp p s q I4 J4)) ∧ (¬ (x4 = Int32.ofInt 0) → (mm_s SL xs (d + 4) 105 [.ref 4] (hp p s q I4 (mm_u J4 q 6 ((J4 q 6) ||| ((sx_X6_all ((I4 4 4) + (Int32.ofInt 1))) &&& ((sx_X6_all (I1 4 4)) ^^^ (Int64.ofInt (-1))))))) (fun r_ h_ => ∃ I5 J5, r_ = none ∧ h_ = hp p s q I5 J5 ∧ Q (some (.int (Int32.ofInt 1))) (hp p s q I5 J5)))))))))))))))))) : mm_s SL xs (d + 5) 80 [.ref 3] (hp p s q I J) Q := by
  refine e_X7_readGuard rfl ?_
  refine hs_L (L2 := [some (.ref 3), none]) rfl ?_
  refine sp_aload_n 1 rfl rfl rfl ?_
  refine sp_dup 2 rfl rfl rfl ?_
  refine hq_getI 5 rfl rfl rfl ?_
  refine sp_iconst 6 rfl rfl ?_
  refine sp_iadd 7 rfl rfl ?_
  refine hq_putI 10 rfl rfl rfl ?_
  refine sp_aload_n 11 rfl rfl rfl ?_
  refine sp_iconst 12 rfl rfl ?_
  refine sp_bipush 14 rfl rfl ?_
  refine sp_I (y := Int32.ofInt 59) rfl ?_
  refine sc_V 17 rfl rfl rfl rfl rfl (Nat.le_refl _) (Nat.le_refl _) rfl ?_
  refine mm_s_mono _ _ _ _ _ _ ?_ k
  rintro r_ h_ ⟨x1, I1, J1, rfl, rfl, k⟩
  refine hs_S (st2 := [.int x1]) rfl ?_
  refine sp_if_ne 20 rfl rfl (fun q_ => ?_) (fun q_ => ?_)
  · have k := k.2 q_
    refine sp_aload_n 23 rfl rfl rfl ?_
    refine hq_getR 26 rfl rfl rfl rfl ?_
    refine hq_getI 29 rfl rfl rfl ?_
    refine hs_istore_n 30 (L2 := [some (.ref 3), some (.int (I1 4 4))]) rfl rfl rfl rfl ?_
    refine sp_aload_n 31 rfl rfl rfl ?_
    refine hq_getR 34 rfl rfl rfl rfl ?_
    refine sc_V 37 rfl rfl rfl rfl rfl (Nat.le_refl _) (Nat.le_refl _) rfl ?_
    refine mm_s_mono _ _ _ _ _ _ ?_ k
    rintro r_ h_ ⟨I2, J2, rfl, rfl, k⟩
    refine hs_S (st2 := []) rfl ?_
    refine sp_aload_n 38 rfl rfl rfl ?_
    refine sp_sipush 41 rfl rfl ?_
    refine sp_I (y := Int32.ofInt 139) rfl ?_
    refine sc_V 44 rfl rfl rfl rfl rfl (Nat.le_refl _) (Nat.le_refl _) rfl ?_
    refine mm_s_mono _ _ _ _ _ _ ?_ k
    rintro r_ h_ ⟨x3, I3, J3, rfl, rfl, k⟩
    refine hs_S (st2 := [.int x3]) rfl ?_
    refine sp_if_eq 47 rfl rfl (fun q_ => ?_) (fun q_ => ?_)
    · have k := k.1 q_
      refine sp_iconst 58 rfl rfl ?_
      exact st_zret rfl rfl (by decide) (Nat.le_refl _) (Nat.le_refl _) k
    · have k := k.2 q_
      refine sp_aload_n 48 rfl rfl rfl ?_
      refine sp_iload_n 49 rfl rfl rfl ?_
      refine sp_bipush 51 rfl rfl ?_
      refine sp_I (y := Int32.ofInt 59) rfl ?_
      refine sc_V 54 rfl rfl rfl rfl rfl (Nat.le_refl _) (Nat.le_refl _) rfl ?_
      refine mm_s_mono _ _ _ _ _ _ ?_ k
      rintro r_ h_ ⟨x4, I4, J4, rfl, rfl, k⟩
      refine hs_S (st2 := [.int x4]) rfl ?_
      refine sp_if_ne 57 rfl rfl (fun q_ => ?_) (fun q_ => ?_)
      · have k := k.2 q_
        refine sp_aload_n 60 rfl rfl rfl ?_
        refine hq_getR 63 rfl rfl rfl rfl ?_
        refine sp_dup 64 rfl rfl rfl ?_
        refine hq_getJ 67 rfl (kP0 h_q) rfl ?_
        refine sp_aload_n 68 rfl rfl rfl ?_
        refine hq_getR 71 rfl rfl rfl rfl ?_
        refine hq_getI 74 rfl rfl rfl ?_
        refine sp_iconst 75 rfl rfl ?_
        refine sp_iadd 76 rfl rfl ?_
        refine sc_S 79 rfl rfl rfl rfl (Nat.le_refl _) (Nat.le_refl _) rfl ?_
        refine cx_X6_all ?_
        refine hs_S (st2 := [.long (sx_X6_all ((I4 4 4) + (Int32.ofInt 1))), .long (J4 q 6), .ref q]) rfl ?_
        refine sp_iload_n 80 rfl rfl rfl ?_
        refine sc_S 83 rfl rfl rfl rfl (Nat.le_refl _) (Nat.le_refl _) rfl ?_
        refine cx_X6_all ?_
        refine hs_S (st2 := [.long (sx_X6_all (I1 4 4)), .long (sx_X6_all ((I4 4 4) + (Int32.ofInt 1))), .long (J4 q 6), .ref q]) rfl ?_
        refine sp_ldc2 86 rfl rfl ?_
        refine sp_lxor 87 rfl rfl ?_
        refine sp_land 88 rfl rfl ?_
        refine sp_lor 89 rfl rfl ?_
        refine hq_putJ 92 rfl (kP0 h_q) rfl ?_
        refine sp_aload_n 93 rfl rfl rfl ?_
        refine hq_getR 96 rfl rfl rfl rfl ?_
        refine sc_V 99 rfl rfl rfl rfl rfl (Nat.le_refl _) (Nat.le_refl _) rfl ?_
        refine mm_s_mono _ _ _ _ _ _ ?_ k
        rintro r_ h_ ⟨I5, J5, rfl, rfl, k⟩
        refine hs_S (st2 := []) rfl ?_
        refine sp_iconst 100 rfl rfl ?_
        exact st_zret rfl rfl (by decide) (Nat.le_refl _) (Nat.le_refl _) k
      · have k := k.1 q_
        refine sp_iconst 58 rfl rfl ?_
        exact st_zret rfl rfl (by decide) (Nat.le_refl _) (Nat.le_refl _) k
  · have k := k.1 q_
    refine sp_iconst 21 rfl rfl ?_
    exact st_zret rfl rfl (by decide) (Nat.le_refl _) (Nat.le_refl _) k
theorem sg_X7_readPerson {SL : Nat} {xs : Nat → Int32} {d : Nat} {p s q : Nat} {Q : Option Value → mm_H → Prop}  {I : Nat → Nat → Int32} {J : Nat → Nat → Int64} (h_q : isP q) (k : (((I 4 2) = (Int32.ofInt 3) → (mm_s SL xs (d + 4) 53 [.ref q, .long (J 4 5)] (hp p s q I J) (fun r_ h_ => ∃ x1 I1 J1, r_ = some (.int x1) ∧ h_ = hp p s q I1 J1 ∧ ((x1 = Int32.ofInt 0 → (mm_s SL xs (d + 4) 105 [.ref 4] (hp p s q I1 J1) (fun r_ h_ => ∃ I2 J2, r_ = none ∧ h_ = hp p s q I2 J2 ∧ (mm_s SL xs (d + 4) 75 [.ref 3, .int (Int32.ofInt 140)] (hp p s q I2 J2) (fun r_ h_ => ∃ x3 I3 J3, r_ = some (.int x3) ∧ h_ = hp p s q I3 J3 ∧ ((x3 = Int32.ofInt 0 → Q (some (.int (Int32.ofInt 0))) (hp p s q I3 J3)) ∧ (¬ (x3 = Int32.ofInt 0) → (mm_s SL xs (d + 4) 78 [.ref 3, .int (Int32.ofInt 0), .int (Int32.ofInt 999)] (hp p s q I3 J3) (fun r_ h_ => ∃ x4 I4 J4, r_ = some (.int x4) ∧ h_ = hp p s q I4 J4 ∧ ((x4 = Int32.ofInt 0 → Q (some (.int (Int32.ofInt 0))) (hp p s q I4 J4)) ∧ (¬ (x4 = Int32.ofInt 0) → (mm_s SL xs (d + 4) 55 [.ref q, .long (J 4 5), .int (I4 4 4)] (hp p s q I4 J4) (fun r_ h_ => ∃ I5 J5, r_ = none ∧ h_ = hp p s q I5 J5 ∧ (mm_s SL xs (d + 4) 105 [.ref 4] (hp p s q I5 J5) (fun r_ h_ => ∃ I6 J6, r_ = none ∧ h_ = hp p s q I6 J6 ∧ Q (some (.int (Int32.ofInt 1))) (hp p s q I6 J6)))))))))))))))) ∧ (¬ (x1 = Int32.ofInt 0) → (mm_s SL xs (d + 4) 74 [.ref 3, .int (Int32.ofInt 3)] (hp p s q I1 J1) (fun r_ h_ => ∃ x7 I7 J7, r_ = some (.int x7) ∧ h_ = hp p s q I7 J7 ∧ ((x7 = 0 ∨ x7 = 1) ∧ Q (some (.int x7)) (hp p s q I7 J7))))))))) ∧ (¬ ((I 4 2) = (Int32.ofInt 3)) → (mm_s SL xs (d + 4) 74 [.ref 3, .int (Int32.ofInt 2)] (hp p s q I J) (fun r_ h_ => ∃ x8 I8 J8, r_ = some (.int x8) ∧ h_ = hp p s q I8 J8 ∧ ((x8 = 0 ∨ x8 = 1) ∧ Q (some (.int x8)) (hp p s q I8 J8))))))) : mm_s SL xs (d + 5) 82 [.ref 3] (hp p s q I J) Q := by
  refine e_X7_readPerson rfl ?_
  refine hs_L (L2 := [some (.ref 3), none, none]) rfl ?_
  refine sp_aload_n 1 rfl rfl rfl ?_
  refine hq_getR 4 rfl rfl rfl rfl ?_
  refine hq_getI 7 rfl rfl rfl ?_
  refine sp_iconst 8 rfl rfl ?_
  refine sp_ic_eq 11 rfl rfl (fun q_ => ?_) (fun q_ => ?_)
  · have k := k.1 q_
    refine sp_aload_n 18 rfl rfl rfl ?_
    refine hq_getR 21 rfl rfl rfl rfl ?_
    refine hq_getJ 24 rfl rfl rfl ?_
    refine hs_lstore_n 25 (L2 := [some (.ref 3), some (.long (J 4 5)), none]) rfl rfl rfl rfl ?_
    refine sp_aload_n 26 rfl rfl rfl ?_
    refine hq_getR 29 rfl rfl rfl rfl ?_
    refine sp_lload_n 30 rfl rfl rfl ?_
    refine sc_V 33 rfl rfl (kP0 h_q) rfl rfl (Nat.le_refl _) (Nat.le_refl _) rfl ?_
    refine mm_s_mono _ _ _ _ _ _ ?_ k
    rintro r_ h_ ⟨x1, I1, J1, rfl, rfl, k⟩
    refine hs_S (st2 := [.int x1]) rfl ?_
    refine sp_if_eq 36 rfl rfl (fun q_ => ?_) (fun q_ => ?_)
    · have k := k.1 q_
      refine sp_aload_n 43 rfl rfl rfl ?_
      refine hq_getR 46 rfl rfl rfl rfl ?_
      refine sc_V 49 rfl rfl rfl rfl rfl (Nat.le_refl _) (Nat.le_refl _) rfl ?_
      refine mm_s_mono _ _ _ _ _ _ ?_ k
      rintro r_ h_ ⟨I2, J2, rfl, rfl, k⟩
      refine hs_S (st2 := []) rfl ?_
      refine sp_aload_n 50 rfl rfl rfl ?_
      refine sp_sipush 53 rfl rfl ?_
      refine sp_I (y := Int32.ofInt 140) rfl ?_
      refine sc_V 56 rfl rfl rfl rfl rfl (Nat.le_refl _) (Nat.le_refl _) rfl ?_
      refine mm_s_mono _ _ _ _ _ _ ?_ k
      rintro r_ h_ ⟨x3, I3, J3, rfl, rfl, k⟩
      refine hs_S (st2 := [.int x3]) rfl ?_
      refine sp_if_eq 59 rfl rfl (fun q_ => ?_) (fun q_ => ?_)
      · have k := k.1 q_
        refine sp_iconst 71 rfl rfl ?_
        exact st_zret rfl rfl (by decide) (Nat.le_refl _) (Nat.le_refl _) k
      · have k := k.2 q_
        refine sp_aload_n 60 rfl rfl rfl ?_
        refine sp_iconst 61 rfl rfl ?_
        refine sp_sipush 64 rfl rfl ?_
        refine sp_I (y := Int32.ofInt 999) rfl ?_
        refine sc_V 67 rfl rfl rfl rfl rfl (Nat.le_refl _) (Nat.le_refl _) rfl ?_
        refine mm_s_mono _ _ _ _ _ _ ?_ k
        rintro r_ h_ ⟨x4, I4, J4, rfl, rfl, k⟩
        refine hs_S (st2 := [.int x4]) rfl ?_
        refine sp_if_ne 70 rfl rfl (fun q_ => ?_) (fun q_ => ?_)
        · have k := k.2 q_
          refine sp_aload_n 73 rfl rfl rfl ?_
          refine hq_getR 76 rfl rfl rfl rfl ?_
          refine sp_lload_n 77 rfl rfl rfl ?_
          refine sp_aload_n 78 rfl rfl rfl ?_
          refine hq_getR 81 rfl rfl rfl rfl ?_
          refine hq_getI 84 rfl rfl rfl ?_
          refine sc_V 87 rfl rfl (kP0 h_q) rfl rfl (Nat.le_refl _) (Nat.le_refl _) rfl ?_
          refine mm_s_mono _ _ _ _ _ _ ?_ k
          rintro r_ h_ ⟨I5, J5, rfl, rfl, k⟩
          refine hs_S (st2 := []) rfl ?_
          refine sp_aload_n 88 rfl rfl rfl ?_
          refine hq_getR 91 rfl rfl rfl rfl ?_
          refine sc_V 94 rfl rfl rfl rfl rfl (Nat.le_refl _) (Nat.le_refl _) rfl ?_
          refine mm_s_mono _ _ _ _ _ _ ?_ k
          rintro r_ h_ ⟨I6, J6, rfl, rfl, k⟩
          refine hs_S (st2 := []) rfl ?_
          refine sp_iconst 95 rfl rfl ?_
          exact st_zret rfl rfl (by decide) (Nat.le_refl _) (Nat.le_refl _) k
        · have k := k.1 q_
          refine sp_iconst 71 rfl rfl ?_
          exact st_zret rfl rfl (by decide) (Nat.le_refl _) (Nat.le_refl _) k
    · have k := k.2 q_
      refine sp_aload_n 37 rfl rfl rfl ?_
      refine sp_iconst 38 rfl rfl ?_
      refine sc_V 41 rfl rfl rfl rfl rfl (Nat.le_refl _) (Nat.le_refl _) rfl ?_
      refine mm_s_mono _ _ _ _ _ _ ?_ k
      rintro r_ h_ ⟨x7, I7, J7, rfl, rfl, k⟩
      refine hs_S (st2 := [.int x7]) rfl ?_
      exact st_zret rfl rfl k.1 (Nat.le_refl _) (Nat.le_refl _) k.2
  · have k := k.2 q_
    refine sp_aload_n 12 rfl rfl rfl ?_
    refine sp_iconst 13 rfl rfl ?_
    refine sc_V 16 rfl rfl rfl rfl rfl (Nat.le_refl _) (Nat.le_refl _) rfl ?_
    refine mm_s_mono _ _ _ _ _ _ ?_ k
    rintro r_ h_ ⟨x8, I8, J8, rfl, rfl, k⟩
    refine hs_S (st2 := [.int x8]) rfl ?_
    exact st_zret rfl rfl k.1 (Nat.le_refl _) (Nat.le_refl _) k.2
theorem sg_X7_readDrawn {SL : Nat} {xs : Nat → Int32} {d : Nat} {p s q : Nat} {Q : Option Value → mm_H → Prop}  {I : Nat → Nat → Int32} {J : Nat → Nat → Int64} (h_q : isP q) (k : (mm_s SL xs (d + 4) 78 [.ref 3, .int (Int32.ofInt 1), .int (Int32.ofInt 999)] (hp p s q I J) (fun r_ h_ => ∃ x1 I1 J1, r_ = some (.int x1) ∧ h_ = hp p s q I1 J1 ∧ ((x1 = Int32.ofInt 0 → Q (some (.int (Int32.ofInt 0))) (hp p s q I1 J1)) ∧ (¬ (x1 = Int32.ofInt 0) → (mm_s SL xs (d + 4) 54 [.ref q, .int (I1 4 4)] (hp p s q I1 J1) (fun r_ h_ => ∃ x2 I2 J2, r_ = some (.int x2) ∧ h_ = hp p s q I2 J2 ∧ ((x2 = Int32.ofInt 0 → (mm_s SL xs (d + 4) 105 [.ref 4] (hp p s q I2 J2) (fun r_ h_ => ∃ I3 J3, r_ = none ∧ h_ = hp p s q I3 J3 ∧ (mm_s SL xs (d + 4) 75 [.ref 3, .int (Int32.ofInt 141)] (hp p s q I3 J3) (fun r_ h_ => ∃ x4 I4 J4, r_ = some (.int x4) ∧ h_ = hp p s q I4 J4 ∧ ((x4 = Int32.ofInt 0 → Q (some (.int (Int32.ofInt 0))) (hp p s q I4 J4)) ∧ (¬ (x4 = Int32.ofInt 0) → (mm_s SL xs (d + 4) 78 [.ref 3, .int (Int32.ofInt 1), .int (Int32.ofInt 99)] (hp p s q I4 J4) (fun r_ h_ => ∃ x5 I5 J5, r_ = some (.int x5) ∧ h_ = hp p s q I5 J5 ∧ ((x5 = Int32.ofInt 0 → Q (some (.int (Int32.ofInt 0))) (hp p s q I5 J5)) ∧ (¬ (x5 = Int32.ofInt 0) → (mm_s SL xs (d + 4) 56 [.ref q, .int (I1 4 4), .int (I5 4 4)] (hp p s q I5 J5) (fun r_ h_ => ∃ I6 J6, r_ = none ∧ h_ = hp p s q I6 J6 ∧ (mm_s SL xs (d + 4) 105 [.ref 4] (hp p s q I6 J6) (fun r_ h_ => ∃ I7 J7, r_ = none ∧ h_ = hp p s q I7 J7 ∧ Q (some (.int (Int32.ofInt 1))) (hp p s q I7 J7)))))))))))))))) ∧ (¬ (x2 = Int32.ofInt 0) → (mm_s SL xs (d + 4) 74 [.ref 3, .int (Int32.ofInt 3)] (hp p s q I2 J2) (fun r_ h_ => ∃ x8 I8 J8, r_ = some (.int x8) ∧ h_ = hp p s q I8 J8 ∧ ((x8 = 0 ∨ x8 = 1) ∧ Q (some (.int x8)) (hp p s q I8 J8))))))))))))) : mm_s SL xs (d + 5) 83 [.ref 3] (hp p s q I J) Q := by
  refine e_X7_readDrawn rfl ?_
  refine hs_L (L2 := [some (.ref 3), none]) rfl ?_
  refine sp_aload_n 1 rfl rfl rfl ?_
  refine sp_iconst 2 rfl rfl ?_
  refine sp_sipush 5 rfl rfl ?_
  refine sp_I (y := Int32.ofInt 999) rfl ?_
  refine sc_V 8 rfl rfl rfl rfl rfl (Nat.le_refl _) (Nat.le_refl _) rfl ?_
  refine mm_s_mono _ _ _ _ _ _ ?_ k
  rintro r_ h_ ⟨x1, I1, J1, rfl, rfl, k⟩
  refine hs_S (st2 := [.int x1]) rfl ?_
  refine sp_if_ne 11 rfl rfl (fun q_ => ?_) (fun q_ => ?_)
  · have k := k.2 q_
    refine sp_aload_n 14 rfl rfl rfl ?_
    refine hq_getR 17 rfl rfl rfl rfl ?_
    refine hq_getI 20 rfl rfl rfl ?_
    refine hs_istore_n 21 (L2 := [some (.ref 3), some (.int (I1 4 4))]) rfl rfl rfl rfl ?_
    refine sp_aload_n 22 rfl rfl rfl ?_
    refine hq_getR 25 rfl rfl rfl rfl ?_
    refine sp_iload_n 26 rfl rfl rfl ?_
    refine sc_V 29 rfl rfl (kP0 h_q) rfl rfl (Nat.le_refl _) (Nat.le_refl _) rfl ?_
    refine mm_s_mono _ _ _ _ _ _ ?_ k
    rintro r_ h_ ⟨x2, I2, J2, rfl, rfl, k⟩
    refine hs_S (st2 := [.int x2]) rfl ?_
    refine sp_if_eq 32 rfl rfl (fun q_ => ?_) (fun q_ => ?_)
    · have k := k.1 q_
      refine sp_aload_n 39 rfl rfl rfl ?_
      refine hq_getR 42 rfl rfl rfl rfl ?_
      refine sc_V 45 rfl rfl rfl rfl rfl (Nat.le_refl _) (Nat.le_refl _) rfl ?_
      refine mm_s_mono _ _ _ _ _ _ ?_ k
      rintro r_ h_ ⟨I3, J3, rfl, rfl, k⟩
      refine hs_S (st2 := []) rfl ?_
      refine sp_aload_n 46 rfl rfl rfl ?_
      refine sp_sipush 49 rfl rfl ?_
      refine sp_I (y := Int32.ofInt 141) rfl ?_
      refine sc_V 52 rfl rfl rfl rfl rfl (Nat.le_refl _) (Nat.le_refl _) rfl ?_
      refine mm_s_mono _ _ _ _ _ _ ?_ k
      rintro r_ h_ ⟨x4, I4, J4, rfl, rfl, k⟩
      refine hs_S (st2 := [.int x4]) rfl ?_
      refine sp_if_eq 55 rfl rfl (fun q_ => ?_) (fun q_ => ?_)
      · have k := k.1 q_
        refine sp_iconst 66 rfl rfl ?_
        exact st_zret rfl rfl (by decide) (Nat.le_refl _) (Nat.le_refl _) k
      · have k := k.2 q_
        refine sp_aload_n 56 rfl rfl rfl ?_
        refine sp_iconst 57 rfl rfl ?_
        refine sp_bipush 59 rfl rfl ?_
        refine sp_I (y := Int32.ofInt 99) rfl ?_
        refine sc_V 62 rfl rfl rfl rfl rfl (Nat.le_refl _) (Nat.le_refl _) rfl ?_
        refine mm_s_mono _ _ _ _ _ _ ?_ k
        rintro r_ h_ ⟨x5, I5, J5, rfl, rfl, k⟩
        refine hs_S (st2 := [.int x5]) rfl ?_
        refine sp_if_ne 65 rfl rfl (fun q_ => ?_) (fun q_ => ?_)
        · have k := k.2 q_
          refine sp_aload_n 68 rfl rfl rfl ?_
          refine hq_getR 71 rfl rfl rfl rfl ?_
          refine sp_iload_n 72 rfl rfl rfl ?_
          refine sp_aload_n 73 rfl rfl rfl ?_
          refine hq_getR 76 rfl rfl rfl rfl ?_
          refine hq_getI 79 rfl rfl rfl ?_
          refine sc_V 82 rfl rfl (kP0 h_q) rfl rfl (Nat.le_refl _) (Nat.le_refl _) rfl ?_
          refine mm_s_mono _ _ _ _ _ _ ?_ k
          rintro r_ h_ ⟨I6, J6, rfl, rfl, k⟩
          refine hs_S (st2 := []) rfl ?_
          refine sp_aload_n 83 rfl rfl rfl ?_
          refine hq_getR 86 rfl rfl rfl rfl ?_
          refine sc_V 89 rfl rfl rfl rfl rfl (Nat.le_refl _) (Nat.le_refl _) rfl ?_
          refine mm_s_mono _ _ _ _ _ _ ?_ k
          rintro r_ h_ ⟨I7, J7, rfl, rfl, k⟩
          refine hs_S (st2 := []) rfl ?_
          refine sp_iconst 90 rfl rfl ?_
          exact st_zret rfl rfl (by decide) (Nat.le_refl _) (Nat.le_refl _) k
        · have k := k.1 q_
          refine sp_iconst 66 rfl rfl ?_
          exact st_zret rfl rfl (by decide) (Nat.le_refl _) (Nat.le_refl _) k
    · have k := k.2 q_
      refine sp_aload_n 33 rfl rfl rfl ?_
      refine sp_iconst 34 rfl rfl ?_
      refine sc_V 37 rfl rfl rfl rfl rfl (Nat.le_refl _) (Nat.le_refl _) rfl ?_
      refine mm_s_mono _ _ _ _ _ _ ?_ k
      rintro r_ h_ ⟨x8, I8, J8, rfl, rfl, k⟩
      refine hs_S (st2 := [.int x8]) rfl ?_
      exact st_zret rfl rfl k.1 (Nat.le_refl _) (Nat.le_refl _) k.2
  · have k := k.1 q_
    refine sp_iconst 12 rfl rfl ?_
    exact st_zret rfl rfl (by decide) (Nat.le_refl _) (Nat.le_refl _) k
def w_X8_bestQuestion_10 (SL : Nat) (xs : Nat → Int32) (d : Nat) (p s q : Nat) (Q : Option Value → mm_H → Prop) (v1 : Int32) (v2 : Int32) (I : Nat → Nat → Int32) (J : Nat → Nat → Int64) : Prop := mm_w SL xs (mm_s SL xs (d + 4)) mm_am kX8_bestQuestion 0 0 (some .int) Q 10 [some (.ref 33), some (.int v1), some (.int v2), none] [] (hp p s q I J) 0 0
def w_X8_bestQuestion_41 (SL : Nat) (xs : Nat → Int32) (d : Nat) (p s q : Nat) (Q : Option Value → mm_H → Prop) (v1 : Int32) (v2 : Int32) (v3 : Int32) (I : Nat → Nat → Int32) (J : Nat → Nat → Int64) : Prop := mm_w SL xs (mm_s SL xs (d + 4)) mm_am kX8_bestQuestion 0 0 (some .int) Q 41 [some (.ref 33), some (.int v1), some (.int v2), some (.int v3)] [] (hp p s q I J) 0 0
theorem sg_X8_bestQuestion {SL : Nat} {xs : Nat → Int32} {d : Nat} {p s q : Nat} {Q : Option Value → mm_H → Prop} {a0 : Int32} {I : Nat → Nat → Int32} {J : Nat → Nat → Int64}  (k : (mm_s SL xs (d + 4) 281 [.ref 38, .int (Int32.ofInt 0)] (hp p s q I J) (fun r_ h_ => ∃ I1 J1, r_ = none ∧ h_ = hp p s q I1 J1 ∧ w_X8_bestQuestion_10 SL xs d p s q Q a0 (Int32.ofInt 1) I1 J1))) : mm_s SL xs (d + 5) 99 [.ref 33, .int a0] (hp p s q I J) Q := by
  refine e_X8_bestQuestion rfl ?_
  refine hs_L (L2 := [some (.ref 33), some (.int a0), none, none]) rfl ?_
  refine sp_aload_n 1 rfl rfl rfl ?_
  refine hq_getR 4 rfl rfl rfl rfl ?_
  refine sp_iconst 5 rfl rfl ?_
  refine sc_S 8 rfl rfl rfl rfl (Nat.le_refl _) (Nat.le_refl _) rfl ?_
  refine mm_s_mono _ _ _ _ _ _ ?_ k
  rintro r_ h_ ⟨I1, J1, rfl, rfl, k⟩
  refine hs_S (st2 := []) rfl ?_
  refine sp_iconst 9 rfl rfl ?_
  refine hs_istore_n 10 (L2 := [some (.ref 33), some (.int a0), some (.int (Int32.ofInt 1)), none]) rfl rfl rfl rfl ?_
  exact k
theorem sg_X8_bestQuestion_10 {SL : Nat} {xs : Nat → Int32} {d : Nat} {p s q : Nat} {Q : Option Value → mm_H → Prop} {v1 : Int32} {v2 : Int32} {I : Nat → Nat → Int32} {J : Nat → Nat → Int64}  (k : (((Int32.ofInt 200) < v2 → w_X8_bestQuestion_41 SL xs d p s q Q v1 (Int32.ofInt 1) (Int32.ofInt 2) I J) ∧ (¬ ((Int32.ofInt 200) < v2) → (mm_s SL xs (d + 4) 96 [.ref 33, .int v2] (hp p s q I J) (fun r_ h_ => ∃ x1 I1 J1, r_ = some (.int x1) ∧ h_ = hp p s q I1 J1 ∧ ((x1 = Int32.ofInt 0 → w_X8_bestQuestion_10 SL xs d p s q Q v1 (v2 + Int32.ofInt 1) I1 J1) ∧ (¬ (x1 = Int32.ofInt 0) → (mm_s SL xs (d + 4) 100 [.ref 33, .int v1, .int v2] (hp p s q I1 J1) (fun r_ h_ => ∃ I2 J2, r_ = none ∧ h_ = hp p s q I2 J2 ∧ w_X8_bestQuestion_10 SL xs d p s q Q v1 (v2 + Int32.ofInt 1) I2 J2))))))))) : w_X8_bestQuestion_10 SL xs d p s q Q v1 v2 I J := by
  unfold w_X8_bestQuestion_10
  refine sp_iload_n 11 rfl rfl rfl ?_
  refine sp_sipush 14 rfl rfl ?_
  refine sp_I (y := Int32.ofInt 200) rfl ?_
  refine sp_ic_gt 17 rfl rfl (fun q_ => ?_) (fun q_ => ?_)
  · have k := k.1 q_
    refine sp_iconst 38 rfl rfl ?_
    refine hs_istore_n 39 (L2 := [some (.ref 33), some (.int v1), some (.int (Int32.ofInt 1)), none]) rfl rfl rfl rfl ?_
    refine sp_iconst 40 rfl rfl ?_
    refine hs_istore_n 41 (L2 := [some (.ref 33), some (.int v1), some (.int (Int32.ofInt 1)), some (.int (Int32.ofInt 2))]) rfl rfl rfl rfl ?_
    exact k
  · have k := k.2 q_
    refine sp_aload_n 18 rfl rfl rfl ?_
    refine sp_iload_n 19 rfl rfl rfl ?_
    refine sc_V 22 rfl rfl rfl rfl rfl (Nat.le_refl _) (Nat.le_refl _) rfl ?_
    refine mm_s_mono _ _ _ _ _ _ ?_ k
    rintro r_ h_ ⟨x1, I1, J1, rfl, rfl, k⟩
    refine hs_S (st2 := [.int x1]) rfl ?_
    refine sp_if_eq 25 rfl rfl (fun q_ => ?_) (fun q_ => ?_)
    · have k := k.1 q_
      refine hs_iinc 34 (L2 := [some (.ref 33), some (.int v1), some (.int (v2 + Int32.ofInt 1)), none]) rfl rfl rfl rfl rfl ?_
      refine sp_goto rfl ?_
      exact k
    · have k := k.2 q_
      refine sp_aload_n 26 rfl rfl rfl ?_
      refine sp_iload_n 27 rfl rfl rfl ?_
      refine sp_iload_n 28 rfl rfl rfl ?_
      refine sc_V 31 rfl rfl rfl rfl rfl (Nat.le_refl _) (Nat.le_refl _) rfl ?_
      refine mm_s_mono _ _ _ _ _ _ ?_ k
      rintro r_ h_ ⟨I2, J2, rfl, rfl, k⟩
      refine hs_S (st2 := []) rfl ?_
      refine hs_iinc 34 (L2 := [some (.ref 33), some (.int v1), some (.int (v2 + Int32.ofInt 1)), none]) rfl rfl rfl rfl rfl ?_
      refine sp_goto rfl ?_
      exact k
theorem sg_X8_bestQuestion_41 {SL : Nat} {xs : Nat → Int32} {d : Nat} {p s q : Nat} {Q : Option Value → mm_H → Prop} {v1 : Int32} {v2 : Int32} {v3 : Int32} {I : Nat → Nat → Int32} {J : Nat → Nat → Int64}  (k : ((v1 < v3 → Q (some (.int v2)) (hp p s q I J)) ∧ (¬ (v1 < v3) → (mm_s SL xs (d + 4) 101 [.ref 33, .int v1, .int v3] (hp p s q I J) (fun r_ h_ => ∃ x1 I1 J1, r_ = some (.int x1) ∧ h_ = hp p s q I1 J1 ∧ (mm_s SL xs (d + 4) 101 [.ref 33, .int v1, .int v2] (hp p s q I1 J1) (fun r_ h_ => ∃ x2 I2 J2, r_ = some (.int x2) ∧ h_ = hp p s q I2 J2 ∧ ((x2 ≤ x1 → w_X8_bestQuestion_41 SL xs d p s q Q v1 v2 (v3 + Int32.ofInt 1) I2 J2) ∧ (¬ (x2 ≤ x1) → w_X8_bestQuestion_41 SL xs d p s q Q v1 v3 (v3 + Int32.ofInt 1) I2 J2))))))))) : w_X8_bestQuestion_41 SL xs d p s q Q v1 v2 v3 I J := by
  unfold w_X8_bestQuestion_41
  refine sp_iload_n 42 rfl rfl rfl ?_
  refine sp_iload_n 43 rfl rfl rfl ?_
  refine sp_ic_gt 46 rfl rfl (fun q_ => ?_) (fun q_ => ?_)
  · have k := k.1 q_
    refine sp_iload_n 70 rfl rfl rfl ?_
    exact st_iret rfl rfl (Nat.le_refl _) (Nat.le_refl _) k
  · have k := k.2 q_
    refine sp_aload_n 47 rfl rfl rfl ?_
    refine sp_iload_n 48 rfl rfl rfl ?_
    refine sp_iload_n 49 rfl rfl rfl ?_
    refine sc_V 52 rfl rfl rfl rfl rfl (Nat.le_refl _) (Nat.le_refl _) rfl ?_
    refine mm_s_mono _ _ _ _ _ _ ?_ k
    rintro r_ h_ ⟨x1, I1, J1, rfl, rfl, k⟩
    refine hs_S (st2 := [.int x1]) rfl ?_
    refine sp_aload_n 53 rfl rfl rfl ?_
    refine sp_iload_n 54 rfl rfl rfl ?_
    refine sp_iload_n 55 rfl rfl rfl ?_
    refine sc_V 58 rfl rfl rfl rfl rfl (Nat.le_refl _) (Nat.le_refl _) rfl ?_
    refine mm_s_mono _ _ _ _ _ _ ?_ k
    rintro r_ h_ ⟨x2, I2, J2, rfl, rfl, k⟩
    refine hs_S (st2 := [.int x2, .int x1]) rfl ?_
    refine sp_ic_ge 61 rfl rfl (fun q_ => ?_) (fun q_ => ?_)
    · have k := k.1 q_
      refine hs_iinc 66 (L2 := [some (.ref 33), some (.int v1), some (.int v2), some (.int (v3 + Int32.ofInt 1))]) rfl rfl rfl rfl rfl ?_
      refine sp_goto rfl ?_
      exact k
    · have k := k.2 q_
      refine sp_iload_n 62 rfl rfl rfl ?_
      refine hs_istore_n 63 (L2 := [some (.ref 33), some (.int v1), some (.int v3), some (.int v3)]) rfl rfl rfl rfl ?_
      refine hs_iinc 66 (L2 := [some (.ref 33), some (.int v1), some (.int v3), some (.int (v3 + Int32.ofInt 1))]) rfl rfl rfl rfl rfl ?_
      refine sp_goto rfl ?_
      exact k
def w_X0_trialKeeps_2 (SL : Nat) (xs : Nat → Int32) (d : Nat) (p s q : Nat) (Q : Option Value → mm_H → Prop) (a0 : Nat) (v2 : Int32) (v3 : Int32) (I : Nat → Nat → Int32) (J : Nat → Nat → Int64) : Prop := mm_w SL xs (mm_s SL xs (d + 5)) mm_am kX0_trialKeeps 0 0 (some .boolean) Q 2 [some (.ref 20), some (.ref a0), some (.int v2), some (.int v3)] [] (hp p s q I J) 0 0
theorem sg_X0_trialKeeps {SL : Nat} {xs : Nat → Int32} {d : Nat} {p s q : Nat} {Q : Option Value → mm_H → Prop} {a0 : Nat} {a1 : Int32} {I : Nat → Nat → Int32} {J : Nat → Nat → Int64}  (k : w_X0_trialKeeps_2 SL xs d p s q Q a0 a1 (Int32.ofInt 0) I J) : mm_s SL xs (d + 6) 5 [.ref 20, .ref a0, .int a1] (hp p s q I J) Q := by
  refine e_X0_trialKeeps rfl ?_
  refine hs_L (L2 := [some (.ref 20), some (.ref a0), some (.int a1), none]) rfl ?_
  refine sp_iconst 1 rfl rfl ?_
  refine hs_istore_n 2 (L2 := [some (.ref 20), some (.ref a0), some (.int a1), some (.int (Int32.ofInt 0))]) rfl rfl rfl rfl ?_
  exact k
theorem sg_X0_trialKeeps_2 {SL : Nat} {xs : Nat → Int32} {d : Nat} {p s q : Nat} {Q : Option Value → mm_H → Prop} {a0 : Nat} {v2 : Int32} {v3 : Int32} {I : Nat → Nat → Int32} {J : Nat → Nat → Int64} (h_a0 : isP a0) (k : (((Int32.ofInt 1000) ≤ v3 → Q (some (.int (sy_X1_standsAt 25 v2 I J))) (hp p s q I J)) ∧ (¬ ((Int32.ofInt 1000) ≤ v3) → (((sy_X1_standing 25 I J) ≤ (I a0 2) → Q (some (.int (sy_X1_standsAt 25 v2 I J))) (hp p s q I J)) ∧ (¬ ((sy_X1_standing 25 I J) ≤ (I a0 2)) → (((sy_X1_standsAt 25 v2 I J) = Int32.ofInt 0 → Q (some (.int (Int32.ofInt 0))) (hp p s q I J)) ∧ (¬ ((sy_X1_standsAt 25 v2 I J) = Int32.ofInt 0) → (mm_s SL xs (d + 5) 20 [.ref 25, .ref a0] (hp p s q I J) (fun r_ h_ => ∃ x1 I1 J1, r_ = some (.int x1) ∧ h_ = hp p s q I1 J1 ∧ (mm_s SL xs (d + 5) 21 [.ref 25, .ref a0, .int x1] (hp p s q I1 J1) (fun r_ h_ => ∃ I2 J2, r_ = none ∧ h_ = hp p s q I2 J2 ∧ w_X0_trialKeeps_2 SL xs d p s q Q a0 v2 (v3 + Int32.ofInt 1) I2 J2))))))))))) : w_X0_trialKeeps_2 SL xs d p s q Q a0 v2 v3 I J := by
  unfold w_X0_trialKeeps_2
  refine sp_iload_n 3 rfl rfl rfl ?_
  refine sp_sipush 6 rfl rfl ?_
  refine sp_I (y := Int32.ofInt 1000) rfl ?_
  refine sp_ic_ge 9 rfl rfl (fun q_ => ?_) (fun q_ => ?_)
  · have k := k.1 q_
    refine sp_aload_n 59 rfl rfl rfl ?_
    refine hq_getR 62 rfl rfl rfl rfl ?_
    refine sp_iload_n 63 rfl rfl rfl ?_
    refine sc_V 66 rfl rfl rfl rfl rfl (Nat.le_refl _) (Nat.le_refl _) rfl ?_
    refine cy_X1_standsAt isC_25 ?_
    exact st_zret rfl rfl (bz_X1_standsAt) (Nat.le_refl _) (Nat.le_refl _) k
  · have k := k.2 q_
    refine sp_aload_n 10 rfl rfl rfl ?_
    refine hq_getR 13 rfl rfl rfl rfl ?_
    refine sc_V 16 rfl rfl rfl rfl rfl (Nat.le_refl _) (Nat.le_refl _) rfl ?_
    refine cy_X1_standing isC_25 ?_
    refine sp_aload_n 17 rfl rfl rfl ?_
    refine hq_getI 20 rfl (kP0 h_a0) rfl ?_
    refine sp_ic_le 23 rfl rfl (fun q_ => ?_) (fun q_ => ?_)
    · have k := k.1 q_
      refine sp_aload_n 59 rfl rfl rfl ?_
      refine hq_getR 62 rfl rfl rfl rfl ?_
      refine sp_iload_n 63 rfl rfl rfl ?_
      refine sc_V 66 rfl rfl rfl rfl rfl (Nat.le_refl _) (Nat.le_refl _) rfl ?_
      refine cy_X1_standsAt isC_25 ?_
      exact st_zret rfl rfl (bz_X1_standsAt) (Nat.le_refl _) (Nat.le_refl _) k
    · have k := k.2 q_
      refine sp_aload_n 24 rfl rfl rfl ?_
      refine hq_getR 27 rfl rfl rfl rfl ?_
      refine sp_iload_n 28 rfl rfl rfl ?_
      refine sc_V 31 rfl rfl rfl rfl rfl (Nat.le_refl _) (Nat.le_refl _) rfl ?_
      refine cy_X1_standsAt isC_25 ?_
      refine sp_if_ne 34 rfl rfl (fun q_ => ?_) (fun q_ => ?_)
      · have k := k.2 q_
        refine sp_aload_n 37 rfl rfl rfl ?_
        refine hq_getR 40 rfl rfl rfl rfl ?_
        refine sp_aload_n 41 rfl rfl rfl ?_
        refine sp_aload_n 42 rfl rfl rfl ?_
        refine hq_getR 45 rfl rfl rfl rfl ?_
        refine sp_aload_n 46 rfl rfl rfl ?_
        refine sc_V 49 rfl rfl rfl rfl rfl (Nat.le_refl _) (Nat.le_refl _) rfl ?_
        refine mm_s_mono _ _ _ _ _ _ ?_ k
        rintro r_ h_ ⟨x1, I1, J1, rfl, rfl, k⟩
        refine hs_S (st2 := [.int x1, .ref a0, .ref 25]) rfl ?_
        refine sc_V 52 rfl rfl rfl rfl rfl (Nat.le_refl _) (Nat.le_refl _) rfl ?_
        refine mm_s_mono _ _ _ _ _ _ ?_ k
        rintro r_ h_ ⟨I2, J2, rfl, rfl, k⟩
        refine hs_S (st2 := []) rfl ?_
        refine hs_iinc 55 (L2 := [some (.ref 20), some (.ref a0), some (.int v2), some (.int (v3 + Int32.ofInt 1))]) rfl rfl rfl rfl rfl ?_
        refine sp_goto rfl ?_
        exact k
      · have k := k.1 q_
        refine sp_iconst 35 rfl rfl ?_
        exact st_zret rfl rfl (by decide) (Nat.le_refl _) (Nat.le_refl _) k
