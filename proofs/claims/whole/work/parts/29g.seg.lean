def w_X11_readPerson_8 (SL : Nat) (xs : Nat → Int32) (d : Nat) (p s q : Nat) (Q : Option Value → mm_H → Prop) (v1 : Int32) (v2 : Int32) (I : Nat → Nat → Int32) (J : Nat → Nat → Int64) : Prop := mm_w SL xs (mm_s SL xs (d + 4)) mm_am kX11_readPerson 0 0 none Q 8 [some (.ref 65), some (.int v1), some (.int v2), none, none] [] (hp p s q I J) 0 0
theorem sg_X11_readPerson {SL : Nat} {xs : Nat → Int32} {d : Nat} {p s q : Nat} {Q : Option Value → mm_H → Prop}  {I : Nat → Nat → Int32} {J : Nat → Nat → Int64}  (k : (mm_s SL xs (d + 4) 172 [.ref 65] (hp p s q I J) (fun r_ h_ => ∃ I1 J1, r_ = none ∧ h_ = hp p s q I1 J1 ∧ w_X11_readPerson_8 SL xs d p s q Q (Int32.ofInt 0) (Int32.ofInt 0) I1 J1))) : mm_s SL xs (d + 5) 194 [.ref 65] (hp p s q I J) Q := by
  refine e_X11_readPerson rfl ?_
  refine hs_L (L2 := [some (.ref 65), none, none, none, none]) rfl ?_
  refine sp_aload_n 1 rfl rfl rfl ?_
  refine sc_V 4 rfl rfl rfl rfl rfl (Nat.le_refl _) (Nat.le_refl _) rfl ?_
  refine mm_s_mono _ _ _ _ _ _ ?_ k
  rintro r_ h_ ⟨I1, J1, rfl, rfl, k⟩
  refine hs_S (st2 := []) rfl ?_
  refine sp_iconst 5 rfl rfl ?_
  refine hs_istore_n 6 (L2 := [some (.ref 65), some (.int (Int32.ofInt 0)), none, none, none]) rfl rfl rfl rfl ?_
  refine sp_iconst 7 rfl rfl ?_
  refine hs_istore_n 8 (L2 := [some (.ref 65), some (.int (Int32.ofInt 0)), some (.int (Int32.ofInt 0)), none, none]) rfl rfl rfl rfl ?_
  exact k
theorem sg_X11_readPerson_8 {SL : Nat} {xs : Nat → Int32} {d : Nat} {p s q : Nat} {Q : Option Value → mm_H → Prop} {v1 : Int32} {v2 : Int32} {I : Nat → Nat → Int32} {J : Nat → Nat → Int64}  (k : (((I 65 38) ≤ v2 → (mm_s SL xs (d + 4) 175 [.ref 65] (hp p s q I J) (fun r_ h_ => ∃ x1 I1 J1, r_ = some (.int x1) ∧ h_ = hp p s q I1 J1 ∧ ((x1 = Int32.ofInt 0 → (mm_s SL xs (d + 4) 173 [.ref 65, .int (Int32.ofInt 2)] (hp p s q I1 J1) (fun r_ h_ => ∃ I9 J9, r_ = none ∧ h_ = hp p s q I9 J9 ∧ (((I9 65 2) = Int32.ofInt 0 → (mm_s SL xs (d + 4) 172 [.ref 65] (hp p s q I9 J9) (fun r_ h_ => ∃ I11 J11, r_ = none ∧ h_ = hp p s q I11 J11 ∧ (mm_s SL xs (d + 4) 178 [.ref 65, .long (Int64.ofInt 512970880104), .int (Int32.ofInt 0), .int (Int32.ofInt 999)] (hp p s q I11 J11) (fun r_ h_ => ∃ x12 I12 J12, r_ = some (.int x12) ∧ h_ = hp p s q I12 J12 ∧ (((I12 65 2) ≤ Int32.ofInt 0 → (vp_in (I12 65 38) 9 ∧ Q none (hp p s q (mm_u (mm_u I12 77 (((I12 65 38)).toNatClampNeg) x12) 65 38 ((I12 65 38) + (Int32.ofInt 1))) (mm_u J12 86 (((I12 65 38)).toNatClampNeg) (J9 65 9))))) ∧ (¬ ((I12 65 2) ≤ Int32.ofInt 0) → Q none (hp p s q I12 J12)))))))) ∧ (¬ ((I9 65 2) = Int32.ofInt 0) → (mm_s SL xs (d + 4) 178 [.ref 65, .long (Int64.ofInt 512970880104), .int (Int32.ofInt 0), .int (Int32.ofInt 999)] (hp p s q I9 J9) (fun r_ h_ => ∃ x10 I10 J10, r_ = some (.int x10) ∧ h_ = hp p s q I10 J10 ∧ (((I10 65 2) ≤ Int32.ofInt 0 → (vp_in (I10 65 38) 9 ∧ Q none (hp p s q (mm_u (mm_u I10 77 (((I10 65 38)).toNatClampNeg) x10) 65 38 ((I10 65 38) + (Int32.ofInt 1))) (mm_u J10 86 (((I10 65 38)).toNatClampNeg) (J9 65 9))))) ∧ (¬ ((I10 65 2) ≤ Int32.ofInt 0) → Q none (hp p s q I10 J10)))))))))) ∧ (¬ (x1 = Int32.ofInt 0) → ((v1 = Int32.ofInt 0 → (((I1 65 2) = Int32.ofInt 0 → (mm_s SL xs (d + 4) 172 [.ref 65] (hp p s q I1 J1) (fun r_ h_ => ∃ I3 J3, r_ = none ∧ h_ = hp p s q I3 J3 ∧ (mm_s SL xs (d + 4) 178 [.ref 65, .long (Int64.ofInt 512970880104), .int (Int32.ofInt 0), .int (Int32.ofInt 999)] (hp p s q I3 J3) (fun r_ h_ => ∃ x4 I4 J4, r_ = some (.int x4) ∧ h_ = hp p s q I4 J4 ∧ (((I4 65 2) ≤ Int32.ofInt 0 → (vp_in (I4 65 38) 9 ∧ Q none (hp p s q (mm_u (mm_u I4 77 (((I4 65 38)).toNatClampNeg) x4) 65 38 ((I4 65 38) + (Int32.ofInt 1))) (mm_u J4 86 (((I4 65 38)).toNatClampNeg) (J1 65 9))))) ∧ (¬ ((I4 65 2) ≤ Int32.ofInt 0) → Q none (hp p s q I4 J4)))))))) ∧ (¬ ((I1 65 2) = Int32.ofInt 0) → (mm_s SL xs (d + 4) 178 [.ref 65, .long (Int64.ofInt 512970880104), .int (Int32.ofInt 0), .int (Int32.ofInt 999)] (hp p s q I1 J1) (fun r_ h_ => ∃ x2 I2 J2, r_ = some (.int x2) ∧ h_ = hp p s q I2 J2 ∧ (((I2 65 2) ≤ Int32.ofInt 0 → (vp_in (I2 65 38) 9 ∧ Q none (hp p s q (mm_u (mm_u I2 77 (((I2 65 38)).toNatClampNeg) x2) 65 38 ((I2 65 38) + (Int32.ofInt 1))) (mm_u J2 86 (((I2 65 38)).toNatClampNeg) (J1 65 9))))) ∧ (¬ ((I2 65 2) ≤ Int32.ofInt 0) → Q none (hp p s q I2 J2)))))))) ∧ (¬ (v1 = Int32.ofInt 0) → (mm_s SL xs (d + 4) 173 [.ref 65, .int (Int32.ofInt 3)] (hp p s q I1 J1) (fun r_ h_ => ∃ I5 J5, r_ = none ∧ h_ = hp p s q I5 J5 ∧ (((I5 65 2) = Int32.ofInt 0 → (mm_s SL xs (d + 4) 172 [.ref 65] (hp p s q I5 J5) (fun r_ h_ => ∃ I7 J7, r_ = none ∧ h_ = hp p s q I7 J7 ∧ (mm_s SL xs (d + 4) 178 [.ref 65, .long (Int64.ofInt 512970880104), .int (Int32.ofInt 0), .int (Int32.ofInt 999)] (hp p s q I7 J7) (fun r_ h_ => ∃ x8 I8 J8, r_ = some (.int x8) ∧ h_ = hp p s q I8 J8 ∧ (((I8 65 2) ≤ Int32.ofInt 0 → (vp_in (I8 65 38) 9 ∧ Q none (hp p s q (mm_u (mm_u I8 77 (((I8 65 38)).toNatClampNeg) x8) 65 38 ((I8 65 38) + (Int32.ofInt 1))) (mm_u J8 86 (((I8 65 38)).toNatClampNeg) (J5 65 9))))) ∧ (¬ ((I8 65 2) ≤ Int32.ofInt 0) → Q none (hp p s q I8 J8)))))))) ∧ (¬ ((I5 65 2) = Int32.ofInt 0) → (mm_s SL xs (d + 4) 178 [.ref 65, .long (Int64.ofInt 512970880104), .int (Int32.ofInt 0), .int (Int32.ofInt 999)] (hp p s q I5 J5) (fun r_ h_ => ∃ x6 I6 J6, r_ = some (.int x6) ∧ h_ = hp p s q I6 J6 ∧ (((I6 65 2) ≤ Int32.ofInt 0 → (vp_in (I6 65 38) 9 ∧ Q none (hp p s q (mm_u (mm_u I6 77 (((I6 65 38)).toNatClampNeg) x6) 65 38 ((I6 65 38) + (Int32.ofInt 1))) (mm_u J6 86 (((I6 65 38)).toNatClampNeg) (J5 65 9))))) ∧ (¬ ((I6 65 2) ≤ Int32.ofInt 0) → Q none (hp p s q I6 J6)))))))))))))))) ∧ (¬ ((I 65 38) ≤ v2) → ((v1 = Int32.ofInt 0 → (vp_in v2 9 ∧ (((J 86 ((v2).toNatClampNeg)) = (J 65 9) → w_X11_readPerson_8 SL xs d p s q Q (Int32.ofInt 1) (v2 + Int32.ofInt 1) I J) ∧ (¬ ((J 86 ((v2).toNatClampNeg)) = (J 65 9)) → w_X11_readPerson_8 SL xs d p s q Q (Int32.ofInt 0) (v2 + Int32.ofInt 1) I J)))) ∧ (¬ (v1 = Int32.ofInt 0) → w_X11_readPerson_8 SL xs d p s q Q (Int32.ofInt 1) (v2 + Int32.ofInt 1) I J))))) : w_X11_readPerson_8 SL xs d p s q Q v1 v2 I J := by
  unfold w_X11_readPerson_8
  refine sp_iload_n 9 rfl rfl rfl ?_
  refine sp_aload_n 10 rfl rfl rfl ?_
  refine hq_getI 13 rfl rfl rfl ?_
  refine sp_ic_ge 16 rfl rfl (fun q_ => ?_) (fun q_ => ?_)
  · have k := k.1 q_
    refine sp_aload_n 47 rfl rfl rfl ?_
    refine sc_V 50 rfl rfl rfl rfl rfl (Nat.le_refl _) (Nat.le_refl _) rfl ?_
    refine mm_s_mono _ _ _ _ _ _ ?_ k
    rintro r_ h_ ⟨x1, I1, J1, rfl, rfl, k⟩
    refine hs_S (st2 := [.int x1]) rfl ?_
    refine sp_if_ne 53 rfl rfl (fun q_ => ?_) (fun q_ => ?_)
    · have k := k.2 q_
      refine sp_iload_n 62 rfl rfl rfl ?_
      refine sp_if_eq 65 rfl rfl (fun q_ => ?_) (fun q_ => ?_)
      · have k := k.1 q_
        refine sp_aload_n 71 rfl rfl rfl ?_
        refine hq_getJ 74 rfl rfl rfl ?_
        refine hs_lstore_n 75 (L2 := [some (.ref 65), some (.int v1), some (.long (J1 65 9)), none, none]) rfl rfl rfl rfl ?_
        refine sp_aload_n 76 rfl rfl rfl ?_
        refine hq_getI 79 rfl rfl rfl ?_
        refine sp_if_ne 82 rfl rfl (fun q_ => ?_) (fun q_ => ?_)
        · have k := k.2 q_
          refine sp_aload_n 87 rfl rfl rfl ?_
          refine sp_ldc2 90 rfl rfl ?_
          refine sp_iconst 91 rfl rfl ?_
          refine sp_sipush 94 rfl rfl ?_
          refine sp_I (y := Int32.ofInt 999) rfl ?_
          refine sc_V 97 rfl rfl rfl rfl rfl (Nat.le_refl _) (Nat.le_refl _) rfl ?_
          refine mm_s_mono _ _ _ _ _ _ ?_ k
          rintro r_ h_ ⟨x2, I2, J2, rfl, rfl, k⟩
          refine hs_S (st2 := [.int x2]) rfl ?_
          refine hs_istore 99 (L2 := [some (.ref 65), some (.int v1), some (.long (J1 65 9)), none, some (.int x2)]) rfl rfl rfl rfl ?_
          refine sp_aload_n 100 rfl rfl rfl ?_
          refine hq_getI 103 rfl rfl rfl ?_
          refine sp_if_le 106 rfl rfl (fun q_ => ?_) (fun q_ => ?_)
          · have k := k.1 q_
            refine sp_aload_n 108 rfl rfl rfl ?_
            refine hq_getR 111 rfl rfl rfl rfl ?_
            refine sp_aload_n 112 rfl rfl rfl ?_
            refine hq_getI 115 rfl rfl rfl ?_
            refine sp_lload_n 116 rfl rfl rfl ?_
            have n1_ := k.1
            have k := k.2
            refine hq_last 117 rfl rfl n1_ rfl ?_
            refine sp_aload_n 118 rfl rfl rfl ?_
            refine hq_getR 121 rfl rfl rfl rfl ?_
            refine sp_aload_n 122 rfl rfl rfl ?_
            refine hq_getI 125 rfl rfl rfl ?_
            refine sp_iload 127 rfl rfl rfl ?_
            refine hq_iast 128 rfl rfl n1_ rfl ?_
            refine sp_aload_n 129 rfl rfl rfl ?_
            refine sp_dup 130 rfl rfl rfl ?_
            refine hq_getI 133 rfl rfl rfl ?_
            refine sp_I (y := (I2 65 38)) (by simp [mm_u]) ?_
            refine sp_iconst 134 rfl rfl ?_
            refine sp_iadd 135 rfl rfl ?_
            refine hq_putI 138 rfl rfl rfl ?_
            exact st_vret rfl rfl (Nat.le_refl _) (Nat.le_refl _) k
          · have k := k.2 q_
            exact st_vret rfl rfl (Nat.le_refl _) (Nat.le_refl _) k
        · have k := k.1 q_
          refine sp_aload_n 83 rfl rfl rfl ?_
          refine sc_V 86 rfl rfl rfl rfl rfl (Nat.le_refl _) (Nat.le_refl _) rfl ?_
          refine mm_s_mono _ _ _ _ _ _ ?_ k
          rintro r_ h_ ⟨I3, J3, rfl, rfl, k⟩
          refine hs_S (st2 := []) rfl ?_
          refine sp_aload_n 87 rfl rfl rfl ?_
          refine sp_ldc2 90 rfl rfl ?_
          refine sp_iconst 91 rfl rfl ?_
          refine sp_sipush 94 rfl rfl ?_
          refine sp_I (y := Int32.ofInt 999) rfl ?_
          refine sc_V 97 rfl rfl rfl rfl rfl (Nat.le_refl _) (Nat.le_refl _) rfl ?_
          refine mm_s_mono _ _ _ _ _ _ ?_ k
          rintro r_ h_ ⟨x4, I4, J4, rfl, rfl, k⟩
          refine hs_S (st2 := [.int x4]) rfl ?_
          refine hs_istore 99 (L2 := [some (.ref 65), some (.int v1), some (.long (J1 65 9)), none, some (.int x4)]) rfl rfl rfl rfl ?_
          refine sp_aload_n 100 rfl rfl rfl ?_
          refine hq_getI 103 rfl rfl rfl ?_
          refine sp_if_le 106 rfl rfl (fun q_ => ?_) (fun q_ => ?_)
          · have k := k.1 q_
            refine sp_aload_n 108 rfl rfl rfl ?_
            refine hq_getR 111 rfl rfl rfl rfl ?_
            refine sp_aload_n 112 rfl rfl rfl ?_
            refine hq_getI 115 rfl rfl rfl ?_
            refine sp_lload_n 116 rfl rfl rfl ?_
            have n2_ := k.1
            have k := k.2
            refine hq_last 117 rfl rfl n2_ rfl ?_
            refine sp_aload_n 118 rfl rfl rfl ?_
            refine hq_getR 121 rfl rfl rfl rfl ?_
            refine sp_aload_n 122 rfl rfl rfl ?_
            refine hq_getI 125 rfl rfl rfl ?_
            refine sp_iload 127 rfl rfl rfl ?_
            refine hq_iast 128 rfl rfl n2_ rfl ?_
            refine sp_aload_n 129 rfl rfl rfl ?_
            refine sp_dup 130 rfl rfl rfl ?_
            refine hq_getI 133 rfl rfl rfl ?_
            refine sp_I (y := (I4 65 38)) (by simp [mm_u]) ?_
            refine sp_iconst 134 rfl rfl ?_
            refine sp_iadd 135 rfl rfl ?_
            refine hq_putI 138 rfl rfl rfl ?_
            exact st_vret rfl rfl (Nat.le_refl _) (Nat.le_refl _) k
          · have k := k.2 q_
            exact st_vret rfl rfl (Nat.le_refl _) (Nat.le_refl _) k
      · have k := k.2 q_
        refine sp_aload_n 66 rfl rfl rfl ?_
        refine sp_iconst 67 rfl rfl ?_
        refine sc_V 70 rfl rfl rfl rfl rfl (Nat.le_refl _) (Nat.le_refl _) rfl ?_
        refine mm_s_mono _ _ _ _ _ _ ?_ k
        rintro r_ h_ ⟨I5, J5, rfl, rfl, k⟩
        refine hs_S (st2 := []) rfl ?_
        refine sp_aload_n 71 rfl rfl rfl ?_
        refine hq_getJ 74 rfl rfl rfl ?_
        refine hs_lstore_n 75 (L2 := [some (.ref 65), some (.int v1), some (.long (J5 65 9)), none, none]) rfl rfl rfl rfl ?_
        refine sp_aload_n 76 rfl rfl rfl ?_
        refine hq_getI 79 rfl rfl rfl ?_
        refine sp_if_ne 82 rfl rfl (fun q_ => ?_) (fun q_ => ?_)
        · have k := k.2 q_
          refine sp_aload_n 87 rfl rfl rfl ?_
          refine sp_ldc2 90 rfl rfl ?_
          refine sp_iconst 91 rfl rfl ?_
          refine sp_sipush 94 rfl rfl ?_
          refine sp_I (y := Int32.ofInt 999) rfl ?_
          refine sc_V 97 rfl rfl rfl rfl rfl (Nat.le_refl _) (Nat.le_refl _) rfl ?_
          refine mm_s_mono _ _ _ _ _ _ ?_ k
          rintro r_ h_ ⟨x6, I6, J6, rfl, rfl, k⟩
          refine hs_S (st2 := [.int x6]) rfl ?_
          refine hs_istore 99 (L2 := [some (.ref 65), some (.int v1), some (.long (J5 65 9)), none, some (.int x6)]) rfl rfl rfl rfl ?_
          refine sp_aload_n 100 rfl rfl rfl ?_
          refine hq_getI 103 rfl rfl rfl ?_
          refine sp_if_le 106 rfl rfl (fun q_ => ?_) (fun q_ => ?_)
          · have k := k.1 q_
            refine sp_aload_n 108 rfl rfl rfl ?_
            refine hq_getR 111 rfl rfl rfl rfl ?_
            refine sp_aload_n 112 rfl rfl rfl ?_
            refine hq_getI 115 rfl rfl rfl ?_
            refine sp_lload_n 116 rfl rfl rfl ?_
            have n3_ := k.1
            have k := k.2
            refine hq_last 117 rfl rfl n3_ rfl ?_
            refine sp_aload_n 118 rfl rfl rfl ?_
            refine hq_getR 121 rfl rfl rfl rfl ?_
            refine sp_aload_n 122 rfl rfl rfl ?_
            refine hq_getI 125 rfl rfl rfl ?_
            refine sp_iload 127 rfl rfl rfl ?_
            refine hq_iast 128 rfl rfl n3_ rfl ?_
            refine sp_aload_n 129 rfl rfl rfl ?_
            refine sp_dup 130 rfl rfl rfl ?_
            refine hq_getI 133 rfl rfl rfl ?_
            refine sp_I (y := (I6 65 38)) (by simp [mm_u]) ?_
            refine sp_iconst 134 rfl rfl ?_
            refine sp_iadd 135 rfl rfl ?_
            refine hq_putI 138 rfl rfl rfl ?_
            exact st_vret rfl rfl (Nat.le_refl _) (Nat.le_refl _) k
          · have k := k.2 q_
            exact st_vret rfl rfl (Nat.le_refl _) (Nat.le_refl _) k
        · have k := k.1 q_
          refine sp_aload_n 83 rfl rfl rfl ?_
          refine sc_V 86 rfl rfl rfl rfl rfl (Nat.le_refl _) (Nat.le_refl _) rfl ?_
          refine mm_s_mono _ _ _ _ _ _ ?_ k
          rintro r_ h_ ⟨I7, J7, rfl, rfl, k⟩
          refine hs_S (st2 := []) rfl ?_
          refine sp_aload_n 87 rfl rfl rfl ?_
          refine sp_ldc2 90 rfl rfl ?_
          refine sp_iconst 91 rfl rfl ?_
          refine sp_sipush 94 rfl rfl ?_
          refine sp_I (y := Int32.ofInt 999) rfl ?_
          refine sc_V 97 rfl rfl rfl rfl rfl (Nat.le_refl _) (Nat.le_refl _) rfl ?_
          refine mm_s_mono _ _ _ _ _ _ ?_ k
          rintro r_ h_ ⟨x8, I8, J8, rfl, rfl, k⟩
          refine hs_S (st2 := [.int x8]) rfl ?_
          refine hs_istore 99 (L2 := [some (.ref 65), some (.int v1), some (.long (J5 65 9)), none, some (.int x8)]) rfl rfl rfl rfl ?_
          refine sp_aload_n 100 rfl rfl rfl ?_
          refine hq_getI 103 rfl rfl rfl ?_
          refine sp_if_le 106 rfl rfl (fun q_ => ?_) (fun q_ => ?_)
          · have k := k.1 q_
            refine sp_aload_n 108 rfl rfl rfl ?_
            refine hq_getR 111 rfl rfl rfl rfl ?_
            refine sp_aload_n 112 rfl rfl rfl ?_
            refine hq_getI 115 rfl rfl rfl ?_
            refine sp_lload_n 116 rfl rfl rfl ?_
            have n4_ := k.1
            have k := k.2
            refine hq_last 117 rfl rfl n4_ rfl ?_
            refine sp_aload_n 118 rfl rfl rfl ?_
            refine hq_getR 121 rfl rfl rfl rfl ?_
            refine sp_aload_n 122 rfl rfl rfl ?_
            refine hq_getI 125 rfl rfl rfl ?_
            refine sp_iload 127 rfl rfl rfl ?_
            refine hq_iast 128 rfl rfl n4_ rfl ?_
            refine sp_aload_n 129 rfl rfl rfl ?_
            refine sp_dup 130 rfl rfl rfl ?_
            refine hq_getI 133 rfl rfl rfl ?_
            refine sp_I (y := (I8 65 38)) (by simp [mm_u]) ?_
            refine sp_iconst 134 rfl rfl ?_
            refine sp_iadd 135 rfl rfl ?_
            refine hq_putI 138 rfl rfl rfl ?_
            exact st_vret rfl rfl (Nat.le_refl _) (Nat.le_refl _) k
          · have k := k.2 q_
            exact st_vret rfl rfl (Nat.le_refl _) (Nat.le_refl _) k
    · have k := k.1 q_
      refine sp_aload_n 54 rfl rfl rfl ?_
      refine sp_iconst 55 rfl rfl ?_
      refine sc_V 58 rfl rfl rfl rfl rfl (Nat.le_refl _) (Nat.le_refl _) rfl ?_
      refine mm_s_mono _ _ _ _ _ _ ?_ k
      rintro r_ h_ ⟨I9, J9, rfl, rfl, k⟩
      refine hs_S (st2 := []) rfl ?_
      refine sp_goto rfl ?_
      refine sp_aload_n 71 rfl rfl rfl ?_
      refine hq_getJ 74 rfl rfl rfl ?_
      refine hs_lstore_n 75 (L2 := [some (.ref 65), some (.int v1), some (.long (J9 65 9)), none, none]) rfl rfl rfl rfl ?_
      refine sp_aload_n 76 rfl rfl rfl ?_
      refine hq_getI 79 rfl rfl rfl ?_
      refine sp_if_ne 82 rfl rfl (fun q_ => ?_) (fun q_ => ?_)
      · have k := k.2 q_
        refine sp_aload_n 87 rfl rfl rfl ?_
        refine sp_ldc2 90 rfl rfl ?_
        refine sp_iconst 91 rfl rfl ?_
        refine sp_sipush 94 rfl rfl ?_
        refine sp_I (y := Int32.ofInt 999) rfl ?_
        refine sc_V 97 rfl rfl rfl rfl rfl (Nat.le_refl _) (Nat.le_refl _) rfl ?_
        refine mm_s_mono _ _ _ _ _ _ ?_ k
        rintro r_ h_ ⟨x10, I10, J10, rfl, rfl, k⟩
        refine hs_S (st2 := [.int x10]) rfl ?_
        refine hs_istore 99 (L2 := [some (.ref 65), some (.int v1), some (.long (J9 65 9)), none, some (.int x10)]) rfl rfl rfl rfl ?_
        refine sp_aload_n 100 rfl rfl rfl ?_
        refine hq_getI 103 rfl rfl rfl ?_
        refine sp_if_le 106 rfl rfl (fun q_ => ?_) (fun q_ => ?_)
        · have k := k.1 q_
          refine sp_aload_n 108 rfl rfl rfl ?_
          refine hq_getR 111 rfl rfl rfl rfl ?_
          refine sp_aload_n 112 rfl rfl rfl ?_
          refine hq_getI 115 rfl rfl rfl ?_
          refine sp_lload_n 116 rfl rfl rfl ?_
          have n5_ := k.1
          have k := k.2
          refine hq_last 117 rfl rfl n5_ rfl ?_
          refine sp_aload_n 118 rfl rfl rfl ?_
          refine hq_getR 121 rfl rfl rfl rfl ?_
          refine sp_aload_n 122 rfl rfl rfl ?_
          refine hq_getI 125 rfl rfl rfl ?_
          refine sp_iload 127 rfl rfl rfl ?_
          refine hq_iast 128 rfl rfl n5_ rfl ?_
          refine sp_aload_n 129 rfl rfl rfl ?_
          refine sp_dup 130 rfl rfl rfl ?_
          refine hq_getI 133 rfl rfl rfl ?_
          refine sp_I (y := (I10 65 38)) (by simp [mm_u]) ?_
          refine sp_iconst 134 rfl rfl ?_
          refine sp_iadd 135 rfl rfl ?_
          refine hq_putI 138 rfl rfl rfl ?_
          exact st_vret rfl rfl (Nat.le_refl _) (Nat.le_refl _) k
        · have k := k.2 q_
          exact st_vret rfl rfl (Nat.le_refl _) (Nat.le_refl _) k
      · have k := k.1 q_
        refine sp_aload_n 83 rfl rfl rfl ?_
        refine sc_V 86 rfl rfl rfl rfl rfl (Nat.le_refl _) (Nat.le_refl _) rfl ?_
        refine mm_s_mono _ _ _ _ _ _ ?_ k
        rintro r_ h_ ⟨I11, J11, rfl, rfl, k⟩
        refine hs_S (st2 := []) rfl ?_
        refine sp_aload_n 87 rfl rfl rfl ?_
        refine sp_ldc2 90 rfl rfl ?_
        refine sp_iconst 91 rfl rfl ?_
        refine sp_sipush 94 rfl rfl ?_
        refine sp_I (y := Int32.ofInt 999) rfl ?_
        refine sc_V 97 rfl rfl rfl rfl rfl (Nat.le_refl _) (Nat.le_refl _) rfl ?_
        refine mm_s_mono _ _ _ _ _ _ ?_ k
        rintro r_ h_ ⟨x12, I12, J12, rfl, rfl, k⟩
        refine hs_S (st2 := [.int x12]) rfl ?_
        refine hs_istore 99 (L2 := [some (.ref 65), some (.int v1), some (.long (J9 65 9)), none, some (.int x12)]) rfl rfl rfl rfl ?_
        refine sp_aload_n 100 rfl rfl rfl ?_
        refine hq_getI 103 rfl rfl rfl ?_
        refine sp_if_le 106 rfl rfl (fun q_ => ?_) (fun q_ => ?_)
        · have k := k.1 q_
          refine sp_aload_n 108 rfl rfl rfl ?_
          refine hq_getR 111 rfl rfl rfl rfl ?_
          refine sp_aload_n 112 rfl rfl rfl ?_
          refine hq_getI 115 rfl rfl rfl ?_
          refine sp_lload_n 116 rfl rfl rfl ?_
          have n6_ := k.1
          have k := k.2
          refine hq_last 117 rfl rfl n6_ rfl ?_
          refine sp_aload_n 118 rfl rfl rfl ?_
          refine hq_getR 121 rfl rfl rfl rfl ?_
          refine sp_aload_n 122 rfl rfl rfl ?_
          refine hq_getI 125 rfl rfl rfl ?_
          refine sp_iload 127 rfl rfl rfl ?_
          refine hq_iast 128 rfl rfl n6_ rfl ?_
          refine sp_aload_n 129 rfl rfl rfl ?_
          refine sp_dup 130 rfl rfl rfl ?_
          refine hq_getI 133 rfl rfl rfl ?_
          refine sp_I (y := (I12 65 38)) (by simp [mm_u]) ?_
          refine sp_iconst 134 rfl rfl ?_
          refine sp_iadd 135 rfl rfl ?_
          refine hq_putI 138 rfl rfl rfl ?_
          exact st_vret rfl rfl (Nat.le_refl _) (Nat.le_refl _) k
        · have k := k.2 q_
          exact st_vret rfl rfl (Nat.le_refl _) (Nat.le_refl _) k
  · have k := k.2 q_
    refine sp_iload_n 17 rfl rfl rfl ?_
    refine sp_if_ne 20 rfl rfl (fun q_ => ?_) (fun q_ => ?_)
    · have k := k.2 q_
      refine sp_iconst 35 rfl rfl ?_
      refine sp_goto rfl ?_
      refine hs_istore_n 40 (L2 := [some (.ref 65), some (.int (Int32.ofInt 1)), some (.int v2), none, none]) rfl rfl rfl rfl ?_
      refine hs_iinc 43 (L2 := [some (.ref 65), some (.int (Int32.ofInt 1)), some (.int (v2 + Int32.ofInt 1)), none, none]) rfl rfl rfl rfl rfl ?_
      refine sp_goto rfl ?_
      exact k
    · have k := k.1 q_
      refine sp_aload_n 21 rfl rfl rfl ?_
      refine hq_getR 24 rfl rfl rfl rfl ?_
      refine sp_iload_n 25 rfl rfl rfl ?_
      have n7_ := k.1
      have k := k.2
      refine hq_lald 26 rfl rfl n7_ rfl ?_
      refine sp_aload_n 27 rfl rfl rfl ?_
      refine hq_getJ 30 rfl rfl rfl ?_
      refine sp_lcmp 31 rfl rfl ?_
      refine sp_if_ne 34 rfl rfl (fun q_ => ?_) (fun q_ => ?_)
      · have k := k.2 (fun z_ => q_ ((lg_cmp_eq _ _).mpr z_))
        refine sp_iconst 39 rfl rfl ?_
        refine hs_istore_n 40 (L2 := [some (.ref 65), some (.int (Int32.ofInt 0)), some (.int v2), none, none]) rfl rfl rfl rfl ?_
        refine hs_iinc 43 (L2 := [some (.ref 65), some (.int (Int32.ofInt 0)), some (.int (v2 + Int32.ofInt 1)), none, none]) rfl rfl rfl rfl rfl ?_
        refine sp_goto rfl ?_
        exact k
      · have k := k.1 ((lg_cmp_eq _ _).mp q_)
        refine sp_iconst 35 rfl rfl ?_
        refine sp_goto rfl ?_
        refine hs_istore_n 40 (L2 := [some (.ref 65), some (.int (Int32.ofInt 1)), some (.int v2), none, none]) rfl rfl rfl rfl ?_
        refine hs_iinc 43 (L2 := [some (.ref 65), some (.int (Int32.ofInt 1)), some (.int (v2 + Int32.ofInt 1)), none, none]) rfl rfl rfl rfl rfl ?_
        refine sp_goto rfl ?_
        exact k
def w_X11_readDrawn_8 (SL : Nat) (xs : Nat → Int32) (d : Nat) (p s q : Nat) (Q : Option Value → mm_H → Prop) (v1 : Int32) (v2 : Int32) (I : Nat → Nat → Int32) (J : Nat → Nat → Int64) : Prop := mm_w SL xs (mm_s SL xs (d + 4)) mm_am kX11_readDrawn 0 0 none Q 8 [some (.ref 65), some (.int v1), some (.int v2), none] [] (hp p s q I J) 0 0
theorem sg_X11_readDrawn {SL : Nat} {xs : Nat → Int32} {d : Nat} {p s q : Nat} {Q : Option Value → mm_H → Prop}  {I : Nat → Nat → Int32} {J : Nat → Nat → Int64}  (k : (mm_s SL xs (d + 4) 172 [.ref 65] (hp p s q I J) (fun r_ h_ => ∃ I1 J1, r_ = none ∧ h_ = hp p s q I1 J1 ∧ w_X11_readDrawn_8 SL xs d p s q Q (Int32.ofInt 0) (Int32.ofInt 0) I1 J1))) : mm_s SL xs (d + 5) 195 [.ref 65] (hp p s q I J) Q := by
  refine e_X11_readDrawn rfl ?_
  refine hs_L (L2 := [some (.ref 65), none, none, none]) rfl ?_
  refine sp_aload_n 1 rfl rfl rfl ?_
  refine sc_V 4 rfl rfl rfl rfl rfl (Nat.le_refl _) (Nat.le_refl _) rfl ?_
  refine mm_s_mono _ _ _ _ _ _ ?_ k
  rintro r_ h_ ⟨I1, J1, rfl, rfl, k⟩
  refine hs_S (st2 := []) rfl ?_
  refine sp_iconst 5 rfl rfl ?_
  refine hs_istore_n 6 (L2 := [some (.ref 65), some (.int (Int32.ofInt 0)), none, none]) rfl rfl rfl rfl ?_
  refine sp_iconst 7 rfl rfl ?_
  refine hs_istore_n 8 (L2 := [some (.ref 65), some (.int (Int32.ofInt 0)), some (.int (Int32.ofInt 0)), none]) rfl rfl rfl rfl ?_
  exact k
theorem sg_X11_readDrawn_8 {SL : Nat} {xs : Nat → Int32} {d : Nat} {p s q : Nat} {Q : Option Value → mm_H → Prop} {v1 : Int32} {v2 : Int32} {I : Nat → Nat → Int32} {J : Nat → Nat → Int64}  (k : (((I 65 39) ≤ v2 → (((I 65 6) = (Int32.ofInt 2) → ((v1 = Int32.ofInt 0 → (mm_s SL xs (d + 4) 177 [.ref 65, .int (Int32.ofInt 1), .int (Int32.ofInt 999)] (hp p s q I J) (fun r_ h_ => ∃ x3 I3 J3, r_ = some (.int x3) ∧ h_ = hp p s q I3 J3 ∧ (mm_s SL xs (d + 4) 178 [.ref 65, .long (Int64.ofInt 131277443786868), .int (Int32.ofInt 1), .int (Int32.ofInt 99)] (hp p s q I3 J3) (fun r_ h_ => ∃ x4 I4 J4, r_ = some (.int x4) ∧ h_ = hp p s q I4 J4 ∧ (((I4 65 2) ≤ Int32.ofInt 0 → (vp_in (I4 65 39) 12 ∧ Q none (hp p s q (mm_u (mm_u (mm_u I4 78 (((I4 65 39)).toNatClampNeg) x3) 79 (((I4 65 39)).toNatClampNeg) x4) 65 39 ((I4 65 39) + (Int32.ofInt 1))) J4))) ∧ (¬ ((I4 65 2) ≤ Int32.ofInt 0) → Q none (hp p s q I4 J4)))))))) ∧ (¬ (v1 = Int32.ofInt 0) → (mm_s SL xs (d + 4) 173 [.ref 65, .int (Int32.ofInt 3)] (hp p s q I J) (fun r_ h_ => ∃ I5 J5, r_ = none ∧ h_ = hp p s q I5 J5 ∧ (mm_s SL xs (d + 4) 177 [.ref 65, .int (Int32.ofInt 1), .int (Int32.ofInt 999)] (hp p s q I5 J5) (fun r_ h_ => ∃ x6 I6 J6, r_ = some (.int x6) ∧ h_ = hp p s q I6 J6 ∧ (mm_s SL xs (d + 4) 178 [.ref 65, .long (Int64.ofInt 131277443786868), .int (Int32.ofInt 1), .int (Int32.ofInt 99)] (hp p s q I6 J6) (fun r_ h_ => ∃ x7 I7 J7, r_ = some (.int x7) ∧ h_ = hp p s q I7 J7 ∧ (((I7 65 2) ≤ Int32.ofInt 0 → (vp_in (I7 65 39) 12 ∧ Q none (hp p s q (mm_u (mm_u (mm_u I7 78 (((I7 65 39)).toNatClampNeg) x6) 79 (((I7 65 39)).toNatClampNeg) x7) 65 39 ((I7 65 39) + (Int32.ofInt 1))) J7))) ∧ (¬ ((I7 65 2) ≤ Int32.ofInt 0) → Q none (hp p s q I7 J7)))))))))))) ∧ (¬ ((I 65 6) = (Int32.ofInt 2)) → (mm_s SL xs (d + 4) 177 [.ref 65, .int (Int32.ofInt 1), .int (Int32.ofInt 999)] (hp p s q I J) (fun r_ h_ => ∃ x1 I1 J1, r_ = some (.int x1) ∧ h_ = hp p s q I1 J1 ∧ (mm_s SL xs (d + 4) 178 [.ref 65, .long (Int64.ofInt 131277443786868), .int (Int32.ofInt 1), .int (Int32.ofInt 99)] (hp p s q I1 J1) (fun r_ h_ => ∃ x2 I2 J2, r_ = some (.int x2) ∧ h_ = hp p s q I2 J2 ∧ (((I2 65 2) ≤ Int32.ofInt 0 → (vp_in (I2 65 39) 12 ∧ Q none (hp p s q (mm_u (mm_u (mm_u I2 78 (((I2 65 39)).toNatClampNeg) x1) 79 (((I2 65 39)).toNatClampNeg) x2) 65 39 ((I2 65 39) + (Int32.ofInt 1))) J2))) ∧ (¬ ((I2 65 2) ≤ Int32.ofInt 0) → Q none (hp p s q I2 J2)))))))))) ∧ (¬ ((I 65 39) ≤ v2) → ((v1 = Int32.ofInt 0 → (vp_in v2 12 ∧ (((I 78 ((v2).toNatClampNeg)) = (I 65 8) → w_X11_readDrawn_8 SL xs d p s q Q (Int32.ofInt 1) (v2 + Int32.ofInt 1) I J) ∧ (¬ ((I 78 ((v2).toNatClampNeg)) = (I 65 8)) → w_X11_readDrawn_8 SL xs d p s q Q (Int32.ofInt 0) (v2 + Int32.ofInt 1) I J)))) ∧ (¬ (v1 = Int32.ofInt 0) → w_X11_readDrawn_8 SL xs d p s q Q (Int32.ofInt 1) (v2 + Int32.ofInt 1) I J))))) : w_X11_readDrawn_8 SL xs d p s q Q v1 v2 I J := by
  unfold w_X11_readDrawn_8
  refine sp_iload_n 9 rfl rfl rfl ?_
  refine sp_aload_n 10 rfl rfl rfl ?_
  refine hq_getI 13 rfl rfl rfl ?_
  refine sp_ic_ge 16 rfl rfl (fun q_ => ?_) (fun q_ => ?_)
  · have k := k.1 q_
    refine sp_aload_n 46 rfl rfl rfl ?_
    refine hq_getI 49 rfl rfl rfl ?_
    refine sp_iconst 50 rfl rfl ?_
    refine sp_ic_ne 53 rfl rfl (fun q_ => ?_) (fun q_ => ?_)
    · have k := k.2 q_
      refine sp_aload_n 63 rfl rfl rfl ?_
      refine sp_iconst 64 rfl rfl ?_
      refine sp_sipush 67 rfl rfl ?_
      refine sp_I (y := Int32.ofInt 999) rfl ?_
      refine sc_V 70 rfl rfl rfl rfl rfl (Nat.le_refl _) (Nat.le_refl _) rfl ?_
      refine mm_s_mono _ _ _ _ _ _ ?_ k
      rintro r_ h_ ⟨x1, I1, J1, rfl, rfl, k⟩
      refine hs_S (st2 := [.int x1]) rfl ?_
      refine hs_istore_n 71 (L2 := [some (.ref 65), some (.int v1), some (.int x1), none]) rfl rfl rfl rfl ?_
      refine sp_aload_n 72 rfl rfl rfl ?_
      refine sp_ldc2 75 rfl rfl ?_
      refine sp_iconst 76 rfl rfl ?_
      refine sp_bipush 78 rfl rfl ?_
      refine sp_I (y := Int32.ofInt 99) rfl ?_
      refine sc_V 81 rfl rfl rfl rfl rfl (Nat.le_refl _) (Nat.le_refl _) rfl ?_
      refine mm_s_mono _ _ _ _ _ _ ?_ k
      rintro r_ h_ ⟨x2, I2, J2, rfl, rfl, k⟩
      refine hs_S (st2 := [.int x2]) rfl ?_
      refine hs_istore_n 82 (L2 := [some (.ref 65), some (.int v1), some (.int x1), some (.int x2)]) rfl rfl rfl rfl ?_
      refine sp_aload_n 83 rfl rfl rfl ?_
      refine hq_getI 86 rfl rfl rfl ?_
      refine sp_if_le 89 rfl rfl (fun q_ => ?_) (fun q_ => ?_)
      · have k := k.1 q_
        refine sp_aload_n 91 rfl rfl rfl ?_
        refine hq_getR 94 rfl rfl rfl rfl ?_
        refine sp_aload_n 95 rfl rfl rfl ?_
        refine hq_getI 98 rfl rfl rfl ?_
        refine sp_iload_n 99 rfl rfl rfl ?_
        have n1_ := k.1
        have k := k.2
        refine hq_iast 100 rfl rfl n1_ rfl ?_
        refine sp_aload_n 101 rfl rfl rfl ?_
        refine hq_getR 104 rfl rfl rfl rfl ?_
        refine sp_aload_n 105 rfl rfl rfl ?_
        refine hq_getI 108 rfl rfl rfl ?_
        refine sp_I (y := (I2 65 39)) (by simp [mm_u]) ?_
        refine sp_iload_n 109 rfl rfl rfl ?_
        refine hq_iast 110 rfl rfl n1_ rfl ?_
        refine sp_aload_n 111 rfl rfl rfl ?_
        refine sp_dup 112 rfl rfl rfl ?_
        refine hq_getI 115 rfl rfl rfl ?_
        refine sp_I (y := (I2 65 39)) (by simp [mm_u]) ?_
        refine sp_iconst 116 rfl rfl ?_
        refine sp_iadd 117 rfl rfl ?_
        refine hq_putI 120 rfl rfl rfl ?_
        exact st_vret rfl rfl (Nat.le_refl _) (Nat.le_refl _) k
      · have k := k.2 q_
        exact st_vret rfl rfl (Nat.le_refl _) (Nat.le_refl _) k
    · have k := k.1 q_
      refine sp_iload_n 54 rfl rfl rfl ?_
      refine sp_if_eq 57 rfl rfl (fun q_ => ?_) (fun q_ => ?_)
      · have k := k.1 q_
        refine sp_aload_n 63 rfl rfl rfl ?_
        refine sp_iconst 64 rfl rfl ?_
        refine sp_sipush 67 rfl rfl ?_
        refine sp_I (y := Int32.ofInt 999) rfl ?_
        refine sc_V 70 rfl rfl rfl rfl rfl (Nat.le_refl _) (Nat.le_refl _) rfl ?_
        refine mm_s_mono _ _ _ _ _ _ ?_ k
        rintro r_ h_ ⟨x3, I3, J3, rfl, rfl, k⟩
        refine hs_S (st2 := [.int x3]) rfl ?_
        refine hs_istore_n 71 (L2 := [some (.ref 65), some (.int v1), some (.int x3), none]) rfl rfl rfl rfl ?_
        refine sp_aload_n 72 rfl rfl rfl ?_
        refine sp_ldc2 75 rfl rfl ?_
        refine sp_iconst 76 rfl rfl ?_
        refine sp_bipush 78 rfl rfl ?_
        refine sp_I (y := Int32.ofInt 99) rfl ?_
        refine sc_V 81 rfl rfl rfl rfl rfl (Nat.le_refl _) (Nat.le_refl _) rfl ?_
        refine mm_s_mono _ _ _ _ _ _ ?_ k
        rintro r_ h_ ⟨x4, I4, J4, rfl, rfl, k⟩
        refine hs_S (st2 := [.int x4]) rfl ?_
        refine hs_istore_n 82 (L2 := [some (.ref 65), some (.int v1), some (.int x3), some (.int x4)]) rfl rfl rfl rfl ?_
        refine sp_aload_n 83 rfl rfl rfl ?_
        refine hq_getI 86 rfl rfl rfl ?_
        refine sp_if_le 89 rfl rfl (fun q_ => ?_) (fun q_ => ?_)
        · have k := k.1 q_
          refine sp_aload_n 91 rfl rfl rfl ?_
          refine hq_getR 94 rfl rfl rfl rfl ?_
          refine sp_aload_n 95 rfl rfl rfl ?_
          refine hq_getI 98 rfl rfl rfl ?_
          refine sp_iload_n 99 rfl rfl rfl ?_
          have n2_ := k.1
          have k := k.2
          refine hq_iast 100 rfl rfl n2_ rfl ?_
          refine sp_aload_n 101 rfl rfl rfl ?_
          refine hq_getR 104 rfl rfl rfl rfl ?_
          refine sp_aload_n 105 rfl rfl rfl ?_
          refine hq_getI 108 rfl rfl rfl ?_
          refine sp_I (y := (I4 65 39)) (by simp [mm_u]) ?_
          refine sp_iload_n 109 rfl rfl rfl ?_
          refine hq_iast 110 rfl rfl n2_ rfl ?_
          refine sp_aload_n 111 rfl rfl rfl ?_
          refine sp_dup 112 rfl rfl rfl ?_
          refine hq_getI 115 rfl rfl rfl ?_
          refine sp_I (y := (I4 65 39)) (by simp [mm_u]) ?_
          refine sp_iconst 116 rfl rfl ?_
          refine sp_iadd 117 rfl rfl ?_
          refine hq_putI 120 rfl rfl rfl ?_
          exact st_vret rfl rfl (Nat.le_refl _) (Nat.le_refl _) k
        · have k := k.2 q_
          exact st_vret rfl rfl (Nat.le_refl _) (Nat.le_refl _) k
      · have k := k.2 q_
        refine sp_aload_n 58 rfl rfl rfl ?_
        refine sp_iconst 59 rfl rfl ?_
        refine sc_V 62 rfl rfl rfl rfl rfl (Nat.le_refl _) (Nat.le_refl _) rfl ?_
        refine mm_s_mono _ _ _ _ _ _ ?_ k
        rintro r_ h_ ⟨I5, J5, rfl, rfl, k⟩
        refine hs_S (st2 := []) rfl ?_
        refine sp_aload_n 63 rfl rfl rfl ?_
        refine sp_iconst 64 rfl rfl ?_
        refine sp_sipush 67 rfl rfl ?_
        refine sp_I (y := Int32.ofInt 999) rfl ?_
        refine sc_V 70 rfl rfl rfl rfl rfl (Nat.le_refl _) (Nat.le_refl _) rfl ?_
        refine mm_s_mono _ _ _ _ _ _ ?_ k
        rintro r_ h_ ⟨x6, I6, J6, rfl, rfl, k⟩
        refine hs_S (st2 := [.int x6]) rfl ?_
        refine hs_istore_n 71 (L2 := [some (.ref 65), some (.int v1), some (.int x6), none]) rfl rfl rfl rfl ?_
        refine sp_aload_n 72 rfl rfl rfl ?_
        refine sp_ldc2 75 rfl rfl ?_
        refine sp_iconst 76 rfl rfl ?_
        refine sp_bipush 78 rfl rfl ?_
        refine sp_I (y := Int32.ofInt 99) rfl ?_
        refine sc_V 81 rfl rfl rfl rfl rfl (Nat.le_refl _) (Nat.le_refl _) rfl ?_
        refine mm_s_mono _ _ _ _ _ _ ?_ k
        rintro r_ h_ ⟨x7, I7, J7, rfl, rfl, k⟩
        refine hs_S (st2 := [.int x7]) rfl ?_
        refine hs_istore_n 82 (L2 := [some (.ref 65), some (.int v1), some (.int x6), some (.int x7)]) rfl rfl rfl rfl ?_
        refine sp_aload_n 83 rfl rfl rfl ?_
        refine hq_getI 86 rfl rfl rfl ?_
        refine sp_if_le 89 rfl rfl (fun q_ => ?_) (fun q_ => ?_)
        · have k := k.1 q_
          refine sp_aload_n 91 rfl rfl rfl ?_
          refine hq_getR 94 rfl rfl rfl rfl ?_
          refine sp_aload_n 95 rfl rfl rfl ?_
          refine hq_getI 98 rfl rfl rfl ?_
          refine sp_iload_n 99 rfl rfl rfl ?_
          have n3_ := k.1
          have k := k.2
          refine hq_iast 100 rfl rfl n3_ rfl ?_
          refine sp_aload_n 101 rfl rfl rfl ?_
          refine hq_getR 104 rfl rfl rfl rfl ?_
          refine sp_aload_n 105 rfl rfl rfl ?_
          refine hq_getI 108 rfl rfl rfl ?_
          refine sp_I (y := (I7 65 39)) (by simp [mm_u]) ?_
          refine sp_iload_n 109 rfl rfl rfl ?_
          refine hq_iast 110 rfl rfl n3_ rfl ?_
          refine sp_aload_n 111 rfl rfl rfl ?_
          refine sp_dup 112 rfl rfl rfl ?_
          refine hq_getI 115 rfl rfl rfl ?_
          refine sp_I (y := (I7 65 39)) (by simp [mm_u]) ?_
          refine sp_iconst 116 rfl rfl ?_
          refine sp_iadd 117 rfl rfl ?_
          refine hq_putI 120 rfl rfl rfl ?_
          exact st_vret rfl rfl (Nat.le_refl _) (Nat.le_refl _) k
        · have k := k.2 q_
          exact st_vret rfl rfl (Nat.le_refl _) (Nat.le_refl _) k
  · have k := k.2 q_
    refine sp_iload_n 17 rfl rfl rfl ?_
    refine sp_if_ne 20 rfl rfl (fun q_ => ?_) (fun q_ => ?_)
    · have k := k.2 q_
      refine sp_iconst 34 rfl rfl ?_
      refine sp_goto rfl ?_
      refine hs_istore_n 39 (L2 := [some (.ref 65), some (.int (Int32.ofInt 1)), some (.int v2), none]) rfl rfl rfl rfl ?_
      refine hs_iinc 42 (L2 := [some (.ref 65), some (.int (Int32.ofInt 1)), some (.int (v2 + Int32.ofInt 1)), none]) rfl rfl rfl rfl rfl ?_
      refine sp_goto rfl ?_
      exact k
    · have k := k.1 q_
      refine sp_aload_n 21 rfl rfl rfl ?_
      refine hq_getR 24 rfl rfl rfl rfl ?_
      refine sp_iload_n 25 rfl rfl rfl ?_
      have n4_ := k.1
      have k := k.2
      refine hq_iald 26 rfl rfl n4_ rfl ?_
      refine sp_aload_n 27 rfl rfl rfl ?_
      refine hq_getI 30 rfl rfl rfl ?_
      refine sp_ic_ne 33 rfl rfl (fun q_ => ?_) (fun q_ => ?_)
      · have k := k.2 q_
        refine sp_iconst 38 rfl rfl ?_
        refine hs_istore_n 39 (L2 := [some (.ref 65), some (.int (Int32.ofInt 0)), some (.int v2), none]) rfl rfl rfl rfl ?_
        refine hs_iinc 42 (L2 := [some (.ref 65), some (.int (Int32.ofInt 0)), some (.int (v2 + Int32.ofInt 1)), none]) rfl rfl rfl rfl rfl ?_
        refine sp_goto rfl ?_
        exact k
      · have k := k.1 q_
        refine sp_iconst 34 rfl rfl ?_
        refine sp_goto rfl ?_
        refine hs_istore_n 39 (L2 := [some (.ref 65), some (.int (Int32.ofInt 1)), some (.int v2), none]) rfl rfl rfl rfl ?_
        refine hs_iinc 42 (L2 := [some (.ref 65), some (.int (Int32.ofInt 1)), some (.int (v2 + Int32.ofInt 1)), none]) rfl rfl rfl rfl rfl ?_
        refine sp_goto rfl ?_
        exact k
theorem sg_X11_seekLeft {SL : Nat} {xs : Nat → Int32} {d : Nat} {p s q : Nat} {Q : Option Value → mm_H → Prop}  {I : Nat → Nat → Int32} {J : Nat → Nat → Int64}  (k : (mm_s SL xs (d + 4) 211 [.ref 65] (hp p s q I J) (fun r_ h_ => ∃ I1 J1, r_ = none ∧ h_ = hp p s q I1 J1 ∧ (mm_s SL xs (d + 4) 212 [.ref 65] (hp p s q I1 J1) (fun r_ h_ => ∃ x2 I2 J2, r_ = some (.long x2) ∧ h_ = hp p s q I2 J2 ∧ (mm_s SL xs (d + 4) 204 [.ref 65] (hp p s q I2 J2) (fun r_ h_ => ∃ I3 J3, r_ = none ∧ h_ = hp p s q I3 J3 ∧ Q (some (.long x2)) (hp p s q I3 J3)))))))) : mm_s SL xs (d + 5) 216 [.ref 65] (hp p s q I J) Q := by
  refine e_X11_seekLeft rfl ?_
  refine hs_L (L2 := [some (.ref 65), none, none]) rfl ?_
  refine sp_aload_n 1 rfl rfl rfl ?_
  refine sc_V 4 rfl rfl rfl rfl rfl (Nat.le_refl _) (Nat.le_refl _) rfl ?_
  refine mm_s_mono _ _ _ _ _ _ ?_ k
  rintro r_ h_ ⟨I1, J1, rfl, rfl, k⟩
  refine hs_S (st2 := []) rfl ?_
  refine sp_aload_n 5 rfl rfl rfl ?_
  refine sc_V 8 rfl rfl rfl rfl rfl (Nat.le_refl _) (Nat.le_refl _) rfl ?_
  refine mm_s_mono _ _ _ _ _ _ ?_ k
  rintro r_ h_ ⟨x2, I2, J2, rfl, rfl, k⟩
  refine hs_S (st2 := [.long x2]) rfl ?_
  refine hs_lstore_n 9 (L2 := [some (.ref 65), some (.long x2), none]) rfl rfl rfl rfl ?_
  refine sp_aload_n 10 rfl rfl rfl ?_
  refine sc_V 13 rfl rfl rfl rfl rfl (Nat.le_refl _) (Nat.le_refl _) rfl ?_
  refine mm_s_mono _ _ _ _ _ _ ?_ k
  rintro r_ h_ ⟨I3, J3, rfl, rfl, k⟩
  refine hs_S (st2 := []) rfl ?_
  refine sp_lload_n 14 rfl rfl rfl ?_
  exact st_lret rfl rfl (Nat.le_refl _) (Nat.le_refl _) k
theorem sg_X11_when {SL : Nat} {xs : Nat → Int32} {d : Nat} {p s q : Nat} {Q : Option Value → mm_H → Prop} {a0 : Int32} {I : Nat → Nat → Int32} {J : Nat → Nat → Int64}  (k : (((sy_X11_isPost a0 I J) = Int32.ofInt 0 → Q (some (.int (Int32.ofInt (-2)))) (hp p s q I J)) ∧ (¬ ((sy_X11_isPost a0 I J) = Int32.ofInt 0) → (vp_in a0 60 ∧ (((I 91 ((a0).toNatClampNeg)) = Int32.ofInt 0 → Q (some (.int (Int32.ofInt (-1)))) (hp p s q I J)) ∧ (¬ ((I 91 ((a0).toNatClampNeg)) = Int32.ofInt 0) → (mm_s SL xs (d + 4) 203 [.ref 65] (hp p s q I J) (fun r_ h_ => ∃ I1 J1, r_ = none ∧ h_ = hp p s q I1 J1 ∧ (mm_s SL xs (d + 4) 211 [.ref 65] (hp p s q I1 J1) (fun r_ h_ => ∃ I2 J2, r_ = none ∧ h_ = hp p s q I2 J2 ∧ (mm_s SL xs (d + 4) 204 [.ref 65] (hp p s q I2 J2) (fun r_ h_ => ∃ I3 J3, r_ = none ∧ h_ = hp p s q I3 J3 ∧ Q (some (.int (I2 88 ((a0).toNatClampNeg)))) (hp p s q I3 J3))))))))))))) : mm_s SL xs (d + 5) 218 [.ref 65, .int a0] (hp p s q I J) Q := by
  refine e_X11_when rfl ?_
  refine hs_L (L2 := [some (.ref 65), some (.int a0), none]) rfl ?_
  refine sp_aload_n 1 rfl rfl rfl ?_
  refine sp_iload_n 2 rfl rfl rfl ?_
  refine sc_V 5 rfl rfl rfl rfl rfl (Nat.le_refl _) (Nat.le_refl _) rfl ?_
  refine cy_X11_isPost ?_
  refine sp_if_ne 8 rfl rfl (fun q_ => ?_) (fun q_ => ?_)
  · have k := k.2 q_
    refine sp_aload_n 12 rfl rfl rfl ?_
    refine hq_getR 15 rfl rfl rfl rfl ?_
    refine sp_iload_n 16 rfl rfl rfl ?_
    have n1_ := k.1
    have k := k.2
    refine hq_zald 17 rfl rfl n1_ rfl ?_
    refine sp_if_ne 20 rfl rfl (fun q_ => ?_) (fun q_ => ?_)
    · have k := k.2 q_
      refine sp_aload_n 23 rfl rfl rfl ?_
      refine sc_V 26 rfl rfl rfl rfl rfl (Nat.le_refl _) (Nat.le_refl _) rfl ?_
      refine mm_s_mono _ _ _ _ _ _ ?_ k
      rintro r_ h_ ⟨I1, J1, rfl, rfl, k⟩
      refine hs_S (st2 := []) rfl ?_
      refine sp_aload_n 27 rfl rfl rfl ?_
      refine sc_V 30 rfl rfl rfl rfl rfl (Nat.le_refl _) (Nat.le_refl _) rfl ?_
      refine mm_s_mono _ _ _ _ _ _ ?_ k
      rintro r_ h_ ⟨I2, J2, rfl, rfl, k⟩
      refine hs_S (st2 := []) rfl ?_
      refine sp_aload_n 31 rfl rfl rfl ?_
      refine hq_getR 34 rfl rfl rfl rfl ?_
      refine sp_iload_n 35 rfl rfl rfl ?_
      refine hq_iald 36 rfl rfl n1_ rfl ?_
      refine hs_istore_n 37 (L2 := [some (.ref 65), some (.int a0), some (.int (I2 88 ((a0).toNatClampNeg)))]) rfl rfl rfl rfl ?_
      refine sp_aload_n 38 rfl rfl rfl ?_
      refine sc_V 41 rfl rfl rfl rfl rfl (Nat.le_refl _) (Nat.le_refl _) rfl ?_
      refine mm_s_mono _ _ _ _ _ _ ?_ k
      rintro r_ h_ ⟨I3, J3, rfl, rfl, k⟩
      refine hs_S (st2 := []) rfl ?_
      refine sp_iload_n 42 rfl rfl rfl ?_
      exact st_iret rfl rfl (Nat.le_refl _) (Nat.le_refl _) k
    · have k := k.1 q_
      refine sp_iconst 21 rfl rfl ?_
      exact st_iret rfl rfl (Nat.le_refl _) (Nat.le_refl _) k
  · have k := k.1 q_
    refine sp_bipush 10 rfl rfl ?_
    refine sp_I (y := Int32.ofInt (-2)) rfl ?_
    exact st_iret rfl rfl (Nat.le_refl _) (Nat.le_refl _) k
theorem sg_X11_lateGo {SL : Nat} {xs : Nat → Int32} {d : Nat} {p s q : Nat} {Q : Option Value → mm_H → Prop}  {I : Nat → Nat → Int32} {J : Nat → Nat → Int64}  (k : (mm_s SL xs (d + 4) 211 [.ref 65] (hp p s q (mm_u I 65 61 (Int32.ofInt 0)) J) (fun r_ h_ => ∃ I1 J1, r_ = none ∧ h_ = hp p s q I1 J1 ∧ Q none (hp p s q I1 J1)))) : mm_s SL xs (d + 5) 221 [.ref 65] (hp p s q I J) Q := by
  refine e_X11_lateGo rfl ?_
  refine hs_L (L2 := [some (.ref 65)]) rfl ?_
  refine sp_aload_n 1 rfl rfl rfl ?_
  refine sp_iconst 2 rfl rfl ?_
  refine hq_putI 5 rfl rfl rfl ?_
  refine sp_aload_n 6 rfl rfl rfl ?_
  refine sc_V 9 rfl rfl rfl rfl rfl (Nat.le_refl _) (Nat.le_refl _) rfl ?_
  refine mm_s_mono _ _ _ _ _ _ ?_ k
  rintro r_ h_ ⟨I1, J1, rfl, rfl, k⟩
  refine hs_S (st2 := []) rfl ?_
  exact st_vret rfl rfl (Nat.le_refl _) (Nat.le_refl _) k
def w_X11_bribe_57 (SL : Nat) (xs : Nat → Int32) (d : Nat) (p s q : Nat) (Q : Option Value → mm_H → Prop) (v1 : Int32) (v2 : Int32) (v3 : Int32) (v4 : Int32) (v5 : Int32) (I : Nat → Nat → Int32) (J : Nat → Nat → Int64) : Prop := mm_w SL xs (mm_s SL xs (d + 4)) mm_am kX11_bribe 0 0 (some .int) Q 57 [some (.ref 65), some (.int v1), some (.int v2), some (.int v3), some (.int v4), some (.int v5)] [] (hp p s q I J) 0 0
theorem sg_X11_bribe {SL : Nat} {xs : Nat → Int32} {d : Nat} {p s q : Nat} {Q : Option Value → mm_H → Prop} {a0 : Int32} {I : Nat → Nat → Int32} {J : Nat → Nat → Int64}  (k : (((sy_X11_isPost a0 I J) = Int32.ofInt 0 → Q (some (.int (Int32.ofInt (-2)))) (hp p s q I J)) ∧ (¬ ((sy_X11_isPost a0 I J) = Int32.ofInt 0) → (vp_in a0 60 ∧ (((I 91 ((a0).toNatClampNeg)) = Int32.ofInt 0 → Q (some (.int (Int32.ofInt (-1)))) (hp p s q I J)) ∧ (¬ ((I 91 ((a0).toNatClampNeg)) = Int32.ofInt 0) → (mm_s SL xs (d + 4) 203 [.ref 65] (hp p s q I J) (fun r_ h_ => ∃ I1 J1, r_ = none ∧ h_ = hp p s q I1 J1 ∧ (mm_s SL xs (d + 4) 211 [.ref 65] (hp p s q I1 J1) (fun r_ h_ => ∃ I2 J2, r_ = none ∧ h_ = hp p s q I2 J2 ∧ (mm_s SL xs (d + 4) 204 [.ref 65] (hp p s q I2 J2) (fun r_ h_ => ∃ I3 J3, r_ = none ∧ h_ = hp p s q I3 J3 ∧ w_X11_bribe_57 SL xs d p s q Q a0 (I2 65 60) (I2 91 ((a0).toNatClampNeg)) (Int32.ofInt (-1)) ((I3 65 60) + (Int32.ofInt 1)) I3 J3)))))))))))) : mm_s SL xs (d + 5) 223 [.ref 65, .int a0] (hp p s q I J) Q := by
  refine e_X11_bribe rfl ?_
  refine hs_L (L2 := [some (.ref 65), some (.int a0), none, none, none, none]) rfl ?_
  refine sp_aload_n 1 rfl rfl rfl ?_
  refine sp_iload_n 2 rfl rfl rfl ?_
  refine sc_V 5 rfl rfl rfl rfl rfl (Nat.le_refl _) (Nat.le_refl _) rfl ?_
  refine cy_X11_isPost ?_
  refine sp_if_ne 8 rfl rfl (fun q_ => ?_) (fun q_ => ?_)
  · have k := k.2 q_
    refine sp_aload_n 12 rfl rfl rfl ?_
    refine hq_getR 15 rfl rfl rfl rfl ?_
    refine sp_iload_n 16 rfl rfl rfl ?_
    have n1_ := k.1
    have k := k.2
    refine hq_zald 17 rfl rfl n1_ rfl ?_
    refine sp_if_ne 20 rfl rfl (fun q_ => ?_) (fun q_ => ?_)
    · have k := k.2 q_
      refine sp_aload_n 23 rfl rfl rfl ?_
      refine sc_V 26 rfl rfl rfl rfl rfl (Nat.le_refl _) (Nat.le_refl _) rfl ?_
      refine mm_s_mono _ _ _ _ _ _ ?_ k
      rintro r_ h_ ⟨I1, J1, rfl, rfl, k⟩
      refine hs_S (st2 := []) rfl ?_
      refine sp_aload_n 27 rfl rfl rfl ?_
      refine sc_V 30 rfl rfl rfl rfl rfl (Nat.le_refl _) (Nat.le_refl _) rfl ?_
      refine mm_s_mono _ _ _ _ _ _ ?_ k
      rintro r_ h_ ⟨I2, J2, rfl, rfl, k⟩
      refine hs_S (st2 := []) rfl ?_
      refine sp_aload_n 31 rfl rfl rfl ?_
      refine hq_getI 34 rfl rfl rfl ?_
      refine hs_istore_n 35 (L2 := [some (.ref 65), some (.int a0), some (.int (I2 65 60)), none, none, none]) rfl rfl rfl rfl ?_
      refine sp_aload_n 36 rfl rfl rfl ?_
      refine hq_getR 39 rfl rfl rfl rfl ?_
      refine sp_iload_n 40 rfl rfl rfl ?_
      refine hq_zald 41 rfl rfl n1_ rfl ?_
      refine hs_istore_n 42 (L2 := [some (.ref 65), some (.int a0), some (.int (I2 65 60)), some (.int (I2 91 ((a0).toNatClampNeg))), none, none]) rfl rfl rfl rfl ?_
      refine sp_aload_n 43 rfl rfl rfl ?_
      refine sc_V 46 rfl rfl rfl rfl rfl (Nat.le_refl _) (Nat.le_refl _) rfl ?_
      refine mm_s_mono _ _ _ _ _ _ ?_ k
      rintro r_ h_ ⟨I3, J3, rfl, rfl, k⟩
      refine hs_S (st2 := []) rfl ?_
      refine sp_iconst 47 rfl rfl ?_
      refine hs_istore 49 (L2 := [some (.ref 65), some (.int a0), some (.int (I2 65 60)), some (.int (I2 91 ((a0).toNatClampNeg))), some (.int (Int32.ofInt (-1))), none]) rfl rfl rfl rfl ?_
      refine sp_aload_n 50 rfl rfl rfl ?_
      refine hq_getI 53 rfl rfl rfl ?_
      refine sp_iconst 54 rfl rfl ?_
      refine sp_iadd 55 rfl rfl ?_
      refine hs_istore 57 (L2 := [some (.ref 65), some (.int a0), some (.int (I2 65 60)), some (.int (I2 91 ((a0).toNatClampNeg))), some (.int (Int32.ofInt (-1))), some (.int ((I3 65 60) + (Int32.ofInt 1)))]) rfl rfl rfl rfl ?_
      exact k
    · have k := k.1 q_
      refine sp_iconst 21 rfl rfl ?_
      exact st_iret rfl rfl (Nat.le_refl _) (Nat.le_refl _) k
  · have k := k.1 q_
    refine sp_bipush 10 rfl rfl ?_
    refine sp_I (y := Int32.ofInt (-2)) rfl ?_
    exact st_iret rfl rfl (Nat.le_refl _) (Nat.le_refl _) k
theorem sg_X11_bribe_57 {SL : Nat} {xs : Nat → Int32} {d : Nat} {p s q : Nat} {Q : Option Value → mm_H → Prop} {v1 : Int32} {v2 : Int32} {v3 : Int32} {v4 : Int32} {v5 : Int32} {I : Nat → Nat → Int32} {J : Nat → Nat → Int64}  (k : ((v2 < v5 → Q (some (.int v4)) (hp p s q I J)) ∧ (¬ (v2 < v5) → ((v3 = Int32.ofInt 0 → ((Int32.ofInt 0 ≤ v4 → Q (some (.int v4)) (hp p s q I J)) ∧ (¬ (Int32.ofInt 0 ≤ v4) → (mm_s SL xs (d + 4) 211 [.ref 65] (hp p s q (mm_u I 65 77 v5) J) (fun r_ h_ => ∃ I1 J1, r_ = none ∧ h_ = hp p s q I1 J1 ∧ (vp_in v1 60 ∧ (((I1 91 ((v1).toNatClampNeg)) = Int32.ofInt 0 → (mm_s SL xs (d + 4) 204 [.ref 65] (hp p s q I1 J1) (fun r_ h_ => ∃ I2 J2, r_ = none ∧ h_ = hp p s q I2 J2 ∧ w_X11_bribe_57 SL xs d p s q Q v1 v2 v3 (Int32.ofInt (-1)) (v5 + Int32.ofInt 1) I2 J2))) ∧ (¬ ((I1 91 ((v1).toNatClampNeg)) = Int32.ofInt 0) → (mm_s SL xs (d + 4) 204 [.ref 65] (hp p s q I1 J1) (fun r_ h_ => ∃ I3 J3, r_ = none ∧ h_ = hp p s q I3 J3 ∧ w_X11_bribe_57 SL xs d p s q Q v1 v2 v3 v5 (v5 + Int32.ofInt 1) I3 J3)))))))))) ∧ (¬ (v3 = Int32.ofInt 0) → Q (some (.int v4)) (hp p s q I J)))))) : w_X11_bribe_57 SL xs d p s q Q v1 v2 v3 v4 v5 I J := by
  unfold w_X11_bribe_57
  refine sp_iload 59 rfl rfl rfl ?_
  refine sp_iload_n 60 rfl rfl rfl ?_
  refine sp_ic_gt 63 rfl rfl (fun q_ => ?_) (fun q_ => ?_)
  · have k := k.1 q_
    refine sp_iload 111 rfl rfl rfl ?_
    exact st_iret rfl rfl (Nat.le_refl _) (Nat.le_refl _) k
  · have k := k.2 q_
    refine sp_iload_n 64 rfl rfl rfl ?_
    refine sp_if_ne 67 rfl rfl (fun q_ => ?_) (fun q_ => ?_)
    · have k := k.2 q_
      refine sp_iload 111 rfl rfl rfl ?_
      exact st_iret rfl rfl (Nat.le_refl _) (Nat.le_refl _) k
    · have k := k.1 q_
      refine sp_iload 69 rfl rfl rfl ?_
      refine sp_if_ge 72 rfl rfl (fun q_ => ?_) (fun q_ => ?_)
      · have k := k.1 q_
        refine sp_iload 111 rfl rfl rfl ?_
        exact st_iret rfl rfl (Nat.le_refl _) (Nat.le_refl _) k
      · have k := k.2 q_
        refine sp_aload_n 73 rfl rfl rfl ?_
        refine sp_iload 75 rfl rfl rfl ?_
        refine hq_putI 78 rfl rfl rfl ?_
        refine sp_aload_n 79 rfl rfl rfl ?_
        refine sc_V 82 rfl rfl rfl rfl rfl (Nat.le_refl _) (Nat.le_refl _) rfl ?_
        refine mm_s_mono _ _ _ _ _ _ ?_ k
        rintro r_ h_ ⟨I1, J1, rfl, rfl, k⟩
        refine hs_S (st2 := []) rfl ?_
        refine sp_aload_n 83 rfl rfl rfl ?_
        refine hq_getR 86 rfl rfl rfl rfl ?_
        refine sp_iload_n 87 rfl rfl rfl ?_
        have n2_ := k.1
        have k := k.2
        refine hq_zald 88 rfl rfl n2_ rfl ?_
        refine sp_if_eq 91 rfl rfl (fun q_ => ?_) (fun q_ => ?_)
        · have k := k.1 q_
          refine sp_iconst 97 rfl rfl ?_
          refine hs_istore 99 (L2 := [some (.ref 65), some (.int v1), some (.int v2), some (.int v3), some (.int (Int32.ofInt (-1))), some (.int v5)]) rfl rfl rfl rfl ?_
          refine sp_aload_n 100 rfl rfl rfl ?_
          refine sc_V 103 rfl rfl rfl rfl rfl (Nat.le_refl _) (Nat.le_refl _) rfl ?_
          refine mm_s_mono _ _ _ _ _ _ ?_ k
          rintro r_ h_ ⟨I2, J2, rfl, rfl, k⟩
          refine hs_S (st2 := []) rfl ?_
          refine hs_iinc 106 (L2 := [some (.ref 65), some (.int v1), some (.int v2), some (.int v3), some (.int (Int32.ofInt (-1))), some (.int (v5 + Int32.ofInt 1))]) rfl rfl rfl rfl rfl ?_
          refine sp_goto rfl ?_
          exact k
        · have k := k.2 q_
          refine sp_iload 93 rfl rfl rfl ?_
          refine sp_goto rfl ?_
          refine hs_istore 99 (L2 := [some (.ref 65), some (.int v1), some (.int v2), some (.int v3), some (.int v5), some (.int v5)]) rfl rfl rfl rfl ?_
          refine sp_aload_n 100 rfl rfl rfl ?_
          refine sc_V 103 rfl rfl rfl rfl rfl (Nat.le_refl _) (Nat.le_refl _) rfl ?_
          refine mm_s_mono _ _ _ _ _ _ ?_ k
          rintro r_ h_ ⟨I3, J3, rfl, rfl, k⟩
          refine hs_S (st2 := []) rfl ?_
          refine hs_iinc 106 (L2 := [some (.ref 65), some (.int v1), some (.int v2), some (.int v3), some (.int v5), some (.int (v5 + Int32.ofInt 1))]) rfl rfl rfl rfl rfl ?_
          refine sp_goto rfl ?_
          exact k
def w_X11_begins_21 (SL : Nat) (xs : Nat → Int32) (d : Nat) (p s q : Nat) (Q : Option Value → mm_H → Prop) (v1 : Int32) (v2 : Int64) (v4 : Int32) (I : Nat → Nat → Int32) (J : Nat → Nat → Int64) : Prop := mm_w SL xs (mm_s SL xs (d + 4)) mm_am kX11_begins 0 0 (some .long) Q 21 [some (.ref 65), some (.int v1), some (.long v2), none, some (.int v4)] [] (hp p s q I J) 0 0
theorem sg_X11_begins {SL : Nat} {xs : Nat → Int32} {d : Nat} {p s q : Nat} {Q : Option Value → mm_H → Prop} {a0 : Int32} {I : Nat → Nat → Int32} {J : Nat → Nat → Int64}  (k : (((sy_X11_isPost a0 I J) = Int32.ofInt 0 → Q (some (.long (Int64.ofInt (-2)))) (hp p s q I J)) ∧ (¬ ((sy_X11_isPost a0 I J) = Int32.ofInt 0) → (mm_s SL xs (d + 4) 203 [.ref 65] (hp p s q I J) (fun r_ h_ => ∃ I1 J1, r_ = none ∧ h_ = hp p s q I1 J1 ∧ w_X11_begins_21 SL xs d p s q Q a0 (Int64.ofInt 0) (Int32.ofInt 0) I1 J1))))) : mm_s SL xs (d + 5) 227 [.ref 65, .int a0] (hp p s q I J) Q := by
  refine e_X11_begins rfl ?_
  refine hs_L (L2 := [some (.ref 65), some (.int a0), none, none, none]) rfl ?_
  refine sp_aload_n 1 rfl rfl rfl ?_
  refine sp_iload_n 2 rfl rfl rfl ?_
  refine sc_V 5 rfl rfl rfl rfl rfl (Nat.le_refl _) (Nat.le_refl _) rfl ?_
  refine cy_X11_isPost ?_
  refine sp_if_ne 8 rfl rfl (fun q_ => ?_) (fun q_ => ?_)
  · have k := k.2 q_
    refine sp_aload_n 13 rfl rfl rfl ?_
    refine sc_V 16 rfl rfl rfl rfl rfl (Nat.le_refl _) (Nat.le_refl _) rfl ?_
    refine mm_s_mono _ _ _ _ _ _ ?_ k
    rintro r_ h_ ⟨I1, J1, rfl, rfl, k⟩
    refine hs_S (st2 := []) rfl ?_
    refine sp_lconst 17 rfl rfl ?_
    refine sp_J (y := Int64.ofInt 0) rfl ?_
    refine hs_lstore_n 18 (L2 := [some (.ref 65), some (.int a0), some (.long (Int64.ofInt 0)), none, none]) rfl rfl rfl rfl ?_
    refine sp_iconst 19 rfl rfl ?_
    refine hs_istore 21 (L2 := [some (.ref 65), some (.int a0), some (.long (Int64.ofInt 0)), none, some (.int (Int32.ofInt 0))]) rfl rfl rfl rfl ?_
    exact k
  · have k := k.1 q_
    refine sp_ldc2 11 rfl rfl ?_
    exact st_lret rfl rfl (Nat.le_refl _) (Nat.le_refl _) k
theorem sg_X11_begins_21 {SL : Nat} {xs : Nat → Int32} {d : Nat} {p s q : Nat} {Q : Option Value → mm_H → Prop} {v1 : Int32} {v2 : Int64} {v4 : Int32} {I : Nat → Nat → Int32} {J : Nat → Nat → Int64}  (k : (((I 65 47) ≤ v4 → (mm_s SL xs (d + 4) 204 [.ref 65] (hp p s q I J) (fun r_ h_ => ∃ I1 J1, r_ = none ∧ h_ = hp p s q I1 J1 ∧ Q (some (.long v2)) (hp p s q I1 J1)))) ∧ (¬ ((I 65 47) ≤ v4) → (mm_s SL xs (d + 4) 202 [.ref 65, .int v4] (hp p s q I J) (fun r_ h_ => ∃ I2 J2, r_ = none ∧ h_ = hp p s q I2 J2 ∧ (mm_s SL xs (d + 4) 211 [.ref 65] (hp p s q I2 J2) (fun r_ h_ => ∃ I3 J3, r_ = none ∧ h_ = hp p s q I3 J3 ∧ (vp_in v1 60 ∧ (((I3 91 ((v1).toNatClampNeg)) = Int32.ofInt 0 → w_X11_begins_21 SL xs d p s q Q v1 (v2 ||| (Int64.ofInt 0)) (v4 + Int32.ofInt 1) I3 J3) ∧ (¬ ((I3 91 ((v1).toNatClampNeg)) = Int32.ofInt 0) → w_X11_begins_21 SL xs d p s q Q v1 (v2 ||| ((Int64.ofInt 1) <<< ((v4).toInt64 &&& 63))) (v4 + Int32.ofInt 1) I3 J3)))))))))) : w_X11_begins_21 SL xs d p s q Q v1 v2 v4 I J := by
  unfold w_X11_begins_21
  refine sp_iload 23 rfl rfl rfl ?_
  refine sp_aload_n 24 rfl rfl rfl ?_
  refine hq_getI 27 rfl rfl rfl ?_
  refine sp_ic_ge 30 rfl rfl (fun q_ => ?_) (fun q_ => ?_)
  · have k := k.1 q_
    refine sp_aload_n 67 rfl rfl rfl ?_
    refine sc_V 70 rfl rfl rfl rfl rfl (Nat.le_refl _) (Nat.le_refl _) rfl ?_
    refine mm_s_mono _ _ _ _ _ _ ?_ k
    rintro r_ h_ ⟨I1, J1, rfl, rfl, k⟩
    refine hs_S (st2 := []) rfl ?_
    refine sp_lload_n 71 rfl rfl rfl ?_
    exact st_lret rfl rfl (Nat.le_refl _) (Nat.le_refl _) k
  · have k := k.2 q_
    refine sp_aload_n 31 rfl rfl rfl ?_
    refine sp_iload 33 rfl rfl rfl ?_
    refine sc_V 36 rfl rfl rfl rfl rfl (Nat.le_refl _) (Nat.le_refl _) rfl ?_
    refine mm_s_mono _ _ _ _ _ _ ?_ k
    rintro r_ h_ ⟨I2, J2, rfl, rfl, k⟩
    refine hs_S (st2 := []) rfl ?_
    refine sp_aload_n 37 rfl rfl rfl ?_
    refine sc_V 40 rfl rfl rfl rfl rfl (Nat.le_refl _) (Nat.le_refl _) rfl ?_
    refine mm_s_mono _ _ _ _ _ _ ?_ k
    rintro r_ h_ ⟨I3, J3, rfl, rfl, k⟩
    refine hs_S (st2 := []) rfl ?_
    refine sp_lload_n 41 rfl rfl rfl ?_
    refine sp_aload_n 42 rfl rfl rfl ?_
    refine hq_getR 45 rfl rfl rfl rfl ?_
    refine sp_iload_n 46 rfl rfl rfl ?_
    have n1_ := k.1
    have k := k.2
    refine hq_zald 47 rfl rfl n1_ rfl ?_
    refine sp_if_eq 50 rfl rfl (fun q_ => ?_) (fun q_ => ?_)
    · have k := k.1 q_
      refine sp_lconst 58 rfl rfl ?_
      refine sp_J (y := Int64.ofInt 0) rfl ?_
      refine sp_lor 59 rfl rfl ?_
      refine hs_lstore_n 60 (L2 := [some (.ref 65), some (.int v1), some (.long (v2 ||| (Int64.ofInt 0))), none, some (.int v4)]) rfl rfl rfl rfl ?_
      refine hs_iinc 63 (L2 := [some (.ref 65), some (.int v1), some (.long (v2 ||| (Int64.ofInt 0))), none, some (.int (v4 + Int32.ofInt 1))]) rfl rfl rfl rfl rfl ?_
      refine sp_goto rfl ?_
      exact k
    · have k := k.2 q_
      refine sp_lconst 51 rfl rfl ?_
      refine sp_J (y := Int64.ofInt 1) rfl ?_
      refine sp_iload 53 rfl rfl rfl ?_
      refine sp_lshl 54 rfl rfl ?_
      refine sp_goto rfl ?_
      refine sp_lor 59 rfl rfl ?_
      refine hs_lstore_n 60 (L2 := [some (.ref 65), some (.int v1), some (.long (v2 ||| ((Int64.ofInt 1) <<< ((v4).toInt64 &&& 63)))), none, some (.int v4)]) rfl rfl rfl rfl ?_
      refine hs_iinc 63 (L2 := [some (.ref 65), some (.int v1), some (.long (v2 ||| ((Int64.ofInt 1) <<< ((v4).toInt64 &&& 63)))), none, some (.int (v4 + Int32.ofInt 1))]) rfl rfl rfl rfl rfl ?_
      refine sp_goto rfl ?_
      exact k
def w_X11_chooses_22 (SL : Nat) (xs : Nat → Int32) (d : Nat) (p s q : Nat) (Q : Option Value → mm_H → Prop) (v1 : Int64) (v3 : Int32) (v4 : Int32) (I : Nat → Nat → Int32) (J : Nat → Nat → Int64) : Prop := mm_w SL xs (mm_s SL xs (d + 4)) mm_am kX11_chooses 0 0 (some .int) Q 22 [some (.ref 65), some (.long v1), none, some (.int v3), some (.int v4)] [] (hp p s q I J) 0 0
theorem sg_X11_chooses {SL : Nat} {xs : Nat → Int32} {d : Nat} {p s q : Nat} {Q : Option Value → mm_H → Prop} {a0 : Int64} {I : Nat → Nat → Int32} {J : Nat → Nat → Int64}  (k : (((sx_X11_isSet a0 (I 65 47)) = Int32.ofInt 0 → Q (some (.int (Int32.ofInt (-1)))) (hp p s q I J)) ∧ (¬ ((sx_X11_isSet a0 (I 65 47)) = Int32.ofInt 0) → (mm_s SL xs (d + 4) 203 [.ref 65] (hp p s q I J) (fun r_ h_ => ∃ I1 J1, r_ = none ∧ h_ = hp p s q I1 J1 ∧ w_X11_chooses_22 SL xs d p s q Q a0 (Int32.ofInt (-1)) (Int32.ofInt 1) I1 J1))))) : mm_s SL xs (d + 5) 229 [.ref 65, .long a0] (hp p s q I J) Q := by
  refine e_X11_chooses rfl ?_
  refine hs_L (L2 := [some (.ref 65), some (.long a0), none, none, none]) rfl ?_
  refine sp_lload_n 1 rfl rfl rfl ?_
  refine sp_aload_n 2 rfl rfl rfl ?_
  refine hq_getI 5 rfl rfl rfl ?_
  refine sc_S 8 rfl rfl rfl rfl (Nat.le_refl _) (Nat.le_refl _) rfl ?_
  refine cx_X11_isSet ?_
  refine hs_S (st2 := [.int (sx_X11_isSet a0 (I 65 47))]) rfl ?_
  refine sp_if_ne 11 rfl rfl (fun q_ => ?_) (fun q_ => ?_)
  · have k := k.2 q_
    refine sp_aload_n 14 rfl rfl rfl ?_
    refine sc_V 17 rfl rfl rfl rfl rfl (Nat.le_refl _) (Nat.le_refl _) rfl ?_
    refine mm_s_mono _ _ _ _ _ _ ?_ k
    rintro r_ h_ ⟨I1, J1, rfl, rfl, k⟩
    refine hs_S (st2 := []) rfl ?_
    refine sp_iconst 18 rfl rfl ?_
    refine hs_istore_n 19 (L2 := [some (.ref 65), some (.long a0), none, some (.int (Int32.ofInt (-1))), none]) rfl rfl rfl rfl ?_
    refine sp_iconst 20 rfl rfl ?_
    refine hs_istore 22 (L2 := [some (.ref 65), some (.long a0), none, some (.int (Int32.ofInt (-1))), some (.int (Int32.ofInt 1))]) rfl rfl rfl rfl ?_
    exact k
  · have k := k.1 q_
    refine sp_iconst 12 rfl rfl ?_
    exact st_iret rfl rfl (Nat.le_refl _) (Nat.le_refl _) k
theorem sg_X11_chooses_22 {SL : Nat} {xs : Nat → Int32} {d : Nat} {p s q : Nat} {Q : Option Value → mm_H → Prop} {v1 : Int64} {v3 : Int32} {v4 : Int32} {I : Nat → Nat → Int32} {J : Nat → Nat → Int64}  (k : (((Int32.ofInt 999) < v4 → (mm_s SL xs (d + 4) 204 [.ref 65] (hp p s q I J) (fun r_ h_ => ∃ I1 J1, r_ = none ∧ h_ = hp p s q I1 J1 ∧ Q (some (.int v3)) (hp p s q I1 J1)))) ∧ (¬ ((Int32.ofInt 999) < v4) → ((Int32.ofInt 0 ≤ v3 → (mm_s SL xs (d + 4) 204 [.ref 65] (hp p s q I J) (fun r_ h_ => ∃ I2 J2, r_ = none ∧ h_ = hp p s q I2 J2 ∧ Q (some (.int v3)) (hp p s q I2 J2)))) ∧ (¬ (Int32.ofInt 0 ≤ v3) → (mm_s SL xs (d + 4) 202 [.ref 65, .int (I 65 48)] (hp p s q I J) (fun r_ h_ => ∃ I3 J3, r_ = none ∧ h_ = hp p s q I3 J3 ∧ (mm_s SL xs (d + 4) 211 [.ref 65] (hp p s q (mm_u I3 65 76 v4) J3) (fun r_ h_ => ∃ I4 J4, r_ = none ∧ h_ = hp p s q I4 J4 ∧ (mm_s SL xs (d + 4) 212 [.ref 65] (hp p s q I4 J4) (fun r_ h_ => ∃ x5 I5 J5, r_ = some (.long x5) ∧ h_ = hp p s q I5 J5 ∧ (((x5 &&& v1) = v1 → w_X11_chooses_22 SL xs d p s q Q v1 v4 (v4 + Int32.ofInt 1) I5 J5) ∧ (¬ ((x5 &&& v1) = v1) → w_X11_chooses_22 SL xs d p s q Q v1 (Int32.ofInt (-1)) (v4 + Int32.ofInt 1) I5 J5))))))))))))) : w_X11_chooses_22 SL xs d p s q Q v1 v3 v4 I J := by
  unfold w_X11_chooses_22
  refine sp_iload 24 rfl rfl rfl ?_
  refine sp_sipush 27 rfl rfl ?_
  refine sp_I (y := Int32.ofInt 999) rfl ?_
  refine sp_ic_gt 30 rfl rfl (fun q_ => ?_) (fun q_ => ?_)
  · have k := k.1 q_
    refine sp_aload_n 77 rfl rfl rfl ?_
    refine sc_V 80 rfl rfl rfl rfl rfl (Nat.le_refl _) (Nat.le_refl _) rfl ?_
    refine mm_s_mono _ _ _ _ _ _ ?_ k
    rintro r_ h_ ⟨I1, J1, rfl, rfl, k⟩
    refine hs_S (st2 := []) rfl ?_
    refine sp_iload_n 81 rfl rfl rfl ?_
    exact st_iret rfl rfl (Nat.le_refl _) (Nat.le_refl _) k
  · have k := k.2 q_
    refine sp_iload_n 31 rfl rfl rfl ?_
    refine sp_if_ge 34 rfl rfl (fun q_ => ?_) (fun q_ => ?_)
    · have k := k.1 q_
      refine sp_aload_n 77 rfl rfl rfl ?_
      refine sc_V 80 rfl rfl rfl rfl rfl (Nat.le_refl _) (Nat.le_refl _) rfl ?_
      refine mm_s_mono _ _ _ _ _ _ ?_ k
      rintro r_ h_ ⟨I2, J2, rfl, rfl, k⟩
      refine hs_S (st2 := []) rfl ?_
      refine sp_iload_n 81 rfl rfl rfl ?_
      exact st_iret rfl rfl (Nat.le_refl _) (Nat.le_refl _) k
    · have k := k.2 q_
      refine sp_aload_n 35 rfl rfl rfl ?_
      refine sp_aload_n 36 rfl rfl rfl ?_
      refine hq_getI 39 rfl rfl rfl ?_
      refine sc_V 42 rfl rfl rfl rfl rfl (Nat.le_refl _) (Nat.le_refl _) rfl ?_
      refine mm_s_mono _ _ _ _ _ _ ?_ k
      rintro r_ h_ ⟨I3, J3, rfl, rfl, k⟩
      refine hs_S (st2 := []) rfl ?_
      refine sp_aload_n 43 rfl rfl rfl ?_
      refine sp_iload 45 rfl rfl rfl ?_
      refine hq_putI 48 rfl rfl rfl ?_
      refine sp_aload_n 49 rfl rfl rfl ?_
      refine sc_V 52 rfl rfl rfl rfl rfl (Nat.le_refl _) (Nat.le_refl _) rfl ?_
      refine mm_s_mono _ _ _ _ _ _ ?_ k
      rintro r_ h_ ⟨I4, J4, rfl, rfl, k⟩
      refine hs_S (st2 := []) rfl ?_
      refine sp_aload_n 53 rfl rfl rfl ?_
      refine sc_V 56 rfl rfl rfl rfl rfl (Nat.le_refl _) (Nat.le_refl _) rfl ?_
      refine mm_s_mono _ _ _ _ _ _ ?_ k
      rintro r_ h_ ⟨x5, I5, J5, rfl, rfl, k⟩
      refine hs_S (st2 := [.long x5]) rfl ?_
      refine sp_lload_n 57 rfl rfl rfl ?_
      refine sp_land 58 rfl rfl ?_
      refine sp_lload_n 59 rfl rfl rfl ?_
      refine sp_lcmp 60 rfl rfl ?_
      refine sp_if_ne 63 rfl rfl (fun q_ => ?_) (fun q_ => ?_)
      · have k := k.2 (fun z_ => q_ ((lg_cmp_eq _ _).mpr z_))
        refine sp_iconst 69 rfl rfl ?_
        refine hs_istore_n 70 (L2 := [some (.ref 65), some (.long v1), none, some (.int (Int32.ofInt (-1))), some (.int v4)]) rfl rfl rfl rfl ?_
        refine hs_iinc 73 (L2 := [some (.ref 65), some (.long v1), none, some (.int (Int32.ofInt (-1))), some (.int (v4 + Int32.ofInt 1))]) rfl rfl rfl rfl rfl ?_
        refine sp_goto rfl ?_
        exact k
      · have k := k.1 ((lg_cmp_eq _ _).mp q_)
        refine sp_iload 65 rfl rfl rfl ?_
        refine sp_goto rfl ?_
        refine hs_istore_n 70 (L2 := [some (.ref 65), some (.long v1), none, some (.int v4), some (.int v4)]) rfl rfl rfl rfl ?_
        refine hs_iinc 73 (L2 := [some (.ref 65), some (.long v1), none, some (.int v4), some (.int (v4 + Int32.ofInt 1))]) rfl rfl rfl rfl rfl ?_
        refine sp_goto rfl ?_
        exact k
def w_X11_judge_20 (SL : Nat) (xs : Nat → Int32) (d : Nat) (p s q : Nat) (Q : Option Value → mm_H → Prop) (v1 : Int32) (v2 : Int32) (I : Nat → Nat → Int32) (J : Nat → Nat → Int64) : Prop := mm_w SL xs (mm_s SL xs (d + 4)) mm_am kX11_judge 0 0 (some .int) Q 20 [some (.ref 65), some (.int v1), some (.int v2)] [] (hp p s q I J) 0 0
theorem sg_X11_judge {SL : Nat} {xs : Nat → Int32} {d : Nat} {p s q : Nat} {Q : Option Value → mm_H → Prop}  {I : Nat → Nat → Int32} {J : Nat → Nat → Int64}  (k : (mm_s SL xs (d + 4) 203 [.ref 65] (hp p s q I J) (fun r_ h_ => ∃ I1 J1, r_ = none ∧ h_ = hp p s q I1 J1 ∧ (mm_s SL xs (d + 4) 202 [.ref 65, .int (I1 65 48)] (hp p s q I1 J1) (fun r_ h_ => ∃ I2 J2, r_ = none ∧ h_ = hp p s q I2 J2 ∧ (mm_s SL xs (d + 4) 211 [.ref 65] (hp p s q I2 J2) (fun r_ h_ => ∃ I3 J3, r_ = none ∧ h_ = hp p s q I3 J3 ∧ w_X11_judge_20 SL xs d p s q Q (Int32.ofInt (-1)) (Int32.ofInt 0) I3 J3))))))) : mm_s SL xs (d + 5) 232 [.ref 65] (hp p s q I J) Q := by
  refine e_X11_judge rfl ?_
  refine hs_L (L2 := [some (.ref 65), none, none]) rfl ?_
  refine sp_aload_n 1 rfl rfl rfl ?_
  refine sc_V 4 rfl rfl rfl rfl rfl (Nat.le_refl _) (Nat.le_refl _) rfl ?_
  refine mm_s_mono _ _ _ _ _ _ ?_ k
  rintro r_ h_ ⟨I1, J1, rfl, rfl, k⟩
  refine hs_S (st2 := []) rfl ?_
  refine sp_aload_n 5 rfl rfl rfl ?_
  refine sp_aload_n 6 rfl rfl rfl ?_
  refine hq_getI 9 rfl rfl rfl ?_
  refine sc_V 12 rfl rfl rfl rfl rfl (Nat.le_refl _) (Nat.le_refl _) rfl ?_
  refine mm_s_mono _ _ _ _ _ _ ?_ k
  rintro r_ h_ ⟨I2, J2, rfl, rfl, k⟩
  refine hs_S (st2 := []) rfl ?_
  refine sp_aload_n 13 rfl rfl rfl ?_
  refine sc_V 16 rfl rfl rfl rfl rfl (Nat.le_refl _) (Nat.le_refl _) rfl ?_
  refine mm_s_mono _ _ _ _ _ _ ?_ k
  rintro r_ h_ ⟨I3, J3, rfl, rfl, k⟩
  refine hs_S (st2 := []) rfl ?_
  refine sp_iconst 17 rfl rfl ?_
  refine hs_istore_n 18 (L2 := [some (.ref 65), some (.int (Int32.ofInt (-1))), none]) rfl rfl rfl rfl ?_
  refine sp_iconst 19 rfl rfl ?_
  refine hs_istore_n 20 (L2 := [some (.ref 65), some (.int (Int32.ofInt (-1))), some (.int (Int32.ofInt 0))]) rfl rfl rfl rfl ?_
  exact k
theorem sg_X11_judge_20 {SL : Nat} {xs : Nat → Int32} {d : Nat} {p s q : Nat} {Q : Option Value → mm_H → Prop} {v1 : Int32} {v2 : Int32} {I : Nat → Nat → Int32} {J : Nat → Nat → Int64}  (k : (((I 65 80) ≤ v2 → (mm_s SL xs (d + 4) 204 [.ref 65] (hp p s q I J) (fun r_ h_ => ∃ I1 J1, r_ = none ∧ h_ = hp p s q I1 J1 ∧ Q (some (.int v1)) (hp p s q I1 J1)))) ∧ (¬ ((I 65 80) ≤ v2) → ((Int32.ofInt 0 ≤ v1 → (mm_s SL xs (d + 4) 204 [.ref 65] (hp p s q I J) (fun r_ h_ => ∃ I2 J2, r_ = none ∧ h_ = hp p s q I2 J2 ∧ Q (some (.int v1)) (hp p s q I2 J2)))) ∧ (¬ (Int32.ofInt 0 ≤ v1) → (((I 65 61) ≤ v2 → w_X11_judge_20 SL xs d p s q Q v2 (v2 + Int32.ofInt 1) I J) ∧ (¬ ((I 65 61) ≤ v2) → (vp_in v2 60 ∧ (((I 89 ((v2).toNatClampNeg)) = (I 97 ((v2).toNatClampNeg)) → w_X11_judge_20 SL xs d p s q Q (Int32.ofInt (-1)) (v2 + Int32.ofInt 1) I J) ∧ (¬ ((I 89 ((v2).toNatClampNeg)) = (I 97 ((v2).toNatClampNeg))) → w_X11_judge_20 SL xs d p s q Q v2 (v2 + Int32.ofInt 1) I J)))))))))) : w_X11_judge_20 SL xs d p s q Q v1 v2 I J := by
  unfold w_X11_judge_20
  refine sp_iload_n 21 rfl rfl rfl ?_
  refine sp_aload_n 22 rfl rfl rfl ?_
  refine hq_getI 25 rfl rfl rfl ?_
  refine sp_ic_ge 28 rfl rfl (fun q_ => ?_) (fun q_ => ?_)
  · have k := k.1 q_
    refine sp_aload_n 68 rfl rfl rfl ?_
    refine sc_V 71 rfl rfl rfl rfl rfl (Nat.le_refl _) (Nat.le_refl _) rfl ?_
    refine mm_s_mono _ _ _ _ _ _ ?_ k
    rintro r_ h_ ⟨I1, J1, rfl, rfl, k⟩
    refine hs_S (st2 := []) rfl ?_
    refine sp_iload_n 72 rfl rfl rfl ?_
    exact st_iret rfl rfl (Nat.le_refl _) (Nat.le_refl _) k
  · have k := k.2 q_
    refine sp_iload_n 29 rfl rfl rfl ?_
    refine sp_if_ge 32 rfl rfl (fun q_ => ?_) (fun q_ => ?_)
    · have k := k.1 q_
      refine sp_aload_n 68 rfl rfl rfl ?_
      refine sc_V 71 rfl rfl rfl rfl rfl (Nat.le_refl _) (Nat.le_refl _) rfl ?_
      refine mm_s_mono _ _ _ _ _ _ ?_ k
      rintro r_ h_ ⟨I2, J2, rfl, rfl, k⟩
      refine hs_S (st2 := []) rfl ?_
      refine sp_iload_n 72 rfl rfl rfl ?_
      exact st_iret rfl rfl (Nat.le_refl _) (Nat.le_refl _) k
    · have k := k.2 q_
      refine sp_iload_n 33 rfl rfl rfl ?_
      refine sp_aload_n 34 rfl rfl rfl ?_
      refine hq_getI 37 rfl rfl rfl ?_
      refine sp_ic_ge 40 rfl rfl (fun q_ => ?_) (fun q_ => ?_)
      · have k := k.1 q_
        refine sp_iload_n 60 rfl rfl rfl ?_
        refine hs_istore_n 61 (L2 := [some (.ref 65), some (.int v2), some (.int v2)]) rfl rfl rfl rfl ?_
        refine hs_iinc 64 (L2 := [some (.ref 65), some (.int v2), some (.int (v2 + Int32.ofInt 1))]) rfl rfl rfl rfl rfl ?_
        refine sp_goto rfl ?_
        exact k
      · have k := k.2 q_
        refine sp_aload_n 41 rfl rfl rfl ?_
        refine hq_getR 44 rfl rfl rfl rfl ?_
        refine sp_iload_n 45 rfl rfl rfl ?_
        have n1_ := k.1
        have k := k.2
        refine hq_iald 46 rfl rfl n1_ rfl ?_
        refine sp_aload_n 47 rfl rfl rfl ?_
        refine hq_getR 50 rfl rfl rfl rfl ?_
        refine sp_iload_n 51 rfl rfl rfl ?_
        refine hq_iald 52 rfl rfl n1_ rfl ?_
        refine sp_ic_ne 55 rfl rfl (fun q_ => ?_) (fun q_ => ?_)
        · have k := k.2 q_
          refine sp_iload_n 60 rfl rfl rfl ?_
          refine hs_istore_n 61 (L2 := [some (.ref 65), some (.int v2), some (.int v2)]) rfl rfl rfl rfl ?_
          refine hs_iinc 64 (L2 := [some (.ref 65), some (.int v2), some (.int (v2 + Int32.ofInt 1))]) rfl rfl rfl rfl rfl ?_
          refine sp_goto rfl ?_
          exact k
        · have k := k.1 q_
          refine sp_iconst 56 rfl rfl ?_
          refine sp_goto rfl ?_
          refine hs_istore_n 61 (L2 := [some (.ref 65), some (.int (Int32.ofInt (-1))), some (.int v2)]) rfl rfl rfl rfl ?_
          refine hs_iinc 64 (L2 := [some (.ref 65), some (.int (Int32.ofInt (-1))), some (.int (v2 + Int32.ofInt 1))]) rfl rfl rfl rfl rfl ?_
          refine sp_goto rfl ?_
          exact k
theorem sg_X11_readCountLine {SL : Nat} {xs : Nat → Int32} {d : Nat} {p s q : Nat} {Q : Option Value → mm_H → Prop}  {I : Nat → Nat → Int32} {J : Nat → Nat → Int64}  (k : (vp_in (Int32.ofInt 6) 8 ∧ (mm_s SL xs (d + 5) 190 [.ref 65] (hp p s q (mm_u I 85 (((Int32.ofInt 6)).toNatClampNeg) (Int32.ofInt 1)) J) (fun r_ h_ => ∃ I1 J1, r_ = none ∧ h_ = hp p s q I1 J1 ∧ Q none (hp p s q I1 J1))))) : mm_s SL xs (d + 6) 196 [.ref 65] (hp p s q I J) Q := by
  refine e_X11_readCountLine rfl ?_
  refine hs_L (L2 := [some (.ref 65)]) rfl ?_
  refine sp_aload_n 1 rfl rfl rfl ?_
  refine hq_getR 4 rfl rfl rfl rfl ?_
  refine sp_bipush 6 rfl rfl ?_
  refine sp_I (y := Int32.ofInt 6) rfl ?_
  refine sp_iconst 7 rfl rfl ?_
  have n1_ := k.1
  have k := k.2
  refine hq_zast 8 rfl rfl n1_ (by decide) rfl ?_
  refine sp_aload_n 9 rfl rfl rfl ?_
  refine sc_V 12 rfl rfl rfl rfl rfl (Nat.le_refl _) (Nat.le_refl _) rfl ?_
  refine mm_s_mono _ _ _ _ _ _ ?_ k
  rintro r_ h_ ⟨I1, J1, rfl, rfl, k⟩
  refine hs_S (st2 := []) rfl ?_
  exact st_vret rfl rfl (Nat.le_refl _) (Nat.le_refl _) k
theorem sg_X11_left {SL : Nat} {xs : Nat → Int32} {d : Nat} {p s q : Nat} {Q : Option Value → mm_H → Prop}  {I : Nat → Nat → Int32} {J : Nat → Nat → Int64}  (k : (mm_s SL xs (d + 5) 203 [.ref 65] (hp p s q I J) (fun r_ h_ => ∃ I1 J1, r_ = none ∧ h_ = hp p s q I1 J1 ∧ (mm_s SL xs (d + 5) 216 [.ref 65] (hp p s q I1 J1) (fun r_ h_ => ∃ x2 I2 J2, r_ = some (.long x2) ∧ h_ = hp p s q I2 J2 ∧ Q (some (.long x2)) (hp p s q I2 J2)))))) : mm_s SL xs (d + 6) 217 [.ref 65] (hp p s q I J) Q := by
  refine e_X11_left rfl ?_
  refine hs_L (L2 := [some (.ref 65)]) rfl ?_
  refine sp_aload_n 1 rfl rfl rfl ?_
  refine sc_V 4 rfl rfl rfl rfl rfl (Nat.le_refl _) (Nat.le_refl _) rfl ?_
  refine mm_s_mono _ _ _ _ _ _ ?_ k
  rintro r_ h_ ⟨I1, J1, rfl, rfl, k⟩
  refine hs_S (st2 := []) rfl ?_
  refine sp_aload_n 5 rfl rfl rfl ?_
  refine sc_V 8 rfl rfl rfl rfl rfl (Nat.le_refl _) (Nat.le_refl _) rfl ?_
  refine mm_s_mono _ _ _ _ _ _ ?_ k
  rintro r_ h_ ⟨x2, I2, J2, rfl, rfl, k⟩
  refine hs_S (st2 := [.long x2]) rfl ?_
  exact st_lret rfl rfl (Nat.le_refl _) (Nat.le_refl _) k
theorem sg_X11_isLateLeft {SL : Nat} {xs : Nat → Int32} {d : Nat} {p s q : Nat} {Q : Option Value → mm_H → Prop} {a0 : Int32} {a1 : Int32} {I : Nat → Nat → Int32} {J : Nat → Nat → Int64}  (k : (mm_s SL xs (d + 5) 219 [.ref 65, .int a0] (hp p s q I J) (fun r_ h_ => ∃ I1 J1, r_ = none ∧ h_ = hp p s q I1 J1 ∧ (vp_in a1 60 ∧ (((I1 91 ((a1).toNatClampNeg)) = Int32.ofInt 0 → (mm_s SL xs (d + 5) 221 [.ref 65] (hp p s q (mm_u (mm_u (mm_u (mm_u I1 91 ((a1).toNatClampNeg) (Int32.ofInt 1)) 87 ((a1).toNatClampNeg) (Int32.ofInt 0)) 88 ((a1).toNatClampNeg) (Int32.ofInt (-1))) 65 59 ((I1 65 59) + (Int32.ofInt 1))) J1) (fun r_ h_ => ∃ I2 J2, r_ = none ∧ h_ = hp p s q I2 J2 ∧ (((I2 91 ((a1).toNatClampNeg)) = 0 ∨ (I2 91 ((a1).toNatClampNeg)) = 1) ∧ Q (some (.int (I2 91 ((a1).toNatClampNeg)))) (hp p s q I2 J2))))) ∧ (¬ ((I1 91 ((a1).toNatClampNeg)) = Int32.ofInt 0) → Q (some (.int (Int32.ofInt 0))) (hp p s q I1 J1))))))) : mm_s SL xs (d + 6) 220 [.ref 65, .int a0, .int a1] (hp p s q I J) Q := by
  refine e_X11_isLateLeft rfl ?_
  refine hs_L (L2 := [some (.ref 65), some (.int a0), some (.int a1)]) rfl ?_
  refine sp_aload_n 1 rfl rfl rfl ?_
  refine sp_iload_n 2 rfl rfl rfl ?_
  refine sc_V 5 rfl rfl rfl rfl rfl (Nat.le_refl _) (Nat.le_refl _) rfl ?_
  refine mm_s_mono _ _ _ _ _ _ ?_ k
  rintro r_ h_ ⟨I1, J1, rfl, rfl, k⟩
  refine hs_S (st2 := []) rfl ?_
  refine sp_aload_n 6 rfl rfl rfl ?_
  refine hq_getR 9 rfl rfl rfl rfl ?_
  refine sp_iload_n 10 rfl rfl rfl ?_
  have n1_ := k.1
  have k := k.2
  refine hq_zald 11 rfl rfl n1_ rfl ?_
  refine sp_if_eq 14 rfl rfl (fun q_ => ?_) (fun q_ => ?_)
  · have k := k.1 q_
    refine sp_aload_n 17 rfl rfl rfl ?_
    refine hq_getR 20 rfl rfl rfl rfl ?_
    refine sp_iload_n 21 rfl rfl rfl ?_
    refine sp_iconst 22 rfl rfl ?_
    refine hq_zast 23 rfl rfl n1_ (by decide) rfl ?_
    refine sp_aload_n 24 rfl rfl rfl ?_
    refine hq_getR 27 rfl rfl rfl rfl ?_
    refine sp_iload_n 28 rfl rfl rfl ?_
    refine sp_iconst 29 rfl rfl ?_
    refine hq_iast 30 rfl rfl n1_ rfl ?_
    refine sp_aload_n 31 rfl rfl rfl ?_
    refine hq_getR 34 rfl rfl rfl rfl ?_
    refine sp_iload_n 35 rfl rfl rfl ?_
    refine sp_iconst 36 rfl rfl ?_
    refine hq_iast 37 rfl rfl n1_ rfl ?_
    refine sp_aload_n 38 rfl rfl rfl ?_
    refine sp_dup 39 rfl rfl rfl ?_
    refine hq_getI 42 rfl rfl rfl ?_
    refine sp_I (y := (I1 65 59)) (by simp [mm_u]) ?_
    refine sp_iconst 43 rfl rfl ?_
    refine sp_iadd 44 rfl rfl ?_
    refine hq_putI 47 rfl rfl rfl ?_
    refine sp_aload_n 48 rfl rfl rfl ?_
    refine sc_V 51 rfl rfl rfl rfl rfl (Nat.le_refl _) (Nat.le_refl _) rfl ?_
    refine mm_s_mono _ _ _ _ _ _ ?_ k
    rintro r_ h_ ⟨I2, J2, rfl, rfl, k⟩
    refine hs_S (st2 := []) rfl ?_
    refine sp_aload_n 52 rfl rfl rfl ?_
    refine hq_getR 55 rfl rfl rfl rfl ?_
    refine sp_iload_n 56 rfl rfl rfl ?_
    refine hq_zald 57 rfl rfl n1_ rfl ?_
    exact st_zret rfl rfl k.1 (Nat.le_refl _) (Nat.le_refl _) k.2
  · have k := k.2 q_
    refine sp_iconst 15 rfl rfl ?_
    exact st_zret rfl rfl (by decide) (Nat.le_refl _) (Nat.le_refl _) k
theorem sg_X11_stay {SL : Nat} {xs : Nat → Int32} {d : Nat} {p s q : Nat} {Q : Option Value → mm_H → Prop} {a0 : Int32} {I : Nat → Nat → Int32} {J : Nat → Nat → Int64}  (k : ((a0 < (Int32.ofInt 1) → Q (some (.long (Int64.ofInt (-1)))) (hp p s q I J)) ∧ (¬ (a0 < (Int32.ofInt 1)) → ((a0 ≤ (Int32.ofInt 59) → (mm_s SL xs (d + 5) 203 [.ref 65] (hp p s q I J) (fun r_ h_ => ∃ I1 J1, r_ = none ∧ h_ = hp p s q I1 J1 ∧ (mm_s SL xs (d + 5) 216 [.ref 65] (hp p s q (mm_u I1 65 78 a0) J1) (fun r_ h_ => ∃ x2 I2 J2, r_ = some (.long x2) ∧ h_ = hp p s q I2 J2 ∧ Q (some (.long x2)) (hp p s q I2 J2)))))) ∧ (¬ (a0 ≤ (Int32.ofInt 59)) → Q (some (.long (Int64.ofInt (-1)))) (hp p s q I J)))))) : mm_s SL xs (d + 6) 224 [.ref 65, .int a0] (hp p s q I J) Q := by
  refine e_X11_stay rfl ?_
  refine hs_L (L2 := [some (.ref 65), some (.int a0)]) rfl ?_
  refine sp_iload_n 1 rfl rfl rfl ?_
  refine sp_iconst 2 rfl rfl ?_
  refine sp_ic_lt 5 rfl rfl (fun q_ => ?_) (fun q_ => ?_)
  · have k := k.1 q_
    refine sp_ldc2 14 rfl rfl ?_
    exact st_lret rfl rfl (Nat.le_refl _) (Nat.le_refl _) k
  · have k := k.2 q_
    refine sp_iload_n 6 rfl rfl rfl ?_
    refine sp_bipush 8 rfl rfl ?_
    refine sp_I (y := Int32.ofInt 59) rfl ?_
    refine sp_ic_le 11 rfl rfl (fun q_ => ?_) (fun q_ => ?_)
    · have k := k.1 q_
      refine sp_aload_n 16 rfl rfl rfl ?_
      refine sc_V 19 rfl rfl rfl rfl rfl (Nat.le_refl _) (Nat.le_refl _) rfl ?_
      refine mm_s_mono _ _ _ _ _ _ ?_ k
      rintro r_ h_ ⟨I1, J1, rfl, rfl, k⟩
      refine hs_S (st2 := []) rfl ?_
      refine sp_aload_n 20 rfl rfl rfl ?_
      refine sp_iload_n 21 rfl rfl rfl ?_
      refine hq_putI 24 rfl rfl rfl ?_
      refine sp_aload_n 25 rfl rfl rfl ?_
      refine sc_V 28 rfl rfl rfl rfl rfl (Nat.le_refl _) (Nat.le_refl _) rfl ?_
      refine mm_s_mono _ _ _ _ _ _ ?_ k
      rintro r_ h_ ⟨x2, I2, J2, rfl, rfl, k⟩
      refine hs_S (st2 := [.long x2]) rfl ?_
      exact st_lret rfl rfl (Nat.le_refl _) (Nat.le_refl _) k
    · have k := k.2 q_
      refine sp_ldc2 14 rfl rfl ?_
      exact st_lret rfl rfl (Nat.le_refl _) (Nat.le_refl _) k
