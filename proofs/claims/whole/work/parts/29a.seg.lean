def w_X11_four_3 (SL : Nat) (xs : Nat → Int32) (d : Nat) (p s q : Nat) (Q : Option Value → mm_H → Prop) (v1 : Int32) (v2 : Int32) (I : Nat → Nat → Int32) (J : Nat → Nat → Int64) : Prop := mm_w SL xs (mm_s SL xs (d + 0)) mm_am kX11_four 0 0 none Q 3 [some (.ref 65), some (.int v1), some (.int v2)] [] (hp p s q I J) 0 0
theorem sg_X11_four {SL : Nat} {xs : Nat → Int32} {d : Nat} {p s q : Nat} {Q : Option Value → mm_H → Prop} {a0 : Int32} {I : Nat → Nat → Int32} {J : Nat → Nat → Int64}  (k : w_X11_four_3 SL xs d p s q Q a0 (Int32.ofInt 24) I J) : mm_s SL xs (d + 1) 166 [.ref 65, .int a0] (hp p s q I J) Q := by
  refine e_X11_four rfl ?_
  refine hs_L (L2 := [some (.ref 65), some (.int a0), none]) rfl ?_
  refine sp_bipush 2 rfl rfl ?_
  refine sp_I (y := Int32.ofInt 24) rfl ?_
  refine hs_istore_n 3 (L2 := [some (.ref 65), some (.int a0), some (.int (Int32.ofInt 24))]) rfl rfl rfl rfl ?_
  exact k
theorem sg_X11_four_3 {SL : Nat} {xs : Nat → Int32} {d : Nat} {p s q : Nat} {Q : Option Value → mm_H → Prop} {v1 : Int32} {v2 : Int32} {I : Nat → Nat → Int32} {J : Nat → Nat → Int64}  (k : ((v2 < Int32.ofInt 0 → Q none (hp p s q I J)) ∧ (¬ (v2 < Int32.ofInt 0) → (vp_in (I 65 1) 1200 ∧ w_X11_four_3 SL xs d p s q Q v1 (v2 + Int32.ofInt (-8)) (mm_u (mm_u I 66 (((I 65 1)).toNatClampNeg) ((v1 >>> (v2 &&& 31)) &&& (Int32.ofInt 255))) 65 1 ((I 65 1) + (Int32.ofInt 1))) J)))) : w_X11_four_3 SL xs d p s q Q v1 v2 I J := by
  unfold w_X11_four_3
  refine sp_iload_n 4 rfl rfl rfl ?_
  refine sp_if_lt 7 rfl rfl (fun q_ => ?_) (fun q_ => ?_)
  · have k := k.1 q_
    exact st_vret rfl rfl (Nat.le_refl _) (Nat.le_refl _) k
  · have k := k.2 q_
    refine sp_aload_n 8 rfl rfl rfl ?_
    refine hq_getR 11 rfl rfl rfl rfl ?_
    refine sp_aload_n 12 rfl rfl rfl ?_
    refine hq_getI 15 rfl rfl rfl ?_
    refine sp_iload_n 16 rfl rfl rfl ?_
    refine sp_iload_n 17 rfl rfl rfl ?_
    refine sp_ishr 18 rfl rfl ?_
    refine sp_sipush 21 rfl rfl ?_
    refine sp_I (y := Int32.ofInt 255) rfl ?_
    refine sp_iand 22 rfl rfl ?_
    have n1_ := k.1
    have k := k.2
    refine hq_iast 23 rfl rfl n1_ rfl ?_
    refine sp_aload_n 24 rfl rfl rfl ?_
    refine sp_dup 25 rfl rfl rfl ?_
    refine hq_getI 28 rfl rfl rfl ?_
    refine sp_I (y := (I 65 1)) (by simp [mm_u]) ?_
    refine sp_iconst 29 rfl rfl ?_
    refine sp_iadd 30 rfl rfl ?_
    refine hq_putI 33 rfl rfl rfl ?_
    refine hs_iinc 36 (L2 := [some (.ref 65), some (.int v1), some (.int (v2 + Int32.ofInt (-8)))]) rfl rfl rfl rfl rfl ?_
    refine sp_goto rfl ?_
    exact k
theorem sg_X11_end {SL : Nat} {xs : Nat → Int32} {d : Nat} {p s q : Nat} {Q : Option Value → mm_H → Prop} {a0 : Int32} {I : Nat → Nat → Int32} {J : Nat → Nat → Int64}  (k : ((a0 < Int32.ofInt 0 → Q (some (.int (Int32.ofInt (-1)))) (hp p s q I J)) ∧ (¬ (a0 < Int32.ofInt 0) → ((a0 ≤ (I 65 1) → Q (some (.int a0)) (hp p s q (mm_u I 65 1 a0) J)) ∧ (¬ (a0 ≤ (I 65 1)) → Q (some (.int (Int32.ofInt (-1)))) (hp p s q I J)))))) : mm_s SL xs (d + 1) 167 [.ref 65, .int a0] (hp p s q I J) Q := by
  refine e_X11_end rfl ?_
  refine hs_L (L2 := [some (.ref 65), some (.int a0)]) rfl ?_
  refine sp_iload_n 1 rfl rfl rfl ?_
  refine sp_if_lt 4 rfl rfl (fun q_ => ?_) (fun q_ => ?_)
  · have k := k.1 q_
    refine sp_iconst 13 rfl rfl ?_
    exact st_iret rfl rfl (Nat.le_refl _) (Nat.le_refl _) k
  · have k := k.2 q_
    refine sp_iload_n 5 rfl rfl rfl ?_
    refine sp_aload_n 6 rfl rfl rfl ?_
    refine hq_getI 9 rfl rfl rfl ?_
    refine sp_ic_le 12 rfl rfl (fun q_ => ?_) (fun q_ => ?_)
    · have k := k.1 q_
      refine sp_aload_n 15 rfl rfl rfl ?_
      refine sp_iload_n 16 rfl rfl rfl ?_
      refine hq_putI 19 rfl rfl rfl ?_
      refine sp_iload_n 20 rfl rfl rfl ?_
      exact st_iret rfl rfl (Nat.le_refl _) (Nat.le_refl _) k
    · have k := k.2 q_
      refine sp_iconst 13 rfl rfl ?_
      exact st_iret rfl rfl (Nat.le_refl _) (Nat.le_refl _) k
theorem sg_X11_here {SL : Nat} {xs : Nat → Int32} {d : Nat} {p s q : Nat} {Q : Option Value → mm_H → Prop} {a0 : Int32} {I : Nat → Nat → Int32} {J : Nat → Nat → Int64}  (k : (((I 65 5) ≤ ((I 65 4) + a0) → Q (some (.int (Int32.ofInt (-1)))) (hp p s q I J)) ∧ (¬ ((I 65 5) ≤ ((I 65 4) + a0)) → (vp_in ((I 65 4) + a0) 1200 ∧ Q (some (.int (I 66 ((((I 65 4) + a0)).toNatClampNeg)))) (hp p s q I J))))) : mm_s SL xs (d + 1) 168 [.ref 65, .int a0] (hp p s q I J) Q := by
  refine e_X11_here rfl ?_
  refine hs_L (L2 := [some (.ref 65), some (.int a0)]) rfl ?_
  refine sp_aload_n 1 rfl rfl rfl ?_
  refine hq_getI 4 rfl rfl rfl ?_
  refine sp_iload_n 5 rfl rfl rfl ?_
  refine sp_iadd 6 rfl rfl ?_
  refine sp_aload_n 7 rfl rfl rfl ?_
  refine hq_getI 10 rfl rfl rfl ?_
  refine sp_ic_ge 13 rfl rfl (fun q_ => ?_) (fun q_ => ?_)
  · have k := k.1 q_
    refine sp_iconst 28 rfl rfl ?_
    exact st_iret rfl rfl (Nat.le_refl _) (Nat.le_refl _) k
  · have k := k.2 q_
    refine sp_aload_n 14 rfl rfl rfl ?_
    refine hq_getR 17 rfl rfl rfl rfl ?_
    refine sp_aload_n 18 rfl rfl rfl ?_
    refine hq_getI 21 rfl rfl rfl ?_
    refine sp_iload_n 22 rfl rfl rfl ?_
    refine sp_iadd 23 rfl rfl ?_
    have n1_ := k.1
    have k := k.2
    refine hq_iald 24 rfl rfl n1_ rfl ?_
    refine sp_goto rfl ?_
    exact st_iret rfl rfl (Nat.le_refl _) (Nat.le_refl _) k
theorem sg_X11_wrong {SL : Nat} {xs : Nat → Int32} {d : Nat} {p s q : Nat} {Q : Option Value → mm_H → Prop} {a0 : Int32} {I : Nat → Nat → Int32} {J : Nat → Nat → Int64}  (k : (((I 65 2) ≤ Int32.ofInt 0 → (((I 65 6) = (Int32.ofInt 3) → Q none (hp p s q (mm_u (mm_u I 65 2 (Int32.ofInt 1)) 65 3 (I 65 7)) J)) ∧ (¬ ((I 65 6) = (Int32.ofInt 3)) → Q none (hp p s q (mm_u (mm_u I 65 2 a0) 65 3 (I 65 7)) J)))) ∧ (¬ ((I 65 2) ≤ Int32.ofInt 0) → Q none (hp p s q I J)))) : mm_s SL xs (d + 1) 173 [.ref 65, .int a0] (hp p s q I J) Q := by
  refine e_X11_wrong rfl ?_
  refine hs_L (L2 := [some (.ref 65), some (.int a0)]) rfl ?_
  refine sp_aload_n 1 rfl rfl rfl ?_
  refine hq_getI 4 rfl rfl rfl ?_
  refine sp_if_le 7 rfl rfl (fun q_ => ?_) (fun q_ => ?_)
  · have k := k.1 q_
    refine sp_aload_n 9 rfl rfl rfl ?_
    refine sp_aload_n 10 rfl rfl rfl ?_
    refine hq_getI 13 rfl rfl rfl ?_
    refine sp_iconst 14 rfl rfl ?_
    refine sp_ic_ne 17 rfl rfl (fun q_ => ?_) (fun q_ => ?_)
    · have k := k.2 q_
      refine sp_iload_n 22 rfl rfl rfl ?_
      refine hq_putI 25 rfl rfl rfl ?_
      refine sp_aload_n 26 rfl rfl rfl ?_
      refine sp_aload_n 27 rfl rfl rfl ?_
      refine hq_getI 30 rfl rfl rfl ?_
      refine sp_I (y := (I 65 7)) (by simp [mm_u]) ?_
      refine hq_putI 33 rfl rfl rfl ?_
      exact st_vret rfl rfl (Nat.le_refl _) (Nat.le_refl _) k
    · have k := k.1 q_
      refine sp_iconst 18 rfl rfl ?_
      refine sp_goto rfl ?_
      refine hq_putI 25 rfl rfl rfl ?_
      refine sp_aload_n 26 rfl rfl rfl ?_
      refine sp_aload_n 27 rfl rfl rfl ?_
      refine hq_getI 30 rfl rfl rfl ?_
      refine sp_I (y := (I 65 7)) (by simp [mm_u]) ?_
      refine hq_putI 33 rfl rfl rfl ?_
      exact st_vret rfl rfl (Nat.le_refl _) (Nat.le_refl _) k
  · have k := k.2 q_
    exact st_vret rfl rfl (Nat.le_refl _) (Nat.le_refl _) k
def w_X11_isName_131 (SL : Nat) (xs : Nat → Int32) (d : Nat) (p s q : Nat) (Q : Option Value → mm_H → Prop)  (I : Nat → Nat → Int32) (J : Nat → Nat → Int64) : Prop := mm_w SL xs (mm_s SL xs (d + 0)) mm_am kX11_isName 0 0 (some .boolean) Q 131 [some (.ref 65), none, none] [] (hp p s q I J) 0 0
def w_X11_isName_137 (SL : Nat) (xs : Nat → Int32) (d : Nat) (p s q : Nat) (Q : Option Value → mm_H → Prop) (v1 : Int32) (I : Nat → Nat → Int32) (J : Nat → Nat → Int64) : Prop := mm_w SL xs (mm_s SL xs (d + 0)) mm_am kX11_isName 0 0 (some .boolean) Q 137 [some (.ref 65), some (.int v1), none] [] (hp p s q I J) 0 0
def w_X11_isName_258 (SL : Nat) (xs : Nat → Int32) (d : Nat) (p s q : Nat) (Q : Option Value → mm_H → Prop) (v1 : Int32) (I : Nat → Nat → Int32) (J : Nat → Nat → Int64) : Prop := mm_w SL xs (mm_s SL xs (d + 0)) mm_am kX11_isName 0 0 (some .boolean) Q 258 [some (.ref 65), some (.int v1), none] [] (hp p s q I J) 0 0
def w_X11_isName_264 (SL : Nat) (xs : Nat → Int32) (d : Nat) (p s q : Nat) (Q : Option Value → mm_H → Prop) (v1 : Int32) (v2 : Int32) (I : Nat → Nat → Int32) (J : Nat → Nat → Int64) : Prop := mm_w SL xs (mm_s SL xs (d + 0)) mm_am kX11_isName 0 0 (some .boolean) Q 264 [some (.ref 65), some (.int v1), some (.int v2)] [] (hp p s q I J) 0 0
def w_X11_isName_276 (SL : Nat) (xs : Nat → Int32) (d : Nat) (p s q : Nat) (Q : Option Value → mm_H → Prop) (v1 : Int32) (v2 : Int32) (I : Nat → Nat → Int32) (J : Nat → Nat → Int64) : Prop := mm_w SL xs (mm_s SL xs (d + 0)) mm_am kX11_isName 0 0 (some .boolean) Q 276 [some (.ref 65), some (.int v1), some (.int v2)] [] (hp p s q I J) 0 0
theorem sg_X11_isName {SL : Nat} {xs : Nat → Int32} {d : Nat} {p s q : Nat} {Q : Option Value → mm_H → Prop}  {I : Nat → Nat → Int32} {J : Nat → Nat → Int64}  (k : (((I 65 6) = (Int32.ofInt 1) → (((J 65 9) = (Int64.ofInt 495873781348) → w_X11_isName_131 SL xs d p s q Q  I J) ∧ (¬ ((J 65 9) = (Int64.ofInt 495873781348)) → (((J 65 9) = (Int64.ofInt 422608071022) → w_X11_isName_131 SL xs d p s q Q  I J) ∧ (¬ ((J 65 9) = (Int64.ofInt 422608071022)) → (((J 65 9) = (Int64.ofInt 1818584692) → w_X11_isName_131 SL xs d p s q Q  I J) ∧ (¬ ((J 65 9) = (Int64.ofInt 1818584692)) → (((J 65 9) = (Int64.ofInt 427071729268) → w_X11_isName_131 SL xs d p s q Q  I J) ∧ (¬ ((J 65 9) = (Int64.ofInt 427071729268)) → (((J 65 9) = (Int64.ofInt 1953854062) → w_X11_isName_131 SL xs d p s q Q  I J) ∧ (¬ ((J 65 9) = (Int64.ofInt 1953854062)) → (((J 65 9) = (Int64.ofInt 418346264942) → w_X11_isName_131 SL xs d p s q Q  I J) ∧ (¬ ((J 65 9) = (Int64.ofInt 418346264942)) → (((J 65 9) = (Int64.ofInt 6451065) → w_X11_isName_131 SL xs d p s q Q  I J) ∧ (¬ ((J 65 9) = (Int64.ofInt 6451065)) → (((J 65 9) = (Int64.ofInt 444350952036) → w_X11_isName_131 SL xs d p s q Q  I J) ∧ (¬ ((J 65 9) = (Int64.ofInt 444350952036)) → (((J 65 9) = (Int64.ofInt 29807) → w_X11_isName_131 SL xs d p s q Q  I J) ∧ (¬ ((J 65 9) = (Int64.ofInt 29807)) → (((J 65 9) = (Int64.ofInt 491379060069) → w_X11_isName_131 SL xs d p s q Q  I J) ∧ (¬ ((J 65 9) = (Int64.ofInt 491379060069)) → (((J 65 9) = (Int64.ofInt 123581014175598) → w_X11_isName_131 SL xs d p s q Q  I J) ∧ (¬ ((J 65 9) = (Int64.ofInt 123581014175598)) → w_X11_isName_137 SL xs d p s q Q (Int32.ofInt 0) I J))))))))))))))))))))))) ∧ (¬ ((I 65 6) = (Int32.ofInt 1)) → Q (some (.int (Int32.ofInt 0))) (hp p s q I J)))) : mm_s SL xs (d + 1) 175 [.ref 65] (hp p s q I J) Q := by
  refine e_X11_isName rfl ?_
  refine hs_L (L2 := [some (.ref 65), none, none]) rfl ?_
  refine sp_aload_n 1 rfl rfl rfl ?_
  refine hq_getI 4 rfl rfl rfl ?_
  refine sp_iconst 5 rfl rfl ?_
  refine sp_ic_eq 8 rfl rfl (fun q_ => ?_) (fun q_ => ?_)
  · have k := k.1 q_
    refine sp_aload_n 11 rfl rfl rfl ?_
    refine hq_getJ 14 rfl rfl rfl ?_
    refine sp_ldc2 17 rfl rfl ?_
    refine sp_lcmp 18 rfl rfl ?_
    refine sp_if_eq 21 rfl rfl (fun q_ => ?_) (fun q_ => ?_)
    · have k := k.1 ((lg_cmp_eq _ _).mp q_)
      exact k
    · have k := k.2 (fun z_ => q_ ((lg_cmp_eq _ _).mpr z_))
      refine sp_aload_n 22 rfl rfl rfl ?_
      refine hq_getJ 25 rfl rfl rfl ?_
      refine sp_ldc2 28 rfl rfl ?_
      refine sp_lcmp 29 rfl rfl ?_
      refine sp_if_eq 32 rfl rfl (fun q_ => ?_) (fun q_ => ?_)
      · have k := k.1 ((lg_cmp_eq _ _).mp q_)
        exact k
      · have k := k.2 (fun z_ => q_ ((lg_cmp_eq _ _).mpr z_))
        refine sp_aload_n 33 rfl rfl rfl ?_
        refine hq_getJ 36 rfl rfl rfl ?_
        refine sp_ldc2 39 rfl rfl ?_
        refine sp_lcmp 40 rfl rfl ?_
        refine sp_if_eq 43 rfl rfl (fun q_ => ?_) (fun q_ => ?_)
        · have k := k.1 ((lg_cmp_eq _ _).mp q_)
          exact k
        · have k := k.2 (fun z_ => q_ ((lg_cmp_eq _ _).mpr z_))
          refine sp_aload_n 44 rfl rfl rfl ?_
          refine hq_getJ 47 rfl rfl rfl ?_
          refine sp_ldc2 50 rfl rfl ?_
          refine sp_lcmp 51 rfl rfl ?_
          refine sp_if_eq 54 rfl rfl (fun q_ => ?_) (fun q_ => ?_)
          · have k := k.1 ((lg_cmp_eq _ _).mp q_)
            exact k
          · have k := k.2 (fun z_ => q_ ((lg_cmp_eq _ _).mpr z_))
            refine sp_aload_n 55 rfl rfl rfl ?_
            refine hq_getJ 58 rfl rfl rfl ?_
            refine sp_ldc2 61 rfl rfl ?_
            refine sp_lcmp 62 rfl rfl ?_
            refine sp_if_eq 65 rfl rfl (fun q_ => ?_) (fun q_ => ?_)
            · have k := k.1 ((lg_cmp_eq _ _).mp q_)
              exact k
            · have k := k.2 (fun z_ => q_ ((lg_cmp_eq _ _).mpr z_))
              refine sp_aload_n 66 rfl rfl rfl ?_
              refine hq_getJ 69 rfl rfl rfl ?_
              refine sp_ldc2 72 rfl rfl ?_
              refine sp_lcmp 73 rfl rfl ?_
              refine sp_if_eq 76 rfl rfl (fun q_ => ?_) (fun q_ => ?_)
              · have k := k.1 ((lg_cmp_eq _ _).mp q_)
                exact k
              · have k := k.2 (fun z_ => q_ ((lg_cmp_eq _ _).mpr z_))
                refine sp_aload_n 77 rfl rfl rfl ?_
                refine hq_getJ 80 rfl rfl rfl ?_
                refine sp_ldc2 83 rfl rfl ?_
                refine sp_lcmp 84 rfl rfl ?_
                refine sp_if_eq 87 rfl rfl (fun q_ => ?_) (fun q_ => ?_)
                · have k := k.1 ((lg_cmp_eq _ _).mp q_)
                  exact k
                · have k := k.2 (fun z_ => q_ ((lg_cmp_eq _ _).mpr z_))
                  refine sp_aload_n 88 rfl rfl rfl ?_
                  refine hq_getJ 91 rfl rfl rfl ?_
                  refine sp_ldc2 94 rfl rfl ?_
                  refine sp_lcmp 95 rfl rfl ?_
                  refine sp_if_eq 98 rfl rfl (fun q_ => ?_) (fun q_ => ?_)
                  · have k := k.1 ((lg_cmp_eq _ _).mp q_)
                    exact k
                  · have k := k.2 (fun z_ => q_ ((lg_cmp_eq _ _).mpr z_))
                    refine sp_aload_n 99 rfl rfl rfl ?_
                    refine hq_getJ 102 rfl rfl rfl ?_
                    refine sp_ldc2 105 rfl rfl ?_
                    refine sp_lcmp 106 rfl rfl ?_
                    refine sp_if_eq 109 rfl rfl (fun q_ => ?_) (fun q_ => ?_)
                    · have k := k.1 ((lg_cmp_eq _ _).mp q_)
                      exact k
                    · have k := k.2 (fun z_ => q_ ((lg_cmp_eq _ _).mpr z_))
                      refine sp_aload_n 110 rfl rfl rfl ?_
                      refine hq_getJ 113 rfl rfl rfl ?_
                      refine sp_ldc2 116 rfl rfl ?_
                      refine sp_lcmp 117 rfl rfl ?_
                      refine sp_if_eq 120 rfl rfl (fun q_ => ?_) (fun q_ => ?_)
                      · have k := k.1 ((lg_cmp_eq _ _).mp q_)
                        exact k
                      · have k := k.2 (fun z_ => q_ ((lg_cmp_eq _ _).mpr z_))
                        refine sp_aload_n 121 rfl rfl rfl ?_
                        refine hq_getJ 124 rfl rfl rfl ?_
                        refine sp_ldc2 127 rfl rfl ?_
                        refine sp_lcmp 128 rfl rfl ?_
                        refine sp_if_ne 131 rfl rfl (fun q_ => ?_) (fun q_ => ?_)
                        · have k := k.2 (fun z_ => q_ ((lg_cmp_eq _ _).mpr z_))
                          refine sp_iconst 136 rfl rfl ?_
                          refine hs_istore_n 137 (L2 := [some (.ref 65), some (.int (Int32.ofInt 0)), none]) rfl rfl rfl rfl ?_
                          exact k
                        · have k := k.1 ((lg_cmp_eq _ _).mp q_)
                          exact k
  · have k := k.2 q_
    refine sp_iconst 9 rfl rfl ?_
    exact st_zret rfl rfl (by decide) (Nat.le_refl _) (Nat.le_refl _) k
theorem sg_X11_isName_131 {SL : Nat} {xs : Nat → Int32} {d : Nat} {p s q : Nat} {Q : Option Value → mm_H → Prop}  {I : Nat → Nat → Int32} {J : Nat → Nat → Int64}  (k : w_X11_isName_137 SL xs d p s q Q (Int32.ofInt 1) I J) : w_X11_isName_131 SL xs d p s q Q  I J := by
  unfold w_X11_isName_131
  refine sp_iconst 132 rfl rfl ?_
  refine sp_goto rfl ?_
  refine hs_istore_n 137 (L2 := [some (.ref 65), some (.int (Int32.ofInt 1)), none]) rfl rfl rfl rfl ?_
  exact k
theorem sg_X11_isName_137 {SL : Nat} {xs : Nat → Int32} {d : Nat} {p s q : Nat} {Q : Option Value → mm_H → Prop} {v1 : Int32} {I : Nat → Nat → Int32} {J : Nat → Nat → Int64}  (k : (((J 65 9) = (Int64.ofInt 512970880104) → w_X11_isName_258 SL xs d p s q Q v1 I J) ∧ (¬ ((J 65 9) = (Int64.ofInt 512970880104)) → (((J 65 9) = (Int64.ofInt 431415719790) → w_X11_isName_258 SL xs d p s q Q v1 I J) ∧ (¬ ((J 65 9) = (Int64.ofInt 431415719790)) → (((J 65 9) = (Int64.ofInt 131277443786868) → w_X11_isName_258 SL xs d p s q Q v1 I J) ∧ (¬ ((J 65 9) = (Int64.ofInt 131277443786868)) → (((J 65 9) = (Int64.ofInt 444250812007) → w_X11_isName_258 SL xs d p s q Q v1 I J) ∧ (¬ ((J 65 9) = (Int64.ofInt 444250812007)) → (((J 65 9) = (Int64.ofInt 1751478885) → w_X11_isName_258 SL xs d p s q Q v1 I J) ∧ (¬ ((J 65 9) = (Int64.ofInt 1751478885)) → (((J 65 9) = (Int64.ofInt 1818325876) → w_X11_isName_258 SL xs d p s q Q v1 I J) ∧ (¬ ((J 65 9) = (Int64.ofInt 1818325876)) → (((J 65 9) = (Int64.ofInt 512970876019) → w_X11_isName_258 SL xs d p s q Q v1 I J) ∧ (¬ ((J 65 9) = (Int64.ofInt 512970876019)) → (((J 65 9) = (Int64.ofInt 495689625203) → w_X11_isName_258 SL xs d p s q Q v1 I J) ∧ (¬ ((J 65 9) = (Int64.ofInt 495689625203)) → (((J 65 9) = (Int64.ofInt 6385252) → w_X11_isName_258 SL xs d p s q Q v1 I J) ∧ (¬ ((J 65 9) = (Int64.ofInt 6385252)) → (((J 65 9) = (Int64.ofInt 28530) → w_X11_isName_258 SL xs d p s q Q v1 I J) ∧ (¬ ((J 65 9) = (Int64.ofInt 28530)) → (((J 65 9) = (Int64.ofInt 7237492) → w_X11_isName_258 SL xs d p s q Q v1 I J) ∧ (¬ ((J 65 9) = (Int64.ofInt 7237492)) → w_X11_isName_264 SL xs d p s q Q v1 (Int32.ofInt 0) I J))))))))))))))))))))))) : w_X11_isName_137 SL xs d p s q Q v1 I J := by
  unfold w_X11_isName_137
  refine sp_aload_n 138 rfl rfl rfl ?_
  refine hq_getJ 141 rfl rfl rfl ?_
  refine sp_ldc2 144 rfl rfl ?_
  refine sp_lcmp 145 rfl rfl ?_
  refine sp_if_eq 148 rfl rfl (fun q_ => ?_) (fun q_ => ?_)
  · have k := k.1 ((lg_cmp_eq _ _).mp q_)
    exact k
  · have k := k.2 (fun z_ => q_ ((lg_cmp_eq _ _).mpr z_))
    refine sp_aload_n 149 rfl rfl rfl ?_
    refine hq_getJ 152 rfl rfl rfl ?_
    refine sp_ldc2 155 rfl rfl ?_
    refine sp_lcmp 156 rfl rfl ?_
    refine sp_if_eq 159 rfl rfl (fun q_ => ?_) (fun q_ => ?_)
    · have k := k.1 ((lg_cmp_eq _ _).mp q_)
      exact k
    · have k := k.2 (fun z_ => q_ ((lg_cmp_eq _ _).mpr z_))
      refine sp_aload_n 160 rfl rfl rfl ?_
      refine hq_getJ 163 rfl rfl rfl ?_
      refine sp_ldc2 166 rfl rfl ?_
      refine sp_lcmp 167 rfl rfl ?_
      refine sp_if_eq 170 rfl rfl (fun q_ => ?_) (fun q_ => ?_)
      · have k := k.1 ((lg_cmp_eq _ _).mp q_)
        exact k
      · have k := k.2 (fun z_ => q_ ((lg_cmp_eq _ _).mpr z_))
        refine sp_aload_n 171 rfl rfl rfl ?_
        refine hq_getJ 174 rfl rfl rfl ?_
        refine sp_ldc2 177 rfl rfl ?_
        refine sp_lcmp 178 rfl rfl ?_
        refine sp_if_eq 181 rfl rfl (fun q_ => ?_) (fun q_ => ?_)
        · have k := k.1 ((lg_cmp_eq _ _).mp q_)
          exact k
        · have k := k.2 (fun z_ => q_ ((lg_cmp_eq _ _).mpr z_))
          refine sp_aload_n 182 rfl rfl rfl ?_
          refine hq_getJ 185 rfl rfl rfl ?_
          refine sp_ldc2 188 rfl rfl ?_
          refine sp_lcmp 189 rfl rfl ?_
          refine sp_if_eq 192 rfl rfl (fun q_ => ?_) (fun q_ => ?_)
          · have k := k.1 ((lg_cmp_eq _ _).mp q_)
            exact k
          · have k := k.2 (fun z_ => q_ ((lg_cmp_eq _ _).mpr z_))
            refine sp_aload_n 193 rfl rfl rfl ?_
            refine hq_getJ 196 rfl rfl rfl ?_
            refine sp_ldc2 199 rfl rfl ?_
            refine sp_lcmp 200 rfl rfl ?_
            refine sp_if_eq 203 rfl rfl (fun q_ => ?_) (fun q_ => ?_)
            · have k := k.1 ((lg_cmp_eq _ _).mp q_)
              exact k
            · have k := k.2 (fun z_ => q_ ((lg_cmp_eq _ _).mpr z_))
              refine sp_aload_n 204 rfl rfl rfl ?_
              refine hq_getJ 207 rfl rfl rfl ?_
              refine sp_ldc2 210 rfl rfl ?_
              refine sp_lcmp 211 rfl rfl ?_
              refine sp_if_eq 214 rfl rfl (fun q_ => ?_) (fun q_ => ?_)
              · have k := k.1 ((lg_cmp_eq _ _).mp q_)
                exact k
              · have k := k.2 (fun z_ => q_ ((lg_cmp_eq _ _).mpr z_))
                refine sp_aload_n 215 rfl rfl rfl ?_
                refine hq_getJ 218 rfl rfl rfl ?_
                refine sp_ldc2 221 rfl rfl ?_
                refine sp_lcmp 222 rfl rfl ?_
                refine sp_if_eq 225 rfl rfl (fun q_ => ?_) (fun q_ => ?_)
                · have k := k.1 ((lg_cmp_eq _ _).mp q_)
                  exact k
                · have k := k.2 (fun z_ => q_ ((lg_cmp_eq _ _).mpr z_))
                  refine sp_aload_n 226 rfl rfl rfl ?_
                  refine hq_getJ 229 rfl rfl rfl ?_
                  refine sp_ldc2 232 rfl rfl ?_
                  refine sp_lcmp 233 rfl rfl ?_
                  refine sp_if_eq 236 rfl rfl (fun q_ => ?_) (fun q_ => ?_)
                  · have k := k.1 ((lg_cmp_eq _ _).mp q_)
                    exact k
                  · have k := k.2 (fun z_ => q_ ((lg_cmp_eq _ _).mpr z_))
                    refine sp_aload_n 237 rfl rfl rfl ?_
                    refine hq_getJ 240 rfl rfl rfl ?_
                    refine sp_ldc2 243 rfl rfl ?_
                    refine sp_lcmp 244 rfl rfl ?_
                    refine sp_if_eq 247 rfl rfl (fun q_ => ?_) (fun q_ => ?_)
                    · have k := k.1 ((lg_cmp_eq _ _).mp q_)
                      exact k
                    · have k := k.2 (fun z_ => q_ ((lg_cmp_eq _ _).mpr z_))
                      refine sp_aload_n 248 rfl rfl rfl ?_
                      refine hq_getJ 251 rfl rfl rfl ?_
                      refine sp_ldc2 254 rfl rfl ?_
                      refine sp_lcmp 255 rfl rfl ?_
                      refine sp_if_ne 258 rfl rfl (fun q_ => ?_) (fun q_ => ?_)
                      · have k := k.2 (fun z_ => q_ ((lg_cmp_eq _ _).mpr z_))
                        refine sp_iconst 263 rfl rfl ?_
                        refine hs_istore_n 264 (L2 := [some (.ref 65), some (.int v1), some (.int (Int32.ofInt 0))]) rfl rfl rfl rfl ?_
                        exact k
                      · have k := k.1 ((lg_cmp_eq _ _).mp q_)
                        exact k
theorem sg_X11_isName_258 {SL : Nat} {xs : Nat → Int32} {d : Nat} {p s q : Nat} {Q : Option Value → mm_H → Prop} {v1 : Int32} {I : Nat → Nat → Int32} {J : Nat → Nat → Int64}  (k : w_X11_isName_264 SL xs d p s q Q v1 (Int32.ofInt 1) I J) : w_X11_isName_258 SL xs d p s q Q v1 I J := by
  unfold w_X11_isName_258
  refine sp_iconst 259 rfl rfl ?_
  refine sp_goto rfl ?_
  refine hs_istore_n 264 (L2 := [some (.ref 65), some (.int v1), some (.int (Int32.ofInt 1))]) rfl rfl rfl rfl ?_
  exact k
theorem sg_X11_isName_264 {SL : Nat} {xs : Nat → Int32} {d : Nat} {p s q : Nat} {Q : Option Value → mm_H → Prop} {v1 : Int32} {v2 : Int32} {I : Nat → Nat → Int32} {J : Nat → Nat → Int64}  (k : ((v1 = Int32.ofInt 0 → ((v2 = Int32.ofInt 0 → Q (some (.int (Int32.ofInt 1))) (hp p s q I J)) ∧ (¬ (v2 = Int32.ofInt 0) → w_X11_isName_276 SL xs d p s q Q v1 v2 I J))) ∧ (¬ (v1 = Int32.ofInt 0) → w_X11_isName_276 SL xs d p s q Q v1 v2 I J))) : w_X11_isName_264 SL xs d p s q Q v1 v2 I J := by
  unfold w_X11_isName_264
  refine sp_iload_n 265 rfl rfl rfl ?_
  refine sp_if_ne 268 rfl rfl (fun q_ => ?_) (fun q_ => ?_)
  · have k := k.2 q_
    exact k
  · have k := k.1 q_
    refine sp_iload_n 269 rfl rfl rfl ?_
    refine sp_if_ne 272 rfl rfl (fun q_ => ?_) (fun q_ => ?_)
    · have k := k.2 q_
      exact k
    · have k := k.1 q_
      refine sp_iconst 273 rfl rfl ?_
      refine sp_goto rfl ?_
      exact st_zret rfl rfl (by decide) (Nat.le_refl _) (Nat.le_refl _) k
theorem sg_X11_isName_276 {SL : Nat} {xs : Nat → Int32} {d : Nat} {p s q : Nat} {Q : Option Value → mm_H → Prop} {v1 : Int32} {v2 : Int32} {I : Nat → Nat → Int32} {J : Nat → Nat → Int64}  (k : Q (some (.int (Int32.ofInt 0))) (hp p s q I J)) : w_X11_isName_276 SL xs d p s q Q v1 v2 I J := by
  unfold w_X11_isName_276
  refine sp_iconst 277 rfl rfl ?_
  exact st_zret rfl rfl (by decide) (Nat.le_refl _) (Nat.le_refl _) k
theorem sg_X11_note {SL : Nat} {xs : Nat → Int32} {d : Nat} {p s q : Nat} {Q : Option Value → mm_H → Prop} {a0 : Int32} {a1 : Int32} {I : Nat → Nat → Int32} {J : Nat → Nat → Int64}  (k : (vp_in (I 65 18) 500 ∧ Q none (hp p s q (mm_u (mm_u (mm_u I 67 (((I 65 18)).toNatClampNeg) a0) 68 (((I 65 18)).toNatClampNeg) a1) 65 18 ((I 65 18) + (Int32.ofInt 1))) J))) : mm_s SL xs (d + 1) 179 [.ref 65, .int a0, .int a1] (hp p s q I J) Q := by
  refine e_X11_note rfl ?_
  refine hs_L (L2 := [some (.ref 65), some (.int a0), some (.int a1)]) rfl ?_
  refine sp_aload_n 1 rfl rfl rfl ?_
  refine hq_getR 4 rfl rfl rfl rfl ?_
  refine sp_aload_n 5 rfl rfl rfl ?_
  refine hq_getI 8 rfl rfl rfl ?_
  refine sp_iload_n 9 rfl rfl rfl ?_
  have n1_ := k.1
  have k := k.2
  refine hq_iast 10 rfl rfl n1_ rfl ?_
  refine sp_aload_n 11 rfl rfl rfl ?_
  refine hq_getR 14 rfl rfl rfl rfl ?_
  refine sp_aload_n 15 rfl rfl rfl ?_
  refine hq_getI 18 rfl rfl rfl ?_
  refine sp_I (y := (I 65 18)) (by simp [mm_u]) ?_
  refine sp_iload_n 19 rfl rfl rfl ?_
  refine hq_iast 20 rfl rfl n1_ rfl ?_
  refine sp_aload_n 21 rfl rfl rfl ?_
  refine sp_dup 22 rfl rfl rfl ?_
  refine hq_getI 25 rfl rfl rfl ?_
  refine sp_I (y := (I 65 18)) (by simp [mm_u]) ?_
  refine sp_iconst 26 rfl rfl ?_
  refine sp_iadd 27 rfl rfl ?_
  refine hq_putI 30 rfl rfl rfl ?_
  exact st_vret rfl rfl (Nat.le_refl _) (Nat.le_refl _) k
theorem sg_X11_upper {SL : Nat} {xs : Nat → Int32} {d : Nat} {p s q : Nat} {Q : Option Value → mm_H → Prop}  {I : Nat → Nat → Int32} {J : Nat → Nat → Int64}  (k : (((I 65 22) = Int32.ofInt 0 → Q (some (.int (Int32.ofInt 40))) (hp p s q I J)) ∧ (¬ ((I 65 22) = Int32.ofInt 0) → (vp_in ((I 65 22) - (Int32.ofInt 1)) 300 ∧ Q (some (.int (I 71 ((((I 65 22) - (Int32.ofInt 1))).toNatClampNeg)))) (hp p s q I J))))) : mm_s SL xs (d + 1) 180 [.ref 65] (hp p s q I J) Q := by
  refine e_X11_upper rfl ?_
  refine hs_L (L2 := [some (.ref 65)]) rfl ?_
  refine sp_aload_n 1 rfl rfl rfl ?_
  refine hq_getI 4 rfl rfl rfl ?_
  refine sp_if_ne 7 rfl rfl (fun q_ => ?_) (fun q_ => ?_)
  · have k := k.2 q_
    refine sp_aload_n 13 rfl rfl rfl ?_
    refine hq_getR 16 rfl rfl rfl rfl ?_
    refine sp_aload_n 17 rfl rfl rfl ?_
    refine hq_getI 20 rfl rfl rfl ?_
    refine sp_iconst 21 rfl rfl ?_
    refine sp_isub 22 rfl rfl ?_
    have n1_ := k.1
    have k := k.2
    refine hq_iald 23 rfl rfl n1_ rfl ?_
    exact st_iret rfl rfl (Nat.le_refl _) (Nat.le_refl _) k
  · have k := k.1 q_
    refine sp_bipush 9 rfl rfl ?_
    refine sp_I (y := Int32.ofInt 40) rfl ?_
    refine sp_goto rfl ?_
    exact st_iret rfl rfl (Nat.le_refl _) (Nat.le_refl _) k
theorem sg_X11_hold {SL : Nat} {xs : Nat → Int32} {d : Nat} {p s q : Nat} {Q : Option Value → mm_H → Prop} {a0 : Int32} {I : Nat → Nat → Int32} {J : Nat → Nat → Int64}  (k : (vp_in (I 65 22) 300 ∧ ((a0 = (Int32.ofInt 40) → Q none (hp p s q (mm_u (mm_u (mm_u I 71 (((I 65 22)).toNatClampNeg) a0) 65 22 ((I 65 22) + (Int32.ofInt 1))) 65 23 ((I 65 23) + (Int32.ofInt 1))) J)) ∧ (¬ (a0 = (Int32.ofInt 40)) → ((a0 = (Int32.ofInt 22) → Q none (hp p s q (mm_u (mm_u (mm_u I 71 (((I 65 22)).toNatClampNeg) a0) 65 22 ((I 65 22) + (Int32.ofInt 1))) 65 23 ((I 65 23) + (Int32.ofInt 1))) J)) ∧ (¬ (a0 = (Int32.ofInt 22)) → Q none (hp p s q (mm_u (mm_u I 71 (((I 65 22)).toNatClampNeg) a0) 65 22 ((I 65 22) + (Int32.ofInt 1))) J))))))) : mm_s SL xs (d + 1) 181 [.ref 65, .int a0] (hp p s q I J) Q := by
  refine e_X11_hold rfl ?_
  refine hs_L (L2 := [some (.ref 65), some (.int a0)]) rfl ?_
  refine sp_aload_n 1 rfl rfl rfl ?_
  refine hq_getR 4 rfl rfl rfl rfl ?_
  refine sp_aload_n 5 rfl rfl rfl ?_
  refine hq_getI 8 rfl rfl rfl ?_
  refine sp_iload_n 9 rfl rfl rfl ?_
  have n1_ := k.1
  have k := k.2
  refine hq_iast 10 rfl rfl n1_ rfl ?_
  refine sp_aload_n 11 rfl rfl rfl ?_
  refine sp_dup 12 rfl rfl rfl ?_
  refine hq_getI 15 rfl rfl rfl ?_
  refine sp_I (y := (I 65 22)) (by simp [mm_u]) ?_
  refine sp_iconst 16 rfl rfl ?_
  refine sp_iadd 17 rfl rfl ?_
  refine hq_putI 20 rfl rfl rfl ?_
  refine sp_iload_n 21 rfl rfl rfl ?_
  refine sp_bipush 23 rfl rfl ?_
  refine sp_I (y := Int32.ofInt 40) rfl ?_
  refine sp_ic_eq 26 rfl rfl (fun q_ => ?_) (fun q_ => ?_)
  · have k := k.1 q_
    refine sp_aload_n 33 rfl rfl rfl ?_
    refine sp_dup 34 rfl rfl rfl ?_
    refine hq_getI 37 rfl rfl rfl ?_
    refine sp_I (y := (I 65 23)) (by simp [mm_u]) ?_
    refine sp_iconst 38 rfl rfl ?_
    refine sp_iadd 39 rfl rfl ?_
    refine hq_putI 42 rfl rfl rfl ?_
    exact st_vret rfl rfl (Nat.le_refl _) (Nat.le_refl _) k
  · have k := k.2 q_
    refine sp_iload_n 27 rfl rfl rfl ?_
    refine sp_bipush 29 rfl rfl ?_
    refine sp_I (y := Int32.ofInt 22) rfl ?_
    refine sp_ic_ne 32 rfl rfl (fun q_ => ?_) (fun q_ => ?_)
    · have k := k.2 q_
      exact st_vret rfl rfl (Nat.le_refl _) (Nat.le_refl _) k
    · have k := k.1 q_
      refine sp_aload_n 33 rfl rfl rfl ?_
      refine sp_dup 34 rfl rfl rfl ?_
      refine hq_getI 37 rfl rfl rfl ?_
      refine sp_I (y := (I 65 23)) (by simp [mm_u]) ?_
      refine sp_iconst 38 rfl rfl ?_
      refine sp_iadd 39 rfl rfl ?_
      refine hq_putI 42 rfl rfl rfl ?_
      exact st_vret rfl rfl (Nat.le_refl _) (Nat.le_refl _) k
def w_X11_isOpen_4 (SL : Nat) (xs : Nat → Int32) (d : Nat) (p s q : Nat) (Q : Option Value → mm_H → Prop) (v1 : Int32) (v2 : Int32) (I : Nat → Nat → Int32) (J : Nat → Nat → Int64) : Prop := mm_w SL xs (mm_s SL xs (d + 0)) mm_am kX11_isOpen 0 0 (some .boolean) Q 4 [some (.ref 65), some (.int v1), some (.int v2)] [] (hp p s q I J) 0 0
theorem sg_X11_isOpen {SL : Nat} {xs : Nat → Int32} {d : Nat} {p s q : Nat} {Q : Option Value → mm_H → Prop}  {I : Nat → Nat → Int32} {J : Nat → Nat → Int64}  (k : w_X11_isOpen_4 SL xs d p s q Q (Int32.ofInt 0) (Int32.ofInt 0) I J) : mm_s SL xs (d + 1) 185 [.ref 65] (hp p s q I J) Q := by
  refine e_X11_isOpen rfl ?_
  refine hs_L (L2 := [some (.ref 65), none, none]) rfl ?_
  refine sp_iconst 1 rfl rfl ?_
  refine hs_istore_n 2 (L2 := [some (.ref 65), some (.int (Int32.ofInt 0)), none]) rfl rfl rfl rfl ?_
  refine sp_iconst 3 rfl rfl ?_
  refine hs_istore_n 4 (L2 := [some (.ref 65), some (.int (Int32.ofInt 0)), some (.int (Int32.ofInt 0))]) rfl rfl rfl rfl ?_
  exact k
theorem sg_X11_isOpen_4 {SL : Nat} {xs : Nat → Int32} {d : Nat} {p s q : Nat} {Q : Option Value → mm_H → Prop} {v1 : Int32} {v2 : Int32} {I : Nat → Nat → Int32} {J : Nat → Nat → Int64}  (k : (((I 65 22) ≤ v2 → ((v1 = 0 ∨ v1 = 1) ∧ Q (some (.int v1)) (hp p s q I J))) ∧ (¬ ((I 65 22) ≤ v2) → ((v1 = Int32.ofInt 0 → (vp_in v2 300 ∧ (((I 71 ((v2).toNatClampNeg)) = (Int32.ofInt 40) → w_X11_isOpen_4 SL xs d p s q Q (Int32.ofInt 1) (v2 + Int32.ofInt 1) I J) ∧ (¬ ((I 71 ((v2).toNatClampNeg)) = (Int32.ofInt 40)) → w_X11_isOpen_4 SL xs d p s q Q (Int32.ofInt 0) (v2 + Int32.ofInt 1) I J)))) ∧ (¬ (v1 = Int32.ofInt 0) → w_X11_isOpen_4 SL xs d p s q Q (Int32.ofInt 1) (v2 + Int32.ofInt 1) I J))))) : w_X11_isOpen_4 SL xs d p s q Q v1 v2 I J := by
  unfold w_X11_isOpen_4
  refine sp_iload_n 5 rfl rfl rfl ?_
  refine sp_aload_n 6 rfl rfl rfl ?_
  refine hq_getI 9 rfl rfl rfl ?_
  refine sp_ic_ge 12 rfl rfl (fun q_ => ?_) (fun q_ => ?_)
  · have k := k.1 q_
    refine sp_iload_n 40 rfl rfl rfl ?_
    exact st_zret rfl rfl k.1 (Nat.le_refl _) (Nat.le_refl _) k.2
  · have k := k.2 q_
    refine sp_iload_n 13 rfl rfl rfl ?_
    refine sp_if_ne 16 rfl rfl (fun q_ => ?_) (fun q_ => ?_)
    · have k := k.2 q_
      refine sp_iconst 28 rfl rfl ?_
      refine sp_goto rfl ?_
      refine hs_istore_n 33 (L2 := [some (.ref 65), some (.int (Int32.ofInt 1)), some (.int v2)]) rfl rfl rfl rfl ?_
      refine hs_iinc 36 (L2 := [some (.ref 65), some (.int (Int32.ofInt 1)), some (.int (v2 + Int32.ofInt 1))]) rfl rfl rfl rfl rfl ?_
      refine sp_goto rfl ?_
      exact k
    · have k := k.1 q_
      refine sp_aload_n 17 rfl rfl rfl ?_
      refine hq_getR 20 rfl rfl rfl rfl ?_
      refine sp_iload_n 21 rfl rfl rfl ?_
      have n1_ := k.1
      have k := k.2
      refine hq_iald 22 rfl rfl n1_ rfl ?_
      refine sp_bipush 24 rfl rfl ?_
      refine sp_I (y := Int32.ofInt 40) rfl ?_
      refine sp_ic_ne 27 rfl rfl (fun q_ => ?_) (fun q_ => ?_)
      · have k := k.2 q_
        refine sp_iconst 32 rfl rfl ?_
        refine hs_istore_n 33 (L2 := [some (.ref 65), some (.int (Int32.ofInt 0)), some (.int v2)]) rfl rfl rfl rfl ?_
        refine hs_iinc 36 (L2 := [some (.ref 65), some (.int (Int32.ofInt 0)), some (.int (v2 + Int32.ofInt 1))]) rfl rfl rfl rfl rfl ?_
        refine sp_goto rfl ?_
        exact k
      · have k := k.1 q_
        refine sp_iconst 28 rfl rfl ?_
        refine sp_goto rfl ?_
        refine hs_istore_n 33 (L2 := [some (.ref 65), some (.int (Int32.ofInt 1)), some (.int v2)]) rfl rfl rfl rfl ?_
        refine hs_iinc 36 (L2 := [some (.ref 65), some (.int (Int32.ofInt 1)), some (.int (v2 + Int32.ofInt 1))]) rfl rfl rfl rfl rfl ?_
        refine sp_goto rfl ?_
        exact k
def w_X11_fresh_2 (SL : Nat) (xs : Nat → Int32) (d : Nat) (p s q : Nat) (Q : Option Value → mm_H → Prop) (v1 : Int32) (v2 : Int32) (I : Nat → Nat → Int32) (J : Nat → Nat → Int64) : Prop := mm_w SL xs (mm_s SL xs (d + 0)) mm_am kX11_fresh 0 0 none Q 2 [some (.ref 65), some (.int v1), some (.int v2)] [] (hp p s q I J) 0 0
theorem sg_X11_fresh {SL : Nat} {xs : Nat → Int32} {d : Nat} {p s q : Nat} {Q : Option Value → mm_H → Prop} {a0 : Int32} {I : Nat → Nat → Int32} {J : Nat → Nat → Int64}  (k : w_X11_fresh_2 SL xs d p s q Q a0 (Int32.ofInt 0) I J) : mm_s SL xs (d + 1) 202 [.ref 65, .int a0] (hp p s q I J) Q := by
  refine e_X11_fresh rfl ?_
  refine hs_L (L2 := [some (.ref 65), some (.int a0), none]) rfl ?_
  refine sp_iconst 1 rfl rfl ?_
  refine hs_istore_n 2 (L2 := [some (.ref 65), some (.int a0), some (.int (Int32.ofInt 0))]) rfl rfl rfl rfl ?_
  exact k
theorem sg_X11_fresh_2 {SL : Nat} {xs : Nat → Int32} {d : Nat} {p s q : Nat} {Q : Option Value → mm_H → Prop} {v1 : Int32} {v2 : Int32} {I : Nat → Nat → Int32} {J : Nat → Nat → Int64}  (k : (((Int32.ofInt 60) ≤ v2 → (vp_in (Int32.ofInt 0) 2 ∧ (vp_in (Int32.ofInt 1) 2 ∧ Q none (hp p s q (mm_u (mm_u (mm_u (mm_u (mm_u (mm_u (mm_u (mm_u (mm_u (mm_u (mm_u I 65 59 (I 65 47)) 65 60 (Int32.ofInt 0)) 65 61 (Int32.ofInt 0)) 65 62 (Int32.ofInt 0)) 90 (((Int32.ofInt 0)).toNatClampNeg) (Int32.ofInt (-1))) 90 (((Int32.ofInt 1)).toNatClampNeg) (Int32.ofInt (-1))) 65 64 (Int32.ofInt 0)) 65 63 v1) 65 78 (I 65 49)) 65 76 (Int32.ofInt 0)) 65 77 (Int32.ofInt 0)) J)))) ∧ (¬ ((Int32.ofInt 60) ≤ v2) → (((I 65 47) ≤ v2 → (vp_in v2 60 ∧ w_X11_fresh_2 SL xs d p s q Q v1 (v2 + Int32.ofInt 1) (mm_u (mm_u (mm_u (mm_u I 91 ((v2).toNatClampNeg) (Int32.ofInt 0)) 87 ((v2).toNatClampNeg) (Int32.ofInt 0)) 88 ((v2).toNatClampNeg) (Int32.ofInt (-1))) 89 ((v2).toNatClampNeg) (Int32.ofInt (-1))) J)) ∧ (¬ ((I 65 47) ≤ v2) → (vp_in v2 60 ∧ w_X11_fresh_2 SL xs d p s q Q v1 (v2 + Int32.ofInt 1) (mm_u (mm_u (mm_u (mm_u I 91 ((v2).toNatClampNeg) (Int32.ofInt 1)) 87 ((v2).toNatClampNeg) (Int32.ofInt 0)) 88 ((v2).toNatClampNeg) (Int32.ofInt (-1))) 89 ((v2).toNatClampNeg) (Int32.ofInt (-1))) J)))))) : w_X11_fresh_2 SL xs d p s q Q v1 v2 I J := by
  unfold w_X11_fresh_2
  refine sp_iload_n 3 rfl rfl rfl ?_
  refine sp_bipush 5 rfl rfl ?_
  refine sp_I (y := Int32.ofInt 60) rfl ?_
  refine sp_ic_ge 8 rfl rfl (fun q_ => ?_) (fun q_ => ?_)
  · have k := k.1 q_
    refine sp_aload_n 55 rfl rfl rfl ?_
    refine sp_aload_n 56 rfl rfl rfl ?_
    refine hq_getI 59 rfl rfl rfl ?_
    refine hq_putI 62 rfl rfl rfl ?_
    refine sp_aload_n 63 rfl rfl rfl ?_
    refine sp_iconst 64 rfl rfl ?_
    refine hq_putI 67 rfl rfl rfl ?_
    refine sp_aload_n 68 rfl rfl rfl ?_
    refine sp_iconst 69 rfl rfl ?_
    refine hq_putI 72 rfl rfl rfl ?_
    refine sp_aload_n 73 rfl rfl rfl ?_
    refine sp_iconst 74 rfl rfl ?_
    refine hq_putI 77 rfl rfl rfl ?_
    refine sp_aload_n 78 rfl rfl rfl ?_
    refine hq_getR 81 rfl rfl rfl rfl ?_
    refine sp_iconst 82 rfl rfl ?_
    refine sp_iconst 83 rfl rfl ?_
    have n1_ := k.1
    have k := k.2
    refine hq_iast 84 rfl rfl n1_ rfl ?_
    refine sp_aload_n 85 rfl rfl rfl ?_
    refine hq_getR 88 rfl rfl rfl rfl ?_
    refine sp_iconst 89 rfl rfl ?_
    refine sp_iconst 90 rfl rfl ?_
    have n2_ := k.1
    have k := k.2
    refine hq_iast 91 rfl rfl n2_ rfl ?_
    refine sp_aload_n 92 rfl rfl rfl ?_
    refine sp_iconst 93 rfl rfl ?_
    refine hq_putZ 96 rfl rfl (by decide) rfl ?_
    refine sp_aload_n 97 rfl rfl rfl ?_
    refine sp_iload_n 98 rfl rfl rfl ?_
    refine hq_putI 101 rfl rfl rfl ?_
    refine sp_aload_n 102 rfl rfl rfl ?_
    refine sp_aload_n 103 rfl rfl rfl ?_
    refine hq_getI 106 rfl rfl rfl ?_
    refine sp_I (y := (I 65 49)) (by simp [mm_u]) ?_
    refine hq_putI 109 rfl rfl rfl ?_
    refine sp_aload_n 110 rfl rfl rfl ?_
    refine sp_iconst 111 rfl rfl ?_
    refine hq_putI 114 rfl rfl rfl ?_
    refine sp_aload_n 115 rfl rfl rfl ?_
    refine sp_iconst 116 rfl rfl ?_
    refine hq_putI 119 rfl rfl rfl ?_
    exact st_vret rfl rfl (Nat.le_refl _) (Nat.le_refl _) k
  · have k := k.2 q_
    refine sp_aload_n 9 rfl rfl rfl ?_
    refine hq_getR 12 rfl rfl rfl rfl ?_
    refine sp_iload_n 13 rfl rfl rfl ?_
    refine sp_iload_n 14 rfl rfl rfl ?_
    refine sp_aload_n 15 rfl rfl rfl ?_
    refine hq_getI 18 rfl rfl rfl ?_
    refine sp_ic_ge 21 rfl rfl (fun q_ => ?_) (fun q_ => ?_)
    · have k := k.1 q_
      refine sp_iconst 26 rfl rfl ?_
      have n3_ := k.1
      have k := k.2
      refine hq_zast 27 rfl rfl n3_ (by decide) rfl ?_
      refine sp_aload_n 28 rfl rfl rfl ?_
      refine hq_getR 31 rfl rfl rfl rfl ?_
      refine sp_iload_n 32 rfl rfl rfl ?_
      refine sp_iconst 33 rfl rfl ?_
      refine hq_iast 34 rfl rfl n3_ rfl ?_
      refine sp_aload_n 35 rfl rfl rfl ?_
      refine hq_getR 38 rfl rfl rfl rfl ?_
      refine sp_iload_n 39 rfl rfl rfl ?_
      refine sp_iconst 40 rfl rfl ?_
      refine hq_iast 41 rfl rfl n3_ rfl ?_
      refine sp_aload_n 42 rfl rfl rfl ?_
      refine hq_getR 45 rfl rfl rfl rfl ?_
      refine sp_iload_n 46 rfl rfl rfl ?_
      refine sp_iconst 47 rfl rfl ?_
      refine hq_iast 48 rfl rfl n3_ rfl ?_
      refine hs_iinc 51 (L2 := [some (.ref 65), some (.int v1), some (.int (v2 + Int32.ofInt 1))]) rfl rfl rfl rfl rfl ?_
      refine sp_goto rfl ?_
      exact k
    · have k := k.2 q_
      refine sp_iconst 22 rfl rfl ?_
      refine sp_goto rfl ?_
      have n4_ := k.1
      have k := k.2
      refine hq_zast 27 rfl rfl n4_ (by decide) rfl ?_
      refine sp_aload_n 28 rfl rfl rfl ?_
      refine hq_getR 31 rfl rfl rfl rfl ?_
      refine sp_iload_n 32 rfl rfl rfl ?_
      refine sp_iconst 33 rfl rfl ?_
      refine hq_iast 34 rfl rfl n4_ rfl ?_
      refine sp_aload_n 35 rfl rfl rfl ?_
      refine hq_getR 38 rfl rfl rfl rfl ?_
      refine sp_iload_n 39 rfl rfl rfl ?_
      refine sp_iconst 40 rfl rfl ?_
      refine hq_iast 41 rfl rfl n4_ rfl ?_
      refine sp_aload_n 42 rfl rfl rfl ?_
      refine hq_getR 45 rfl rfl rfl rfl ?_
      refine sp_iload_n 46 rfl rfl rfl ?_
      refine sp_iconst 47 rfl rfl ?_
      refine hq_iast 48 rfl rfl n4_ rfl ?_
      refine hs_iinc 51 (L2 := [some (.ref 65), some (.int v1), some (.int (v2 + Int32.ofInt 1))]) rfl rfl rfl rfl rfl ?_
      refine sp_goto rfl ?_
      exact k
def w_X11_put_2 (SL : Nat) (xs : Nat → Int32) (d : Nat) (p s q : Nat) (Q : Option Value → mm_H → Prop) (v1 : Int32) (I : Nat → Nat → Int32) (J : Nat → Nat → Int64) : Prop := mm_w SL xs (mm_s SL xs (d + 0)) mm_am kX11_put 0 0 none Q 2 [some (.ref 65), some (.int v1)] [] (hp p s q I J) 0 0
theorem sg_X11_put {SL : Nat} {xs : Nat → Int32} {d : Nat} {p s q : Nat} {Q : Option Value → mm_H → Prop}  {I : Nat → Nat → Int32} {J : Nat → Nat → Int64}  (k : w_X11_put_2 SL xs d p s q Q (Int32.ofInt 0) I J) : mm_s SL xs (d + 1) 203 [.ref 65] (hp p s q I J) Q := by
  refine e_X11_put rfl ?_
  refine hs_L (L2 := [some (.ref 65), none]) rfl ?_
  refine sp_iconst 1 rfl rfl ?_
  refine hs_istore_n 2 (L2 := [some (.ref 65), some (.int (Int32.ofInt 0))]) rfl rfl rfl rfl ?_
  exact k
theorem sg_X11_put_2 {SL : Nat} {xs : Nat → Int32} {d : Nat} {p s q : Nat} {Q : Option Value → mm_H → Prop} {v1 : Int32} {I : Nat → Nat → Int32} {J : Nat → Nat → Int64}  (k : (((Int32.ofInt 60) ≤ v1 → (vp_in (Int32.ofInt 0) 2 ∧ (vp_in (Int32.ofInt 1) 2 ∧ (((I 65 64) = 0 ∨ (I 65 64) = 1) ∧ Q none (hp p s q (mm_u (mm_u (mm_u (mm_u (mm_u (mm_u (mm_u (mm_u I 65 70 (I 65 59)) 65 71 (I 65 60)) 65 72 (I 65 61)) 65 73 (I 65 62)) 95 (((Int32.ofInt 0)).toNatClampNeg) (I 90 (((Int32.ofInt 0)).toNatClampNeg))) 95 (((Int32.ofInt 1)).toNatClampNeg) (I 90 (((Int32.ofInt 1)).toNatClampNeg))) 65 75 (I 65 64)) 65 74 (I 65 63)) J))))) ∧ (¬ ((Int32.ofInt 60) ≤ v1) → (vp_in v1 60 ∧ (((I 91 ((v1).toNatClampNeg)) = 0 ∨ (I 91 ((v1).toNatClampNeg)) = 1) ∧ w_X11_put_2 SL xs d p s q Q (v1 + Int32.ofInt 1) (mm_u (mm_u (mm_u (mm_u I 96 ((v1).toNatClampNeg) (I 91 ((v1).toNatClampNeg))) 92 ((v1).toNatClampNeg) (I 87 ((v1).toNatClampNeg))) 93 ((v1).toNatClampNeg) (I 88 ((v1).toNatClampNeg))) 94 ((v1).toNatClampNeg) (I 89 ((v1).toNatClampNeg))) J))))) : w_X11_put_2 SL xs d p s q Q v1 I J := by
  unfold w_X11_put_2
  refine sp_iload_n 3 rfl rfl rfl ?_
  refine sp_bipush 5 rfl rfl ?_
  refine sp_I (y := Int32.ofInt 60) rfl ?_
  refine sp_ic_ge 8 rfl rfl (fun q_ => ?_) (fun q_ => ?_)
  · have k := k.1 q_
    refine sp_aload_n 63 rfl rfl rfl ?_
    refine sp_aload_n 64 rfl rfl rfl ?_
    refine hq_getI 67 rfl rfl rfl ?_
    refine hq_putI 70 rfl rfl rfl ?_
    refine sp_aload_n 71 rfl rfl rfl ?_
    refine sp_aload_n 72 rfl rfl rfl ?_
    refine hq_getI 75 rfl rfl rfl ?_
    refine sp_I (y := (I 65 60)) (by simp [mm_u]) ?_
    refine hq_putI 78 rfl rfl rfl ?_
    refine sp_aload_n 79 rfl rfl rfl ?_
    refine sp_aload_n 80 rfl rfl rfl ?_
    refine hq_getI 83 rfl rfl rfl ?_
    refine sp_I (y := (I 65 61)) (by simp [mm_u]) ?_
    refine hq_putI 86 rfl rfl rfl ?_
    refine sp_aload_n 87 rfl rfl rfl ?_
    refine sp_aload_n 88 rfl rfl rfl ?_
    refine hq_getI 91 rfl rfl rfl ?_
    refine sp_I (y := (I 65 62)) (by simp [mm_u]) ?_
    refine hq_putI 94 rfl rfl rfl ?_
    refine sp_aload_n 95 rfl rfl rfl ?_
    refine hq_getR 98 rfl rfl rfl rfl ?_
    refine sp_iconst 99 rfl rfl ?_
    refine sp_aload_n 100 rfl rfl rfl ?_
    refine hq_getR 103 rfl rfl rfl rfl ?_
    refine sp_iconst 104 rfl rfl ?_
    have n1_ := k.1
    have k := k.2
    refine hq_iald 105 rfl rfl n1_ rfl ?_
    refine sp_I (y := (I 90 (((Int32.ofInt 0)).toNatClampNeg))) (by simp [mm_u]) ?_
    refine hq_iast 106 rfl rfl n1_ rfl ?_
    refine sp_aload_n 107 rfl rfl rfl ?_
    refine hq_getR 110 rfl rfl rfl rfl ?_
    refine sp_iconst 111 rfl rfl ?_
    refine sp_aload_n 112 rfl rfl rfl ?_
    refine hq_getR 115 rfl rfl rfl rfl ?_
    refine sp_iconst 116 rfl rfl ?_
    have n2_ := k.1
    have k := k.2
    refine hq_iald 117 rfl rfl n2_ rfl ?_
    refine sp_I (y := (I 90 (((Int32.ofInt 1)).toNatClampNeg))) (by simp [mm_u]) ?_
    refine hq_iast 118 rfl rfl n2_ rfl ?_
    refine sp_aload_n 119 rfl rfl rfl ?_
    refine sp_aload_n 120 rfl rfl rfl ?_
    refine hq_getI 123 rfl rfl rfl ?_
    refine sp_I (y := (I 65 64)) (by simp [mm_u]) ?_
    refine hq_putZ 126 rfl rfl k.1 rfl ?_
    have k := k.2
    refine sp_aload_n 127 rfl rfl rfl ?_
    refine sp_aload_n 128 rfl rfl rfl ?_
    refine hq_getI 131 rfl rfl rfl ?_
    refine sp_I (y := (I 65 63)) (by simp [mm_u]) ?_
    refine hq_putI 134 rfl rfl rfl ?_
    exact st_vret rfl rfl (Nat.le_refl _) (Nat.le_refl _) k
  · have k := k.2 q_
    refine sp_aload_n 9 rfl rfl rfl ?_
    refine hq_getR 12 rfl rfl rfl rfl ?_
    refine sp_iload_n 13 rfl rfl rfl ?_
    refine sp_aload_n 14 rfl rfl rfl ?_
    refine hq_getR 17 rfl rfl rfl rfl ?_
    refine sp_iload_n 18 rfl rfl rfl ?_
    have n3_ := k.1
    have k := k.2
    refine hq_zald 19 rfl rfl n3_ rfl ?_
    refine hq_zast 20 rfl rfl n3_ k.1 rfl ?_
    have k := k.2
    refine sp_aload_n 21 rfl rfl rfl ?_
    refine hq_getR 24 rfl rfl rfl rfl ?_
    refine sp_iload_n 25 rfl rfl rfl ?_
    refine sp_aload_n 26 rfl rfl rfl ?_
    refine hq_getR 29 rfl rfl rfl rfl ?_
    refine sp_iload_n 30 rfl rfl rfl ?_
    refine hq_iald 31 rfl rfl n3_ rfl ?_
    refine sp_I (y := (I 87 ((v1).toNatClampNeg))) (by simp [mm_u]) ?_
    refine hq_iast 32 rfl rfl n3_ rfl ?_
    refine sp_aload_n 33 rfl rfl rfl ?_
    refine hq_getR 36 rfl rfl rfl rfl ?_
    refine sp_iload_n 37 rfl rfl rfl ?_
    refine sp_aload_n 38 rfl rfl rfl ?_
    refine hq_getR 41 rfl rfl rfl rfl ?_
    refine sp_iload_n 42 rfl rfl rfl ?_
    refine hq_iald 43 rfl rfl n3_ rfl ?_
    refine sp_I (y := (I 88 ((v1).toNatClampNeg))) (by simp [mm_u]) ?_
    refine hq_iast 44 rfl rfl n3_ rfl ?_
    refine sp_aload_n 45 rfl rfl rfl ?_
    refine hq_getR 48 rfl rfl rfl rfl ?_
    refine sp_iload_n 49 rfl rfl rfl ?_
    refine sp_aload_n 50 rfl rfl rfl ?_
    refine hq_getR 53 rfl rfl rfl rfl ?_
    refine sp_iload_n 54 rfl rfl rfl ?_
    refine hq_iald 55 rfl rfl n3_ rfl ?_
    refine sp_I (y := (I 89 ((v1).toNatClampNeg))) (by simp [mm_u]) ?_
    refine hq_iast 56 rfl rfl n3_ rfl ?_
    refine hs_iinc 59 (L2 := [some (.ref 65), some (.int (v1 + Int32.ofInt 1))]) rfl rfl rfl rfl rfl ?_
    refine sp_goto rfl ?_
    exact k
def w_X11_bring_2 (SL : Nat) (xs : Nat → Int32) (d : Nat) (p s q : Nat) (Q : Option Value → mm_H → Prop) (v1 : Int32) (I : Nat → Nat → Int32) (J : Nat → Nat → Int64) : Prop := mm_w SL xs (mm_s SL xs (d + 0)) mm_am kX11_bring 0 0 none Q 2 [some (.ref 65), some (.int v1)] [] (hp p s q I J) 0 0
theorem sg_X11_bring {SL : Nat} {xs : Nat → Int32} {d : Nat} {p s q : Nat} {Q : Option Value → mm_H → Prop}  {I : Nat → Nat → Int32} {J : Nat → Nat → Int64}  (k : w_X11_bring_2 SL xs d p s q Q (Int32.ofInt 0) I J) : mm_s SL xs (d + 1) 204 [.ref 65] (hp p s q I J) Q := by
  refine e_X11_bring rfl ?_
  refine hs_L (L2 := [some (.ref 65), none]) rfl ?_
  refine sp_iconst 1 rfl rfl ?_
  refine hs_istore_n 2 (L2 := [some (.ref 65), some (.int (Int32.ofInt 0))]) rfl rfl rfl rfl ?_
  exact k
theorem sg_X11_bring_2 {SL : Nat} {xs : Nat → Int32} {d : Nat} {p s q : Nat} {Q : Option Value → mm_H → Prop} {v1 : Int32} {I : Nat → Nat → Int32} {J : Nat → Nat → Int64}  (k : (((Int32.ofInt 60) ≤ v1 → (vp_in (Int32.ofInt 0) 2 ∧ (vp_in (Int32.ofInt 1) 2 ∧ (((I 65 75) = 0 ∨ (I 65 75) = 1) ∧ Q none (hp p s q (mm_u (mm_u (mm_u (mm_u (mm_u (mm_u (mm_u (mm_u (mm_u (mm_u (mm_u I 65 59 (I 65 70)) 65 60 (I 65 71)) 65 61 (I 65 72)) 65 62 (I 65 73)) 90 (((Int32.ofInt 0)).toNatClampNeg) (I 95 (((Int32.ofInt 0)).toNatClampNeg))) 90 (((Int32.ofInt 1)).toNatClampNeg) (I 95 (((Int32.ofInt 1)).toNatClampNeg))) 65 64 (I 65 75)) 65 63 (I 65 74)) 65 78 (I 65 49)) 65 76 (Int32.ofInt 0)) 65 77 (Int32.ofInt 0)) J))))) ∧ (¬ ((Int32.ofInt 60) ≤ v1) → (vp_in v1 60 ∧ (((I 96 ((v1).toNatClampNeg)) = 0 ∨ (I 96 ((v1).toNatClampNeg)) = 1) ∧ w_X11_bring_2 SL xs d p s q Q (v1 + Int32.ofInt 1) (mm_u (mm_u (mm_u (mm_u I 91 ((v1).toNatClampNeg) (I 96 ((v1).toNatClampNeg))) 87 ((v1).toNatClampNeg) (I 92 ((v1).toNatClampNeg))) 88 ((v1).toNatClampNeg) (I 93 ((v1).toNatClampNeg))) 89 ((v1).toNatClampNeg) (I 94 ((v1).toNatClampNeg))) J))))) : w_X11_bring_2 SL xs d p s q Q v1 I J := by
  unfold w_X11_bring_2
  refine sp_iload_n 3 rfl rfl rfl ?_
  refine sp_bipush 5 rfl rfl ?_
  refine sp_I (y := Int32.ofInt 60) rfl ?_
  refine sp_ic_ge 8 rfl rfl (fun q_ => ?_) (fun q_ => ?_)
  · have k := k.1 q_
    refine sp_aload_n 63 rfl rfl rfl ?_
    refine sp_aload_n 64 rfl rfl rfl ?_
    refine hq_getI 67 rfl rfl rfl ?_
    refine hq_putI 70 rfl rfl rfl ?_
    refine sp_aload_n 71 rfl rfl rfl ?_
    refine sp_aload_n 72 rfl rfl rfl ?_
    refine hq_getI 75 rfl rfl rfl ?_
    refine sp_I (y := (I 65 71)) (by simp [mm_u]) ?_
    refine hq_putI 78 rfl rfl rfl ?_
    refine sp_aload_n 79 rfl rfl rfl ?_
    refine sp_aload_n 80 rfl rfl rfl ?_
    refine hq_getI 83 rfl rfl rfl ?_
    refine sp_I (y := (I 65 72)) (by simp [mm_u]) ?_
    refine hq_putI 86 rfl rfl rfl ?_
    refine sp_aload_n 87 rfl rfl rfl ?_
    refine sp_aload_n 88 rfl rfl rfl ?_
    refine hq_getI 91 rfl rfl rfl ?_
    refine sp_I (y := (I 65 73)) (by simp [mm_u]) ?_
    refine hq_putI 94 rfl rfl rfl ?_
    refine sp_aload_n 95 rfl rfl rfl ?_
    refine hq_getR 98 rfl rfl rfl rfl ?_
    refine sp_iconst 99 rfl rfl ?_
    refine sp_aload_n 100 rfl rfl rfl ?_
    refine hq_getR 103 rfl rfl rfl rfl ?_
    refine sp_iconst 104 rfl rfl ?_
    have n1_ := k.1
    have k := k.2
    refine hq_iald 105 rfl rfl n1_ rfl ?_
    refine sp_I (y := (I 95 (((Int32.ofInt 0)).toNatClampNeg))) (by simp [mm_u]) ?_
    refine hq_iast 106 rfl rfl n1_ rfl ?_
    refine sp_aload_n 107 rfl rfl rfl ?_
    refine hq_getR 110 rfl rfl rfl rfl ?_
    refine sp_iconst 111 rfl rfl ?_
    refine sp_aload_n 112 rfl rfl rfl ?_
    refine hq_getR 115 rfl rfl rfl rfl ?_
    refine sp_iconst 116 rfl rfl ?_
    have n2_ := k.1
    have k := k.2
    refine hq_iald 117 rfl rfl n2_ rfl ?_
    refine sp_I (y := (I 95 (((Int32.ofInt 1)).toNatClampNeg))) (by simp [mm_u]) ?_
    refine hq_iast 118 rfl rfl n2_ rfl ?_
    refine sp_aload_n 119 rfl rfl rfl ?_
    refine sp_aload_n 120 rfl rfl rfl ?_
    refine hq_getI 123 rfl rfl rfl ?_
    refine sp_I (y := (I 65 75)) (by simp [mm_u]) ?_
    refine hq_putZ 126 rfl rfl k.1 rfl ?_
    have k := k.2
    refine sp_aload_n 127 rfl rfl rfl ?_
    refine sp_aload_n 128 rfl rfl rfl ?_
    refine hq_getI 131 rfl rfl rfl ?_
    refine sp_I (y := (I 65 74)) (by simp [mm_u]) ?_
    refine hq_putI 134 rfl rfl rfl ?_
    refine sp_aload_n 135 rfl rfl rfl ?_
    refine sp_aload_n 136 rfl rfl rfl ?_
    refine hq_getI 139 rfl rfl rfl ?_
    refine sp_I (y := (I 65 49)) (by simp [mm_u]) ?_
    refine hq_putI 142 rfl rfl rfl ?_
    refine sp_aload_n 143 rfl rfl rfl ?_
    refine sp_iconst 144 rfl rfl ?_
    refine hq_putI 147 rfl rfl rfl ?_
    refine sp_aload_n 148 rfl rfl rfl ?_
    refine sp_iconst 149 rfl rfl ?_
    refine hq_putI 152 rfl rfl rfl ?_
    exact st_vret rfl rfl (Nat.le_refl _) (Nat.le_refl _) k
  · have k := k.2 q_
    refine sp_aload_n 9 rfl rfl rfl ?_
    refine hq_getR 12 rfl rfl rfl rfl ?_
    refine sp_iload_n 13 rfl rfl rfl ?_
    refine sp_aload_n 14 rfl rfl rfl ?_
    refine hq_getR 17 rfl rfl rfl rfl ?_
    refine sp_iload_n 18 rfl rfl rfl ?_
    have n3_ := k.1
    have k := k.2
    refine hq_zald 19 rfl rfl n3_ rfl ?_
    refine hq_zast 20 rfl rfl n3_ k.1 rfl ?_
    have k := k.2
    refine sp_aload_n 21 rfl rfl rfl ?_
    refine hq_getR 24 rfl rfl rfl rfl ?_
    refine sp_iload_n 25 rfl rfl rfl ?_
    refine sp_aload_n 26 rfl rfl rfl ?_
    refine hq_getR 29 rfl rfl rfl rfl ?_
    refine sp_iload_n 30 rfl rfl rfl ?_
    refine hq_iald 31 rfl rfl n3_ rfl ?_
    refine sp_I (y := (I 92 ((v1).toNatClampNeg))) (by simp [mm_u]) ?_
    refine hq_iast 32 rfl rfl n3_ rfl ?_
    refine sp_aload_n 33 rfl rfl rfl ?_
    refine hq_getR 36 rfl rfl rfl rfl ?_
    refine sp_iload_n 37 rfl rfl rfl ?_
    refine sp_aload_n 38 rfl rfl rfl ?_
    refine hq_getR 41 rfl rfl rfl rfl ?_
    refine sp_iload_n 42 rfl rfl rfl ?_
    refine hq_iald 43 rfl rfl n3_ rfl ?_
    refine sp_I (y := (I 93 ((v1).toNatClampNeg))) (by simp [mm_u]) ?_
    refine hq_iast 44 rfl rfl n3_ rfl ?_
    refine sp_aload_n 45 rfl rfl rfl ?_
    refine hq_getR 48 rfl rfl rfl rfl ?_
    refine sp_iload_n 49 rfl rfl rfl ?_
    refine sp_aload_n 50 rfl rfl rfl ?_
    refine hq_getR 53 rfl rfl rfl rfl ?_
    refine sp_iload_n 54 rfl rfl rfl ?_
    refine hq_iald 55 rfl rfl n3_ rfl ?_
    refine sp_I (y := (I 94 ((v1).toNatClampNeg))) (by simp [mm_u]) ?_
    refine hq_iast 56 rfl rfl n3_ rfl ?_
    refine hs_iinc 59 (L2 := [some (.ref 65), some (.int (v1 + Int32.ofInt 1))]) rfl rfl rfl rfl rfl ?_
    refine sp_goto rfl ?_
    exact k
theorem sg_X11_worked {SL : Nat} {xs : Nat → Int32} {d : Nat} {p s q : Nat} {Q : Option Value → mm_H → Prop} {a0 : Int32} {a1 : Int32} {a2 : Int32} {I : Nat → Nat → Int32} {J : Nat → Nat → Int64}  (k : ((a0 = Int32.ofInt 20 → ((a1 = Int32.ofInt 0 → ((a2 = Int32.ofInt 0 → Q (some (.int (Int32.ofInt 0))) (hp p s q I J)) ∧ (¬ (a2 = Int32.ofInt 0) → Q (some (.int (Int32.ofInt 1))) (hp p s q I J)))) ∧ (¬ (a1 = Int32.ofInt 0) → Q (some (.int (Int32.ofInt 1))) (hp p s q I J)))) ∧ (a0 = Int32.ofInt 21 → ((a1 = Int32.ofInt 0 → Q (some (.int (Int32.ofInt 0))) (hp p s q I J)) ∧ (¬ (a1 = Int32.ofInt 0) → ((a2 = Int32.ofInt 0 → Q (some (.int (Int32.ofInt 0))) (hp p s q I J)) ∧ (¬ (a2 = Int32.ofInt 0) → Q (some (.int (Int32.ofInt 1))) (hp p s q I J)))))) ∧ (a0 = Int32.ofInt 23 → ((a1 = a2 → Q (some (.int (Int32.ofInt 1))) (hp p s q I J)) ∧ (¬ (a1 = a2) → Q (some (.int (Int32.ofInt 0))) (hp p s q I J)))) ∧ (a0 = Int32.ofInt 24 → ((a2 ≤ a1 → Q (some (.int (Int32.ofInt 0))) (hp p s q I J)) ∧ (¬ (a2 ≤ a1) → Q (some (.int (Int32.ofInt 1))) (hp p s q I J)))) ∧ (a0 = Int32.ofInt 25 → ((a1 ≤ a2 → Q (some (.int (Int32.ofInt 0))) (hp p s q I J)) ∧ (¬ (a1 ≤ a2) → Q (some (.int (Int32.ofInt 1))) (hp p s q I J)))) ∧ (a0 = Int32.ofInt 26 → Q (some (.int (a1 + a2))) (hp p s q I J)) ∧ (a0 = Int32.ofInt 27 → Q (some (.int (a1 - a2))) (hp p s q I J)) ∧ (a0 = Int32.ofInt 28 → Q (some (.int (a1 * a2))) (hp p s q I J)) ∧ (¬ a0 = Int32.ofInt 20 → ¬ a0 = Int32.ofInt 21 → ¬ a0 = Int32.ofInt 23 → ¬ a0 = Int32.ofInt 24 → ¬ a0 = Int32.ofInt 25 → ¬ a0 = Int32.ofInt 26 → ¬ a0 = Int32.ofInt 27 → ¬ a0 = Int32.ofInt 28 → ((a2 = Int32.ofInt 0 → Q (some (.int (Int32.ofInt 0))) (hp p s q I J)) ∧ (¬ (a2 = Int32.ofInt 0) → (¬ a2 = 0 ∧ Q (some (.int (a1 / a2))) (hp p s q I J))))))) : mm_s SL xs (d + 1) 205 [.int a0, .int a1, .int a2] (hp p s q I J) Q := by
  refine e_X11_worked rfl ?_
  refine hs_L (L2 := [some (.int a0), some (.int a1), some (.int a2)]) rfl ?_
  refine sp_iload_n 1 rfl rfl rfl ?_
  by_cases q1_0 : a0 = Int32.ofInt 20
  · have k := k.1 q1_0
    refine sp_table (t := 52) rfl (by rw [q1_0]; rfl) ?_
    refine sp_iload_n 53 rfl rfl rfl ?_
    refine sp_if_ne 56 rfl rfl (fun q_ => ?_) (fun q_ => ?_)
    · have k := k.2 q_
      refine sp_iconst 61 rfl rfl ?_
      refine sp_goto rfl ?_
      exact st_iret rfl rfl (Nat.le_refl _) (Nat.le_refl _) k
    · have k := k.1 q_
      refine sp_iload_n 57 rfl rfl rfl ?_
      refine sp_if_eq 60 rfl rfl (fun q_ => ?_) (fun q_ => ?_)
      · have k := k.1 q_
        refine sp_iconst 65 rfl rfl ?_
        exact st_iret rfl rfl (Nat.le_refl _) (Nat.le_refl _) k
      · have k := k.2 q_
        refine sp_iconst 61 rfl rfl ?_
        refine sp_goto rfl ?_
        exact st_iret rfl rfl (Nat.le_refl _) (Nat.le_refl _) k
  · skip
    by_cases q1_1 : a0 = Int32.ofInt 21
    · have k := k.2.1 q1_1
      refine sp_table (t := 66) rfl (by rw [q1_1]; rfl) ?_
      refine sp_iload_n 67 rfl rfl rfl ?_
      refine sp_if_eq 70 rfl rfl (fun q_ => ?_) (fun q_ => ?_)
      · have k := k.1 q_
        refine sp_iconst 79 rfl rfl ?_
        exact st_iret rfl rfl (Nat.le_refl _) (Nat.le_refl _) k
      · have k := k.2 q_
        refine sp_iload_n 71 rfl rfl rfl ?_
        refine sp_if_eq 74 rfl rfl (fun q_ => ?_) (fun q_ => ?_)
        · have k := k.1 q_
          refine sp_iconst 79 rfl rfl ?_
          exact st_iret rfl rfl (Nat.le_refl _) (Nat.le_refl _) k
        · have k := k.2 q_
          refine sp_iconst 75 rfl rfl ?_
          refine sp_goto rfl ?_
          exact st_iret rfl rfl (Nat.le_refl _) (Nat.le_refl _) k
    · skip
      by_cases q1_2 : a0 = Int32.ofInt 23
      · have k := k.2.2.1 q1_2
        refine sp_table (t := 80) rfl (by rw [q1_2]; rfl) ?_
        refine sp_iload_n 81 rfl rfl rfl ?_
        refine sp_iload_n 82 rfl rfl rfl ?_
        refine sp_ic_ne 85 rfl rfl (fun q_ => ?_) (fun q_ => ?_)
        · have k := k.2 q_
          refine sp_iconst 90 rfl rfl ?_
          exact st_iret rfl rfl (Nat.le_refl _) (Nat.le_refl _) k
        · have k := k.1 q_
          refine sp_iconst 86 rfl rfl ?_
          refine sp_goto rfl ?_
          exact st_iret rfl rfl (Nat.le_refl _) (Nat.le_refl _) k
      · skip
        by_cases q1_3 : a0 = Int32.ofInt 24
        · have k := k.2.2.2.1 q1_3
          refine sp_table (t := 91) rfl (by rw [q1_3]; rfl) ?_
          refine sp_iload_n 92 rfl rfl rfl ?_
          refine sp_iload_n 93 rfl rfl rfl ?_
          refine sp_ic_ge 96 rfl rfl (fun q_ => ?_) (fun q_ => ?_)
          · have k := k.1 q_
            refine sp_iconst 101 rfl rfl ?_
            exact st_iret rfl rfl (Nat.le_refl _) (Nat.le_refl _) k
          · have k := k.2 q_
            refine sp_iconst 97 rfl rfl ?_
            refine sp_goto rfl ?_
            exact st_iret rfl rfl (Nat.le_refl _) (Nat.le_refl _) k
        · skip
          by_cases q1_4 : a0 = Int32.ofInt 25
          · have k := k.2.2.2.2.1 q1_4
            refine sp_table (t := 102) rfl (by rw [q1_4]; rfl) ?_
            refine sp_iload_n 103 rfl rfl rfl ?_
            refine sp_iload_n 104 rfl rfl rfl ?_
            refine sp_ic_le 107 rfl rfl (fun q_ => ?_) (fun q_ => ?_)
            · have k := k.1 q_
              refine sp_iconst 112 rfl rfl ?_
              exact st_iret rfl rfl (Nat.le_refl _) (Nat.le_refl _) k
            · have k := k.2 q_
              refine sp_iconst 108 rfl rfl ?_
              refine sp_goto rfl ?_
              exact st_iret rfl rfl (Nat.le_refl _) (Nat.le_refl _) k
          · skip
            by_cases q1_5 : a0 = Int32.ofInt 26
            · have k := k.2.2.2.2.2.1 q1_5
              refine sp_table (t := 113) rfl (by rw [q1_5]; rfl) ?_
              refine sp_iload_n 114 rfl rfl rfl ?_
              refine sp_iload_n 115 rfl rfl rfl ?_
              refine sp_iadd 116 rfl rfl ?_
              exact st_iret rfl rfl (Nat.le_refl _) (Nat.le_refl _) k
            · skip
              by_cases q1_6 : a0 = Int32.ofInt 27
              · have k := k.2.2.2.2.2.2.1 q1_6
                refine sp_table (t := 117) rfl (by rw [q1_6]; rfl) ?_
                refine sp_iload_n 118 rfl rfl rfl ?_
                refine sp_iload_n 119 rfl rfl rfl ?_
                refine sp_isub 120 rfl rfl ?_
                exact st_iret rfl rfl (Nat.le_refl _) (Nat.le_refl _) k
              · skip
                by_cases q1_7 : a0 = Int32.ofInt 28
                · have k := k.2.2.2.2.2.2.2.1 q1_7
                  refine sp_table (t := 121) rfl (by rw [q1_7]; rfl) ?_
                  refine sp_iload_n 122 rfl rfl rfl ?_
                  refine sp_iload_n 123 rfl rfl rfl ?_
                  refine sp_imul 124 rfl rfl ?_
                  exact st_iret rfl rfl (Nat.le_refl _) (Nat.le_refl _) k
                · skip
                  have k := k.2.2.2.2.2.2.2.2 q1_0 q1_1 q1_2 q1_3 q1_4 q1_5 q1_6 q1_7
                  refine sp_table (t := 125) rfl ?_ ?_
                  · unfold mm_tab
                    rcases Classical.em (a0.toInt < 20 ∨ 28 < a0.toInt) with z | z
                    · rw [if_pos z]; rfl
                    · rw [if_neg z]
                      have : a0.toInt = 22 := by
                        have := tb_ne q1_0; have := tb_ne q1_1; have := tb_ne q1_2; have := tb_ne q1_3; have := tb_ne q1_4; have := tb_ne q1_5; have := tb_ne q1_6; have := tb_ne q1_7
                        omega
                      rw [this]; rfl
                  · skip
                    refine sp_iload_n 126 rfl rfl rfl ?_
                    refine sp_if_ne 129 rfl rfl (fun q_ => ?_) (fun q_ => ?_)
                    · have k := k.2 q_
                      refine sp_iload_n 134 rfl rfl rfl ?_
                      refine sp_iload_n 135 rfl rfl rfl ?_
                      have n1_ := k.1
                      have k := k.2
                      refine sp_idiv 136 rfl n1_ rfl ?_
                      exact st_iret rfl rfl (Nat.le_refl _) (Nat.le_refl _) k
                    · have k := k.1 q_
                      refine sp_iconst 130 rfl rfl ?_
                      refine sp_goto rfl ?_
                      exact st_iret rfl rfl (Nat.le_refl _) (Nat.le_refl _) k
def w_X11_isGuarded_4 (SL : Nat) (xs : Nat → Int32) (d : Nat) (p s q : Nat) (Q : Option Value → mm_H → Prop) (v1 : Int32) (v2 : Int32) (v3 : Int32) (I : Nat → Nat → Int32) (J : Nat → Nat → Int64) : Prop := mm_w SL xs (mm_s SL xs (d + 0)) mm_am kX11_isGuarded 0 0 (some .boolean) Q 4 [some (.ref 65), some (.int v1), some (.int v2), some (.int v3)] [] (hp p s q I J) 0 0
theorem sg_X11_isGuarded {SL : Nat} {xs : Nat → Int32} {d : Nat} {p s q : Nat} {Q : Option Value → mm_H → Prop} {a0 : Int32} {I : Nat → Nat → Int32} {J : Nat → Nat → Int64}  (k : w_X11_isGuarded_4 SL xs d p s q Q a0 (Int32.ofInt 0) (Int32.ofInt 0) I J) : mm_s SL xs (d + 1) 207 [.ref 65, .int a0] (hp p s q I J) Q := by
  refine e_X11_isGuarded rfl ?_
  refine hs_L (L2 := [some (.ref 65), some (.int a0), none, none]) rfl ?_
  refine sp_iconst 1 rfl rfl ?_
  refine hs_istore_n 2 (L2 := [some (.ref 65), some (.int a0), some (.int (Int32.ofInt 0)), none]) rfl rfl rfl rfl ?_
  refine sp_iconst 3 rfl rfl ?_
  refine hs_istore_n 4 (L2 := [some (.ref 65), some (.int a0), some (.int (Int32.ofInt 0)), some (.int (Int32.ofInt 0))]) rfl rfl rfl rfl ?_
  exact k
theorem sg_X11_isGuarded_4 {SL : Nat} {xs : Nat → Int32} {d : Nat} {p s q : Nat} {Q : Option Value → mm_H → Prop} {v1 : Int32} {v2 : Int32} {v3 : Int32} {I : Nat → Nat → Int32} {J : Nat → Nat → Int64}  (k : (((I 65 42) ≤ v3 → ((v2 = 0 ∨ v2 = 1) ∧ Q (some (.int v2)) (hp p s q I J))) ∧ (¬ ((I 65 42) ≤ v3) → ((v2 = Int32.ofInt 0 → (vp_in v3 8 ∧ ((v1 < (I 80 ((v3).toNatClampNeg)) → w_X11_isGuarded_4 SL xs d p s q Q v1 (Int32.ofInt 0) (v3 + Int32.ofInt 1) I J) ∧ (¬ (v1 < (I 80 ((v3).toNatClampNeg))) → (((I 81 ((v3).toNatClampNeg)) < v1 → w_X11_isGuarded_4 SL xs d p s q Q v1 (Int32.ofInt 0) (v3 + Int32.ofInt 1) I J) ∧ (¬ ((I 81 ((v3).toNatClampNeg)) < v1) → w_X11_isGuarded_4 SL xs d p s q Q v1 (Int32.ofInt 1) (v3 + Int32.ofInt 1) I J)))))) ∧ (¬ (v2 = Int32.ofInt 0) → w_X11_isGuarded_4 SL xs d p s q Q v1 (Int32.ofInt 1) (v3 + Int32.ofInt 1) I J))))) : w_X11_isGuarded_4 SL xs d p s q Q v1 v2 v3 I J := by
  unfold w_X11_isGuarded_4
  refine sp_iload_n 5 rfl rfl rfl ?_
  refine sp_aload_n 6 rfl rfl rfl ?_
  refine hq_getI 9 rfl rfl rfl ?_
  refine sp_ic_ge 12 rfl rfl (fun q_ => ?_) (fun q_ => ?_)
  · have k := k.1 q_
    refine sp_iload_n 49 rfl rfl rfl ?_
    exact st_zret rfl rfl k.1 (Nat.le_refl _) (Nat.le_refl _) k.2
  · have k := k.2 q_
    refine sp_iload_n 13 rfl rfl rfl ?_
    refine sp_if_ne 16 rfl rfl (fun q_ => ?_) (fun q_ => ?_)
    · have k := k.2 q_
      refine sp_iconst 37 rfl rfl ?_
      refine sp_goto rfl ?_
      refine hs_istore_n 42 (L2 := [some (.ref 65), some (.int v1), some (.int (Int32.ofInt 1)), some (.int v3)]) rfl rfl rfl rfl ?_
      refine hs_iinc 45 (L2 := [some (.ref 65), some (.int v1), some (.int (Int32.ofInt 1)), some (.int (v3 + Int32.ofInt 1))]) rfl rfl rfl rfl rfl ?_
      refine sp_goto rfl ?_
      exact k
    · have k := k.1 q_
      refine sp_iload_n 17 rfl rfl rfl ?_
      refine sp_aload_n 18 rfl rfl rfl ?_
      refine hq_getR 21 rfl rfl rfl rfl ?_
      refine sp_iload_n 22 rfl rfl rfl ?_
      have n1_ := k.1
      have k := k.2
      refine hq_iald 23 rfl rfl n1_ rfl ?_
      refine sp_ic_lt 26 rfl rfl (fun q_ => ?_) (fun q_ => ?_)
      · have k := k.1 q_
        refine sp_iconst 41 rfl rfl ?_
        refine hs_istore_n 42 (L2 := [some (.ref 65), some (.int v1), some (.int (Int32.ofInt 0)), some (.int v3)]) rfl rfl rfl rfl ?_
        refine hs_iinc 45 (L2 := [some (.ref 65), some (.int v1), some (.int (Int32.ofInt 0)), some (.int (v3 + Int32.ofInt 1))]) rfl rfl rfl rfl rfl ?_
        refine sp_goto rfl ?_
        exact k
      · have k := k.2 q_
        refine sp_iload_n 27 rfl rfl rfl ?_
        refine sp_aload_n 28 rfl rfl rfl ?_
        refine hq_getR 31 rfl rfl rfl rfl ?_
        refine sp_iload_n 32 rfl rfl rfl ?_
        refine hq_iald 33 rfl rfl n1_ rfl ?_
        refine sp_ic_gt 36 rfl rfl (fun q_ => ?_) (fun q_ => ?_)
        · have k := k.1 q_
          refine sp_iconst 41 rfl rfl ?_
          refine hs_istore_n 42 (L2 := [some (.ref 65), some (.int v1), some (.int (Int32.ofInt 0)), some (.int v3)]) rfl rfl rfl rfl ?_
          refine hs_iinc 45 (L2 := [some (.ref 65), some (.int v1), some (.int (Int32.ofInt 0)), some (.int (v3 + Int32.ofInt 1))]) rfl rfl rfl rfl rfl ?_
          refine sp_goto rfl ?_
          exact k
        · have k := k.2 q_
          refine sp_iconst 37 rfl rfl ?_
          refine sp_goto rfl ?_
          refine hs_istore_n 42 (L2 := [some (.ref 65), some (.int v1), some (.int (Int32.ofInt 1)), some (.int v3)]) rfl rfl rfl rfl ?_
          refine hs_iinc 45 (L2 := [some (.ref 65), some (.int v1), some (.int (Int32.ofInt 1)), some (.int (v3 + Int32.ofInt 1))]) rfl rfl rfl rfl rfl ?_
          refine sp_goto rfl ?_
          exact k
theorem sg_X11_leaves {SL : Nat} {xs : Nat → Int32} {d : Nat} {p s q : Nat} {Q : Option Value → mm_H → Prop} {a0 : Int32} {a1 : Int32} {I : Nat → Nat → Int32} {J : Nat → Nat → Int64}  (k : (vp_in a0 60 ∧ (vp_in (I 65 61) 60 ∧ Q none (hp p s q (mm_u (mm_u (mm_u (mm_u (mm_u I 91 ((a0).toNatClampNeg) (Int32.ofInt 0)) 65 59 ((I 65 59) - (Int32.ofInt 1))) 88 ((a0).toNatClampNeg) a1) 89 (((I 65 61)).toNatClampNeg) a0) 65 61 ((I 65 61) + (Int32.ofInt 1))) J)))) : mm_s SL xs (d + 1) 210 [.ref 65, .int a0, .int a1] (hp p s q I J) Q := by
  refine e_X11_leaves rfl ?_
  refine hs_L (L2 := [some (.ref 65), some (.int a0), some (.int a1)]) rfl ?_
  refine sp_aload_n 1 rfl rfl rfl ?_
  refine hq_getR 4 rfl rfl rfl rfl ?_
  refine sp_iload_n 5 rfl rfl rfl ?_
  refine sp_iconst 6 rfl rfl ?_
  have n1_ := k.1
  have k := k.2
  refine hq_zast 7 rfl rfl n1_ (by decide) rfl ?_
  refine sp_aload_n 8 rfl rfl rfl ?_
  refine sp_dup 9 rfl rfl rfl ?_
  refine hq_getI 12 rfl rfl rfl ?_
  refine sp_I (y := (I 65 59)) (by simp [mm_u]) ?_
  refine sp_iconst 13 rfl rfl ?_
  refine sp_isub 14 rfl rfl ?_
  refine hq_putI 17 rfl rfl rfl ?_
  refine sp_aload_n 18 rfl rfl rfl ?_
  refine hq_getR 21 rfl rfl rfl rfl ?_
  refine sp_iload_n 22 rfl rfl rfl ?_
  refine sp_iload_n 23 rfl rfl rfl ?_
  refine hq_iast 24 rfl rfl n1_ rfl ?_
  refine sp_aload_n 25 rfl rfl rfl ?_
  refine hq_getR 28 rfl rfl rfl rfl ?_
  refine sp_aload_n 29 rfl rfl rfl ?_
  refine hq_getI 32 rfl rfl rfl ?_
  refine sp_I (y := (I 65 61)) (by simp [mm_u]) ?_
  refine sp_iload_n 33 rfl rfl rfl ?_
  have n2_ := k.1
  have k := k.2
  refine hq_iast 34 rfl rfl n2_ rfl ?_
  refine sp_aload_n 35 rfl rfl rfl ?_
  refine sp_dup 36 rfl rfl rfl ?_
  refine hq_getI 39 rfl rfl rfl ?_
  refine sp_I (y := (I 65 61)) (by simp [mm_u]) ?_
  refine sp_iconst 40 rfl rfl ?_
  refine sp_iadd 41 rfl rfl ?_
  refine hq_putI 44 rfl rfl rfl ?_
  exact st_vret rfl rfl (Nat.le_refl _) (Nat.le_refl _) k
def w_X11_standSet_4 (SL : Nat) (xs : Nat → Int32) (d : Nat) (p s q : Nat) (Q : Option Value → mm_H → Prop) (v1 : Int64) (v3 : Int32) (I : Nat → Nat → Int32) (J : Nat → Nat → Int64) : Prop := mm_w SL xs (mm_s SL xs (d + 0)) mm_am kX11_standSet 0 0 (some .long) Q 4 [some (.ref 65), some (.long v1), none, some (.int v3)] [] (hp p s q I J) 0 0
theorem sg_X11_standSet {SL : Nat} {xs : Nat → Int32} {d : Nat} {p s q : Nat} {Q : Option Value → mm_H → Prop}  {I : Nat → Nat → Int32} {J : Nat → Nat → Int64}  (k : w_X11_standSet_4 SL xs d p s q Q (Int64.ofInt 0) (Int32.ofInt 0) I J) : mm_s SL xs (d + 1) 212 [.ref 65] (hp p s q I J) Q := by
  refine e_X11_standSet rfl ?_
  refine hs_L (L2 := [some (.ref 65), none, none, none]) rfl ?_
  refine sp_lconst 1 rfl rfl ?_
  refine sp_J (y := Int64.ofInt 0) rfl ?_
  refine hs_lstore_n 2 (L2 := [some (.ref 65), some (.long (Int64.ofInt 0)), none, none]) rfl rfl rfl rfl ?_
  refine sp_iconst 3 rfl rfl ?_
  refine hs_istore_n 4 (L2 := [some (.ref 65), some (.long (Int64.ofInt 0)), none, some (.int (Int32.ofInt 0))]) rfl rfl rfl rfl ?_
  exact k
theorem sg_X11_standSet_4 {SL : Nat} {xs : Nat → Int32} {d : Nat} {p s q : Nat} {Q : Option Value → mm_H → Prop} {v1 : Int64} {v3 : Int32} {I : Nat → Nat → Int32} {J : Nat → Nat → Int64}  (k : (((I 65 47) ≤ v3 → Q (some (.long v1)) (hp p s q I J)) ∧ (¬ ((I 65 47) ≤ v3) → (vp_in v3 60 ∧ (((I 91 ((v3).toNatClampNeg)) = Int32.ofInt 0 → w_X11_standSet_4 SL xs d p s q Q (v1 ||| (Int64.ofInt 0)) (v3 + Int32.ofInt 1) I J) ∧ (¬ ((I 91 ((v3).toNatClampNeg)) = Int32.ofInt 0) → w_X11_standSet_4 SL xs d p s q Q (v1 ||| ((Int64.ofInt 1) <<< ((v3).toInt64 &&& 63))) (v3 + Int32.ofInt 1) I J)))))) : w_X11_standSet_4 SL xs d p s q Q v1 v3 I J := by
  unfold w_X11_standSet_4
  refine sp_iload_n 5 rfl rfl rfl ?_
  refine sp_aload_n 6 rfl rfl rfl ?_
  refine hq_getI 9 rfl rfl rfl ?_
  refine sp_ic_ge 12 rfl rfl (fun q_ => ?_) (fun q_ => ?_)
  · have k := k.1 q_
    refine sp_lload_n 38 rfl rfl rfl ?_
    exact st_lret rfl rfl (Nat.le_refl _) (Nat.le_refl _) k
  · have k := k.2 q_
    refine sp_lload_n 13 rfl rfl rfl ?_
    refine sp_aload_n 14 rfl rfl rfl ?_
    refine hq_getR 17 rfl rfl rfl rfl ?_
    refine sp_iload_n 18 rfl rfl rfl ?_
    have n1_ := k.1
    have k := k.2
    refine hq_zald 19 rfl rfl n1_ rfl ?_
    refine sp_if_eq 22 rfl rfl (fun q_ => ?_) (fun q_ => ?_)
    · have k := k.1 q_
      refine sp_lconst 29 rfl rfl ?_
      refine sp_J (y := Int64.ofInt 0) rfl ?_
      refine sp_lor 30 rfl rfl ?_
      refine hs_lstore_n 31 (L2 := [some (.ref 65), some (.long (v1 ||| (Int64.ofInt 0))), none, some (.int v3)]) rfl rfl rfl rfl ?_
      refine hs_iinc 34 (L2 := [some (.ref 65), some (.long (v1 ||| (Int64.ofInt 0))), none, some (.int (v3 + Int32.ofInt 1))]) rfl rfl rfl rfl rfl ?_
      refine sp_goto rfl ?_
      exact k
    · have k := k.2 q_
      refine sp_lconst 23 rfl rfl ?_
      refine sp_J (y := Int64.ofInt 1) rfl ?_
      refine sp_iload_n 24 rfl rfl rfl ?_
      refine sp_lshl 25 rfl rfl ?_
      refine sp_goto rfl ?_
      refine sp_lor 30 rfl rfl ?_
      refine hs_lstore_n 31 (L2 := [some (.ref 65), some (.long (v1 ||| ((Int64.ofInt 1) <<< ((v3).toInt64 &&& 63)))), none, some (.int v3)]) rfl rfl rfl rfl ?_
      refine hs_iinc 34 (L2 := [some (.ref 65), some (.long (v1 ||| ((Int64.ofInt 1) <<< ((v3).toInt64 &&& 63)))), none, some (.int (v3 + Int32.ofInt 1))]) rfl rfl rfl rfl rfl ?_
      refine sp_goto rfl ?_
      exact k
theorem sg_X11_went {SL : Nat} {xs : Nat → Int32} {d : Nat} {p s q : Nat} {Q : Option Value → mm_H → Prop} {a0 : Int32} {I : Nat → Nat → Int32} {J : Nat → Nat → Int64}  (k : ((a0 < Int32.ofInt 0 → Q (some (.int (Int32.ofInt (-1)))) (hp p s q I J)) ∧ (¬ (a0 < Int32.ofInt 0) → (((I 65 61) ≤ a0 → Q (some (.int (Int32.ofInt (-1)))) (hp p s q I J)) ∧ (¬ ((I 65 61) ≤ a0) → (vp_in a0 60 ∧ Q (some (.int (I 89 ((a0).toNatClampNeg)))) (hp p s q I J))))))) : mm_s SL xs (d + 1) 215 [.ref 65, .int a0] (hp p s q I J) Q := by
  refine e_X11_went rfl ?_
  refine hs_L (L2 := [some (.ref 65), some (.int a0)]) rfl ?_
  refine sp_iload_n 1 rfl rfl rfl ?_
  refine sp_if_lt 4 rfl rfl (fun q_ => ?_) (fun q_ => ?_)
  · have k := k.1 q_
    refine sp_iconst 22 rfl rfl ?_
    exact st_iret rfl rfl (Nat.le_refl _) (Nat.le_refl _) k
  · have k := k.2 q_
    refine sp_iload_n 5 rfl rfl rfl ?_
    refine sp_aload_n 6 rfl rfl rfl ?_
    refine hq_getI 9 rfl rfl rfl ?_
    refine sp_ic_ge 12 rfl rfl (fun q_ => ?_) (fun q_ => ?_)
    · have k := k.1 q_
      refine sp_iconst 22 rfl rfl ?_
      exact st_iret rfl rfl (Nat.le_refl _) (Nat.le_refl _) k
    · have k := k.2 q_
      refine sp_aload_n 13 rfl rfl rfl ?_
      refine hq_getR 16 rfl rfl rfl rfl ?_
      refine sp_iload_n 17 rfl rfl rfl ?_
      have n1_ := k.1
      have k := k.2
      refine hq_iald 18 rfl rfl n1_ rfl ?_
      refine sp_goto rfl ?_
      exact st_iret rfl rfl (Nat.le_refl _) (Nat.le_refl _) k
theorem sg_X11_areNear {SL : Nat} {xs : Nat → Int32} {d : Nat} {p s q : Nat} {Q : Option Value → mm_H → Prop}  {I : Nat → Nat → Int32} {J : Nat → Nat → Int64}  (k : (vp_in (Int32.ofInt 0) 2 ∧ (((I 90 (((Int32.ofInt 0)).toNatClampNeg)) < Int32.ofInt 0 → Q (some (.int (Int32.ofInt 0))) (hp p s q I J)) ∧ (¬ ((I 90 (((Int32.ofInt 0)).toNatClampNeg)) < Int32.ofInt 0) → (vp_in (Int32.ofInt 1) 2 ∧ ((Int32.ofInt 0 ≤ (I 90 (((Int32.ofInt 1)).toNatClampNeg)) → (((I 90 (((Int32.ofInt 0)).toNatClampNeg)) ≤ (I 90 (((Int32.ofInt 1)).toNatClampNeg)) → ((((I 90 (((Int32.ofInt 1)).toNatClampNeg)) - (I 90 (((Int32.ofInt 0)).toNatClampNeg))) ≤ (Int32.ofInt 1) → Q (some (.int (Int32.ofInt 1))) (hp p s q I J)) ∧ (¬ (((I 90 (((Int32.ofInt 1)).toNatClampNeg)) - (I 90 (((Int32.ofInt 0)).toNatClampNeg))) ≤ (Int32.ofInt 1)) → ((((I 90 (((Int32.ofInt 1)).toNatClampNeg)) - (I 90 (((Int32.ofInt 0)).toNatClampNeg))) = ((I 65 47) - (Int32.ofInt 1)) → Q (some (.int (Int32.ofInt 1))) (hp p s q I J)) ∧ (¬ (((I 90 (((Int32.ofInt 1)).toNatClampNeg)) - (I 90 (((Int32.ofInt 0)).toNatClampNeg))) = ((I 65 47) - (Int32.ofInt 1))) → Q (some (.int (Int32.ofInt 0))) (hp p s q I J)))))) ∧ (¬ ((I 90 (((Int32.ofInt 0)).toNatClampNeg)) ≤ (I 90 (((Int32.ofInt 1)).toNatClampNeg))) → ((((I 90 (((Int32.ofInt 0)).toNatClampNeg)) - (I 90 (((Int32.ofInt 1)).toNatClampNeg))) ≤ (Int32.ofInt 1) → Q (some (.int (Int32.ofInt 1))) (hp p s q I J)) ∧ (¬ (((I 90 (((Int32.ofInt 0)).toNatClampNeg)) - (I 90 (((Int32.ofInt 1)).toNatClampNeg))) ≤ (Int32.ofInt 1)) → ((((I 90 (((Int32.ofInt 0)).toNatClampNeg)) - (I 90 (((Int32.ofInt 1)).toNatClampNeg))) = ((I 65 47) - (Int32.ofInt 1)) → Q (some (.int (Int32.ofInt 1))) (hp p s q I J)) ∧ (¬ (((I 90 (((Int32.ofInt 0)).toNatClampNeg)) - (I 90 (((Int32.ofInt 1)).toNatClampNeg))) = ((I 65 47) - (Int32.ofInt 1))) → Q (some (.int (Int32.ofInt 0))) (hp p s q I J)))))))) ∧ (¬ (Int32.ofInt 0 ≤ (I 90 (((Int32.ofInt 1)).toNatClampNeg))) → Q (some (.int (Int32.ofInt 0))) (hp p s q I J)))))))) : mm_s SL xs (d + 1) 225 [.ref 65] (hp p s q I J) Q := by
  refine e_X11_areNear rfl ?_
  refine hs_L (L2 := [some (.ref 65), none]) rfl ?_
  refine sp_aload_n 1 rfl rfl rfl ?_
  refine hq_getR 4 rfl rfl rfl rfl ?_
  refine sp_iconst 5 rfl rfl ?_
  have n1_ := k.1
  have k := k.2
  refine hq_iald 6 rfl rfl n1_ rfl ?_
  refine sp_if_lt 9 rfl rfl (fun q_ => ?_) (fun q_ => ?_)
  · have k := k.1 q_
    refine sp_iconst 19 rfl rfl ?_
    exact st_zret rfl rfl (by decide) (Nat.le_refl _) (Nat.le_refl _) k
  · have k := k.2 q_
    refine sp_aload_n 10 rfl rfl rfl ?_
    refine hq_getR 13 rfl rfl rfl rfl ?_
    refine sp_iconst 14 rfl rfl ?_
    have n2_ := k.1
    have k := k.2
    refine hq_iald 15 rfl rfl n2_ rfl ?_
    refine sp_if_ge 18 rfl rfl (fun q_ => ?_) (fun q_ => ?_)
    · have k := k.1 q_
      refine sp_aload_n 21 rfl rfl rfl ?_
      refine hq_getR 24 rfl rfl rfl rfl ?_
      refine sp_iconst 25 rfl rfl ?_
      refine hq_iald 26 rfl rfl n1_ rfl ?_
      refine sp_aload_n 27 rfl rfl rfl ?_
      refine hq_getR 30 rfl rfl rfl rfl ?_
      refine sp_iconst 31 rfl rfl ?_
      refine hq_iald 32 rfl rfl n2_ rfl ?_
      refine sp_ic_le 35 rfl rfl (fun q_ => ?_) (fun q_ => ?_)
      · have k := k.1 q_
        refine sp_aload_n 52 rfl rfl rfl ?_
        refine hq_getR 55 rfl rfl rfl rfl ?_
        refine sp_iconst 56 rfl rfl ?_
        refine hq_iald 57 rfl rfl n2_ rfl ?_
        refine sp_aload_n 58 rfl rfl rfl ?_
        refine hq_getR 61 rfl rfl rfl rfl ?_
        refine sp_iconst 62 rfl rfl ?_
        refine hq_iald 63 rfl rfl n1_ rfl ?_
        refine sp_isub 64 rfl rfl ?_
        refine hs_istore_n 65 (L2 := [some (.ref 65), some (.int ((I 90 (((Int32.ofInt 1)).toNatClampNeg)) - (I 90 (((Int32.ofInt 0)).toNatClampNeg))))]) rfl rfl rfl rfl ?_
        refine sp_iload_n 66 rfl rfl rfl ?_
        refine sp_iconst 67 rfl rfl ?_
        refine sp_ic_le 70 rfl rfl (fun q_ => ?_) (fun q_ => ?_)
        · have k := k.1 q_
          refine sp_iconst 81 rfl rfl ?_
          refine sp_goto rfl ?_
          exact st_zret rfl rfl (by decide) (Nat.le_refl _) (Nat.le_refl _) k
        · have k := k.2 q_
          refine sp_iload_n 71 rfl rfl rfl ?_
          refine sp_aload_n 72 rfl rfl rfl ?_
          refine hq_getI 75 rfl rfl rfl ?_
          refine sp_iconst 76 rfl rfl ?_
          refine sp_isub 77 rfl rfl ?_
          refine sp_ic_ne 80 rfl rfl (fun q_ => ?_) (fun q_ => ?_)
          · have k := k.2 q_
            refine sp_iconst 85 rfl rfl ?_
            exact st_zret rfl rfl (by decide) (Nat.le_refl _) (Nat.le_refl _) k
          · have k := k.1 q_
            refine sp_iconst 81 rfl rfl ?_
            refine sp_goto rfl ?_
            exact st_zret rfl rfl (by decide) (Nat.le_refl _) (Nat.le_refl _) k
      · have k := k.2 q_
        refine sp_aload_n 36 rfl rfl rfl ?_
        refine hq_getR 39 rfl rfl rfl rfl ?_
        refine sp_iconst 40 rfl rfl ?_
        refine hq_iald 41 rfl rfl n1_ rfl ?_
        refine sp_aload_n 42 rfl rfl rfl ?_
        refine hq_getR 45 rfl rfl rfl rfl ?_
        refine sp_iconst 46 rfl rfl ?_
        refine hq_iald 47 rfl rfl n2_ rfl ?_
        refine sp_isub 48 rfl rfl ?_
        refine sp_goto rfl ?_
        refine hs_istore_n 65 (L2 := [some (.ref 65), some (.int ((I 90 (((Int32.ofInt 0)).toNatClampNeg)) - (I 90 (((Int32.ofInt 1)).toNatClampNeg))))]) rfl rfl rfl rfl ?_
        refine sp_iload_n 66 rfl rfl rfl ?_
        refine sp_iconst 67 rfl rfl ?_
        refine sp_ic_le 70 rfl rfl (fun q_ => ?_) (fun q_ => ?_)
        · have k := k.1 q_
          refine sp_iconst 81 rfl rfl ?_
          refine sp_goto rfl ?_
          exact st_zret rfl rfl (by decide) (Nat.le_refl _) (Nat.le_refl _) k
        · have k := k.2 q_
          refine sp_iload_n 71 rfl rfl rfl ?_
          refine sp_aload_n 72 rfl rfl rfl ?_
          refine hq_getI 75 rfl rfl rfl ?_
          refine sp_iconst 76 rfl rfl ?_
          refine sp_isub 77 rfl rfl ?_
          refine sp_ic_ne 80 rfl rfl (fun q_ => ?_) (fun q_ => ?_)
          · have k := k.2 q_
            refine sp_iconst 85 rfl rfl ?_
            exact st_zret rfl rfl (by decide) (Nat.le_refl _) (Nat.le_refl _) k
          · have k := k.1 q_
            refine sp_iconst 81 rfl rfl ?_
            refine sp_goto rfl ?_
            exact st_zret rfl rfl (by decide) (Nat.le_refl _) (Nat.le_refl _) k
    · have k := k.2 q_
      refine sp_iconst 19 rfl rfl ?_
      exact st_zret rfl rfl (by decide) (Nat.le_refl _) (Nat.le_refl _) k
